/-! the reference's words of its own verbs -/
variable {T N : Nat} {kd vl rv : Nat → Int} {pl : Nat → Nat}
/-- how long a word is as the reference has it; -1 if it can't be understood -/
def lowB (c : Int) : Bool := decide (97 ≤ c ∧ c ≤ 122)
theorem lowB_iff {c : Int} : lowB c = true ↔ 97 ≤ c ∧ c ≤ 122 := by unfold lowB; exact decide_eq_true_iff
def wmn (w : List Int) : Nat := if w.length < 9 then w.length else 9
def wsz (w : List Int) : Int := if ∀ k, k < wmn w → lowB (w.getD k 0) = true then (wmn w : Int) else -1
/-- word r of a table has these letters -/
def RW (by_ sz : Nat) (ρ : MS) (r : Nat) (w : List Int) : Prop := ρ.2 sz r = J (wsz w) ∧ ∀ k, k < wmn w → ρ.2 by_ (9 * r + k) = J (w.getD k 0)
def Owd (b1 : List Int32) (p0 x_9 : Int32) : ((Int32 × MS) → MR) → Int32 × MS → MR := (fun (again_12 : (Int32 × MS) → MR) (s_11 : Int32 × MS) => ( bnd ((Int32.ofNat (b1).length)) fun (x_15 : Int32) => bnd (fun  (σ_17 : MS) => ( bnd ((Int32.ofNat (b1).length)) fun (x_21 : Int32) => bnd ((if x_21 < 9 then x_21 else 9)) fun (x_23 : Int32) => if x_9 < 0 ∨ 610 ≤ x_9.toNatClampNeg then none else bnd (mA σ_17 58 (upd (σ_17.2 58) x_9.toNatClampNeg x_23)) fun σ_27 => some (p0, σ_27) ) : MS → MR) fun j_18 => if x_15 ≤ s_11.1 then ( j_18  s_11.2 ) else ( if 9 ≤ s_11.1 then ( j_18  s_11.2 ) else ( if s_11.1 < 0 ∨ Int32.ofNat (b1).length ≤ s_11.1 then none else bnd ((g_chr ((b1).getD s_11.1.toNatClampNeg 0))) fun (x_37 : Int32) => bnd (x_37.toInt8.toInt32) fun (x_39 : Int32) => if ((9 * x_9) + s_11.1) < 0 ∨ 5490 ≤ ((9 * x_9) + s_11.1).toNatClampNeg then none else bnd (mA s_11.2 57 (upd (s_11.2.2 57) ((9 * x_9) + s_11.1).toNatClampNeg (vp_nar .byte x_39))) fun σ_43 => bnd (s_11.1 + 1) fun (x_45 : Int32) => again_12 (x_45, σ_43) ) ) ))
theorem ownWord_eq (p0 : Int32) (b1 : List Int32) (σ : MS) : F_X12_ownWord p0 b1 σ = if p0 < 0 ∨ 61 ≤ p0.toNatClampNeg then none else bnd (((σ.2 59 p0.toNatClampNeg) + 1)) fun (x_3 : Int32) => if p0 < 0 ∨ 61 ≤ p0.toNatClampNeg then none else bnd (mA σ 59 (upd (σ.2 59) p0.toNatClampNeg x_3)) fun σ_7 => bnd (((10 * p0) + (σ.2 59 p0.toNatClampNeg))) fun (x_9 : Int32) => loopF (Owd b1 p0 x_9) FU (0, σ_7) := rfl
/-- a word of v more -/
def OWV (v n : Nat) (w : List Int) (σ τ : MS) : Prop := τ.1 = σ.1 ∧ (∀ k, k ≠ 57 → k ≠ 58 → k ≠ 59 → τ.2 k = σ.2 k) ∧ τ.2 59 = upd (σ.2 59) v (J (n + 1 : Nat)) ∧ RW 57 58 τ (10 * v + n) w ∧ (∀ x, x ≠ 10 * v + n → τ.2 58 x = σ.2 58 x) ∧ ∀ y, ¬ (9 * (10 * v + n) ≤ y ∧ y < 9 * (10 * v + n) + 9) → τ.2 57 y = σ.2 57 y
theorem r_ownWord {σ : MS} {v n : Nat} {S : List Int32} {w : List Int} (hv : v ≤ 60) (hn : n < 10) (h59 : σ.2 59 v = J (n : Nat)) (hl : S.length = w.length) (hw9 : w.length ≤ 9) (hS : ∀ k, k < w.length → g_chr (S.getD k 0) = J (w.getD k 0) ∧ 97 ≤ w.getD k 0 ∧ w.getD k 0 ≤ 122) : ∃ τ, F_X12_ownWord (J (v : Nat)) S σ = some (J (v : Nat), τ) ∧ OWV v n w σ τ := by
  have hm : wmn w = w.length := by unfold wmn; split <;> omega
  have g61 := gNn (k := v) (n := 61) (by omega) (by omega)
  have e9 : 10 * J (v : Nat) + J (n : Nat) = J (10 * v + n : Nat) := by rw [show (10 : Int32) = J 10 from rfl, J_mul, J_add]; congr 1
  rw [ownWord_eq, if_neg g61, bndE, if_neg g61, bndE, J_natN (by omega), h59, J_suc, bndE, e9]
  generalize hσ1 : mA σ 59 (upd (σ.2 59) v (J (n + 1 : Nat))) = σ1
  obtain ⟨τ, e, h1, h2, h3⟩ := cnt_loop (F := Owd S (J (v : Nat)) (J (10 * v + n : Nat))) (n := w.length) (nx := fun τ => some (J (v : Nat), mA τ 58 (upd (τ.2 58) (10 * v + n) (J (w.length : Nat))))) (P := fun k τ => frA (fun k => k = 57) σ1 τ ∧ (∀ x, x < k → τ.2 57 (9 * (10 * v + n) + x) = J (w.getD x 0)) ∧ ∀ y, ¬ (9 * (10 * v + n) ≤ y ∧ y < 9 * (10 * v + n) + 9) → τ.2 57 y = σ1.2 57 y) (by omega) (fun again τ _ => by
    unfold Owd
    simp only [bndE]
    rw [show Int32.ofNat S.length = J (w.length : Nat) by rw [hl]; rfl, if_pos (Int32.le_refl _), if_neg (gNn (k := 10 * v + n) (n := 610) (by omega) (by omega)), J_natN (by omega)]
    have : (if J (w.length : Nat) < 9 then J (w.length : Nat) else (9 : Int32)) = J (w.length : Nat) := by
      by_cases q : w.length < 9
      · rw [if_pos (by rw [show (9 : Int32) = J 9 from rfl, J_lt (by omega) (by omega) (by omega) (by omega)]; omega)]
      · rw [if_neg (by rw [show (9 : Int32) = J 9 from rfl, J_lt (by omega) (by omega) (by omega) (by omega)]; omega), show w.length = 9 by omega]; rfl
    rw [this]) (fun again k τ hk ⟨h1, h2, h3⟩ => by
    obtain ⟨s1, s2, s3⟩ := hS k hk
    unfold Owd
    simp only [bndE]
    rw [show Int32.ofNat S.length = J (w.length : Nat) by rw [hl]; rfl]
    have e10 : 9 * J (10 * v + n : Nat) + J (k : Nat) = J (9 * (10 * v + n) + k : Nat) := by rw [show (9 : Int32) = J 9 from rfl, J_mul, J_add]; congr 1
    refine ⟨mA τ 57 (upd (τ.2 57) (9 * (10 * v + n) + k) (J (w.getD k 0))), ?_, frA_mA h1 rfl, fun x hx => ?_, fun y hy => ?_⟩
    · rw [if_neg (Jle_no hk (by omega)), if_neg (show ¬ (9 : Int32) ≤ J (k : Nat) from Jle_no (n := 9) (by omega) (by omega)), if_neg (show ¬ (J (k : Nat) < 0 ∨ J (w.length : Nat) ≤ J (k : Nat)) by rintro (c | c); exact J_nlt0 (by omega) (by omega) c; exact Jle_no hk (by omega) c), e10, if_neg (gNn (k := 9 * (10 * v + n) + k) (n := 5490) (by omega) (by omega)), J_natN (by omega), J_natN (by omega), s1, J_suc, J_i8 (by omega) (by omega), J_byte (by omega) (by omega)]
    · rw [mA_2, if_pos rfl, upd_s]
      by_cases q : x = k
      · rw [if_pos (by omega), q]
      · rw [if_neg (by omega)]; exact h2 x (by omega)
    · rw [mA_2, if_pos rfl, upd_s, if_neg (by omega)]; exact h3 y hy) (τ := σ1) ⟨frA_rfl, fun x hx => by omega, fun _ _ => rfl⟩
  refine ⟨_, e, ?_, fun k k1 k2 k3 => ?_, ?_, ⟨?_, fun k hk => ?_⟩, fun x hx => ?_, fun y hy => ?_⟩
  · show τ.1 = σ.1; rw [h1.1, ← hσ1]; rfl
  · rw [mA_2, if_neg k2, h1.2 k k1, ← hσ1, mA_2, if_neg k3]
  · rw [mA_2, if_neg (by omega), h1.2 59 (by omega), ← hσ1, mA_2, if_pos rfl]
  · rw [mA_2, if_pos rfl, upd_s, if_pos rfl]
    unfold wsz
    rw [if_pos (fun k hk => lowB_iff.mpr (hS k (by omega)).2), hm]
  · rw [mA_2, if_neg (by omega)]; exact h2 k (by omega)
  · rw [mA_2, if_pos rfl, upd_s, if_neg hx, h1.2 58 (by omega), ← hσ1, mA_2, if_neg (by omega)]
  · rw [mA_2, if_neg (by omega), h3 y hy, ← hσ1, mA_2, if_neg (by omega)]
