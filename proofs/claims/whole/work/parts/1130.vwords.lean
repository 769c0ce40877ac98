/-! the reference lays a verb's words -/
variable {T N : Nat} {kd vl rv : Nat → Int} {pl : Nat → Nat}
/-- what stands behind the words -/
def LoVE (p0 t_8 : Int32) (σ : MS) : MR := ( if p0 < 0 ∨ 40000 ≤ p0.toNatClampNeg then none else bnd ((σ.2 21 p0.toNatClampNeg)) fun (x_40 : Int32) => if x_40 < 0 ∨ 40000 ≤ x_40.toNatClampNeg then none else bnd ((σ.2 19 x_40.toNatClampNeg)) fun (x_44 : Int32) => if t_8 < 0 ∨ 61 ≤ t_8.toNatClampNeg then none else bnd (mA σ 60 (upd (σ.2 60) t_8.toNatClampNeg x_44)) fun σ_48 => if p0 < 0 ∨ 40000 ≤ p0.toNatClampNeg then none else bnd ((σ_48.2 21 p0.toNatClampNeg)) fun (x_52 : Int32) => if x_52 < 0 ∨ 40000 ≤ x_52.toNatClampNeg then none else bnd (fun (t_56 : Int32) (σ_57 : MS) => ( if t_8 < 0 ∨ 61 ≤ t_8.toNatClampNeg then none else bnd (mA σ_57 62 (upd (σ_57.2 62) t_8.toNatClampNeg t_56)) fun σ_63 => some (0, σ_63) ) : Int32 → MS → MR) fun j_58 => if 0 ≤ (σ_48.2 20 x_52.toNatClampNeg) then ( if p0 < 0 ∨ 40000 ≤ p0.toNatClampNeg then none else bnd ((σ_48.2 21 p0.toNatClampNeg)) fun (x_69 : Int32) => if x_69 < 0 ∨ 40000 ≤ x_69.toNatClampNeg then none else bnd ((σ_48.2 20 x_69.toNatClampNeg)) fun (x_73 : Int32) => if x_73 < 0 ∨ 40000 ≤ x_73.toNatClampNeg then none else (F_X12_wordTo_between (9 * t_8) (σ_48.2 19 x_73.toNatClampNeg) σ_48).bind fun u_77 => j_58 u_77.1 u_77.2 ) else ( j_58 0 σ_48 ) )
theorem LoV_eq (p0 t_8 : Int32) (again_33 : Int32 × MS → MR) (s_32 : Int32 × MS) : LoV p0 t_8 again_33 s_32 = ( if s_32.1 < 0 then (LoVE p0 t_8 s_32.2) else ( if t_8 < 0 ∨ 61 ≤ t_8.toNatClampNeg then none else bnd (((s_32.2.2 59 t_8.toNatClampNeg) + 1)) fun (x_83 : Int32) => if t_8 < 0 ∨ 61 ≤ t_8.toNatClampNeg then none else bnd (mA s_32.2 59 (upd (s_32.2.2 59) t_8.toNatClampNeg x_83)) fun σ_87 => bnd (((10 * t_8) + (s_32.2.2 59 t_8.toNatClampNeg))) fun (x_89 : Int32) => if s_32.1 < 0 ∨ 40000 ≤ s_32.1.toNatClampNeg then none else (F_X12_wordTo_verbBytes (9 * x_89) (σ_87.2 19 s_32.1.toNatClampNeg) σ_87).bind fun u_93 => if x_89 < 0 ∨ 610 ≤ x_89.toNatClampNeg then none else bnd (mA u_93.2 58 (upd (u_93.2.2 58) x_89.toNatClampNeg u_93.1)) fun σ_97 => if s_32.1 < 0 ∨ 40000 ≤ s_32.1.toNatClampNeg then none else bnd ((σ_97.2 22 s_32.1.toNatClampNeg)) fun (x_101 : Int32) => again_33 (x_101, σ_97) ) ) := rfl
/-- what stands when words were laid for verb n -/
def LVW (n b c : Nat) (ws : Nat → List Int) (σ τ : MS) : Prop := τ.1 = σ.1 ∧ (∀ k, k ≠ 57 → k ≠ 58 → k ≠ 59 → τ.2 k = σ.2 k) ∧ τ.2 59 n = J (b + c : Nat) ∧ (∀ x, x ≠ n → τ.2 59 x = σ.2 59 x) ∧ (∀ e, e < c → RW 57 58 τ (10 * n + (b + e)) (ws e)) ∧ (∀ x, ¬ (10 * n + b ≤ x ∧ x < 10 * n + (b + c)) → τ.2 58 x = σ.2 58 x) ∧ ∀ y, ¬ (9 * (10 * n + b) ≤ y ∧ y < 9 * (10 * n + (b + c))) → τ.2 57 y = σ.2 57 y
theorem r_vwords {m : Nat} {nm : Nat → List Int} {n b c y0 : Nat} {r : Nat → Int} {x : Nat} {ρ0 : MS} (hn : n ≤ 60) (hbc : b + c ≤ 10) (hy : y0 + c < 39990) (hx : x < 39990) (hr : ∀ e, e < c → 0 ≤ r e ∧ (r e).toNat < m ∧ r e < 8000) : ∀ (d e : Nat) (ρ : MS), e + d = c → rnam m nm ρ → (∀ e, e < c → ρ.2 19 (y0 + e) = J (r e) ∧ ρ.2 22 (y0 + e) = J (if e + 1 < c then ((y0 + e + 1 : Nat) : Int) else -1)) → LVW n b e (fun e => nm (r e).toNat) ρ0 ρ → ∀ k, d < k → ∃ τ, loopF (LoV (J (x : Nat)) (J (n : Nat))) k (J (if e < c then ((y0 + e : Nat) : Int) else -1), ρ) = LoVE (J (x : Nat)) (J (n : Nat)) τ ∧ LVW n b c (fun e => nm (r e).toNat) ρ0 τ := by
  intro d
  induction d with
  | zero =>
    intro e ρ he hrn h19 hL k hk
    obtain ⟨k, rfl⟩ : ∃ k', k = k' + 1 := ⟨k - 1, by omega⟩
    obtain rfl : e = c := by omega
    refine ⟨ρ, ?_, hL⟩
    show LoV (J (x : Nat)) (J (n : Nat)) (loopF (LoV (J (x : Nat)) (J (n : Nat))) k) _ = _
    generalize loopF (LoV (J (x : Nat)) (J (n : Nat))) k = lp
    rw [LoV_eq, if_neg (Nat.lt_irrefl _), if_pos (show J (-1) < 0 by decide)]
  | succ d ih =>
    intro e ρ he hrn h19 hL k hk
    obtain ⟨k, rfl⟩ : ∃ k', k = k' + 1 := ⟨k - 1, by omega⟩
    obtain ⟨l1, l2, l3, l4, l5, l6, l7⟩ := hL
    obtain ⟨e19, e22⟩ := h19 e (by omega)
    obtain ⟨r1, r2, r3⟩ := hr e (by omega)
    obtain ⟨nw1, nw2⟩ := hrn.2.1 (r e).toNat r2
    generalize hρ1 : mA ρ 59 (upd (ρ.2 59) n (J (b + e + 1 : Nat))) = ρ1
    have hnm1 : isNm ρ1 (r e).toNat (nm (r e).toNat) := by
      rw [← hρ1]; exact nw1
    obtain ⟨ρ2, f1, f2, f3, f4⟩ := r_wt_verbBytes (r := (r e).toNat) (p := 9 * (10 * n + (b + e))) (σ := ρ1) (by omega) (by omega) hnm1 nw2
    have o2 : ∀ k, k ≠ 57 → k ≠ 59 → ρ2.2 k = ρ.2 k := fun k a c => by rw [f2.2 k a, ← hρ1, mA_2, if_neg c]
    generalize hρ3 : mA ρ2 58 (upd (ρ2.2 58) (10 * n + (b + e)) (J (wsz (nm (r e).toNat)))) = ρ3
    have o3 : ∀ k, k ≠ 57 → k ≠ 58 → k ≠ 59 → ρ3.2 k = ρ.2 k := fun k a b c => by rw [← hρ3, mA_2, if_neg b, o2 k a c]
    have e357 : ρ3.2 57 = ρ2.2 57 := by rw [← hρ3]; rfl
    have e359 : ρ3.2 59 = upd (ρ.2 59) n (J (b + e + 1 : Nat)) := by rw [← hρ3, mA_2, if_neg (by omega), f2.2 59 (by omega), ← hρ1, mA_2, if_pos rfl]
    have e358 : ρ3.2 58 = upd (ρ.2 58) (10 * n + (b + e)) (J (wsz (nm (r e).toNat))) := by rw [← hρ3, mA_2, if_pos rfl, o2 58 (by omega) (by omega)]
    have e157 : ρ1.2 57 = ρ.2 57 := by rw [← hρ1]; rfl
    have hL3 : LVW n b (e + 1) (fun e => nm (r e).toNat) ρ0 ρ3 := by
      refine ⟨by rw [← hρ3]; show ρ2.1 = _; rw [f2.1, ← hρ1]; exact l1, fun k a b c => by rw [o3 k a b c, l2 k a b c], by rw [e359, upd_s, if_pos rfl]; rfl, fun x hx => by rw [e359, upd_s, if_neg hx, l4 x hx], fun e' he' => ?_, fun x hx => by rw [e358, upd_s, if_neg (by omega), l6 x (by omega)], fun y hy => by rw [e357, f4 y (by omega), e157, l7 y (by omega)]⟩
      by_cases q : e' = e
      · subst q
        exact ⟨by rw [e358, upd_s, if_pos rfl], fun k hk => by rw [e357]; exact f3 k hk⟩
      · obtain ⟨a1, a2⟩ := l5 e' (by omega)
        exact ⟨by rw [e358, upd_s, if_neg (by omega)]; exact a1, fun k hk => by
          have := wmn_le (nm (r e').toNat)
          have hk' : k < wmn (nm (r e').toNat) := hk
          rw [e357, f4 _ (by omega), e157]; exact a2 k hk⟩
    obtain ⟨τ, t1, t2⟩ := ih (e + 1) ρ3 (by omega) (rnam_congr hrn (by rw [← hρ3]; show ρ2.1 13 = _; rw [f2.1, ← hρ1]; rfl) (o3 11 (by omega) (by omega) (by omega)) (o3 12 (by omega) (by omega) (by omega))) (fun e' he' => by rw [o3 19 (by omega) (by omega) (by omega), o3 22 (by omega) (by omega) (by omega)]; exact h19 e' he') hL3 k (by omega)
    refine ⟨τ, ?_, t2⟩
    rw [← t1]
    show LoV (J (x : Nat)) (J (n : Nat)) (loopF (LoV (J (x : Nat)) (J (n : Nat))) k) _ = _
    generalize loopF (LoV (J (x : Nat)) (J (n : Nat))) k = lp
    have g121 := gNn (k := n) (n := 61) (by omega) (by omega)
    have gy := gNn (k := y0 + e) (n := 40000) (by omega) (by omega)
    have er : J (r e) = J ((r e).toNat : Nat) := by rw [Int.toNat_of_nonneg r1]
    rw [LoV_eq]
    simp only [bndE]
    rw [if_pos (show e < c by omega), if_neg (J_nlt0 (by omega) (by omega)), if_neg g121, if_neg g121, if_neg gy, J_natN (by omega), J_natN (by omega), l3, J_suc, show 10 * J (n : Nat) + J (b + e : Nat) = J (10 * n + (b + e) : Nat) by rw [show (10 : Int32) = J 10 from rfl, J_mul, J_add]; congr 1, show 9 * J (10 * n + (b + e) : Nat) = J (9 * (10 * n + (b + e)) : Nat) by rw [show (9 : Int32) = J 9 from rfl, J_mul]; congr 1, hρ1, show ρ1.2 19 (y0 + e) = J ((r e).toNat : Nat) by rw [← hρ1, mA_2, if_neg (by omega), e19, er], f1, Option.bind_some]
    dsimp only
    rw [if_neg (gNn (k := 10 * n + (b + e)) (n := 610) (by omega) (by omega)), if_neg (show ¬ (J (y0 + e : Nat) < 0 ∨ 40000 ≤ y0 + e) by rintro (c | c); exact J_nlt0 (by omega) (by omega) c; omega), J_natN (by omega), hρ3, o3 22 (by omega) (by omega) (by omega), e22]
    rfl
