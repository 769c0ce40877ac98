/-! the line as heard is kept by both for `again` -/
variable {nO nV nC : Nat} {room : Nat → Bool}
def StB  : ((Int32 × MS) → MR) → Int32 × MS → MR := (fun (again_6 : (Int32 × MS) → MR) (s_5 : Int32 × MS) => ( if (s_5.2.1 117) ≤ s_5.1 then ( bnd (mI s_5.2 104 0) fun σ_11 => bnd (mI σ_11 106 0) fun σ_13 => bnd (mI σ_13 107 0) fun σ_15 => some (0, σ_15) ) else ( if s_5.1 < 0 ∨ 120 ≤ s_5.1.toNatClampNeg then none else bnd ((s_5.2.2 116 s_5.1.toNatClampNeg)) fun (x_20 : Int32) => if s_5.1 < 0 ∨ 120 ≤ s_5.1.toNatClampNeg then none else bnd (mA s_5.2 97 (upd (s_5.2.2 97) s_5.1.toNatClampNeg (vp_nar .byte x_20))) fun σ_24 => bnd (s_5.1 + 1) fun (x_26 : Int32) => again_6 (x_26, σ_24) ) ))
theorem StB_s  (n : Nat) (a : Int32) (X : MS) : loopF StB (n + 1) (a, X) = ( if (X.1 117) ≤ a then ( bnd (mI X 104 0) fun σ_11 => bnd (mI σ_11 106 0) fun σ_13 => bnd (mI σ_13 107 0) fun σ_15 => some (0, σ_15) ) else ( if a < 0 ∨ 120 ≤ a.toNatClampNeg then none else bnd ((X.2 116 a.toNatClampNeg)) fun (x_20 : Int32) => if a < 0 ∨ 120 ≤ a.toNatClampNeg then none else bnd (mA X 97 (upd (X.2 97) a.toNatClampNeg (vp_nar .byte x_20))) fun σ_24 => bnd (a + 1) fun (x_26 : Int32) => loopF StB n (x_26, σ_24) ) ) := rfl
theorem starts_eq (σ : MS) : F_X12_starts σ = (F_X12_keep 9 σ).bind fun u_1 => bnd (mI u_1.2 98 (u_1.2.1 117)) fun σ_3 => loopF StB FU (0, σ_3) := rfl
/-- the line as both heard it -/
def LNE (σ : MS) (Γ : HS) (n : Nat) : Prop := 1 ≤ n ∧ n ≤ 120 ∧ σ.1 117 = J (n : Nat) ∧ (Γ 11).1 5 = J (n : Nat) ∧ (∀ i, i < n → ∃ c : Int, σ.2 116 i = J c ∧ (Γ 11).2.1 4 i = J c ∧ 32 ≤ c ∧ c ≤ 126 ∧ ¬ (65 ≤ c ∧ c ≤ 90)) ∧ ∃ i, i < n ∧ ∃ c : Int, σ.2 116 i = J c ∧ 97 ≤ c ∧ c ≤ 122
theorem StB_go {n : Nat} (hn : n ≤ 120) : ∀ (d i : Nat), i + d = n → ∀ (m : Nat) (σ : MS), d < m → σ.1 117 = J (n : Nat) → (∀ j, j < n → ∃ c : Int, σ.2 116 j = J c ∧ 32 ≤ c ∧ c ≤ 126) → (∀ j, j < i → σ.2 97 j = σ.2 116 j) → ∃ τ : MS, loopF StB m (J (i : Nat), σ) = some (0, τ) ∧ (τ.1 104 = 0 ∧ τ.1 106 = 0 ∧ τ.1 107 = 0) ∧ (∀ k, k ≠ 104 → k ≠ 106 → k ≠ 107 → τ.1 k = σ.1 k) ∧ (∀ k, k ≠ 97 → τ.2 k = σ.2 k) ∧ ∀ j, j < n → τ.2 97 j = σ.2 116 j := by
  intro d
  induction d with
  | zero =>
    intro i hi m σ hm h7 hb hd
    obtain ⟨m, rfl⟩ : ∃ k, m = k + 1 := ⟨m - 1, by omega⟩
    refine ⟨mI (mI (mI σ 104 0) 106 0) 107 0, ?_, ⟨rfl, rfl, rfl⟩, fun k k1 k2 k3 => ?_, fun _ _ => rfl, fun j hj => ?_⟩
    · rw [StB_s, if_pos (by rw [h7, J_le (by omega) (by omega) (by omega) (by omega)]; omega), bndE, bndE, bndE]
    · rw [mI_1, if_neg k3, mI_1, if_neg k2, mI_1, if_neg k1]
    · exact hd j (by omega)
  | succ d ih =>
    intro i hi m σ hm h7 hb hd
    obtain ⟨m, rfl⟩ : ∃ k, m = k + 1 := ⟨m - 1, by omega⟩
    obtain ⟨c, c1, c2, c3⟩ := hb i (by omega)
    have g : ¬ (J (i : Nat) < 0 ∨ 120 ≤ (J (i : Nat)).toNatClampNeg) := by rw [J_natN (by omega)]; rintro (q | q); exact J_nlt0 (by omega) (by omega) q; omega
    obtain ⟨τ, e1, e2, e3, e4, e5⟩ := ih (i + 1) (by omega) m (mA σ 97 (upd (σ.2 97) i (J c))) (by omega) h7 hb (fun j hj => by
      show upd (σ.2 97) i (J c) j = σ.2 116 j
      by_cases q : j = i
      · subst q; rw [c1]; exact if_pos rfl
      · exact (if_neg q).trans (hd j (by omega)))
    refine ⟨τ, ?_, e2, e3, fun k hk => ?_, e5⟩
    · rw [StB_s, if_neg (by rw [h7, J_le (by omega) (by omega) (by omega) (by omega)]; omega), if_neg g, bndE, if_neg g, bndE, bndE, J_natN (by omega), c1, J_byte (by omega) (by omega), J_suc]
      exact e1
    · rw [e4 k hk, mA_2, if_neg hk]
/-- both then hold the same line -/
theorem LAT_line {σ τ : MS} {Γ Δ : HS} {n : Nat} (h : LNE σ Γ n) (h8 : τ.1 98 = J (n : Nat)) (h7 : ∀ j, j < n → τ.2 97 j = σ.2 116 j) (d7 : (Δ 9).1 7 = J (n : Nat)) (d6 : (Δ 9).2.1 6 = va_cpy ((Γ 11).2.1 4) ((Γ 9).2.1 6) 0 0 120) : LAT τ Δ := by
  obtain ⟨n1, n2, _, _, hb, i0, hi0, c0, hc0, hc1⟩ := h
  refine Or.inr ⟨n, n1, n2, h8, d7, fun i hi => ?_, i0, hi0, c0, by rw [h7 i0 hi0, hc0], hc1⟩
  obtain ⟨c, c1, c2, c3⟩ := hb i hi
  refine ⟨c, by rw [h7 i hi, c1], ?_, c3⟩
  rw [d6]; unfold va_cpy
  rw [if_pos (by omega), show 0 + (i - 0) = i by omega, c2]
