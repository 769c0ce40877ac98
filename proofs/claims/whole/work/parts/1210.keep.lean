/-! keep and starts, whole -/
/-- the counts and traits that keep and take go by -/
def KPC (σ : MS) (nO nV nC : Nat) (tr : Nat → Nat) (l : Int) : Prop := nO ≤ 120 ∧ nV ≤ 100 ∧ nC ≤ 1000 ∧ (-1 ≤ l ∧ l ≤ 120) ∧ σ.1 98 = J l ∧ σ.1 78 = J (nO : Nat) ∧ σ.1 80 = J (nV : Nat) ∧ (∃ z : Nat, z < 21 ∧ σ.1 81 = J (z : Nat) ∧ σ.2 77 z = J (nC : Nat)) ∧ ∀ x, x ≤ 120 → tr x < 128 ∧ ∀ a, a < 7 → σ.2 90 (7 * x + a) = if (tr x).testBit a = true then 1 else 0
theorem r_keep {σ : MS} {nO nV nC p : Nat} {tr : Nat → Nat} {l : Int} (h : KPC σ nO nV nC tr l) (hp : p ≤ 9) : ∃ τ, F_X12_keep (J (p : Nat)) σ = some (0, τ) ∧ r99 σ τ (2600 * p) (2600 * p + 2600) ∧ KPT σ (τ.2 99) (2600 * p) nO tr nV nC l := by
  obtain ⟨h1, h2, h3, h4, h5, h6, h7, ⟨z, z1, z2, z3⟩, h9⟩ := h
  obtain ⟨τ, e1, e2, e3, e4, e5, e6⟩ := KeO_go h4.1 h4.2 (b := 2600 * p) z1 h1 h2 h3 (by omega) nO 0 (by omega) FU σ (FU_gt (by omega)) h5 h6 h7 z2 z3 h9
  refine ⟨τ, ?_, e2, fun i hi => e3 i (Nat.zero_le _) hi, e4, e5, e6⟩
  rw [keep_eq, bndE, show (2600 : Int32) = J ((2600 : Nat) : Int) from rfl, J_mul, show ((2600 : Nat) : Int) * (p : Nat) = ((2600 * p : Nat) : Int) by omega]
  exact e1
/-- starts: slot 9 is kept, the line copied, the outcome cleared -/
theorem r_starts {σ : MS} {Γ : HS} {nO nV nC n : Nat} {tr : Nat → Nat} {l : Int} (h : KPC σ nO nV nC tr l) (hn : LNE σ Γ n) : ∃ τ, F_X12_starts σ = some (0, τ) ∧ (τ.1 104 = 0 ∧ τ.1 106 = 0 ∧ τ.1 107 = 0 ∧ τ.1 98 = J (n : Nat)) ∧ (∀ k, k ≠ 98 → k ≠ 104 → k ≠ 106 → k ≠ 107 → τ.1 k = σ.1 k) ∧ (∀ k, k ≠ 97 → k ≠ 99 → τ.2 k = σ.2 k) ∧ (∀ y, y < 23400 → τ.2 99 y = σ.2 99 y) ∧ (∀ j, j < n → τ.2 97 j = σ.2 116 j) ∧ KPT σ (τ.2 99) 23400 nO tr nV nC l := by
  obtain ⟨υ, a1, a2, a3⟩ := r_keep (p := 9) h (by omega)
  have m1 : (mI υ 98 (υ.1 117)).1 117 = J (n : Nat) := by
    show υ.1 117 = _; rw [a2.1]; exact hn.2.2.1
  have m2 : ∀ k, k ≠ 99 → (mI υ 98 (υ.1 117)).2 k = σ.2 k := fun k hk => a2.2.1 k hk
  obtain ⟨τ, e1, e2, e3, e4, e5⟩ := StB_go hn.2.1 n 0 (by omega) FU (mI υ 98 (υ.1 117)) (FU_gt (by have := hn.2.1; omega)) m1 (fun j hj => by
    obtain ⟨c, c1, c2, c3, c4, c5⟩ := hn.2.2.2.2.1 j hj
    exact ⟨c, by rw [m2 116 (by omega)]; exact c1, c3, c4⟩) (fun j hj => absurd hj (Nat.not_lt_zero _))
  refine ⟨τ, ?_, ⟨e2.1, e2.2.1, e2.2.2, ?_⟩, fun k k1 k2 k3 k4 => ?_, fun k k1 k2 => ?_, fun y hy => ?_, fun j hj => ?_, ?_⟩
  · rw [starts_eq, show (9 : Int32) = J ((9 : Nat) : Int) from rfl, a1, Option.bind_some]
    exact e1
  · rw [e3 98 (by omega) (by omega) (by omega), mI_1, if_pos rfl, a2.1]; exact hn.2.2.1
  · rw [e3 k k2 k3 k4, mI_1, if_neg k1, a2.1]
  · rw [e4 k k1, m2 k k2]
  · rw [e4 99 (by omega)]; exact a2.2.2 y (Or.inl (by omega))
  · rw [e5 j hj, m2 116 (by omega)]
  · rw [e4 99 (by omega)]; exact a3
