/-! take: the line -/
theorem TkL_go {l : Int} (hl : -1 ≤ l) (hl2 : l ≤ 120) {a : Nat} (ha : a + 120 ≤ 26000) : ∀ (d i : Nat), (i : Int) + d = l ∨ (d = 0 ∧ l ≤ i) → i ≤ 120 → ∀ (m : Nat) (σ : MS), d < m → σ.1 98 = J l → (∀ j : Nat, (j : Int) < l → ∃ c : Int, σ.2 99 (a + j) = J c ∧ -128 ≤ c ∧ c < 128) → ∃ τ, loopF TkL m (J (a + i : Nat), J (i : Nat), σ) = some (0, τ) ∧ τ.1 = σ.1 ∧ (∀ k, k ≠ 97 → τ.2 k = σ.2 k) ∧ (∀ j : Nat, j < i ∨ l ≤ j → τ.2 97 j = σ.2 97 j) ∧ ∀ j : Nat, i ≤ j → (j : Int) < l → τ.2 97 j = σ.2 99 (a + j) := by
  intro d
  induction d with
  | zero =>
    intro i hi h120 m σ hm h98 hb
    obtain ⟨m, rfl⟩ : ∃ k, m = k + 1 := ⟨m - 1, by omega⟩
    refine ⟨σ, ?_, rfl, fun _ _ => rfl, fun _ _ => rfl, fun j j1 j2 => by omega⟩
    rw [TkL_s, if_pos (by rw [h98, J_le (by omega) (by omega) (by omega) (by omega)]; omega)]
  | succ d ih =>
    intro i hi h120 m σ hm h98 hb
    obtain ⟨m, rfl⟩ : ∃ k, m = k + 1 := ⟨m - 1, by omega⟩
    obtain ⟨c, c1, c2, c3⟩ := hb i (by omega)
    obtain ⟨τ, e1, e2, e3, e4, e5⟩ := ih (i + 1) (by omega) (by omega) m (mA σ 97 (upd (σ.2 97) i (J c))) (by omega) h98 hb
    refine ⟨τ, ?_, e2, fun k hk => (e3 k hk).trans (if_neg hk), fun j hj => (e4 j (by omega)).trans (if_neg (by omega)), fun j j1 j2 => ?_⟩
    · rw [TkL_s, if_neg (by rw [h98, J_le (by omega) (by omega) (by omega) (by omega)]; omega), bndE, if_neg (g26 (by omega)), bndE, if_neg (gIn 120 (by omega) (by omega)), bndE, bndE, J_suc, J_suc, J_natN (by omega), J_natN (by omega), c1, J_i8 (by omega) (by omega), J_byte (by omega) (by omega)]
      exact e1
    · by_cases q : j = i
      · subst q
        rw [e4 j (by omega), c1]; exact if_pos rfl
      · exact e5 j (by omega) j2
