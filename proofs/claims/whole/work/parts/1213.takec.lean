/-! take: the cells, then what stands behind them -/
/-- a slot's tail, as it stands, is fit to be taken back -/
def TLF (f : Nat → Int32) (b : Nat) (l : Int) : Prop := f (b + 4) = J l ∧ -1 ≤ l ∧ l ≤ 120 ∧ ∀ j : Nat, (j : Int) < l → ∃ c : Int, f (b + 5 + j) = J c ∧ -128 ≤ c ∧ c < 128
/-- what a taking back leaves alone -/
def rTak (σ τ : MS) : Prop := (∀ k, k ≠ 93 → k ≠ 94 → k ≠ 95 → k ≠ 96 → k ≠ 98 → τ.1 k = σ.1 k) ∧ ∀ k, k ≠ 87 → k ≠ 88 → k ≠ 89 → k ≠ 90 → k ≠ 91 → k ≠ 92 → k ≠ 97 → τ.2 k = σ.2 k
theorem TkC_go {l : Int} {a z nC : Nat} (hz : z < 21) (hC : nC ≤ 1000) (ha : a + nC + 125 ≤ 26000) : ∀ (d i : Nat), i + d = nC → ∀ (m : Nat) (σ : MS), d < m → σ.1 81 = J (z : Nat) → σ.2 77 z = J (nC : Nat) → TLF (σ.2 99) (a + nC) l → ∃ τ, loopF TkC m (J (a + i : Nat), J (i : Nat), σ) = some (0, τ) ∧ rTak σ τ ∧ (∀ k, 87 ≤ k → k ≤ 91 → τ.2 k = σ.2 k) ∧ (∀ j, j < i ∨ nC ≤ j → τ.2 92 j = σ.2 92 j) ∧ (∀ j, i ≤ j → j < nC → τ.2 92 j = σ.2 99 (a + j)) ∧ (∀ j : Nat, l ≤ j → τ.2 97 j = σ.2 97 j) ∧ TLK τ (σ.2 99) (a + nC) l := by
  intro d
  induction d with
  | zero =>
    intro i hi m σ hm h81 h77 hT
    obtain ⟨m, rfl⟩ : ∃ k, m = k + 1 := ⟨m - 1, by omega⟩
    obtain rfl : i = nC := by omega
    obtain ⟨t1, t2, t3, t4⟩ := hT
    obtain ⟨τ, e1, e2, e3, e4, e5⟩ := TkL_go t2 t3 (a := a + i + 5) (by omega) l.toNat 0 (by omega) (by omega) FU (mI (mI (mI (mI (mI σ 93 (σ.2 99 (a + i))) 94 (σ.2 99 (a + i + 1))) 95 (σ.2 99 (a + i + 2))) 96 (σ.2 99 (a + i + 3))) 98 (σ.2 99 (a + i + 4))) (FU_gt (by omega)) t1 t4
    refine ⟨τ, ?_, ⟨fun k k1 k2 k3 k4 k5 => ?_, fun k _ _ _ _ _ _ k7 => e3 k k7⟩, fun k k1 k2 => e3 k (by omega), fun j hj => by rw [e3 92 (by omega)]; rfl, fun j j1 j2 => by omega, fun j hj => e4 j (Or.inr hj), ?_⟩
    · rw [TkC_s, bndE, h81, if_neg (gIn 21 (by omega) (by omega)), J_natN (by omega), h77, if_pos (Int32.le_refl _), bndE, if_neg (g26 (by omega)), bndE, bndE, J_suc, bndE, if_neg (g26 (by omega)), bndE, J_suc, bndE, if_neg (g26 (by omega)), bndE, J_suc, bndE, if_neg (g26 (by omega)), bndE, J_suc, bndE, if_neg (g26 (by omega)), bndE, J_suc, J_natN (by omega), J_natN (by omega), J_natN (by omega), J_natN (by omega), J_natN (by omega)]
      exact e1
    · rw [e2, mI_1, if_neg k5, mI_1, if_neg k4, mI_1, if_neg k3, mI_1, if_neg k2, mI_1, if_neg k1]
    · exact ⟨by rw [e2]; rfl, by rw [e2]; rfl, by rw [e2]; rfl, by rw [e2]; rfl, by rw [e2]; rfl, fun j hj => (e5 j (Nat.zero_le _) hj).symm⟩
  | succ d ih =>
    intro i hi m σ hm h81 h77 hT
    obtain ⟨m, rfl⟩ : ∃ k, m = k + 1 := ⟨m - 1, by omega⟩
    obtain ⟨τ, e1, e2, e3, e4, e5, e6, e7⟩ := ih (i + 1) (by omega) m (mA σ 92 (upd (σ.2 92) i (σ.2 99 (a + i)))) (by omega) h81 h77 hT
    refine ⟨τ, ?_, ⟨e2.1, fun k k1 k2 k3 k4 k5 k6 k7 => (e2.2 k k1 k2 k3 k4 k5 k6 k7).trans (if_neg k6)⟩, fun k k1 k2 => (e3 k k1 k2).trans (if_neg (by omega)), fun j hj => (e4 j (by omega)).trans (if_neg (by omega)), fun j j1 j2 => ?_, e6, e7⟩
    · rw [TkC_s, bndE, h81, if_neg (gIn 21 (by omega) (by omega)), J_natN (by omega), h77, if_neg (by rw [J_le (by omega) (by omega) (by omega) (by omega)]; omega), bndE, if_neg (g26 (by omega)), bndE, if_neg (gIn 1000 (by omega) (by omega)), bndE, bndE, J_suc, J_suc, J_natN (by omega), J_natN (by omega)]
      exact e1
    · by_cases q : j = i
      · subst q
        rw [e4 j (by omega)]; exact if_pos rfl
      · exact e5 j (by omega) j2
