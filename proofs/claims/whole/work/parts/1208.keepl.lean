/-! keep: the loops behind the things -/
/-- only row 99 from lo to hi changed -/
def r99 (σ τ : MS) (lo hi : Nat) : Prop := τ.1 = σ.1 ∧ (∀ k, k ≠ 99 → τ.2 k = σ.2 k) ∧ ∀ y, y < lo ∨ hi ≤ y → τ.2 99 y = σ.2 99 y
theorem r99_refl (σ : MS) (lo hi : Nat) : r99 σ σ lo hi := ⟨rfl, fun _ _ => rfl, fun _ _ => rfl⟩
theorem r99_mono {σ τ : MS} {lo hi lo' hi' : Nat} (h : r99 σ τ lo hi) (h1 : lo' ≤ lo) (h2 : hi ≤ hi') : r99 σ τ lo' hi' := ⟨h.1, h.2.1, fun y hy => h.2.2 y (by omega)⟩
theorem r99_trans {σ τ υ : MS} {lo hi : Nat} (h : r99 σ τ lo hi) (h' : r99 τ υ lo hi) : r99 σ υ lo hi := ⟨h'.1.trans h.1, fun k hk => (h'.2.1 k hk).trans (h.2.1 k hk), fun y hy => (h'.2.2 y hy).trans (h.2.2 y hy)⟩
/-- one more value written -/
def w99 (σ : MS) (y : Nat) (v : Int32) : MS := mA σ 99 (upd (σ.2 99) y v)
theorem w99_v (σ : MS) (y : Nat) (v : Int32) : (w99 σ y v).2 99 y = v := if_pos rfl
theorem w99_r (σ : MS) {y lo hi : Nat} (v : Int32) (h1 : lo ≤ y) (h2 : y < hi) : r99 σ (w99 σ y v) lo hi := ⟨rfl, fun k hk => if_neg hk, fun z hz => if_neg (by omega)⟩
theorem g26 {a : Nat} (h : a < 26000) : ¬ (J (a : Nat) < 0 ∨ 26000 ≤ (J (a : Nat)).toNatClampNeg) := by
  rw [J_natN (by omega)]; rintro (q | q); exact J_nlt0 (by omega) (by omega) q; omega
theorem gIn {a : Nat} (k : Nat) (h : a < k) (hk : k ≤ 26000) : ¬ (J (a : Nat) < 0 ∨ k ≤ (J (a : Nat)).toNatClampNeg) := by
  rw [J_natN (by omega)]; rintro (q | q); exact J_nlt0 (by omega) (by omega) q; omega
theorem KeL_go {l : Int} (hl : -1 ≤ l) (hl2 : l ≤ 120) {a : Nat} (ha : a + 120 ≤ 26000) : ∀ (d i : Nat), (i : Int) + d = l ∨ (d = 0 ∧ l ≤ i) → i ≤ 120 → ∀ (m : Nat) (σ : MS), d < m → σ.1 98 = J l → ∃ τ, loopF KeL m (J (a + i : Nat), J (i : Nat), σ) = some (0, τ) ∧ r99 σ τ (a + i) (a + 120) ∧ ∀ j : Nat, i ≤ j → (j : Int) < l → τ.2 99 (a + j) = σ.2 97 j := by
  intro d
  induction d with
  | zero =>
    intro i hi h120 m σ hm h98
    obtain ⟨m, rfl⟩ : ∃ k, m = k + 1 := ⟨m - 1, by omega⟩
    refine ⟨σ, ?_, r99_refl _ _ _, fun j j1 j2 => by omega⟩
    rw [KeL_s, if_pos (by rw [h98, J_le (by omega) (by omega) (by omega) (by omega)]; omega)]
  | succ d ih =>
    intro i hi h120 m σ hm h98
    obtain ⟨m, rfl⟩ : ∃ k, m = k + 1 := ⟨m - 1, by omega⟩
    obtain ⟨τ, e1, e2, e3⟩ := ih (i + 1) (by omega) (by omega) m (w99 σ (a + i) (σ.2 97 i)) (by omega) h98
    refine ⟨τ, ?_, r99_trans (w99_r σ _ (by omega) (by omega)) (r99_mono e2 (by omega) (by omega)), fun j j1 j2 => ?_⟩
    · rw [KeL_s, if_neg (by rw [h98, J_le (by omega) (by omega) (by omega) (by omega)]; omega), bndE, if_neg (gIn 120 (by omega) (by omega)), bndE, if_neg (g26 (by omega)), bndE, bndE, J_suc, J_suc, J_natN (by omega), J_natN (by omega)]
      exact e1
    · by_cases q : j = i
      · subst q
        rw [e2.2.2 _ (by omega)]; exact w99_v _ _ _
      · rw [e3 j (by omega) j2]; rfl
/-- what lies behind the things in a slot -/
def TLK (σ : MS) (f : Nat → Int32) (b : Nat) (l : Int) : Prop := f b = σ.1 93 ∧ f (b + 1) = σ.1 94 ∧ f (b + 2) = σ.1 95 ∧ f (b + 3) = σ.1 96 ∧ f (b + 4) = σ.1 98 ∧ ∀ j : Nat, (j : Int) < l → f (b + 5 + j) = σ.2 97 j
theorem KeC_go {l : Int} (hl : -1 ≤ l) (hl2 : l ≤ 120) {a z nC : Nat} (hz : z < 21) (hC : nC ≤ 1000) (ha : a + nC + 125 ≤ 26000) : ∀ (d i : Nat), i + d = nC → ∀ (m : Nat) (σ : MS), d < m → σ.1 98 = J l → σ.1 81 = J (z : Nat) → σ.2 77 z = J (nC : Nat) → ∃ τ, loopF KeC m (J (a + i : Nat), J (i : Nat), σ) = some (0, τ) ∧ r99 σ τ (a + i) (a + nC + 125) ∧ (∀ j, i ≤ j → j < nC → τ.2 99 (a + j) = σ.2 92 j) ∧ TLK σ (τ.2 99) (a + nC) l := by
  intro d
  induction d with
  | zero =>
    intro i hi m σ hm h98 h81 h77
    obtain ⟨m, rfl⟩ : ∃ k, m = k + 1 := ⟨m - 1, by omega⟩
    obtain rfl : i = nC := by omega
    obtain ⟨τ, e1, e2, e3⟩ := KeL_go hl hl2 (a := a + i + 5) (by omega) l.toNat 0 (by omega) (by omega) FU (w99 (w99 (w99 (w99 (w99 σ (a + i) (σ.1 93)) (a + i + 1) (σ.1 94)) (a + i + 2) (σ.1 95)) (a + i + 3) (σ.1 96)) (a + i + 4) (σ.1 98)) (FU_gt (by omega)) h98
    have f := fun (σ : MS) (k : Nat) (v : Int32) (hk : k < 5) => w99_r σ (y := a + i + k) (lo := a + i) (hi := a + i + 125) v (by omega) (by omega)
    refine ⟨τ, ?_, ?_, fun j j1 j2 => by omega, ?_⟩
    · rw [KeC_s, bndE, h81, if_neg (gIn 21 (by omega) (by omega)), J_natN (by omega), h77, if_pos (Int32.le_refl _), bndE, if_neg (g26 (by omega)), bndE, J_suc, bndE, if_neg (g26 (by omega)), bndE, J_suc, bndE, if_neg (g26 (by omega)), bndE, J_suc, bndE, if_neg (g26 (by omega)), bndE, J_suc, bndE, if_neg (g26 (by omega)), bndE, J_suc, J_natN (by omega), J_natN (by omega), J_natN (by omega), J_natN (by omega), J_natN (by omega)]
      exact e1
    · exact r99_trans (f σ 0 _ (by omega)) (r99_trans (f _ 1 _ (by omega)) (r99_trans (f _ 2 _ (by omega)) (r99_trans (f _ 3 _ (by omega)) (r99_trans (f _ 4 _ (by omega)) (r99_mono e2 (by omega) (by omega))))))
    · have o : ∀ y, y < a + i + 5 → τ.2 99 y = _ := fun y hy => e2.2.2 y (Or.inl (by omega))
      have w := fun (σ : MS) (y k : Nat) (v : Int32) (h : k ≠ y) => (show (w99 σ y v).2 99 k = σ.2 99 k from if_neg h)
      refine ⟨?_, ?_, ?_, ?_, ?_, fun j j1 => ?_⟩
      · rw [o _ (by omega), w _ _ _ _ (by omega), w _ _ _ _ (by omega), w _ _ _ _ (by omega), w _ _ _ _ (by omega), w99_v]
      · rw [o _ (by omega), w _ _ _ _ (by omega), w _ _ _ _ (by omega), w _ _ _ _ (by omega), w99_v]
      · rw [o _ (by omega), w _ _ _ _ (by omega), w _ _ _ _ (by omega), w99_v]
      · rw [o _ (by omega), w _ _ _ _ (by omega), w99_v]
      · rw [o _ (by omega), w99_v]
      · rw [e3 j (Nat.zero_le _) j1]; rfl
  | succ d ih =>
    intro i hi m σ hm h98 h81 h77
    obtain ⟨m, rfl⟩ : ∃ k, m = k + 1 := ⟨m - 1, by omega⟩
    obtain ⟨τ, e1, e2, e3, e4⟩ := ih (i + 1) (by omega) m (w99 σ (a + i) (σ.2 92 i)) (by omega) h98 h81 h77
    refine ⟨τ, ?_, r99_trans (w99_r σ _ (by omega) (by omega)) (r99_mono e2 (by omega) (by omega)), fun j j1 j2 => ?_, e4⟩
    · rw [KeC_s, bndE, h81, if_neg (gIn 21 (by omega) (by omega)), J_natN (by omega), h77, if_neg (by rw [J_le (by omega) (by omega) (by omega) (by omega)]; omega), bndE, if_neg (gIn 1000 (by omega) (by omega)), bndE, if_neg (g26 (by omega)), bndE, bndE, J_suc, J_suc, J_natN (by omega), J_natN (by omega)]
      exact e1
    · by_cases q : j = i
      · subst q
        rw [e2.2.2 _ (by omega)]; exact w99_v _ _ _
      · rw [e3 j (by omega) j2]; rfl
