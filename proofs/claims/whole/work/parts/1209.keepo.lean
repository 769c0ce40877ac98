/-! keep: variables and things; the whole of it -/
theorem KeV_go {l : Int} (hl : -1 ≤ l) (hl2 : l ≤ 120) {a z nV nC : Nat} (hz : z < 21) (hV : nV ≤ 100) (hC : nC ≤ 1000) (ha : a + nV + nC + 125 ≤ 26000) : ∀ (d i : Nat), i + d = nV → ∀ (m : Nat) (σ : MS), d < m → σ.1 98 = J l → σ.1 80 = J (nV : Nat) → σ.1 81 = J (z : Nat) → σ.2 77 z = J (nC : Nat) → ∃ τ, loopF KeV m (J (a + i : Nat), J (i : Nat), σ) = some (0, τ) ∧ r99 σ τ (a + i) (a + nV + nC + 125) ∧ (∀ j, i ≤ j → j < nV → τ.2 99 (a + j) = σ.2 91 j) ∧ (∀ j, j < nC → τ.2 99 (a + nV + j) = σ.2 92 j) ∧ TLK σ (τ.2 99) (a + nV + nC) l := by
  intro d
  induction d with
  | zero =>
    intro i hi m σ hm h98 h80 h81 h77
    obtain ⟨m, rfl⟩ : ∃ k, m = k + 1 := ⟨m - 1, by omega⟩
    obtain rfl : i = nV := by omega
    obtain ⟨τ, e1, e2, e3, e4⟩ := KeC_go hl hl2 (a := a + i) hz hC (by omega) nC 0 (by omega) FU σ (FU_gt (by omega)) h98 h81 h77
    refine ⟨τ, ?_, e2, fun j j1 j2 => by omega, fun j hj => e3 j (Nat.zero_le _) hj, e4⟩
    rw [KeV_s, h80, if_pos (Int32.le_refl _)]
    exact e1
  | succ d ih =>
    intro i hi m σ hm h98 h80 h81 h77
    obtain ⟨m, rfl⟩ : ∃ k, m = k + 1 := ⟨m - 1, by omega⟩
    obtain ⟨τ, e1, e2, e3, e4, e5⟩ := ih (i + 1) (by omega) m (w99 σ (a + i) (σ.2 91 i)) (by omega) h98 h80 h81 h77
    refine ⟨τ, ?_, r99_trans (w99_r σ _ (by omega) (by omega)) (r99_mono e2 (by omega) (by omega)), fun j j1 j2 => ?_, e4, e5⟩
    · rw [KeV_s, h80, if_neg (by rw [J_le (by omega) (by omega) (by omega) (by omega)]; omega), bndE, if_neg (gIn 100 (by omega) (by omega)), bndE, if_neg (g26 (by omega)), bndE, bndE, J_suc, J_suc, J_natN (by omega), J_natN (by omega)]
      exact e1
    · by_cases q : j = i
      · subst q
        rw [e2.2.2 _ (by omega)]; exact w99_v _ _ _
      · rw [e3 j (by omega) j2]; rfl
/-- a thing's four numbers in a slot -/
def OB4 (σ : MS) (f : Nat → Int32) (b : Nat) (tr : Nat → Nat) (i : Nat) : Prop := f (b + 4 * i) = σ.2 87 (i + 1) ∧ f (b + 4 * i + 1) = σ.2 88 (i + 1) ∧ f (b + 4 * i + 2) = σ.2 89 (i + 1) ∧ f (b + 4 * i + 3) = J (tr (i + 1) : Nat)
/-- a slot's content -/
def KPT (σ : MS) (f : Nat → Int32) (b nO : Nat) (tr : Nat → Nat) (nV nC : Nat) (l : Int) : Prop := (∀ i, i < nO → OB4 σ f b tr i) ∧ (∀ j, j < nV → f (b + 4 * nO + j) = σ.2 91 j) ∧ (∀ j, j < nC → f (b + 4 * nO + nV + j) = σ.2 92 j) ∧ TLK σ f (b + 4 * nO + nV + nC) l
def KeK (n : Nat) (y b : Int32) : Int32 → MS → MR := fun (v_z : Int32) (σ_z : MS) => bnd (y + 1) fun (x_137 : Int32) => if y < 0 ∨ 26000 ≤ y.toNatClampNeg then none else bnd (mA σ_z 99 (upd (σ_z.2 99) y.toNatClampNeg v_z)) fun σ_141 => bnd (b + 1) fun (x_143 : Int32) => loopF KeO n (x_137, x_143, σ_141)
theorem KeO_s2  (n : Nat) (a b : Int32) (X : MS) : loopF KeO (n + 1) (a, b, X) = ( if (X.1 78) < b then ( loopF KeV FU (a, 0, X) ) else ( bnd (a + 1) fun (x_101 : Int32) => if b < 0 ∨ 121 ≤ b.toNatClampNeg then none else bnd ((X.2 87 b.toNatClampNeg)) fun (x_105 : Int32) => if a < 0 ∨ 26000 ≤ a.toNatClampNeg then none else bnd (mA X 99 (upd (X.2 99) a.toNatClampNeg x_105)) fun σ_109 => bnd (x_101 + 1) fun (x_111 : Int32) => if b < 0 ∨ 121 ≤ b.toNatClampNeg then none else bnd ((σ_109.2 88 b.toNatClampNeg)) fun (x_115 : Int32) => if x_101 < 0 ∨ 26000 ≤ x_101.toNatClampNeg then none else bnd (mA σ_109 99 (upd (σ_109.2 99) x_101.toNatClampNeg x_115)) fun σ_119 => bnd (x_111 + 1) fun (x_121 : Int32) => if b < 0 ∨ 121 ≤ b.toNatClampNeg then none else bnd ((σ_119.2 89 b.toNatClampNeg)) fun (x_125 : Int32) => if x_111 < 0 ∨ 26000 ≤ x_111.toNatClampNeg then none else bnd (mA σ_119 99 (upd (σ_119.2 99) x_111.toNatClampNeg x_125)) fun σ_129 => loopF (KeT b (KeK n x_121 b)) FU (0, 0, σ_129) ) ) := rfl
theorem KeO_go {l : Int} (hl : -1 ≤ l) (hl2 : l ≤ 120) {b z nO nV nC : Nat} {tr : Nat → Nat} (hz : z < 21) (hO : nO ≤ 120) (hV : nV ≤ 100) (hC : nC ≤ 1000) (hb : b + 2600 ≤ 26000) : ∀ (d i : Nat), i + d = nO → ∀ (m : Nat) (σ : MS), d < m → σ.1 98 = J l → σ.1 78 = J (nO : Nat) → σ.1 80 = J (nV : Nat) → σ.1 81 = J (z : Nat) → σ.2 77 z = J (nC : Nat) → (∀ x, x ≤ 120 → tr x < 128 ∧ ∀ a, a < 7 → σ.2 90 (7 * x + a) = if (tr x).testBit a = true then 1 else 0) → ∃ τ, loopF KeO m (J (b + 4 * i : Nat), J (i + 1 : Nat), σ) = some (0, τ) ∧ r99 σ τ (b + 4 * i) (b + 2600) ∧ (∀ j, i ≤ j → j < nO → OB4 σ (τ.2 99) b tr j) ∧ (∀ j, j < nV → τ.2 99 (b + 4 * nO + j) = σ.2 91 j) ∧ (∀ j, j < nC → τ.2 99 (b + 4 * nO + nV + j) = σ.2 92 j) ∧ TLK σ (τ.2 99) (b + 4 * nO + nV + nC) l := by
  intro d
  induction d with
  | zero =>
    intro i hi m σ hm h98 h78 h80 h81 h77 htr
    obtain ⟨m, rfl⟩ : ∃ k, m = k + 1 := ⟨m - 1, by omega⟩
    obtain rfl : i = nO := by omega
    obtain ⟨τ, e1, e2, e3, e4, e5⟩ := KeV_go hl hl2 (a := b + 4 * i) hz hV hC (by omega) nV 0 (by omega) FU σ (FU_gt (by omega)) h98 h80 h81 h77
    refine ⟨τ, ?_, r99_mono e2 (by omega) (by omega), fun j j1 j2 => by omega, fun j hj => e3 j (Nat.zero_le _) hj, e4, e5⟩
    rw [KeO_s, h78, if_pos (by rw [J_lt (by omega) (by omega) (by omega) (by omega)]; omega)]
    exact e1
  | succ d ih =>
    intro i hi m σ hm h98 h78 h80 h81 h77 htr
    obtain ⟨m, rfl⟩ : ∃ k, m = k + 1 := ⟨m - 1, by omega⟩
    obtain ⟨t1, t2⟩ := htr (i + 1) (by omega)
    obtain ⟨τ, e1, e2, e3, e4, e5, e6⟩ := ih (i + 1) (by omega) m (w99 (w99 (w99 (w99 σ (b + 4 * i) (σ.2 87 (i + 1))) (b + 4 * i + 1) (σ.2 88 (i + 1))) (b + 4 * i + 2) (σ.2 89 (i + 1))) (b + 4 * i + 3) (J (tr (i + 1) : Nat))) (by omega) h98 h78 h80 h81 h77 htr
    have f := fun (σ : MS) (k : Nat) (v : Int32) (hk : k < 4) => w99_r σ (y := b + 4 * i + k) (lo := b + 4 * i) (hi := b + 2600) v (by omega) (by omega)
    refine ⟨τ, ?_, ?_, fun j j1 j2 => ?_, e4, e5, e6⟩
    · have k := KeT_go (KeK m (J (b + 4 * i + 1 + 1 + 1 : Nat)) (J (i + 1 : Nat))) (x := i + 1) (by omega) t1 (w99 (w99 (w99 σ (b + 4 * i) (σ.2 87 (i + 1))) (b + 4 * i + 1) (σ.2 88 (i + 1))) (b + 4 * i + 1 + 1) (σ.2 89 (i + 1))) t2 7 0 rfl FU (FU_gt (by omega))
      have k0 : J (tr (i + 1) % 2 ^ 0 : Nat) = 0 := by rw [Nat.pow_zero, Nat.mod_one]; rfl
      rw [k0] at k
      have s := KeO_s2 m (J (b + 4 * i : Nat)) (J (i + 1 : Nat)) σ
      rw [h78, if_neg (by rw [J_lt (by omega) (by omega) (by omega) (by omega)]; omega), bndE, if_neg (gIn 121 (by omega) (by omega)), bndE, if_neg (g26 (by omega)), bndE, J_suc (b + 4 * i), bndE, if_neg (gIn 121 (by omega) (by omega)), bndE, if_neg (g26 (by omega)), bndE, J_suc (b + 4 * i + 1), bndE, if_neg (gIn 121 (by omega) (by omega)), bndE, if_neg (g26 (by omega)), bndE, J_suc (b + 4 * i + 1 + 1), J_natN (n := i + 1) (by omega), J_natN (n := b + 4 * i) (by omega), J_natN (n := b + 4 * i + 1) (by omega), J_natN (n := b + 4 * i + 1 + 1) (by omega)] at s
      rw [s]
      refine k.trans ?_
      unfold KeK
      rw [bndE, if_neg (g26 (by omega)), bndE, bndE, J_suc, J_suc, J_natN (by omega)]
      exact e1
    · exact r99_trans (f σ 0 _ (by omega)) (r99_trans (f _ 1 _ (by omega)) (r99_trans (f _ 2 _ (by omega)) (r99_trans (f _ 3 _ (by omega)) (r99_mono e2 (by omega) (by omega)))))
    · by_cases q : j = i
      · subst q
        have o : ∀ y, y < b + 4 * j + 4 → τ.2 99 y = _ := fun y hy => e2.2.2 y (Or.inl (by omega))
        have w := fun (σ : MS) (y k : Nat) (v : Int32) (h : k ≠ y) => (show (w99 σ y v).2 99 k = σ.2 99 k from if_neg h)
        refine ⟨?_, ?_, ?_, ?_⟩
        · rw [o _ (by omega), w _ _ _ _ (by omega), w _ _ _ _ (by omega), w _ _ _ _ (by omega), w99_v]
        · rw [o _ (by omega), w _ _ _ _ (by omega), w _ _ _ _ (by omega), w99_v]
        · rw [o _ (by omega), w _ _ _ _ (by omega), w99_v]
        · rw [o _ (by omega), w99_v]
      · exact e3 j (by omega) j2
