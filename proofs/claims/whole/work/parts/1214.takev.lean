/-! take: variables and things; the whole of it -/
theorem TkV_go {l : Int} {a z nV nC : Nat} (hz : z < 21) (hV : nV ≤ 100) (hC : nC ≤ 1000) (ha : a + nV + nC + 125 ≤ 26000) : ∀ (d i : Nat), i + d = nV → ∀ (m : Nat) (σ : MS), d < m → σ.1 80 = J (nV : Nat) → σ.1 81 = J (z : Nat) → σ.2 77 z = J (nC : Nat) → TLF (σ.2 99) (a + nV + nC) l → ∃ τ, loopF TkV m (J (a + i : Nat), J (i : Nat), σ) = some (0, τ) ∧ rTak σ τ ∧ (∀ k, 87 ≤ k → k ≤ 90 → τ.2 k = σ.2 k) ∧ (∀ j, j < i ∨ nV ≤ j → τ.2 91 j = σ.2 91 j) ∧ (∀ j, i ≤ j → j < nV → τ.2 91 j = σ.2 99 (a + j)) ∧ (∀ j, nC ≤ j → τ.2 92 j = σ.2 92 j) ∧ (∀ j, j < nC → τ.2 92 j = σ.2 99 (a + nV + j)) ∧ (∀ j : Nat, l ≤ j → τ.2 97 j = σ.2 97 j) ∧ TLK τ (σ.2 99) (a + nV + nC) l := by
  intro d
  induction d with
  | zero =>
    intro i hi m σ hm h80 h81 h77 hT
    obtain ⟨m, rfl⟩ : ∃ k, m = k + 1 := ⟨m - 1, by omega⟩
    obtain rfl : i = nV := by omega
    obtain ⟨τ, e1, e2, e3, e4, e5, e6, e7⟩ := TkC_go (a := a + i) hz hC (by omega) nC 0 (by omega) FU σ (FU_gt (by omega)) h81 h77 hT
    refine ⟨τ, ?_, e2, fun k k1 k2 => e3 k k1 (by omega), fun j hj => by rw [e3 91 (by omega) (by omega)], fun j j1 j2 => by omega, fun j hj => e4 j (Or.inr hj), fun j hj => e5 j (Nat.zero_le _) hj, e6, e7⟩
    rw [TkV_s, h80, if_pos (Int32.le_refl _)]
    exact e1
  | succ d ih =>
    intro i hi m σ hm h80 h81 h77 hT
    obtain ⟨m, rfl⟩ : ∃ k, m = k + 1 := ⟨m - 1, by omega⟩
    obtain ⟨τ, e1, e2, e3, e4, e5, e6, e7, e8, e9⟩ := ih (i + 1) (by omega) m (mA σ 91 (upd (σ.2 91) i (σ.2 99 (a + i)))) (by omega) h80 h81 h77 hT
    refine ⟨τ, ?_, ⟨e2.1, fun k k1 k2 k3 k4 k5 k6 k7 => (e2.2 k k1 k2 k3 k4 k5 k6 k7).trans (if_neg k5)⟩, fun k k1 k2 => (e3 k k1 k2).trans (if_neg (by omega)), fun j hj => (e4 j (by omega)).trans (if_neg (by omega)), fun j j1 j2 => ?_, fun j hj => (e6 j hj).trans (by rw [mA_2, if_neg (by omega)]), e7, e8, e9⟩
    · rw [TkV_s, h80, if_neg (by rw [J_le (by omega) (by omega) (by omega) (by omega)]; omega), bndE, if_neg (g26 (by omega)), bndE, if_neg (gIn 100 (by omega) (by omega)), bndE, bndE, J_suc, J_suc, J_natN (by omega), J_natN (by omega)]
      exact e1
    · by_cases q : j = i
      · subst q
        rw [e4 j (by omega)]; exact if_pos rfl
      · exact e5 j (by omega) j2
def TkK (n : Nat) (y b : Int32) : MS → MR := fun (σ_z : MS) => bnd (b + 1) fun (x_145 : Int32) => loopF TkO n (y, x_145, σ_z)
theorem TkO_s2  (n : Nat) (a b : Int32) (X : MS) : loopF TkO (n + 1) (a, b, X) = ( if (X.1 78) < b then ( loopF TkV FU (a, 0, X) ) else ( bnd (a + 1) fun (x_103 : Int32) => if a < 0 ∨ 26000 ≤ a.toNatClampNeg then none else bnd ((X.2 99 a.toNatClampNeg)) fun (x_107 : Int32) => if b < 0 ∨ 121 ≤ b.toNatClampNeg then none else bnd (mA X 87 (upd (X.2 87) b.toNatClampNeg x_107)) fun σ_111 => bnd (x_103 + 1) fun (x_113 : Int32) => if x_103 < 0 ∨ 26000 ≤ x_103.toNatClampNeg then none else bnd ((σ_111.2 99 x_103.toNatClampNeg)) fun (x_117 : Int32) => if b < 0 ∨ 121 ≤ b.toNatClampNeg then none else bnd (mA σ_111 88 (upd (σ_111.2 88) b.toNatClampNeg x_117)) fun σ_121 => bnd (x_113 + 1) fun (x_123 : Int32) => if x_113 < 0 ∨ 26000 ≤ x_113.toNatClampNeg then none else bnd ((σ_121.2 99 x_113.toNatClampNeg)) fun (x_127 : Int32) => if b < 0 ∨ 121 ≤ b.toNatClampNeg then none else bnd (mA σ_121 89 (upd (σ_121.2 89) b.toNatClampNeg x_127)) fun σ_131 => bnd (x_123 + 1) fun (x_133 : Int32) => if x_123 < 0 ∨ 26000 ≤ x_123.toNatClampNeg then none else bnd ((σ_131.2 99 x_123.toNatClampNeg)) fun (x_137 : Int32) => loopF (TkT b x_137 (TkK n x_133 b)) FU (0, σ_131) ) ) := rfl
/-- a slot's things are fit to be taken back -/
def OBF4 (f : Nat → Int32) (b : Nat) (tr : Nat → Nat) (i : Nat) : Prop := f (b + 4 * i + 3) = J (tr (i + 1) : Nat) ∧ tr (i + 1) < 128
theorem TkO_go {l : Int} {b z nO nV nC : Nat} {tr : Nat → Nat} (hz : z < 21) (hO : nO ≤ 120) (hV : nV ≤ 100) (hC : nC ≤ 1000) (hb : b + 2600 ≤ 26000) : ∀ (d i : Nat), i + d = nO → ∀ (m : Nat) (σ : MS), d < m → σ.1 78 = J (nO : Nat) → σ.1 80 = J (nV : Nat) → σ.1 81 = J (z : Nat) → σ.2 77 z = J (nC : Nat) → (∀ j, i ≤ j → j < nO → OBF4 (σ.2 99) b tr j) → TLF (σ.2 99) (b + 4 * nO + nV + nC) l → ∃ τ, loopF TkO m (J (b + 4 * i : Nat), J (i + 1 : Nat), σ) = some (0, τ) ∧ rTak σ τ ∧ (∀ j, i ≤ j → j < nO → OB4 τ (σ.2 99) b tr j) ∧ (∀ y, y < i + 1 ∨ nO < y → τ.2 87 y = σ.2 87 y ∧ τ.2 88 y = σ.2 88 y ∧ τ.2 89 y = σ.2 89 y ∧ ∀ c, c < 7 → τ.2 90 (7 * y + c) = σ.2 90 (7 * y + c)) ∧ (∀ y, i + 1 ≤ y → y ≤ nO → ∀ c, c < 7 → τ.2 90 (7 * y + c) = if (tr y).testBit c = true then 1 else 0) ∧ (∀ j, nV ≤ j → τ.2 91 j = σ.2 91 j) ∧ (∀ j, j < nV → τ.2 91 j = σ.2 99 (b + 4 * nO + j)) ∧ (∀ j, nC ≤ j → τ.2 92 j = σ.2 92 j) ∧ (∀ j, j < nC → τ.2 92 j = σ.2 99 (b + 4 * nO + nV + j)) ∧ (∀ j : Nat, l ≤ j → τ.2 97 j = σ.2 97 j) ∧ TLK τ (σ.2 99) (b + 4 * nO + nV + nC) l := by
  intro d
  induction d with
  | zero =>
    intro i hi m σ hm h78 h80 h81 h77 hF hT
    obtain ⟨m, rfl⟩ : ∃ k, m = k + 1 := ⟨m - 1, by omega⟩
    obtain rfl : i = nO := by omega
    obtain ⟨τ, e1, e2, e3, e4, e5, e6, e7, e8, e9⟩ := TkV_go (a := b + 4 * i) hz hV hC (by omega) nV 0 (by omega) FU σ (FU_gt (by omega)) h80 h81 h77 hT
    refine ⟨τ, ?_, e2, fun j j1 j2 => by omega, fun y hy => ⟨by rw [e3 87 (by omega) (by omega)], by rw [e3 88 (by omega) (by omega)], by rw [e3 89 (by omega) (by omega)], fun c hc => by rw [e3 90 (by omega) (by omega)]⟩, fun y y1 y2 => by omega, fun j hj => e4 j (Or.inr hj), fun j hj => e5 j (Nat.zero_le _) hj, e6, e7, e8, e9⟩
    rw [TkO_s, h78, if_pos (by rw [J_lt (by omega) (by omega) (by omega) (by omega)]; omega)]
    exact e1
  | succ d ih =>
    intro i hi m σ hm h78 h80 h81 h77 hF hT
    obtain ⟨m, rfl⟩ : ∃ k, m = k + 1 := ⟨m - 1, by omega⟩
    obtain ⟨t1, t2⟩ := hF i (Nat.le_refl _) (by omega)
    obtain ⟨υ, u1, u2, u3, u4, u5⟩ := TkT_go (TkK m (J (b + 4 * i + 1 + 1 + 1 + 1 : Nat)) (J (i + 1 : Nat))) (x := i + 1) (by omega) t2 7 0 rfl FU (mA (mA (mA σ 87 (upd (σ.2 87) (i + 1) (σ.2 99 (b + 4 * i)))) 88 (upd (σ.2 88) (i + 1) (σ.2 99 (b + 4 * i + 1)))) 89 (upd (σ.2 89) (i + 1) (σ.2 99 (b + 4 * i + 1 + 1)))) (FU_gt (by omega))
    have v99 : υ.2 99 = σ.2 99 := u3 99 (by omega)
    have v77 : υ.2 77 = σ.2 77 := u3 77 (by omega)
    have v1 : υ.1 = σ.1 := u2
    obtain ⟨τ, e1, e2, e3, e4, e5, e6, e7, e8, e9, e10, e11⟩ := ih (i + 1) (by omega) m υ (by omega) (by rw [v1]; exact h78) (by rw [v1]; exact h80) (by rw [v1]; exact h81) (by rw [v77]; exact h77) (fun j j1 j2 => by rw [v99]; exact hF j (by omega) j2) (by rw [v99]; exact hT)
    rw [v99] at e3 e7 e9 e11
    have v87 : υ.2 87 = upd (σ.2 87) (i + 1) (σ.2 99 (b + 4 * i)) := u3 87 (by omega)
    have v88 : υ.2 88 = upd (σ.2 88) (i + 1) (σ.2 99 (b + 4 * i + 1)) := u3 88 (by omega)
    have v89 : υ.2 89 = upd (σ.2 89) (i + 1) (σ.2 99 (b + 4 * i + 1 + 1)) := u3 89 (by omega)
    refine ⟨τ, ?_, ⟨fun k k1 k2 k3 k4 k5 => (e2.1 k k1 k2 k3 k4 k5).trans (by rw [v1]), fun k k1 k2 k3 k4 k5 k6 k7 => (e2.2 k k1 k2 k3 k4 k5 k6 k7).trans ((u3 k k4).trans (by rw [mA_2, if_neg k3, mA_2, if_neg k2, mA_2, if_neg k1]))⟩, fun j j1 j2 => ?_, fun y hy => ?_, fun y y1 y2 c hc => ?_, fun j hj => (e6 j hj).trans (by rw [u3 91 (by omega)]; rfl), e7, fun j hj => (e8 j hj).trans (by rw [u3 92 (by omega)]; rfl), e9, fun j hj => (e10 j hj).trans (by rw [u3 97 (by omega)]; rfl), e11⟩
    · have s := TkO_s2 m (J (b + 4 * i : Nat)) (J (i + 1 : Nat)) σ
      rw [h78, if_neg (by rw [J_lt (by omega) (by omega) (by omega) (by omega)]; omega), bndE, if_neg (g26 (by omega)), bndE, if_neg (gIn 121 (by omega) (by omega)), bndE, J_suc (b + 4 * i), bndE, if_neg (g26 (by omega)), bndE, if_neg (gIn 121 (by omega) (by omega)), bndE, J_suc (b + 4 * i + 1), bndE, if_neg (g26 (by omega)), bndE, if_neg (gIn 121 (by omega) (by omega)), bndE, J_suc (b + 4 * i + 1 + 1), bndE, if_neg (g26 (by omega)), bndE, J_suc (b + 4 * i + 1 + 1 + 1), J_natN (n := i + 1) (by omega), J_natN (n := b + 4 * i) (by omega), J_natN (n := b + 4 * i + 1) (by omega), J_natN (n := b + 4 * i + 1 + 1) (by omega), J_natN (n := b + 4 * i + 1 + 1 + 1) (by omega)] at s
      rw [s]
      rw [← show σ.2 99 (b + 4 * i + 3) = J (tr (i + 1) : Nat) from t1] at u1
      refine u1.trans ?_
      unfold TkK
      rw [bndE, J_suc]
      exact e1
    · by_cases q : j = i
      · subst q
        obtain ⟨y1, y2, y3, y4⟩ := e4 (j + 1) (Or.inl (by omega))
        refine ⟨?_, ?_, ?_, t1⟩
        · rw [y1, v87]; exact (if_pos rfl).symm
        · rw [y2, v88]; exact (if_pos rfl).symm
        · rw [y3, v89]; exact (if_pos rfl).symm
      · exact e3 j (by omega) j2
    · obtain ⟨y1, y2, y3, y4⟩ := e4 y (by omega)
      refine ⟨y1.trans ?_, y2.trans ?_, y3.trans ?_, fun c hc => (y4 c hc).trans (u4 _ (by omega))⟩
      · rw [v87]; exact if_neg (by omega)
      · rw [v88]; exact if_neg (by omega)
      · rw [v89]; exact if_neg (by omega)
    · by_cases q : y = i + 1
      · subst q
        obtain ⟨-, -, -, y4⟩ := e4 (i + 1) (Or.inl (by omega))
        rw [y4 c hc]
        exact u5 c (Nat.zero_le _) hc
      · exact e5 y (by omega) y2 c hc
/-- the counts that take goes by -/
def CNT3 (σ : MS) (nO nV nC : Nat) : Prop := nO ≤ 120 ∧ nV ≤ 100 ∧ nC ≤ 1000 ∧ σ.1 78 = J (nO : Nat) ∧ σ.1 80 = J (nV : Nat) ∧ ∃ z : Nat, z < 21 ∧ σ.1 81 = J (z : Nat) ∧ σ.2 77 z = J (nC : Nat)
theorem r_take {σ σ0 : MS} {nO nV nC p : Nat} {tr : Nat → Nat} {l : Int} (h : CNT3 σ nO nV nC) (hp : p ≤ 9) (hk : KPT σ0 (σ.2 99) (2600 * p) nO tr nV nC l) (ht : ∀ x, 1 ≤ x → x ≤ nO → tr x < 128) (h98 : σ0.1 98 = J l) (hl : -1 ≤ l ∧ l ≤ 120) (hb : ∀ j : Nat, (j : Int) < l → ∃ c : Int, σ0.2 97 j = J c ∧ -128 ≤ c ∧ c < 128) : ∃ τ, F_X12_take (J (p : Nat)) σ = some (0, τ) ∧ rTak σ τ ∧ (∀ y, 1 ≤ y → y ≤ nO → τ.2 87 y = σ0.2 87 y ∧ τ.2 88 y = σ0.2 88 y ∧ τ.2 89 y = σ0.2 89 y ∧ ∀ c, c < 7 → τ.2 90 (7 * y + c) = if (tr y).testBit c = true then 1 else 0) ∧ (∀ y, y = 0 ∨ nO < y → τ.2 87 y = σ.2 87 y ∧ τ.2 88 y = σ.2 88 y ∧ τ.2 89 y = σ.2 89 y ∧ ∀ c, c < 7 → τ.2 90 (7 * y + c) = σ.2 90 (7 * y + c)) ∧ (∀ j, j < nV → τ.2 91 j = σ0.2 91 j) ∧ (∀ j, nV ≤ j → τ.2 91 j = σ.2 91 j) ∧ (∀ j, j < nC → τ.2 92 j = σ0.2 92 j) ∧ (∀ j, nC ≤ j → τ.2 92 j = σ.2 92 j) ∧ (τ.1 93 = σ0.1 93 ∧ τ.1 94 = σ0.1 94 ∧ τ.1 95 = σ0.1 95 ∧ τ.1 96 = σ0.1 96 ∧ τ.1 98 = σ0.1 98) ∧ (∀ j : Nat, (j : Int) < l → τ.2 97 j = σ0.2 97 j) ∧ ∀ j : Nat, l ≤ j → τ.2 97 j = σ.2 97 j := by
  obtain ⟨h1, h2, h3, h6, h7, z, z1, z2, z3⟩ := h
  obtain ⟨k1, k2, k3, k4, k5, k6, k7, k8, k9⟩ := hk
  obtain ⟨τ, e1, e2, e3, e4, e5, e6, e7, e8, e9, e10, e11⟩ := TkO_go (l := l) (b := 2600 * p) (tr := tr) z1 h1 h2 h3 (by omega) nO 0 (by omega) FU σ (FU_gt (by omega)) h6 h7 z2 z3 (fun j _ j2 => ⟨(k1 j j2).2.2.2, ht (j + 1) (by omega) (by omega)⟩) ⟨by rw [k8, h98], hl.1, hl.2, fun j hj => by obtain ⟨c, c1, c2⟩ := hb j hj; exact ⟨c, by rw [k9 j hj, c1], c2⟩⟩
  obtain ⟨f1, f2, f3, f4, f5, f6⟩ := e11
  refine ⟨τ, ?_, e2, fun y y1 y2 => ?_, fun y hy => e4 y (by omega), fun j hj => (e7 j hj).trans (k2 j hj), e6, fun j hj => (e9 j hj).trans (k3 j hj), e8, ⟨f1.symm.trans k4, f2.symm.trans k5, f3.symm.trans k6, f4.symm.trans k7, f5.symm.trans k8⟩, fun j hj => (f6 j hj).symm.trans (k9 j hj), e10⟩
  · rw [take_eq, bndE, show (2600 : Int32) = J ((2600 : Nat) : Int) from rfl, J_mul, show ((2600 : Nat) : Int) * (p : Nat) = ((2600 * p : Nat) : Int) by omega]
    exact e1
  · obtain ⟨y', rfl⟩ : ∃ y', y = y' + 1 := ⟨y - 1, by omega⟩
    obtain ⟨a1, a2, a3, -⟩ := k1 y' (by omega)
    obtain ⟨b1, b2, b3, -⟩ := e3 y' (Nat.zero_le _) (by omega)
    exact ⟨b1.symm.trans a1, b2.symm.trans a2, b3.symm.trans a3, e5 (y' + 1) (by omega) y2⟩
