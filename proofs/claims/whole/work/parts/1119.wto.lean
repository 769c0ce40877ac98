/-! the reference keeps a name's letters -/
variable {T N : Nat} {kd vl rv : Nat → Int} {pl : Nat → Nat}
theorem lowB_isLt (c : Int) : lowB c = isLt c := by
  unfold lowB isLt
  rw [Bool.decide_and]
def flW (w : List Int) (k : Nat) : Int := if ∀ j, j < k → lowB (w.getD j 0) = true then 1 else 0
theorem flW_suc {w : List Int} {k : Nat} : J (flW w k) &&& J (if isLt (w.getD k 0) then 1 else 0) = J (flW w (k + 1)) := by
  rw [← lowB_isLt]
  unfold flW
  by_cases q : ∀ j, j < k → lowB (w.getD j 0) = true
  · rw [if_pos q]
    by_cases q2 : lowB (w.getD k 0) = true
    · rw [if_pos q2, if_pos (fun j hj => by
        by_cases e : j = k
        · rw [e]; exact q2
        · exact q j (by omega))]; decide
    · rw [if_neg q2, if_neg (fun h => q2 (h k (by omega)))]; decide
  · rw [if_neg q, show (if ∀ j, j < k + 1 → lowB (w.getD j 0) = true then (1 : Int) else 0) = 0 from if_neg (fun h => q (fun j hj => h j (by omega)))]
    split <;> decide
/-- a name's letters stand from p on -/
def WTO (A : Nat) (p : Nat) (w : List Int) (σ τ : MS) : Prop := frA (fun k => k = A) σ τ ∧ (∀ k, k < wmn w → τ.2 A (p + k) = J (w.getD k 0)) ∧ ∀ y, ¬ (p ≤ y ∧ y < p + 9) → τ.2 A y = σ.2 A y
def WtwordBytes (p1 p2 x_3 : Int32) : ((Int32 × Int32 × MS) → MR) → Int32 × Int32 × MS → MR := (fun (again_6 : (Int32 × Int32 × MS) → MR) (s_5 : Int32 × Int32 × MS) => ( if x_3 ≤ s_5.2.1 then ( if s_5.1 = 0 then ( some ((-1), s_5.2.2) ) else ( some (x_3, s_5.2.2) ) ) else ( bnd (((12 * p2) + s_5.2.1)) fun (x_15 : Int32) => if x_15 < 0 ∨ 96000 ≤ x_15.toNatClampNeg then none else bnd ((s_5.2.2.2 11 x_15.toNatClampNeg)) fun (x_19 : Int32) => if (p1 + s_5.2.1) < 0 ∨ 10890 ≤ (p1 + s_5.2.1).toNatClampNeg then none else bnd (mA s_5.2.2 54 (upd (s_5.2.2.2 54) (p1 + s_5.2.1).toNatClampNeg (vp_nar .byte x_19))) fun σ_23 => bnd ((p1 + s_5.2.1)) fun (x_25 : Int32) => if x_25 < 0 ∨ 10890 ≤ x_25.toNatClampNeg then none else (F_X12_small (σ_23.2 54 x_25.toNatClampNeg) σ_23).bind fun u_29 => bnd ((s_5.1 &&& u_29.1)) fun (x_31 : Int32) => bnd (s_5.2.1 + 1) fun (x_33 : Int32) => again_6 (x_31, x_33, u_29.2) ) ))
theorem wt_wordBytes_eq (p1 p2 : Int32) (σ : MS) : F_X12_wordTo_wordBytes p1 p2 σ = if p2 < 0 ∨ 8000 ≤ p2.toNatClampNeg then none else bnd ((if (σ.2 12 p2.toNatClampNeg) < 9 then (σ.2 12 p2.toNatClampNeg) else 9)) fun (x_3 : Int32) => loopF (WtwordBytes p1 p2 x_3) FU (1, 0, σ) := rfl
theorem r_wt_wordBytes {σ : MS} {r p : Nat} {w : List Int} (hr : r < 8000) (hp : p + 9 ≤ 10890) (h : isNm σ r w) (hw : nmW w) : ∃ τ, F_X12_wordTo_wordBytes (J (p : Nat)) (J (r : Nat)) σ = some (J (wsz w), τ) ∧ WTO 54 p w σ τ := by
  obtain ⟨n1, n2⟩ := h
  obtain ⟨w1, w2, w3⟩ := hw
  have hm9 := wmn_le w
  have hml : wmn w ≤ w.length := by unfold wmn; split <;> omega
  have g8 := gNn (k := r) (n := 8000) hr (by omega)
  have ex : (if J (w.length : Nat) < 9 then J (w.length : Nat) else (9 : Int32)) = J (wmn w : Nat) := by
    unfold wmn
    by_cases q : w.length < 9
    · rw [if_pos q, if_pos (by rw [show (9 : Int32) = J 9 from rfl, J_lt (by omega) (by omega) (by omega) (by omega)]; omega)]
    · rw [if_neg q, if_neg (by rw [show (9 : Int32) = J 9 from rfl, J_lt (by omega) (by omega) (by omega) (by omega)]; omega)]; rfl
  rw [wt_wordBytes_eq, if_neg g8, J_natN (by omega), n1, bndE, ex]
  have hl : ∀ (d k : Nat) (τ : MS), k + d = wmn w → frA (fun k => k = 54) σ τ → (∀ j, j < k → τ.2 54 (p + j) = J (w.getD j 0)) → (∀ y, ¬ (p ≤ y ∧ y < p + 9) → τ.2 54 y = σ.2 54 y) → ∀ m, d < m → ∃ υ, loopF (WtwordBytes (J (p : Nat)) (J (r : Nat)) (J (wmn w : Nat))) m (J (flW w k), J (k : Nat), τ) = some (J (wsz w), υ) ∧ WTO 54 p w σ υ := by
    intro d
    induction d with
    | zero =>
      intro k τ hk t1 t2 t3 m hm
      obtain ⟨m, rfl⟩ : ∃ m', m = m' + 1 := ⟨m - 1, by omega⟩
      obtain rfl : k = wmn w := by omega
      refine ⟨τ, ?_, t1, t2, t3⟩
      show WtwordBytes (J (p : Nat)) (J (r : Nat)) (J (wmn w : Nat)) (loopF (WtwordBytes (J (p : Nat)) (J (r : Nat)) (J (wmn w : Nat))) m) (J (flW w (wmn w)), J (wmn w : Nat), τ) = _
      unfold WtwordBytes
      dsimp only
      rw [if_pos (Int32.le_refl _)]
      unfold flW wsz
      by_cases q : ∀ j, j < wmn w → lowB (w.getD j 0) = true
      · rw [if_pos q, if_pos q, if_neg (show ¬ J 1 = 0 by decide)]
      · rw [if_neg q, if_neg q, if_pos (show J 0 = 0 from rfl)]; rfl
    | succ d ih =>
      intro k τ hk t1 t2 t3 m hm
      obtain ⟨m, rfl⟩ : ∃ m', m = m' + 1 := ⟨m - 1, by omega⟩
      have hc := isLF_rng (w3 k (by omega))
      have e11 : τ.2 11 (12 * r + k) = J (w.getD k 0) := by rw [t1.2 11 (by omega)]; exact n2 k (by omega)
      obtain ⟨υ, u1, u2⟩ := ih (k + 1) (mA τ 54 (upd (τ.2 54) (p + k) (J (w.getD k 0)))) (by omega) (frA_mA t1 rfl) (fun j hj => by
        rw [mA_2, if_pos rfl, upd_s]
        by_cases q : j = k
        · rw [if_pos (by omega), q]
        · rw [if_neg (by omega)]; exact t2 j (by omega)) (fun y hy => by rw [mA_2, if_pos rfl, upd_s, if_neg (by omega)]; exact t3 y hy) m (by omega)
      refine ⟨υ, ?_, u2⟩
      rw [← u1]
      show WtwordBytes (J (p : Nat)) (J (r : Nat)) (J (wmn w : Nat)) (loopF (WtwordBytes (J (p : Nat)) (J (r : Nat)) (J (wmn w : Nat))) m) (J (flW w k), J (k : Nat), τ) = _
      generalize loopF (WtwordBytes (J (p : Nat)) (J (r : Nat)) (J (wmn w : Nat))) m = lp
      unfold WtwordBytes
      simp only [bndE]
      rw [if_neg (Jle_no (show k < wmn w by omega) (by omega)), show 12 * J (r : Nat) + J (k : Nat) = J (12 * r + k : Nat) by rw [show (12 : Int32) = J 12 from rfl, J_mul, J_add]; congr 1, if_neg (gNn (k := 12 * r + k) (n := 96000) (by omega) (by omega)), J_natN (by omega), e11, show J (p : Nat) + J (k : Nat) = J (p + k : Nat) by rw [J_add]; rfl, if_neg (gNn (k := p + k) (n := 10890) (by omega) (by omega)), if_neg (gNn (k := p + k) (n := 10890) (by omega) (by omega)), J_natN (by omega), J_byte (by omega) (by omega), mA_2, if_pos rfl, upd_s, if_pos rfl, r_small (by omega), Option.bind_some]
      dsimp only
      rw [flW_suc, J_suc]
  obtain ⟨τ, e, h⟩ := hl (wmn w) 0 σ (by omega) frA_rfl (fun j hj => by omega) (fun _ _ => rfl) FU (FU_gt (by omega))
  have e0 : J (flW w 0) = 1 := by
    unfold flW
    rw [if_pos (fun j hj => absurd hj (by omega))]; rfl
  rw [e0] at e
  exact ⟨τ, e, h⟩
def WtverbBytes (p1 p2 x_3 : Int32) : ((Int32 × Int32 × MS) → MR) → Int32 × Int32 × MS → MR := (fun (again_6 : (Int32 × Int32 × MS) → MR) (s_5 : Int32 × Int32 × MS) => ( if x_3 ≤ s_5.2.1 then ( if s_5.1 = 0 then ( some ((-1), s_5.2.2) ) else ( some (x_3, s_5.2.2) ) ) else ( bnd (((12 * p2) + s_5.2.1)) fun (x_15 : Int32) => if x_15 < 0 ∨ 96000 ≤ x_15.toNatClampNeg then none else bnd ((s_5.2.2.2 11 x_15.toNatClampNeg)) fun (x_19 : Int32) => if (p1 + s_5.2.1) < 0 ∨ 5490 ≤ (p1 + s_5.2.1).toNatClampNeg then none else bnd (mA s_5.2.2 57 (upd (s_5.2.2.2 57) (p1 + s_5.2.1).toNatClampNeg (vp_nar .byte x_19))) fun σ_23 => bnd ((p1 + s_5.2.1)) fun (x_25 : Int32) => if x_25 < 0 ∨ 5490 ≤ x_25.toNatClampNeg then none else (F_X12_small (σ_23.2 57 x_25.toNatClampNeg) σ_23).bind fun u_29 => bnd ((s_5.1 &&& u_29.1)) fun (x_31 : Int32) => bnd (s_5.2.1 + 1) fun (x_33 : Int32) => again_6 (x_31, x_33, u_29.2) ) ))
theorem wt_verbBytes_eq (p1 p2 : Int32) (σ : MS) : F_X12_wordTo_verbBytes p1 p2 σ = if p2 < 0 ∨ 8000 ≤ p2.toNatClampNeg then none else bnd ((if (σ.2 12 p2.toNatClampNeg) < 9 then (σ.2 12 p2.toNatClampNeg) else 9)) fun (x_3 : Int32) => loopF (WtverbBytes p1 p2 x_3) FU (1, 0, σ) := rfl
theorem r_wt_verbBytes {σ : MS} {r p : Nat} {w : List Int} (hr : r < 8000) (hp : p + 9 ≤ 5490) (h : isNm σ r w) (hw : nmW w) : ∃ τ, F_X12_wordTo_verbBytes (J (p : Nat)) (J (r : Nat)) σ = some (J (wsz w), τ) ∧ WTO 57 p w σ τ := by
  obtain ⟨n1, n2⟩ := h
  obtain ⟨w1, w2, w3⟩ := hw
  have hm9 := wmn_le w
  have hml : wmn w ≤ w.length := by unfold wmn; split <;> omega
  have g8 := gNn (k := r) (n := 8000) hr (by omega)
  have ex : (if J (w.length : Nat) < 9 then J (w.length : Nat) else (9 : Int32)) = J (wmn w : Nat) := by
    unfold wmn
    by_cases q : w.length < 9
    · rw [if_pos q, if_pos (by rw [show (9 : Int32) = J 9 from rfl, J_lt (by omega) (by omega) (by omega) (by omega)]; omega)]
    · rw [if_neg q, if_neg (by rw [show (9 : Int32) = J 9 from rfl, J_lt (by omega) (by omega) (by omega) (by omega)]; omega)]; rfl
  rw [wt_verbBytes_eq, if_neg g8, J_natN (by omega), n1, bndE, ex]
  have hl : ∀ (d k : Nat) (τ : MS), k + d = wmn w → frA (fun k => k = 57) σ τ → (∀ j, j < k → τ.2 57 (p + j) = J (w.getD j 0)) → (∀ y, ¬ (p ≤ y ∧ y < p + 9) → τ.2 57 y = σ.2 57 y) → ∀ m, d < m → ∃ υ, loopF (WtverbBytes (J (p : Nat)) (J (r : Nat)) (J (wmn w : Nat))) m (J (flW w k), J (k : Nat), τ) = some (J (wsz w), υ) ∧ WTO 57 p w σ υ := by
    intro d
    induction d with
    | zero =>
      intro k τ hk t1 t2 t3 m hm
      obtain ⟨m, rfl⟩ : ∃ m', m = m' + 1 := ⟨m - 1, by omega⟩
      obtain rfl : k = wmn w := by omega
      refine ⟨τ, ?_, t1, t2, t3⟩
      show WtverbBytes (J (p : Nat)) (J (r : Nat)) (J (wmn w : Nat)) (loopF (WtverbBytes (J (p : Nat)) (J (r : Nat)) (J (wmn w : Nat))) m) (J (flW w (wmn w)), J (wmn w : Nat), τ) = _
      unfold WtverbBytes
      dsimp only
      rw [if_pos (Int32.le_refl _)]
      unfold flW wsz
      by_cases q : ∀ j, j < wmn w → lowB (w.getD j 0) = true
      · rw [if_pos q, if_pos q, if_neg (show ¬ J 1 = 0 by decide)]
      · rw [if_neg q, if_neg q, if_pos (show J 0 = 0 from rfl)]; rfl
    | succ d ih =>
      intro k τ hk t1 t2 t3 m hm
      obtain ⟨m, rfl⟩ : ∃ m', m = m' + 1 := ⟨m - 1, by omega⟩
      have hc := isLF_rng (w3 k (by omega))
      have e11 : τ.2 11 (12 * r + k) = J (w.getD k 0) := by rw [t1.2 11 (by omega)]; exact n2 k (by omega)
      obtain ⟨υ, u1, u2⟩ := ih (k + 1) (mA τ 57 (upd (τ.2 57) (p + k) (J (w.getD k 0)))) (by omega) (frA_mA t1 rfl) (fun j hj => by
        rw [mA_2, if_pos rfl, upd_s]
        by_cases q : j = k
        · rw [if_pos (by omega), q]
        · rw [if_neg (by omega)]; exact t2 j (by omega)) (fun y hy => by rw [mA_2, if_pos rfl, upd_s, if_neg (by omega)]; exact t3 y hy) m (by omega)
      refine ⟨υ, ?_, u2⟩
      rw [← u1]
      show WtverbBytes (J (p : Nat)) (J (r : Nat)) (J (wmn w : Nat)) (loopF (WtverbBytes (J (p : Nat)) (J (r : Nat)) (J (wmn w : Nat))) m) (J (flW w k), J (k : Nat), τ) = _
      generalize loopF (WtverbBytes (J (p : Nat)) (J (r : Nat)) (J (wmn w : Nat))) m = lp
      unfold WtverbBytes
      simp only [bndE]
      rw [if_neg (Jle_no (show k < wmn w by omega) (by omega)), show 12 * J (r : Nat) + J (k : Nat) = J (12 * r + k : Nat) by rw [show (12 : Int32) = J 12 from rfl, J_mul, J_add]; congr 1, if_neg (gNn (k := 12 * r + k) (n := 96000) (by omega) (by omega)), J_natN (by omega), e11, show J (p : Nat) + J (k : Nat) = J (p + k : Nat) by rw [J_add]; rfl, if_neg (gNn (k := p + k) (n := 5490) (by omega) (by omega)), if_neg (gNn (k := p + k) (n := 5490) (by omega) (by omega)), J_natN (by omega), J_byte (by omega) (by omega), mA_2, if_pos rfl, upd_s, if_pos rfl, r_small (by omega), Option.bind_some]
      dsimp only
      rw [flW_suc, J_suc]
  obtain ⟨τ, e, h⟩ := hl (wmn w) 0 σ (by omega) frA_rfl (fun j hj => by omega) (fun _ _ => rfl) FU (FU_gt (by omega))
  have e0 : J (flW w 0) = 1 := by
    unfold flW
    rw [if_pos (fun j hj => absurd hj (by omega))]; rfl
  rw [e0] at e
  exact ⟨τ, e, h⟩
def Wtbetween (p1 p2 x_3 : Int32) : ((Int32 × Int32 × MS) → MR) → Int32 × Int32 × MS → MR := (fun (again_6 : (Int32 × Int32 × MS) → MR) (s_5 : Int32 × Int32 × MS) => ( if x_3 ≤ s_5.2.1 then ( if s_5.1 = 0 then ( some ((-1), s_5.2.2) ) else ( some (x_3, s_5.2.2) ) ) else ( bnd (((12 * p2) + s_5.2.1)) fun (x_15 : Int32) => if x_15 < 0 ∨ 96000 ≤ x_15.toNatClampNeg then none else bnd ((s_5.2.2.2 11 x_15.toNatClampNeg)) fun (x_19 : Int32) => if (p1 + s_5.2.1) < 0 ∨ 549 ≤ (p1 + s_5.2.1).toNatClampNeg then none else bnd (mA s_5.2.2 61 (upd (s_5.2.2.2 61) (p1 + s_5.2.1).toNatClampNeg (vp_nar .byte x_19))) fun σ_23 => bnd ((p1 + s_5.2.1)) fun (x_25 : Int32) => if x_25 < 0 ∨ 549 ≤ x_25.toNatClampNeg then none else (F_X12_small (σ_23.2 61 x_25.toNatClampNeg) σ_23).bind fun u_29 => bnd ((s_5.1 &&& u_29.1)) fun (x_31 : Int32) => bnd (s_5.2.1 + 1) fun (x_33 : Int32) => again_6 (x_31, x_33, u_29.2) ) ))
theorem wt_between_eq (p1 p2 : Int32) (σ : MS) : F_X12_wordTo_between p1 p2 σ = if p2 < 0 ∨ 8000 ≤ p2.toNatClampNeg then none else bnd ((if (σ.2 12 p2.toNatClampNeg) < 9 then (σ.2 12 p2.toNatClampNeg) else 9)) fun (x_3 : Int32) => loopF (Wtbetween p1 p2 x_3) FU (1, 0, σ) := rfl
theorem r_wt_between {σ : MS} {r p : Nat} {w : List Int} (hr : r < 8000) (hp : p + 9 ≤ 549) (h : isNm σ r w) (hw : nmW w) : ∃ τ, F_X12_wordTo_between (J (p : Nat)) (J (r : Nat)) σ = some (J (wsz w), τ) ∧ WTO 61 p w σ τ := by
  obtain ⟨n1, n2⟩ := h
  obtain ⟨w1, w2, w3⟩ := hw
  have hm9 := wmn_le w
  have hml : wmn w ≤ w.length := by unfold wmn; split <;> omega
  have g8 := gNn (k := r) (n := 8000) hr (by omega)
  have ex : (if J (w.length : Nat) < 9 then J (w.length : Nat) else (9 : Int32)) = J (wmn w : Nat) := by
    unfold wmn
    by_cases q : w.length < 9
    · rw [if_pos q, if_pos (by rw [show (9 : Int32) = J 9 from rfl, J_lt (by omega) (by omega) (by omega) (by omega)]; omega)]
    · rw [if_neg q, if_neg (by rw [show (9 : Int32) = J 9 from rfl, J_lt (by omega) (by omega) (by omega) (by omega)]; omega)]; rfl
  rw [wt_between_eq, if_neg g8, J_natN (by omega), n1, bndE, ex]
  have hl : ∀ (d k : Nat) (τ : MS), k + d = wmn w → frA (fun k => k = 61) σ τ → (∀ j, j < k → τ.2 61 (p + j) = J (w.getD j 0)) → (∀ y, ¬ (p ≤ y ∧ y < p + 9) → τ.2 61 y = σ.2 61 y) → ∀ m, d < m → ∃ υ, loopF (Wtbetween (J (p : Nat)) (J (r : Nat)) (J (wmn w : Nat))) m (J (flW w k), J (k : Nat), τ) = some (J (wsz w), υ) ∧ WTO 61 p w σ υ := by
    intro d
    induction d with
    | zero =>
      intro k τ hk t1 t2 t3 m hm
      obtain ⟨m, rfl⟩ : ∃ m', m = m' + 1 := ⟨m - 1, by omega⟩
      obtain rfl : k = wmn w := by omega
      refine ⟨τ, ?_, t1, t2, t3⟩
      show Wtbetween (J (p : Nat)) (J (r : Nat)) (J (wmn w : Nat)) (loopF (Wtbetween (J (p : Nat)) (J (r : Nat)) (J (wmn w : Nat))) m) (J (flW w (wmn w)), J (wmn w : Nat), τ) = _
      unfold Wtbetween
      dsimp only
      rw [if_pos (Int32.le_refl _)]
      unfold flW wsz
      by_cases q : ∀ j, j < wmn w → lowB (w.getD j 0) = true
      · rw [if_pos q, if_pos q, if_neg (show ¬ J 1 = 0 by decide)]
      · rw [if_neg q, if_neg q, if_pos (show J 0 = 0 from rfl)]; rfl
    | succ d ih =>
      intro k τ hk t1 t2 t3 m hm
      obtain ⟨m, rfl⟩ : ∃ m', m = m' + 1 := ⟨m - 1, by omega⟩
      have hc := isLF_rng (w3 k (by omega))
      have e11 : τ.2 11 (12 * r + k) = J (w.getD k 0) := by rw [t1.2 11 (by omega)]; exact n2 k (by omega)
      obtain ⟨υ, u1, u2⟩ := ih (k + 1) (mA τ 61 (upd (τ.2 61) (p + k) (J (w.getD k 0)))) (by omega) (frA_mA t1 rfl) (fun j hj => by
        rw [mA_2, if_pos rfl, upd_s]
        by_cases q : j = k
        · rw [if_pos (by omega), q]
        · rw [if_neg (by omega)]; exact t2 j (by omega)) (fun y hy => by rw [mA_2, if_pos rfl, upd_s, if_neg (by omega)]; exact t3 y hy) m (by omega)
      refine ⟨υ, ?_, u2⟩
      rw [← u1]
      show Wtbetween (J (p : Nat)) (J (r : Nat)) (J (wmn w : Nat)) (loopF (Wtbetween (J (p : Nat)) (J (r : Nat)) (J (wmn w : Nat))) m) (J (flW w k), J (k : Nat), τ) = _
      generalize loopF (Wtbetween (J (p : Nat)) (J (r : Nat)) (J (wmn w : Nat))) m = lp
      unfold Wtbetween
      simp only [bndE]
      rw [if_neg (Jle_no (show k < wmn w by omega) (by omega)), show 12 * J (r : Nat) + J (k : Nat) = J (12 * r + k : Nat) by rw [show (12 : Int32) = J 12 from rfl, J_mul, J_add]; congr 1, if_neg (gNn (k := 12 * r + k) (n := 96000) (by omega) (by omega)), J_natN (by omega), e11, show J (p : Nat) + J (k : Nat) = J (p + k : Nat) by rw [J_add]; rfl, if_neg (gNn (k := p + k) (n := 549) (by omega) (by omega)), if_neg (gNn (k := p + k) (n := 549) (by omega) (by omega)), J_natN (by omega), J_byte (by omega) (by omega), mA_2, if_pos rfl, upd_s, if_pos rfl, r_small (by omega), Option.bind_some]
      dsimp only
      rw [flW_suc, J_suc]
  obtain ⟨τ, e, h⟩ := hl (wmn w) 0 σ (by omega) frA_rfl (fun j hj => by omega) (fun _ _ => rfl) FU (FU_gt (by omega))
  have e0 : J (flW w 0) = 1 := by
    unfold flW
    rw [if_pos (fun j hj => absurd hj (by omega))]; rfl
  rw [e0] at e
  exact ⟨τ, e, h⟩
