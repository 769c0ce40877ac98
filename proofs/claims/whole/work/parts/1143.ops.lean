/-! the class's machine: what changes numbers, calls, ends -/
theorem m_setVar {p ln v t : Nat} {Γ : HS} (h : MC0 ln Γ p (t + 1)) (hpl : p + 2 < ln) (ht : t < 8990) (hv : v < 100) (ho : op3 Γ p 37 (v : Nat)) : ∃ Δ, CSP 1 Γ Δ ∧ JMP (cA' Γ 9 4 (upd ((Γ 9).2.1 4) v ((Γ 10).2.1 6 t))) Δ t (p + 3) := by
  have e : F_X3_wideOp (J 37) (J (v : Nat)) (pcS Γ (p + 3)) = some ((0 : Int32), cA' (ppS (pcS Γ (p + 3)) t) 9 4 (upd ((Γ 9).2.1 4) v ((Γ 10).2.1 6 t))) := by
    unfold F_X3_wideOp
    rw [if_neg (by decide), if_neg (by decide), if_neg (by decide), if_neg (by decide), if_pos (by decide), c_popP (t := t) h.2.2.1 (by omega), Option.bind_some, st_pc]
    dsimp only
    rw [bndE, q_g_put_in (by omega) (by omega) (by omega)]; rfl
  refine ⟨_, CSP_3 h hpl ho (by omega) (by omega) e, ⟨fun r hr => ?_, fun k k7 k9 => ?_, fun k k6 => rfl, fun j hj => rfl⟩, rfl, rfl⟩
  · rw [cA_r, cA_r]
    by_cases e9 : r = 9
    · rw [if_pos e9, if_pos e9]; rfl
    · rw [if_neg e9, if_neg e9]; unfold ppS pcS; rw [cI_r, if_neg hr, cI_r, if_neg hr]
  · show upd _ _ _ _ = _
    rw [upd_s, if_neg k7]
    show upd _ _ _ _ = _
    rw [upd_s, if_neg k9]; rfl
theorem m_setLocal {p ln v t bC : Nat} {Γ : HS} (h : MC0 ln Γ p (t + 1)) (hpl : p + 2 < ln) (ht : t < 8990) (hb : (Γ 10).1 8 = J (bC : Nat)) (hv : bC + v < 9000) (hv2 : v < 14) (ho : op3 Γ p 38 (v : Nat)) : ∃ Δ, CSP 1 Γ Δ ∧ JMP (cA' Γ 10 6 (upd ((Γ 10).2.1 6) (bC + v) ((Γ 10).2.1 6 t))) Δ t (p + 3) := by
  have e : F_X3_wideOp (J 38) (J (v : Nat)) (pcS Γ (p + 3)) = some ((0 : Int32), cA' (ppS (pcS Γ (p + 3)) t) 10 6 (upd ((Γ 10).2.1 6) (bC + v) ((Γ 10).2.1 6 t))) := by
    unfold F_X3_wideOp
    rw [if_neg (by decide), if_neg (by decide), if_neg (by decide), if_neg (by decide), if_neg (by decide), if_pos (by decide), c_popP (t := t) h.2.2.1 (by omega), Option.bind_some, st_pc]
    dsimp only
    rw [bndE, show ((pcS Γ (p + 3)) 10).1 8 = J (bC : Nat) from hb, J_add, show ((bC : Nat) : Int) + (v : Nat) = ((bC + v : Nat) : Int) by omega, q_g_put_in (by omega) (by omega) (by omega)]; rfl
  refine ⟨_, CSP_3 h hpl ho (by omega) (by omega) e, ⟨fun r hr => ?_, fun k k7 k9 => ?_, fun k k6 => ?_, fun j hj => rfl⟩, rfl, rfl⟩
  · rw [cA_r, cA_r, if_neg hr, if_neg hr]; unfold ppS pcS; rw [cI_r, if_neg hr, cI_r, if_neg hr]
  · show upd _ _ _ _ = _
    rw [upd_s, if_neg k7]
    show upd _ _ _ _ = _
    rw [upd_s, if_neg k9]; rfl
  · show updA _ _ _ _ = updA _ _ _ _
    rw [updA_s, updA_s, if_neg k6, if_neg k6]; rfl
theorem m_setCell {p ln t k nA : Nat} {en : Nat → Nat} {z : Int} {Γ : HS} (h : MC0 ln Γ p (t + 2)) (hpl : p + 2 < ln) (ht : t < 8990) (ho : op3 Γ p 39 (k : Nat)) (hA : AEND Γ en nA) (hk : k < nA) (h0 : en 0 = 0) (hm : en k ≤ en (k + 1)) (hb : en (k + 1) ≤ 1000) (hz : (Γ 10).2.1 6 t = J z) (hz2 : -32768 ≤ z ∧ z ≤ 32767) : ∃ Δ, CSP 1 Γ Δ ∧ ((¬ (0 ≤ z ∧ z < en (k + 1) - en k) ∧ BRK Γ Δ 4) ∨ ((0 ≤ z ∧ z < en (k + 1) - en k) ∧ JMP (cA' Γ 9 5 (upd ((Γ 9).2.1 5) (en k + z).toNat ((Γ 10).2.1 6 (t + 1)))) Δ t (p + 3))) := by
  have hkn := hA.1
  have e : F_X3_wideOp (J 39) (J (k : Nat)) (pcS Γ (p + 3)) = if 0 ≤ z ∧ z < en (k + 1) - en k then some ((0 : Int32), cA' (ppS (ppS (pcS Γ (p + 3)) (t + 1)) t) 9 5 (upd ((Γ 9).2.1 5) (en k + z).toNat ((Γ 10).2.1 6 (t + 1)))) else some ((0 : Int32), cI' (cI' (ppS (ppS (pcS Γ (p + 3)) (t + 1)) t) 10 5 (J 4)) 10 14 (J 4)) := by
    unfold F_X3_wideOp
    rw [if_neg (by decide), if_neg (by decide), if_neg (by decide), if_pos (by decide), bndE, if_pos (by decide)]
    unfold F_X3_cellOp
    dsimp only
    rw [bndE, if_neg (by decide), c_popP (t := t + 1) h.2.2.1 (by omega), Option.bind_some, st_pc]
    dsimp only
    rw [c_pop (Γ := ppS (pcS Γ (p + 3)) (t + 1)) (t := t) rfl (by omega), Option.bind_some, show ((ppS (pcS Γ (p + 3)) (t + 1)) 10).2.1 6 t = J z from hz]
    dsimp only
    rw [c_cellOf (Γ := ppS (ppS (pcS Γ (p + 3)) (t + 1)) t) hA hk h0 hm hb hz2, Option.bind_some]
    dsimp only
    rw [bndE, mrg47S]
    by_cases q : 0 ≤ z ∧ z < en (k + 1) - en k
    · rw [if_pos q, if_pos q, if_neg (by rw [show (-1 : Int32) = J (-1) from rfl, J_eq (by omega) (by omega) (by omega) (by omega)]; omega), if_neg (by decide), bndE, q_g_put_in (by omega) (by omega) (by omega)]; rfl
    · rw [if_neg q, if_neg q, if_pos (by decide), show F_X3_stop 4 _ = _ from c_stop (n := 4)]; rfl
  by_cases q : 0 ≤ z ∧ z < en (k + 1) - en k
  · rw [if_pos q] at e
    refine ⟨_, CSP_3 h hpl ho (by omega) (by omega) e, Or.inr ⟨q, ⟨fun r hr => ?_, fun k k7 k9 => ?_, fun k k6 => rfl, fun j hj => rfl⟩, rfl, rfl⟩⟩
    · rw [cA_r, cA_r]
      by_cases e9 : r = 9
      · rw [if_pos e9, if_pos e9]; rfl
      · rw [if_neg e9, if_neg e9]; unfold ppS pcS; rw [cI_r, if_neg hr, cI_r, if_neg hr, cI_r, if_neg hr]
    · show upd _ _ _ _ = _
      rw [upd_s, if_neg k7]
      show upd _ _ _ _ = _
      rw [upd_s, if_neg k7]
      show upd _ _ _ _ = _
      rw [upd_s, if_neg k9]; rfl
  · rw [if_neg q] at e
    exact ⟨_, CSP_3 h hpl ho (by omega) (by omega) e, Or.inl ⟨q, MKt_BRK (t := 0) (MKt_pp (MKt_pp (MKt_pc MKt_rfl)))⟩⟩
/-- done -/
theorem m_done {p ln t : Nat} {Γ : HS} (h : MC0 ln Γ p t) (hpl : p < ln) (ho : op1 Γ p 4) : CSP 1 Γ (cI' (pcS Γ (p + 1)) 10 14 (J 2)) := by
  refine CSP_1 (x := 0) h hpl ho (by omega) ?_
  rw [RunD_f (by omega)]
  unfold F_X3_flowOp
  rw [if_neg (by decide), if_neg (by decide), if_neg (by decide), if_neg (by decide), if_pos (by decide), bndE]; rfl
/-- one more pass or call -/
def wkS (Γ : HS) (w : Nat) : HS := cI' Γ 10 13 (J (w : Nat))
theorem c_tooMuch {Γ : HS} {w : Nat} (h : (Γ 10).1 13 = J (w : Nat)) (hw : w ≤ 20000) : F_X3_isTooMuch Γ = some (if w < 20000 then 0 else 1, wkS Γ (w + 1)) := by
  unfold F_X3_isTooMuch
  rw [bndE, h, J_suc, show ((cI' Γ 10 13 (J (w + 1 : Nat))) 10).1 13 = J (w + 1 : Nat) from rfl]
  by_cases q : w < 20000
  · rw [if_pos (by rw [show (20000 : Int32) = J 20000 from rfl, J_le (by omega) (by omega) (by omega) (by omega)]; omega), if_pos q]; rfl
  · rw [if_neg (by rw [show (20000 : Int32) = J 20000 from rfl, J_le (by omega) (by omega) (by omega) (by omega)]; omega), if_neg q]; rfl
theorem m_pass {p ln t w : Nat} {Γ : HS} (h : MC0 ln Γ p t) (hpl : p < ln) (ho : op1 Γ p 3) (h13 : (Γ 10).1 13 = J (w : Nat)) (hw : w ≤ 20000) : ∃ Δ, CSP 1 Γ Δ ∧ ((w < 20000 ∧ Δ = wkS (pcS Γ (p + 1)) (w + 1)) ∨ (¬ w < 20000 ∧ BRK Γ Δ 6)) := by
  have e : RunD (J 3) (pcS Γ (p + 1)) = if w < 20000 then some ((0 : Int32), wkS (pcS Γ (p + 1)) (w + 1)) else some ((0 : Int32), cI' (cI' (wkS (pcS Γ (p + 1)) (w + 1)) 10 5 (J 6)) 10 14 (J 4)) := by
    rw [RunD_f (by omega)]
    unfold F_X3_flowOp
    rw [if_neg (by decide), if_neg (by decide), if_neg (by decide), if_pos (by decide), c_tooMuch (Γ := pcS Γ (p + 1)) h13 hw, Option.bind_some]
    dsimp only
    by_cases q : w < 20000
    · rw [if_pos q, if_pos q, if_pos (by decide)]
    · rw [if_neg q, if_neg q, if_neg (by decide), show F_X3_stop 6 _ = _ from c_stop (n := 6)]; rfl
  by_cases q : w < 20000
  · rw [if_pos q] at e
    exact ⟨_, CSP_1 h hpl ho (by omega) e, Or.inl ⟨q, rfl⟩⟩
  · rw [if_neg q] at e
    exact ⟨_, CSP_1 h hpl ho (by omega) e, Or.inr ⟨q, BRK_of (fun r hr => by unfold wkS pcS; rw [cI_r, if_neg hr, cI_r, if_neg hr]) rfl rfl⟩⟩
/-- a call: what is kept, and where it goes on -/
def calS (Γ : HS) (q d bC t c p0 w : Nat) : HS := cI' (cI' (cI' (cI' (cA' (cA' (wkS (pcS Γ q) (w + 1)) 10 10 (upd ((Γ 10).2.1 10) d (J (q : Nat)))) 10 11 (upd ((Γ 10).2.1 11) d (J (bC : Nat)))) 10 12 (J (d + 1 : Nat))) 10 8 (J (t - c : Nat))) 10 7 (J (t - c + 14 : Nat))) 10 9 (J (p0 : Nat))
theorem call_tail {X : HS} {k c t p0 : Nat} (hc : (X 5).2.1 4 k = J (c : Nat)) (hp : (X 5).2.1 2 k = J (p0 : Nat)) (h7 : (X 10).1 7 = J (t : Nat)) (hk : k < 100) (hct : c ≤ t) (ht : t < 8990) : (bnd ((g_at 100 ((X 5).2.1 4) (J (k : Nat)))) fun (x_17 : Int32) => bnd (cI' X 10 8 (((X 10).1 7) - x_17)) fun σ_19 => bnd (cI' σ_19 10 7 (((σ_19 10).1 8) + 14)) fun σ_21 => (F_X0_beginOf (J (k : Nat)) σ_21).bind fun u_23 => bnd (mrg (fun j => j == 5) σ_21 u_23.2) fun σ_25 => bnd (cI' σ_25 10 9 u_23.1) fun σ_27 => some ((0 : Int32), σ_27)) = some ((0 : Int32), cI' (cI' (cI' X 10 8 (J (t - c : Nat))) 10 7 (J (t - c + 14 : Nat))) 10 9 (J (p0 : Nat))) := by
  rw [q_g_at_in (by omega) (by omega) (by omega), bndE, show ((k : Nat) : Int).toNat = k by omega, hc, h7, bndE, J_sub, show ((t : Nat) : Int) - (c : Nat) = ((t - c : Nat) : Int) by omega, show ((cI' X 10 8 (J (t - c : Nat))) 10).1 8 = J (t - c : Nat) from rfl, bndE, show J (t - c : Nat) + 14 = J (t - c + 14 : Nat) by rw [show (14 : Int32) = J 14 from rfl, J_add]; rfl]
  unfold F_X0_beginOf
  rw [show ((cI' (cI' X 10 8 (J (t - c : Nat))) 10 7 (J (t - c + 14 : Nat))) 5).2.1 2 = (X 5).2.1 2 from rfl, q_g_at_in (by omega) (by omega) (by omega), show ((k : Nat) : Int).toNat = k by omega, hp, bndE, Option.bind_some]
  dsimp only
  rw [bndE, mrgS, bndE]
theorem m_call {p ln t w k d bC c p0 : Nat} {Γ : HS} (h : MC0 ln Γ p t) (hpl : p + 2 < ln) (ho : op3 Γ p 40 (k : Nat)) (hk : k < 100) (h13 : (Γ 10).1 13 = J (w : Nat)) (hw : w ≤ 20000) (h12 : (Γ 10).1 12 = J (d : Nat)) (hd : d ≤ 30) (h8 : (Γ 10).1 8 = J (bC : Nat)) (hc : (Γ 5).2.1 4 k = J (c : Nat)) (hct : c ≤ t) (ht : t < 8990) (hp0 : (Γ 5).2.1 2 k = J (p0 : Nat)) : ∃ Δ, CSP 1 Γ Δ ∧ ((w < 20000 ∧ d < 30 ∧ Δ = calS Γ (p + 3) d bC t c p0 w) ∨ (w < 20000 ∧ ¬ d < 30 ∧ BRK Γ Δ 5) ∨ (¬ w < 20000 ∧ BRK Γ Δ 6)) := by
  have e0 : ∀ Δ, F_X3_call (J (k : Nat)) (pcS Γ (p + 3)) = some ((0 : Int32), Δ) → F_X3_wideOp (J 40) (J (k : Nat)) (pcS Γ (p + 3)) = some ((0 : Int32), Δ) := fun Δ hΔ => by
    unfold F_X3_wideOp
    rw [if_neg (by decide), if_neg (by decide), if_neg (by decide), if_neg (by decide), if_neg (by decide), if_neg (by decide), if_pos (by decide), hΔ]; rfl
  have e1 : F_X3_isTooMuch (pcS Γ (p + 3)) = _ := c_tooMuch (Γ := pcS Γ (p + 3)) h13 hw
  have brk : ∀ n : Int, BRK Γ (cI' (cI' (wkS (pcS Γ (p + 3)) (w + 1)) 10 5 (J n)) 10 14 (J 4)) n := fun n => BRK_of (fun r hr => by unfold wkS pcS; rw [cI_r, if_neg hr, cI_r, if_neg hr]) rfl rfl
  by_cases q : w < 20000
  · rw [if_pos q] at e1
    by_cases q2 : d < 30
    · refine ⟨_, CSP_3 h hpl ho (by omega) (by omega) (e0 (calS Γ (p + 3) d bC t c p0 w) ?_), Or.inl ⟨q, q2, rfl⟩⟩
      unfold F_X3_call
      rw [e1, Option.bind_some]
      dsimp only
      rw [if_pos (by decide), show ((wkS (pcS Γ (p + 3)) (w + 1)) 10).1 12 = J (d : Nat) from h12, if_pos (by rw [show (30 : Int32) = J 30 from rfl, J_lt (by omega) (by omega) (by omega) (by omega)]; omega), bndE, q_g_put_in (by omega) (by omega) (by omega), bndE, bndE]
      rw [show ((cA' (wkS (pcS Γ (p + 3)) (w + 1)) 10 10 (upd (((wkS (pcS Γ (p + 3)) (w + 1)) 10).2.1 10) ((d : Nat) : Int).toNat (((wkS (pcS Γ (p + 3)) (w + 1)) 10).1 9))) 10).1 12 = J (d : Nat) from h12, q_g_put_in (by omega) (by omega) (by omega), bndE, bndE]
      refine Eq.trans (call_tail (t := t) (c := c) (p0 := p0) ?_ ?_ ?_ hk hct ht) ?_
      · exact hc
      · exact hp0
      · exact h.2.2.1
      rw [show ∀ X : HS, (X 10).1 12 = J (d : Nat) → (X 10).1 12 + 1 = J (d + 1 : Nat) from fun X hX => by rw [hX, J_suc]]
      · rw [show (wkS (pcS Γ (p + 3)) (w + 1) 10).1 9 = J (p + 3 : Nat) from rfl, show ((cA' (wkS (pcS Γ (p + 3)) (w + 1)) 10 10 (upd (((wkS (pcS Γ (p + 3)) (w + 1)) 10).2.1 10) ((d : Nat) : Int).toNat (J (p + 3 : Nat)))) 10).1 8 = J (bC : Nat) from h8]; rfl
      · exact h12
    · refine ⟨_, CSP_3 h hpl ho (by omega) (by omega) (e0 _ ?_), Or.inr (Or.inl ⟨q, q2, brk 5⟩)⟩
      unfold F_X3_call
      rw [e1, Option.bind_some]
      dsimp only
      rw [if_pos (by decide), show ((wkS (pcS Γ (p + 3)) (w + 1)) 10).1 12 = J (d : Nat) from h12, if_neg (by rw [show (30 : Int32) = J 30 from rfl, J_lt (by omega) (by omega) (by omega) (by omega)]; omega), show F_X3_stop 5 _ = _ from c_stop (n := 5)]; rfl
  · rw [if_neg q] at e1
    refine ⟨_, CSP_3 h hpl ho (by omega) (by omega) (e0 _ ?_), Or.inr (Or.inr ⟨q, brk 6⟩)⟩
    unfold F_X3_call
    rw [e1, Option.bind_some]
    dsimp only
    rw [if_neg (by decide), show F_X3_stop 6 _ = _ from c_stop (n := 6)]; rfl
