/-! moves, in both: the play goes on alike -/
theorem up_out {pa : Nat → Nat} {x : Nat} : ∀ k h, (∀ j, upP pa j h ≠ x) → upP (toP pa x) k h = upP pa k h := by
  intro k
  induction k with
  | zero => intro h _; rfl
  | succ k ih =>
    intro h hw
    show upP (toP pa x) k (toP pa x h) = upP pa k (pa h)
    have h0 : h ≠ x := hw 0
    have e : toP pa x h = pa h := by unfold toP; rw [uN_s, if_neg h0]
    rw [e]
    exact ih _ (fun j => hw (j + 1))
theorem TR_mv {n : Nat} {pa fi nx : Nat → Nat} {ch : Nat → List Nat} (t : TR n pa fi nx ch) {x h : Nat} (hx : 1 ≤ x ∧ x ≤ n) (hh : 1 ≤ h ∧ h ≤ n) (hw : wiN pa x (n + 1) h ≠ true) : TR n (uN (toP pa x) x h) (uN (toF pa fi nx x) h x) (inX (toF pa fi nx x) (toX pa fi nx ch x) x h) (inC (toC pa ch x) x h) := by
  have hne : ∀ j, upP pa j h ≠ x := fun j hj => hw ((wiN_up t.2.2.2.2.1.1 (by omega) n h (TR_up t hh.2)).mpr ⟨j, hj⟩)
  refine TR_in (TR_out t hx) hx hh ?_ (fun k => ?_)
  · unfold toP; rw [uN_s, if_pos rfl]
  · rw [up_out k h hne]; exact hne k
theorem PL_tree {nO nV nC : Nat} {room : Nat → Bool} {σ τ : MS} {Γ Δ : HS} {pa fi nx : Nat → Nat} {ch : Nat → List Nat} {tr : Nat → Nat} (h : PLT nO room nV nC σ Γ pa fi nx ch tr) (hr : ofT σ τ) (hc : ocT Γ Δ) {pa' fi' nx' : Nat → Nat} {ch' : Nat → List Nat} (t : TR nO pa' fi' nx' ch') (hR : RT τ pa' fi' nx') (hC : CTr Δ pa' fi' nx') (hroom : ∀ x, room x = true → pa' x = 0) (h1 : room (pa' 1) = true ∧ 1 ≤ pa' 1) : PLT nO room nV nC τ Δ pa' fi' nx' ch' tr := by
  obtain ⟨a1, a2, a3, a4, a5, a6, a7, a8, a9, a10, a11, a12⟩ := h
  refine ⟨t, hR, hC, ?_, ?_, ?_, ?_, ?_, ?_, hroom, ⟨a11.1, h1.1, a11.2.2.1, h1.2⟩, ?_⟩
  · rw [hc.2.2 3 (by omega), hr.2 90 (by omega) (by omega) (by omega)]; exact a4
  · rw [hc.2.2 4 (by omega), hr.2 91 (by omega) (by omega) (by omega)]; exact a5
  · rw [hc.2.2 5 (by omega), hr.2 92 (by omega) (by omega) (by omega)]; exact a6
  · rw [hc.2.1, hr.1]; exact a7
  · rw [hr.1]; exact a8
  · rw [hr.1]; exact a9
  · refine ⟨?_, a12.2⟩; unfold LAT; rw [hc.2.1, hr.1, hc.2.2 6 (by omega), hr.2 97 (by omega) (by omega) (by omega)]; exact a12.1
/-- a move that can be done -/
theorem W_move {nO nV nC : Nat} {room : Nat → Bool} {σ : MS} {Γ : HS} {pa fi nx : Nat → Nat} {ch : Nat → List Nat} {tr : Nat → Nat} (p : PLT nO room nV nC σ Γ pa fi nx ch tr) {x h : Nat} (hx : 1 ≤ x ∧ x ≤ nO) (hh : 1 ≤ h ∧ h ≤ nO) (hxr : room x = false) (hx1 : x = 1 → room h = true) (hw : wiN pa x (nO + 1) h ≠ true) : ∃ τ Δ, F_X12_putIn (J (x : Nat)) (J (h : Nat)) σ = some ((0 : Int32), τ) ∧ F_X6_moveInto (J (x : Nat)) (J (h : Nat)) Γ = some ((0 : Int32), Δ) ∧ ofT σ τ ∧ ocT Γ Δ ∧ PL nO room nV nC τ Δ := by
  have p' := p
  obtain ⟨a1, a2, a3, a4, a5, a6, a7, a8, a9, a10, a11, a12⟩ := p'
  obtain ⟨τ, e1, e2, e3⟩ := r_putIn a1 hx hh.2 a2
  obtain ⟨Δ, f1, f2, f3⟩ := c_moveInto a1 hx hh.2 a3
  refine ⟨τ, Δ, e1, f1, e2, f2, _, _, _, _, _, PL_tree p e2 f2 (TR_mv a1 hx hh hw) e3 f3 (fun r hr => ?_) ?_⟩
  · have hne : r ≠ x := by rintro rfl; rw [hxr] at hr; cases hr
    unfold toP
    rw [uN_s, if_neg hne, uN_s, if_neg hne]; exact a10 r hr
  · unfold toP
    rw [uN_s]
    by_cases e : 1 = x
    · rw [if_pos e]; exact ⟨hx1 e.symm, hh.1⟩
    · rw [if_neg e, uN_s, if_neg e]; exact ⟨a11.2.1, a11.2.2.2⟩
theorem W_out {nO nV nC : Nat} {room : Nat → Bool} {σ : MS} {Γ : HS} {pa fi nx : Nat → Nat} {ch : Nat → List Nat} {tr : Nat → Nat} (p : PLT nO room nV nC σ Γ pa fi nx ch tr) {x : Nat} (hx : 1 ≤ x ∧ x ≤ nO) (hx1 : x ≠ 1) : ∃ τ Δ, F_X12_takeOut (J (x : Nat)) σ = some ((0 : Int32), τ) ∧ F_X6_takeOut (J (x : Nat)) Γ = some ((0 : Int32), Δ) ∧ ofT σ τ ∧ ocT Γ Δ ∧ PL nO room nV nC τ Δ := by
  have p' := p
  obtain ⟨a1, a2, a3, a4, a5, a6, a7, a8, a9, a10, a11, a12⟩ := p'
  obtain ⟨τ, e1, e2, e3⟩ := r_takeOut a1 hx a2
  obtain ⟨Δ, f1, f2, f3⟩ := c_takeOut a1 hx a3
  refine ⟨τ, Δ, e1, f1, e2, f2, _, _, _, _, _, PL_tree p e2 f2 (TR_out a1 hx) e3 f3 (fun r hr => ?_) ?_⟩
  · unfold toP
    rw [uN_s]; split; rfl; exact a10 r hr
  · unfold toP
    rw [uN_s, if_neg (by omega)]; exact ⟨a11.2.1, a11.2.2.2⟩
/-- a number is drawn -/
def drS (s : Int32) : Int32 := s * 69069 + 1
def drX (s : Int32) : Int32 := (s.toUInt32 >>> ((16 : Int32).toUInt32 &&& Int32.toUInt32 31)).toInt32
def drV (s n : Int32) : Int32 := 1 + ((drX s &&& 32767) - (drX s &&& 32767) / n * n)
theorem drX_rng (s : Int32) : ∃ a : Nat, drX s &&& 32767 = J (a : Nat) ∧ a < 32768 := by
  have e : (drX s &&& 32767) = J ((drX s &&& 32767).toInt) := (J_of _).symm
  have hb : (drX s &&& 32767).toBitVec = (drX s).toBitVec &&& 32767#32 := Int32.toBitVec_and ..
  have hn : (drX s &&& 32767).toBitVec.toNat < 32768 := by
    rw [hb, BitVec.toNat_and]
    have : ((drX s).toBitVec.toNat &&& (32767#32).toNat) ≤ (32767#32).toNat := Nat.and_le_right
    have e2 : (32767#32).toNat = 32767 := rfl
    omega
  refine ⟨(drX s &&& 32767).toBitVec.toNat, ?_, hn⟩
  apply Int32.toInt_inj.1
  rw [J_toInt (by omega) (by omega)]
  show (drX s &&& 32767).toBitVec.toInt = _
  rw [BitVec.toInt_eq_toNat_cond, if_pos (by omega)]
theorem drV_ok {s : Int32} {n : Int} (h1 : 1 ≤ n) (h2 : n ≤ 32767) : ∃ z : Int, drV s (J n) = J z ∧ 1 ≤ z ∧ z ≤ 32767 := by
  obtain ⟨a, a1, a2⟩ := drX_rng s
  have hn : n = ((n.toNat : Nat) : Int) := by omega
  refine ⟨1 + (a - a / n.toNat * n.toNat : Nat), ?_, by omega, ?_⟩
  · unfold drV
    rw [a1, hn, J_div (by omega) (by omega) (by omega), J_mul, J_sub, show (1 : Int32) = J 1 from rfl, J_add]
    congr 1
    have : a / n.toNat * n.toNat ≤ a := Nat.div_mul_le_self a n.toNat
    have e : ((a / n.toNat * n.toNat : Nat) : Int) = ((a / n.toNat : Nat) : Int) * (n.toNat : Nat) := Int.natCast_mul ..
    rw [show (((n.toNat : Nat) : Int)).toNat = n.toNat by omega]
    omega
  · have h3 : a % n.toNat < n.toNat := Nat.mod_lt _ (by omega)
    have h4 := Nat.div_add_mod a n.toNat
    rw [Nat.mul_comm] at h4
    omega
theorem J_short {z : Int} (h1 : -32768 ≤ z) (h2 : z ≤ 32767) : (J z).toInt16.toInt32 = J z := by
  apply Int32.toInt_inj.1
  rw [Int16.toInt_toInt32, Int32.toInt_toInt16, J_toInt (by omega) (by omega)]
  exact Int.bmod_eq_of_le (by omega) (by omega)
theorem PL_seed {nO nV nC : Nat} {room : Nat → Bool} {σ : MS} {Γ : HS} (h : PL nO room nV nC σ Γ) (v : Int32) : PL nO room nV nC (mI σ 93 v) (cI' Γ 9 8 v) := by
  obtain ⟨pa, fi, nx, ch, tr, a1, a2, a3, a4, a5, a6, ⟨s1, s2, s3, s4⟩, a8, a9, a10, a11, a12⟩ := h
  exact ⟨pa, fi, nx, ch, tr, a1, a2, a3, a4, a5, a6, ⟨rfl, s2, s3, s4⟩, a8, a9, a10, a11, a12⟩
theorem PL_var {nO nV nC : Nat} {room : Nat → Bool} {σ : MS} {Γ : HS} (h : PL nO room nV nC σ Γ) {k : Nat} {v : Int32} (hv : VL v) : PL nO room nV nC (mA σ 91 (upd (σ.2 91) k v)) (cA' Γ 9 4 (upd ((Γ 9).2.1 4) k v)) := by
  obtain ⟨pa, fi, nx, ch, tr, a1, a2, a3, a4, a5, a6, a7, a8, a9, a10, a11, a12⟩ := h
  refine ⟨pa, fi, nx, ch, tr, a1, RT_congr a2 rfl rfl rfl, CT_congr a3 (fun k hk => by show updA _ _ _ _ = _; rw [updA_s, if_neg (by omega)]), a4, fun j hj => ?_, a6, a7, a8, a9, a10, a11, a12⟩
  show upd _ _ _ _ = upd _ _ _ _ ∧ VL (upd _ _ _ _)
  rw [upd_s, upd_s]
  by_cases q : j = k
  · rw [if_pos q, if_pos q]; exact ⟨rfl, hv⟩
  · rw [if_neg q, if_neg q]; exact a5 j hj
theorem PL_cell {nO nV nC : Nat} {room : Nat → Bool} {σ : MS} {Γ : HS} (h : PL nO room nV nC σ Γ) {k : Nat} {v : Int32} (hv : VL v) : PL nO room nV nC (mA σ 92 (upd (σ.2 92) k v)) (cA' Γ 9 5 (upd ((Γ 9).2.1 5) k v)) := by
  obtain ⟨pa, fi, nx, ch, tr, a1, a2, a3, a4, a5, a6, a7, a8, a9, a10, a11, a12⟩ := h
  refine ⟨pa, fi, nx, ch, tr, a1, RT_congr a2 rfl rfl rfl, CT_congr a3 (fun k hk => by show updA _ _ _ _ = _; rw [updA_s, if_neg (by omega)]), a4, a5, fun j hj => ?_, a7, a8, a9, a10, a11, a12⟩
  show upd _ _ _ _ = upd _ _ _ _ ∧ VL (upd _ _ _ _)
  rw [upd_s, upd_s]
  by_cases q : j = k
  · rw [if_pos q, if_pos q]; exact ⟨rfl, hv⟩
  · rw [if_neg q, if_neg q]; exact a6 j hj
