/-! the class's machine, step by step -/
def RunB  : ((Int32 × HS) → HR) → Int32 × HS → HR := (fun (again_16 : (Int32 × HS) → HR) (s_15 : Int32 × HS) => ( bnd (fun  (σ_19 : HS) => ( bnd (cI' σ_19 10 8 0) fun σ_23 => bnd (cI' σ_23 10 7 0) fun σ_25 => bnd (cI' σ_25 10 12 0) fun σ_27 => some (((σ_27 10).1 14), σ_27) ) : HS → HR) fun j_20 => if 1000000000 ≤ s_15.1 then ( j_20  s_15.2 ) else ( if ((s_15.2 10).1 14) = 0 then ( (F_X0_byteAt ((s_15.2 10).1 9) s_15.2).bind fun u_34 => bnd (mrg (fun j => j == 5) s_15.2 u_34.2) fun σ_36 => bnd (cI' σ_36 10 9 (((σ_36 10).1 9) + 1)) fun σ_38 => bnd (fun  (σ_40 : HS) => ( bnd (s_15.1 + 1) fun (x_44 : Int32) => again_16 (x_44, σ_40) ) : HS → HR) fun j_41 => if u_34.1 < 33 then ( if u_34.1 = 32 then ( (F_X3_moveOp σ_38).bind fun u_50 => j_41  u_50.2 ) else ( if u_34.1 < 27 then ( if u_34.1 < 21 then ( if u_34.1 < 10 then ( (F_X3_flowOp u_34.1 σ_38).bind fun u_59 => j_41  u_59.2 ) else ( (F_X3_numberOp u_34.1 σ_38).bind fun u_62 => j_41  u_62.2 ) ) else ( (F_X3_objectOp u_34.1 σ_38).bind fun u_65 => j_41  u_65.2 ) ) else ( (F_X3_worldOp u_34.1 σ_38).bind fun u_68 => j_41  u_68.2 ) ) ) else ( (F_X0_pairAt ((σ_38 10).1 9) σ_38).bind fun u_71 => bnd (mrg (fun j => j == 5) σ_38 u_71.2) fun σ_73 => bnd (cI' σ_73 10 9 (((σ_73 10).1 9) + 2)) fun σ_75 => (F_X3_wideOp u_34.1 u_71.1 σ_75).bind fun u_77 => j_41  u_77.2 ) ) else ( j_20  s_15.2 ) ) ))
theorem RunB_s (n : Nat) (a : Int32) (Γ : HS) : loopF RunB (n + 1) (a, Γ) = ( bnd (fun  (σ_19 : HS) => ( bnd (cI' σ_19 10 8 0) fun σ_23 => bnd (cI' σ_23 10 7 0) fun σ_25 => bnd (cI' σ_25 10 12 0) fun σ_27 => some (((σ_27 10).1 14), σ_27) ) : HS → HR) fun j_20 => if 1000000000 ≤ a then ( j_20  Γ ) else ( if ((Γ 10).1 14) = 0 then ( (F_X0_byteAt ((Γ 10).1 9) Γ).bind fun u_34 => bnd (mrg (fun j => j == 5) Γ u_34.2) fun σ_36 => bnd (cI' σ_36 10 9 (((σ_36 10).1 9) + 1)) fun σ_38 => bnd (fun  (σ_40 : HS) => ( bnd (a + 1) fun (x_44 : Int32) => loopF RunB n (x_44, σ_40) ) : HS → HR) fun j_41 => if u_34.1 < 33 then ( if u_34.1 = 32 then ( (F_X3_moveOp σ_38).bind fun u_50 => j_41  u_50.2 ) else ( if u_34.1 < 27 then ( if u_34.1 < 21 then ( if u_34.1 < 10 then ( (F_X3_flowOp u_34.1 σ_38).bind fun u_59 => j_41  u_59.2 ) else ( (F_X3_numberOp u_34.1 σ_38).bind fun u_62 => j_41  u_62.2 ) ) else ( (F_X3_objectOp u_34.1 σ_38).bind fun u_65 => j_41  u_65.2 ) ) else ( (F_X3_worldOp u_34.1 σ_38).bind fun u_68 => j_41  u_68.2 ) ) ) else ( (F_X0_pairAt ((σ_38 10).1 9) σ_38).bind fun u_71 => bnd (mrg (fun j => j == 5) σ_38 u_71.2) fun σ_73 => bnd (cI' σ_73 10 9 (((σ_73 10).1 9) + 2)) fun σ_75 => (F_X3_wideOp u_34.1 u_71.1 σ_75).bind fun u_77 => j_41  u_77.2 ) ) else ( j_20  Γ ) ) ) := rfl
theorem run_eq (p0 : Int32) (Γ : HS) : F_X3_run p0 Γ = (F_X0_beginOf p0 Γ).bind fun u_1 => bnd (mrg (fun j => j == 5) Γ u_1.2) fun σ_3 => bnd (cI' σ_3 10 9 u_1.1) fun σ_5 => bnd (cI' σ_5 10 8 0) fun σ_7 => bnd (cI' σ_7 10 7 14) fun σ_9 => bnd (cI' σ_9 10 12 0) fun σ_11 => bnd (cI' σ_11 10 14 0) fun σ_13 => loopF RunB FU (0, σ_13) := rfl
/-- the end of a run -/
def runX (Γ : HS) : HS := cI' (cI' (cI' Γ 10 8 0) 10 7 0) 10 12 0
def pcS (Γ : HS) (q : Nat) : HS := cI' Γ 10 9 (J (q : Nat))
def RunD (o : Int32) (Γ : HS) : HR := if o = 32 then F_X3_moveOp Γ else if o < 27 then (if o < 21 then (if o < 10 then F_X3_flowOp o Γ else F_X3_numberOp o Γ) else F_X3_objectOp o Γ) else F_X3_worldOp o Γ
theorem mrgS (b : Nat → Bool) (Γ : HS) : mrg b Γ Γ = Γ := mrgE (fun _ _ => rfl)
theorem run_no {n0 : Nat} (h : n0 < 1000000000) : ¬ (1000000000 : Int32) ≤ J (n0 : Nat) := by
  rw [show (1000000000 : Int32) = J 1000000000 from rfl, J_le (by omega) (by omega) (by omega) (by omega)]; omega
theorem run_end {n n0 : Nat} {Γ : HS} (h0 : n0 < 1000000000) (h : (Γ 10).1 14 ≠ 0) : loopF RunB (n + 1) (J (n0 : Nat), Γ) = some ((Γ 10).1 14, runX Γ) := by
  rw [RunB_s, bndE, if_neg (run_no h0), if_neg h]; rfl
theorem run_op1 {n n0 p ln : Nat} {o : Int} {Γ : HS} (h0 : n0 < 1000000000) (h : (Γ 10).1 14 = J 0) (hp : (Γ 10).1 9 = J (p : Nat)) (hl : (Γ 5).1 1 = J (ln : Nat)) (hln : ln ≤ 39000) (hpl : p < ln) (ho : op1 Γ p o) (ho2 : 0 ≤ o ∧ o ≤ 32) : loopF RunB (n + 1) (J (n0 : Nat), Γ) = (RunD (J o) (pcS Γ (p + 1))).bind fun u => loopF RunB n (J (n0 + 1 : Nat), u.2) := by
  rw [RunB_s, bndE, if_neg (run_no h0), if_pos (show (Γ 10).1 14 = 0 from h), hp, c_op1 hl hpl (by omega) ho (by omega), Option.bind_some]
  dsimp only
  rw [bndE, mrgS, bndE, hp, J_suc p, bndE, J_suc n0, if_pos (by rw [show (33 : Int32) = J 33 from rfl, J_lt (by omega) (by omega) (by omega) (by omega)]; omega)]
  unfold RunD pcS
  split
  · rfl
  · split
    · split
      · split <;> rfl
      · rfl
    · rfl
theorem run_op3 {n n0 p ln v : Nat} {o : Int} {Γ : HS} (h0 : n0 < 1000000000) (h : (Γ 10).1 14 = J 0) (hp : (Γ 10).1 9 = J (p : Nat)) (hl : (Γ 5).1 1 = J (ln : Nat)) (hln : ln ≤ 39000) (hpl : p + 2 < ln) (ho : op3 Γ p o (v : Nat)) (ho2 : 33 ≤ o ∧ o ≤ 48) (hv : v < 65536) : loopF RunB (n + 1) (J (n0 : Nat), Γ) = (F_X3_wideOp (J o) (J (v : Nat)) (pcS Γ (p + 3))).bind fun u => loopF RunB n (J (n0 + 1 : Nat), u.2) := by
  have e5 : (pcS Γ (p + 1)) 5 = Γ 5 := rfl
  have ho' : op3 (pcS Γ (p + 1)) p o (v : Nat) := ho
  rw [RunB_s, bndE, if_neg (run_no h0), if_pos (show (Γ 10).1 14 = 0 from h), hp, c_op1 hl (by omega) (by omega) ho.1 (by omega), Option.bind_some]
  dsimp only
  rw [bndE, mrgS, bndE, hp, J_suc p, bndE, J_suc n0, if_neg (by rw [show (33 : Int32) = J 33 from rfl, J_lt (by omega) (by omega) (by omega) (by omega)]; omega)]
  rw [show (((cI' Γ 10 9 (J (p + 1 : Nat))) 10).1 9) = J (p + 1 : Nat) from rfl, show cI' Γ 10 9 (J (p + 1 : Nat)) = pcS Γ (p + 1) from rfl, c_pair (ln := ln) (by rw [e5]; exact hl) hpl (by omega) ho' hv, Option.bind_some]
  dsimp only
  rw [bndE, mrgS, bndE, show ((pcS Γ (p + 1)) 10).1 9 = J (p + 1 : Nat) from rfl, show J (p + 1 : Nat) + 2 = J (p + 3 : Nat) by rw [show (2 : Int32) = J 2 from rfl, J_add]; rfl, show cI' (pcS Γ (p + 1)) 10 9 (J (p + 3 : Nat)) = pcS Γ (p + 3) from cI_cI]; rfl
/-- so many steps -/
def CSP (k : Nat) (Γ Δ : HS) : Prop := ∀ n0 n : Nat, n0 + k ≤ 1000000000 → loopF RunB (n + k) (J (n0 : Nat), Γ) = loopF RunB n (J (n0 + k : Nat), Δ)
theorem CSP_0 {Γ : HS} : CSP 0 Γ Γ := fun _ _ _ => rfl
theorem CSP_trans {k l : Nat} {Γ Δ Θ : HS} (h : CSP k Γ Δ) (g : CSP l Δ Θ) : CSP (k + l) Γ Θ := fun n0 n hn => by
  rw [show n + (k + l) = (n + l) + k by omega, h n0 (n + l) (by omega), g (n0 + k) n (by omega), show n0 + k + l = n0 + (k + l) by omega]
theorem CSP_op1 {p ln : Nat} {o : Int} {Γ Δ : HS} {x : Int32} (h : (Γ 10).1 14 = J 0) (hp : (Γ 10).1 9 = J (p : Nat)) (hl : (Γ 5).1 1 = J (ln : Nat)) (hln : ln ≤ 39000) (hpl : p < ln) (ho : op1 Γ p o) (ho2 : 0 ≤ o ∧ o ≤ 32) (hD : RunD (J o) (pcS Γ (p + 1)) = some (x, Δ)) : CSP 1 Γ Δ := fun n0 n hn => by
  rw [run_op1 (by omega) h hp hl hln hpl ho ho2, hD]; rfl
theorem CSP_op3 {p ln v : Nat} {o : Int} {Γ Δ : HS} {x : Int32} (h : (Γ 10).1 14 = J 0) (hp : (Γ 10).1 9 = J (p : Nat)) (hl : (Γ 5).1 1 = J (ln : Nat)) (hln : ln ≤ 39000) (hpl : p + 2 < ln) (ho : op3 Γ p o (v : Nat)) (ho2 : 33 ≤ o ∧ o ≤ 48) (hv : v < 65536) (hD : F_X3_wideOp (J o) (J (v : Nat)) (pcS Γ (p + 3)) = some (x, Δ)) : CSP 1 Γ Δ := fun n0 n hn => by
  rw [run_op3 (by omega) h hp hl hln hpl ho ho2 hv, hD]; rfl
/-! the stack -/
def psh (Γ : HS) (t : Nat) (x : Int32) : HS := cI' (cA' Γ 10 6 (upd ((Γ 10).2.1 6) t x)) 10 7 (J (t + 1 : Nat))
def ppS (Γ : HS) (t : Nat) : HS := cI' Γ 10 7 (J (t : Nat))
theorem c_push {Γ : HS} {t : Nat} {x : Int32} (h : (Γ 10).1 7 = J (t : Nat)) (ht : t < 9000) : F_X3_push x Γ = some ((0 : Int32), psh Γ t x) := by
  unfold F_X3_push
  rw [h, if_neg (J_nlt0 (by omega) (by omega)), if_neg (by rw [show (9000 : Int32) = J 9000 from rfl, J_le (by omega) (by omega) (by omega) (by omega)]; omega), if_neg (by rw [J_natN (by omega)]; rintro (q | q); exact J_nlt0 (by omega) (by omega) q; omega), bndE, J_natN (by omega), bndE, show ((cA' Γ 10 6 (upd ((Γ 10).2.1 6) t x)) 10).1 7 = (Γ 10).1 7 from rfl, h, J_suc]; rfl
theorem c_pop {Γ : HS} {t : Nat} (h : (Γ 10).1 7 = J (t + 1 : Nat)) (ht : t < 9000) : F_X3_pop Γ = some ((Γ 10).2.1 6 t, ppS Γ t) := by
  unfold F_X3_pop
  rw [h, if_pos (by rw [show (0 : Int32) = J 0 from rfl, J_lt (by omega) (by omega) (by omega) (by omega)]; omega), bndE, show J (t + 1 : Nat) - 1 = J (t : Nat) by rw [show (1 : Int32) = J 1 from rfl, J_sub]; congr 1; omega, bndE, show ((cI' Γ 10 7 (J (t : Nat))) 10).1 7 = J (t : Nat) from rfl, bndE, q_g_at_in (by omega) (by omega) (by omega)]; rfl
/-- only the machine's stack above t, its top and its place changed -/
def MKt (t : Nat) (Γ Δ : HS) : Prop := (∀ r, r ≠ 10 → Δ r = Γ r) ∧ (∀ k, k ≠ 7 → k ≠ 9 → (Δ 10).1 k = (Γ 10).1 k) ∧ (∀ k, k ≠ 6 → (Δ 10).2.1 k = (Γ 10).2.1 k) ∧ ∀ j, j < t → (Δ 10).2.1 6 j = (Γ 10).2.1 6 j
theorem MKt_rfl {t : Nat} {Γ : HS} : MKt t Γ Γ := ⟨fun _ _ => rfl, fun _ _ _ => rfl, fun _ _ => rfl, fun _ _ => rfl⟩
theorem MKt_pc {t q : Nat} {Γ Δ : HS} (h : MKt t Γ Δ) : MKt t Γ (pcS Δ q) := ⟨fun r hr => by unfold pcS; rw [cI_r, if_neg hr]; exact h.1 r hr, fun k k7 k9 => by show upd _ _ _ _ = _; rw [upd_s, if_neg k9]; exact h.2.1 k k7 k9, h.2.2.1, h.2.2.2⟩
theorem MKt_pp {t u : Nat} {Γ Δ : HS} (h : MKt t Γ Δ) : MKt t Γ (ppS Δ u) := ⟨fun r hr => by unfold ppS; rw [cI_r, if_neg hr]; exact h.1 r hr, fun k k7 k9 => by show upd _ _ _ _ = _; rw [upd_s, if_neg k7]; exact h.2.1 k k7 k9, h.2.2.1, h.2.2.2⟩
theorem MKt_psh {t u : Nat} {x : Int32} {Γ Δ : HS} (h : MKt t Γ Δ) (hu : t ≤ u) : MKt t Γ (psh Δ u x) := ⟨fun r hr => by unfold psh; rw [cI_r, if_neg hr, cA_r, if_neg hr]; exact h.1 r hr, fun k k7 k9 => by show upd _ _ _ _ = _; rw [upd_s, if_neg k7]; exact h.2.1 k k7 k9, fun k k6 => by show updA _ _ _ _ = _; rw [updA_s, if_neg k6]; exact h.2.2.1 k k6, fun j hj => by show upd ((Δ 10).2.1 6) u x j = _; rw [upd_s, if_neg (by omega)]; exact h.2.2.2 j hj⟩
theorem psh_7 {t : Nat} {x : Int32} {Γ : HS} : ((psh Γ t x) 10).1 7 = J (t + 1 : Nat) := rfl
theorem psh_st {t : Nat} {x : Int32} {Γ : HS} : ((psh Γ t x) 10).2.1 6 t = x := by show upd _ _ _ _ = _; rw [upd_s, if_pos rfl]
/-- a number is left on top -/
def RES (Γ Δ : HS) (t q : Nat) (x : Int32) : Prop := MKt t Γ Δ ∧ (Δ 10).1 7 = J (t + 1 : Nat) ∧ (Δ 10).1 9 = J (q : Nat) ∧ (Δ 10).2.1 6 t = x
/-- a break -/
def BRK (Γ Δ : HS) (n : Int) : Prop := (∀ r, r ≠ 10 → Δ r = Γ r) ∧ (Δ 10).1 5 = J n ∧ (Δ 10).1 14 = J 4 ∧ (Δ 10).1 3 = (Γ 10).1 3 ∧ (Δ 10).1 4 = (Γ 10).1 4
theorem c_stop {Γ : HS} {n : Int} : F_X3_stop (J n) Γ = some ((0 : Int32), cI' (cI' Γ 10 5 (J n)) 10 14 (J 4)) := by
  unfold F_X3_stop; rw [bndE, bndE]; rfl
theorem BRK_of {Γ Δ : HS} {n : Int} (h1 : ∀ r, r ≠ 10 → Δ r = Γ r) (h3 : (Δ 10).1 3 = (Γ 10).1 3) (h4 : (Δ 10).1 4 = (Γ 10).1 4) : BRK Γ (cI' (cI' Δ 10 5 (J n)) 10 14 (J 4)) n := ⟨fun r hr => by rw [cI_r, if_neg hr, cI_r, if_neg hr]; exact h1 r hr, rfl, rfl, h3, h4⟩
theorem MKt_BRK {t : Nat} {Γ Δ : HS} {n : Int} (h : MKt t Γ Δ) : BRK Γ (cI' (cI' Δ 10 5 (J n)) 10 14 (J 4)) n := BRK_of h.1 (h.2.1 3 (by omega) (by omega)) (h.2.1 4 (by omega) (by omega))
theorem c_popP {Γ : HS} {t q : Nat} (h : (Γ 10).1 7 = J (t + 1 : Nat)) (ht : t < 9000) : F_X3_pop (pcS Γ q) = some (((pcS Γ q) 10).2.1 6 t, ppS (pcS Γ q) t) := c_pop (Γ := pcS Γ q) h ht
theorem c_pushP {Γ : HS} {t q : Nat} {x : Int32} (h : (Γ 10).1 7 = J (t : Nat)) (ht : t < 9000) : F_X3_push x (pcS Γ q) = some ((0 : Int32), psh (pcS Γ q) t x) := c_push (Γ := pcS Γ q) h ht
theorem c_pushQ {Γ : HS} {t : Nat} {x : Int32} (ht : t < 9000) : F_X3_push x (ppS Γ t) = some ((0 : Int32), psh (ppS Γ t) t x) := c_push (Γ := ppS Γ t) rfl ht
