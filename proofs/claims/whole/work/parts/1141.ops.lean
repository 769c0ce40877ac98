/-! the class's machine: what each instruction does, but for those that change the world -/
def MC0 (ln : Nat) (Γ : HS) (p t : Nat) : Prop := (Γ 10).1 14 = J 0 ∧ (Γ 10).1 9 = J (p : Nat) ∧ (Γ 10).1 7 = J (t : Nat) ∧ (Γ 5).1 1 = J (ln : Nat) ∧ ln ≤ 39000
theorem CSP_1 {p ln t : Nat} {o : Int} {Γ Δ : HS} {x : Int32} (h : MC0 ln Γ p t) (hpl : p < ln) (ho : op1 Γ p o) (ho2 : 0 ≤ o ∧ o ≤ 32) (hD : RunD (J o) (pcS Γ (p + 1)) = some (x, Δ)) : CSP 1 Γ Δ := CSP_op1 h.1 h.2.1 h.2.2.2.1 h.2.2.2.2 hpl ho ho2 hD
theorem CSP_3 {p ln v t : Nat} {o : Int} {Γ Δ : HS} {x : Int32} (h : MC0 ln Γ p t) (hpl : p + 2 < ln) (ho : op3 Γ p o (v : Nat)) (ho2 : 33 ≤ o ∧ o ≤ 48) (hv : v < 65536) (hD : F_X3_wideOp (J o) (J (v : Nat)) (pcS Γ (p + 3)) = some (x, Δ)) : CSP 1 Γ Δ := CSP_op3 h.1 h.2.1 h.2.2.2.1 h.2.2.2.2 hpl ho ho2 hv hD
theorem RES_psh {Γ : HS} {t q : Nat} {x : Int32} : RES Γ (psh (pcS Γ q) t x) t q x := ⟨MKt_psh (MKt_pc MKt_rfl) (Nat.le_refl _), psh_7, rfl, psh_st⟩
theorem RES_psh1 {Γ : HS} {t q u : Nat} {x : Int32} : RES Γ (psh (ppS (pcS Γ q) u) t x) t q x := ⟨MKt_psh (MKt_pp (MKt_pc MKt_rfl)) (Nat.le_refl _), psh_7, rfl, psh_st⟩
theorem RES_psh2 {Γ : HS} {t q u w : Nat} {x : Int32} : RES Γ (psh (ppS (ppS (pcS Γ q) w) u) t x) t q x := ⟨MKt_psh (MKt_pp (MKt_pp (MKt_pc MKt_rfl))) (Nat.le_refl _), psh_7, rfl, psh_st⟩
theorem st_pc {Γ : HS} {q j : Nat} : ((pcS Γ q) 10).2.1 j = (Γ 10).2.1 j := rfl
theorem st_pp {Γ : HS} {q j : Nat} : ((ppS Γ q) 10).2.1 j = (Γ 10).2.1 j := rfl
theorem m_push {p ln v t : Nat} {Γ : HS} (h : MC0 ln Γ p t) (hpl : p + 2 < ln) (ht : t < 9000) (hv : v < 65536) (ho : op3 Γ p 33 (v : Nat)) : ∃ Δ, CSP 1 Γ Δ ∧ RES Γ Δ t (p + 3) (J (v : Nat)) := by
  refine ⟨_, CSP_3 (x := 0) h hpl ho (by omega) hv ?_, RES_psh⟩
  unfold F_X3_wideOp
  rw [if_pos (by decide), c_pushP (t := t) h.2.2.1 ht]; rfl
theorem m_var {p ln v t : Nat} {Γ : HS} (h : MC0 ln Γ p t) (hpl : p + 2 < ln) (ht : t < 9000) (hv : v < 100) (ho : op3 Γ p 34 (v : Nat)) : ∃ Δ, CSP 1 Γ Δ ∧ RES Γ Δ t (p + 3) ((Γ 9).2.1 4 v) := by
  refine ⟨_, CSP_3 (x := 0) h hpl ho (by omega) (by omega) ?_, RES_psh⟩
  unfold F_X3_wideOp
  rw [if_neg (by decide), if_pos (by decide), bndE, q_g_at_in (by omega) (by omega) (by omega), c_pushP (t := t) h.2.2.1 ht]; rfl
theorem m_local {p ln v t bC : Nat} {Γ : HS} (h : MC0 ln Γ p t) (hpl : p + 2 < ln) (ht : t < 9000) (hb : (Γ 10).1 8 = J (bC : Nat)) (hv : bC + v < 9000) (hv2 : v < 14) (ho : op3 Γ p 35 (v : Nat)) : ∃ Δ, CSP 1 Γ Δ ∧ RES Γ Δ t (p + 3) ((Γ 10).2.1 6 (bC + v)) := by
  refine ⟨_, CSP_3 (x := 0) h hpl ho (by omega) (by omega) ?_, RES_psh⟩
  unfold F_X3_wideOp
  rw [if_neg (by decide), if_neg (by decide), if_pos (by decide), bndE, bndE, show ((pcS Γ (p + 3)) 10).1 8 = J (bC : Nat) from hb, J_add, show ((bC : Nat) : Int) + (v : Nat) = ((bC + v : Nat) : Int) by omega, q_g_at_in (by omega) (by omega) (by omega), c_pushP (t := t) h.2.2.1 ht]; rfl
theorem mrg47S {Γ : HS} : mrg (fun j => j == 4 || j == 5 || j == 6 || j == 7) Γ Γ = Γ := mrgS _ _
def isO (nO : Nat) (z : Int) : Prop := 1 ≤ z ∧ z ≤ nO
theorem c_isObj {Γ : HS} {nO : Nat} {z : Int} (h : (Γ 4).2.1 0 0 = J (nO : Nat)) (hn : nO ≤ 120) (h1 : -100000 ≤ z) (h2 : z ≤ 100000) : F_X7_isObject (J z) Γ = some (if 1 ≤ z ∧ z ≤ nO then 1 else 0, Γ) := by
  unfold F_X7_isObject
  rw [show (1 : Int32) = J 1 from rfl, show (0 : Int32).toNatClampNeg = 0 from rfl, h]
  by_cases q : z < 1
  · rw [if_pos (by rw [J_lt (by omega) (by omega) (by omega) (by omega)]; exact q), if_neg (by omega)]
  · rw [if_neg (by rw [J_lt (by omega) (by omega) (by omega) (by omega)]; exact q)]
    by_cases q2 : (nO : Int) < z
    · rw [if_pos (by rw [J_lt (by omega) (by omega) (by omega) (by omega)]; exact q2), if_neg (by omega)]
    · rw [if_neg (by rw [J_lt (by omega) (by omega) (by omega) (by omega)]; exact q2), if_pos (by omega)]
/-- numbers as they come round -/
def VL (x : Int32) : Prop := ∃ z : Int, x = J z ∧ -32768 ≤ z ∧ z ≤ 32767
theorem VL_J {z : Int} (h1 : -32768 ≤ z) (h2 : z ≤ 32767) : VL (J z) := ⟨z, rfl, h1, h2⟩
theorem VL_16 (x : Int32) : VL (x.toInt16.toInt32) := by
  refine ⟨x.toInt16.toInt, ?_, Int16.le_toInt _, by have := Int16.toInt_lt x.toInt16; omega⟩
  apply Int32.toInt_inj.1
  rw [J_toInt (by have := Int16.le_toInt x.toInt16; omega) (by have := Int16.toInt_lt x.toInt16; omega), Int16.toInt_toInt32]
theorem VL_b {c : Prop} [Decidable c] : VL (if c then 1 else 0) := by
  by_cases h : c
  · rw [if_pos h]; exact VL_J (z := 1) (by omega) (by omega)
  · rw [if_neg h]; exact VL_J (z := 0) (by omega) (by omega)
theorem VL_b' {c : Prop} [Decidable c] : VL (if c then 0 else 1) := by
  by_cases h : c
  · rw [if_pos h]; exact VL_J (z := 0) (by omega) (by omega)
  · rw [if_neg h]; exact VL_J (z := 1) (by omega) (by omega)
/-- two sides -/
def numF (o : Int) (l r : Int32) : Int32 := if o = 10 then (l + r).toInt16.toInt32 else if o = 11 then (l - r).toInt16.toInt32 else if o = 12 then (l * r).toInt16.toInt32 else if o = 13 then (l / r).toInt16.toInt32 else if o = 14 then (l - l / r * r).toInt16.toInt32 else if o = 15 then (if l = r then 1 else 0) else if o = 16 then (if l = r then 0 else 1) else if o = 17 then (if r ≤ l then 0 else 1) else if o = 18 then (if r < l then 0 else 1) else if o = 19 then (if l ≤ r then 0 else 1) else (if l < r then 0 else 1)
theorem VL_num (o : Int) (l r : Int32) : VL (numF o l r) := by
  unfold numF
  repeat' split
  all_goals first | exact VL_16 _ | exact VL_J (z := 1) (by omega) (by omega) | exact VL_J (z := 0) (by omega) (by omega)
theorem c_worth {o : Int} {l r : Int32} {Γ : HS} (ho : 10 ≤ o ∧ o ≤ 20) (hr : o = 13 ∨ o = 14 → r ≠ 0) : F_X3_worth (J o) l r Γ = some (numF o l r, Γ) := by
  have e : ∀ c : Int, 0 ≤ c → c ≤ 100 → (J o = J c) = (o = c) := fun c h1 h2 => J_eq (by omega) (by omega) (by omega) (by omega)
  have e10 := e 10 (by omega) (by omega)
  have e11 := e 11 (by omega) (by omega)
  have e12 := e 12 (by omega) (by omega)
  have e13 := e 13 (by omega) (by omega)
  have e14 := e 14 (by omega) (by omega)
  have e15 := e 15 (by omega) (by omega)
  have e16 := e 16 (by omega) (by omega)
  have e17 := e 17 (by omega) (by omega)
  have e18 := e 18 (by omega) (by omega)
  have e19 := e 19 (by omega) (by omega)
  unfold F_X3_worth numF
  simp only [bndE]
  rw [show (10 : Int32) = J 10 from rfl, show (11 : Int32) = J 11 from rfl, show (12 : Int32) = J 12 from rfl, show (13 : Int32) = J 13 from rfl, show (14 : Int32) = J 14 from rfl, show (15 : Int32) = J 15 from rfl, show (16 : Int32) = J 16 from rfl, show (17 : Int32) = J 17 from rfl, show (18 : Int32) = J 18 from rfl, show (19 : Int32) = J 19 from rfl]
  simp only [e10, e11, e12, e13, e14, e15, e16, e17, e18, e19]
  by_cases h10 : o = 10
  · simp only [if_pos h10]
  simp only [if_neg h10]
  by_cases h11 : o = 11
  · simp only [if_pos h11]
  simp only [if_neg h11]
  by_cases h12 : o = 12
  · simp only [if_pos h12]
  simp only [if_neg h12]
  by_cases h13 : o = 13
  · simp only [if_pos h13, if_neg (hr (Or.inl h13))]
  simp only [if_neg h13]
  by_cases h14 : o = 14
  · simp only [if_pos h14, if_neg (hr (Or.inr h14))]
  simp only [if_neg h14]
  repeat' split
  all_goals first | rfl | (exfalso; omega)
theorem m_num {p ln t : Nat} {o : Int} {Γ : HS} (h : MC0 ln Γ p (t + 2)) (hpl : p < ln) (ht : t < 8990) (ho : op1 Γ p o) (ho2 : 10 ≤ o ∧ o ≤ 20) : ∃ Δ, CSP 1 Γ Δ ∧ ((((o = 13 ∨ o = 14) ∧ (Γ 10).2.1 6 (t + 1) = 0) ∧ BRK Γ Δ 1) ∨ (¬ ((o = 13 ∨ o = 14) ∧ (Γ 10).2.1 6 (t + 1) = 0) ∧ RES Γ Δ t (p + 1) (numF o ((Γ 10).2.1 6 t) ((Γ 10).2.1 6 (t + 1))))) := by
  have eD : RunD (J o) (pcS Γ (p + 1)) = F_X3_numberOp (J o) (pcS Γ (p + 1)) := by
    unfold RunD
    rw [show (32 : Int32) = J 32 from rfl, show (27 : Int32) = J 27 from rfl, show (21 : Int32) = J 21 from rfl, show (10 : Int32) = J 10 from rfl, if_neg (by rw [J_eq (by omega) (by omega) (by omega) (by omega)]; omega), if_pos (by rw [J_lt (by omega) (by omega) (by omega) (by omega)]; omega), if_pos (by rw [J_lt (by omega) (by omega) (by omega) (by omega)]; omega), if_neg (by rw [J_lt (by omega) (by omega) (by omega) (by omega)]; omega)]
  have e13 : (J o = 13) = (o = 13) := J_eq (a := o) (b := 13) (by omega) (by omega) (by omega) (by omega)
  have e14 : (J o = 14) = (o = 14) := J_eq (a := o) (b := 14) (by omega) (by omega) (by omega) (by omega)
  have hw : (o = 13 ∨ o = 14 → (Γ 10).2.1 6 (t + 1) ≠ 0) → (F_X3_worth (J o) ((Γ 10).2.1 6 t) ((Γ 10).2.1 6 (t + 1)) (ppS (ppS (pcS Γ (p + 1)) (t + 1)) t)).bind (fun u_9 => (F_X3_push u_9.1 (ppS (ppS (pcS Γ (p + 1)) (t + 1)) t)).bind fun u_11 => some ((0 : Int32), u_11.2)) = some ((0 : Int32), psh (ppS (ppS (pcS Γ (p + 1)) (t + 1)) t) t (numF o ((Γ 10).2.1 6 t) ((Γ 10).2.1 6 (t + 1)))) := fun hr => by
    rw [c_worth ho2 hr, Option.bind_some]
    dsimp only
    rw [c_push (t := t) rfl (by omega)]; rfl
  have hs : F_X3_stop 1 (ppS (ppS (pcS Γ (p + 1)) (t + 1)) t) = _ := c_stop (n := 1)
  have e0 : F_X3_numberOp (J o) (pcS Γ (p + 1)) = bnd (fun  (σ_5 : HS) => ( (F_X3_worth (J o) ((Γ 10).2.1 6 t) ((Γ 10).2.1 6 (t + 1)) σ_5).bind fun u_9 => (F_X3_push u_9.1 σ_5).bind fun u_11 => some (0, u_11.2) ) : HS → HR) fun j_6 => bnd (fun  (σ_13 : HS) => ( if (Γ 10).2.1 6 (t + 1) = 0 then ( (F_X3_stop 1 σ_13).bind fun u_19 => some (0, u_19.2) ) else ( j_6  σ_13 ) ) : HS → HR) fun j_14 => if J o = 13 then ( j_14 (ppS (ppS (pcS Γ (p + 1)) (t + 1)) t) ) else ( if J o = 14 then ( j_14 (ppS (ppS (pcS Γ (p + 1)) (t + 1)) t) ) else ( j_6 (ppS (ppS (pcS Γ (p + 1)) (t + 1)) t) ) ) := by
    unfold F_X3_numberOp
    rw [c_popP (t := t + 1) h.2.2.1 (by omega), Option.bind_some]
    dsimp only
    rw [c_pop (Γ := ppS (pcS Γ (p + 1)) (t + 1)) (t := t) rfl (by omega), Option.bind_some]; rfl
  by_cases q : (o = 13 ∨ o = 14) ∧ (Γ 10).2.1 6 (t + 1) = 0
  · have e1 : F_X3_numberOp (J o) (pcS Γ (p + 1)) = some ((0 : Int32), cI' (cI' (ppS (ppS (pcS Γ (p + 1)) (t + 1)) t) 10 5 (J 1)) 10 14 (J 4)) := by
      rw [e0, bndE, bndE]
      rcases q.1 with q13 | q13
      · rw [if_pos (e13.mpr q13)]; dsimp only; rw [if_pos q.2, hs]; rfl
      · rw [if_neg (by rw [e13]; omega), if_pos (e14.mpr q13)]; dsimp only; rw [if_pos q.2, hs]; rfl
    exact ⟨_, CSP_1 h hpl ho (by omega) (eD.trans e1), Or.inl ⟨q, MKt_BRK (t := 0) (MKt_pp (MKt_pp (MKt_pc MKt_rfl)))⟩⟩
  · have e1 := e0
    rw [bndE, bndE] at e1
    have hw' := hw (fun h1 h2 => q ⟨h1, h2⟩)
    have e2 : F_X3_numberOp (J o) (pcS Γ (p + 1)) = some ((0 : Int32), psh (ppS (ppS (pcS Γ (p + 1)) (t + 1)) t) t (numF o ((Γ 10).2.1 6 t) ((Γ 10).2.1 6 (t + 1)))) := by
      rw [e1]
      by_cases q13 : o = 13 ∨ o = 14
      · have q0 : (Γ 10).2.1 6 (t + 1) ≠ 0 := fun h => q ⟨q13, h⟩
        rcases q13 with q13 | q13
        · rw [if_pos (e13.mpr q13)]; dsimp only; rw [if_neg q0]; exact hw'
        · rw [if_neg (by rw [e13]; omega), if_pos (e14.mpr q13)]; dsimp only; rw [if_neg q0]; exact hw'
      · rw [if_neg (by rw [e13]; omega), if_neg (by rw [e14]; omega)]; exact hw'
    exact ⟨_, CSP_1 h hpl ho (by omega) (eD.trans e2), Or.inr ⟨q, RES_psh2⟩⟩
theorem RunD_f {o : Int} {Γ : HS} (ho : 0 ≤ o ∧ o < 10) : RunD (J o) Γ = F_X3_flowOp (J o) Γ := by
  unfold RunD
  rw [show (32 : Int32) = J 32 from rfl, show (27 : Int32) = J 27 from rfl, show (21 : Int32) = J 21 from rfl, show (10 : Int32) = J 10 from rfl, if_neg (by rw [J_eq (by omega) (by omega) (by omega) (by omega)]; omega), if_pos (by rw [J_lt (by omega) (by omega) (by omega) (by omega)]; omega), if_pos (by rw [J_lt (by omega) (by omega) (by omega) (by omega)]; omega), if_pos (by rw [J_lt (by omega) (by omega) (by omega) (by omega)]; omega)]
theorem RunD_o {o : Int} {Γ : HS} (ho : 21 ≤ o ∧ o < 27) : RunD (J o) Γ = F_X3_objectOp (J o) Γ := by
  unfold RunD
  rw [show (32 : Int32) = J 32 from rfl, show (27 : Int32) = J 27 from rfl, show (21 : Int32) = J 21 from rfl, if_neg (by rw [J_eq (by omega) (by omega) (by omega) (by omega)]; omega), if_pos (by rw [J_lt (by omega) (by omega) (by omega) (by omega)]; omega), if_neg (by rw [J_lt (by omega) (by omega) (by omega) (by omega)]; omega)]
theorem RunD_w {o : Int} {Γ : HS} (ho : 27 ≤ o ∧ o < 32) : RunD (J o) Γ = F_X3_worldOp (J o) Γ := by
  unfold RunD
  rw [show (32 : Int32) = J 32 from rfl, show (27 : Int32) = J 27 from rfl, if_neg (by rw [J_eq (by omega) (by omega) (by omega) (by omega)]; omega), if_neg (by rw [J_lt (by omega) (by omega) (by omega) (by omega)]; omega)]
/-- truth, not, minus -/
theorem m_truth {p ln t : Nat} {Γ : HS} (h : MC0 ln Γ p (t + 1)) (hpl : p < ln) (ht : t < 8990) (ho : op1 Γ p 7) : ∃ Δ, CSP 1 Γ Δ ∧ RES Γ Δ t (p + 1) (if (Γ 10).2.1 6 t = 0 then 0 else 1) := by
  refine ⟨_, CSP_1 (x := 0) h hpl ho (by omega) ?_, RES_psh1 (u := t)⟩
  rw [RunD_f (by omega)]
  unfold F_X3_flowOp
  rw [if_neg (by decide), if_neg (by decide), if_neg (by decide), if_neg (by decide), if_neg (by decide), if_neg (by decide), if_pos (by decide), c_popP (t := t) h.2.2.1 (by omega), Option.bind_some]
  dsimp only
  rw [bndE, st_pc]
  by_cases q : (Γ 10).2.1 6 t = 0
  · rw [if_pos q, if_pos q]; (try dsimp only); rw [c_pushQ (t := t) (by omega)]; rfl
  · rw [if_neg q, if_neg q]; (try dsimp only); rw [c_pushQ (t := t) (by omega)]; rfl
theorem m_not {p ln t : Nat} {Γ : HS} (h : MC0 ln Γ p (t + 1)) (hpl : p < ln) (ht : t < 8990) (ho : op1 Γ p 8) : ∃ Δ, CSP 1 Γ Δ ∧ RES Γ Δ t (p + 1) (if (Γ 10).2.1 6 t = 0 then 1 else 0) := by
  refine ⟨_, CSP_1 (x := 0) h hpl ho (by omega) ?_, RES_psh1 (u := t)⟩
  rw [RunD_f (by omega)]
  unfold F_X3_flowOp
  rw [if_neg (by decide), if_neg (by decide), if_neg (by decide), if_neg (by decide), if_neg (by decide), if_neg (by decide), if_neg (by decide), if_pos (by decide), c_popP (t := t) h.2.2.1 (by omega), Option.bind_some]
  dsimp only
  rw [bndE, st_pc]
  by_cases q : (Γ 10).2.1 6 t = 0
  · rw [if_pos q, if_pos q]; (try dsimp only); rw [c_pushQ (t := t) (by omega)]; rfl
  · rw [if_neg q, if_neg q]; (try dsimp only); rw [c_pushQ (t := t) (by omega)]; rfl
theorem m_neg {p ln t : Nat} {Γ : HS} (h : MC0 ln Γ p (t + 1)) (hpl : p < ln) (ht : t < 8990) (ho : op1 Γ p 9) : ∃ Δ, CSP 1 Γ Δ ∧ RES Γ Δ t (p + 1) ((-((Γ 10).2.1 6 t)).toInt16.toInt32) := by
  refine ⟨_, CSP_1 (x := 0) h hpl ho (by omega) ?_, RES_psh1 (u := t)⟩
  rw [RunD_f (by omega)]
  unfold F_X3_flowOp
  rw [if_neg (by decide), if_neg (by decide), if_neg (by decide), if_neg (by decide), if_neg (by decide), if_neg (by decide), if_neg (by decide), if_neg (by decide), c_popP (t := t) h.2.2.1 (by omega), Option.bind_some]
  dsimp only
  rw [bndE, st_pc, c_pushQ (t := t) (by omega)]; rfl
/-- where only the place and the top change -/
def JMP (Γ Δ : HS) (t q : Nat) : Prop := MKt 10000 Γ Δ ∧ (Δ 10).1 7 = J (t : Nat) ∧ (Δ 10).1 9 = J (q : Nat)
theorem m_drop {p ln t : Nat} {Γ : HS} (h : MC0 ln Γ p (t + 1)) (hpl : p < ln) (ht : t < 8990) (ho : op1 Γ p 1) : ∃ Δ, CSP 1 Γ Δ ∧ JMP Γ Δ t (p + 1) := by
  refine ⟨_, CSP_1 (x := 0) h hpl ho (by omega) ?_, ⟨MKt_pp (u := t) (MKt_pc MKt_rfl), rfl, rfl⟩⟩
  rw [RunD_f (by omega)]
  unfold F_X3_flowOp
  rw [if_neg (by decide), if_pos (by decide), c_popP (t := t) h.2.2.1 (by omega)]; rfl
theorem m_jump {p ln t v : Nat} {Γ : HS} (h : MC0 ln Γ p t) (hpl : p + 2 < ln) (hv : v < 65536) (ho : op3 Γ p 41 (v : Nat)) : ∃ Δ, CSP 1 Γ Δ ∧ JMP Γ Δ t v := by
  refine ⟨_, CSP_3 (x := 0) h hpl ho (by omega) hv ?_, ⟨MKt_pc (q := v) (MKt_pc (q := p + 3) MKt_rfl), h.2.2.1, rfl⟩⟩
  unfold F_X3_wideOp
  rw [if_neg (by decide), if_neg (by decide), if_neg (by decide), if_neg (by decide), if_neg (by decide), if_neg (by decide), if_neg (by decide), if_pos (by decide), bndE]; rfl
theorem m_jfalse {p ln t v : Nat} {Γ : HS} (h : MC0 ln Γ p (t + 1)) (hpl : p + 2 < ln) (ht : t < 8990) (hv : v < 65536) (ho : op3 Γ p 42 (v : Nat)) : ∃ Δ, CSP 1 Γ Δ ∧ JMP Γ Δ t (if (Γ 10).2.1 6 t = 0 then v else p + 3) := by
  have e : F_X3_wideOp (J 42) (J (v : Nat)) (pcS Γ (p + 3)) = some ((0 : Int32), pcS (ppS (pcS Γ (p + 3)) t) (if (Γ 10).2.1 6 t = 0 then v else p + 3)) := by
    unfold F_X3_wideOp
    rw [if_neg (by decide), if_neg (by decide), if_neg (by decide), if_neg (by decide), if_neg (by decide), if_neg (by decide), if_neg (by decide), if_neg (by decide), if_pos (by decide), c_popP (t := t) h.2.2.1 (by omega), Option.bind_some]
    dsimp only
    rw [bndE, st_pc]
    by_cases q : (Γ 10).2.1 6 t = 0
    · rw [if_pos q, if_pos q]; rfl
    · rw [if_neg q, if_neg q]; rfl
  exact ⟨_, CSP_3 h hpl ho (by omega) hv e, ⟨MKt_pc (MKt_pp (MKt_pc MKt_rfl)), rfl, rfl⟩⟩
/-- and, or: the left side tells (o = 44: or) -/
theorem m_pair {p ln t v : Nat} {o : Int} {Γ : HS} (h : MC0 ln Γ p (t + 1)) (hpl : p + 2 < ln) (ht : t < 8990) (hv : v < 65536) (ho : op3 Γ p o (v : Nat)) (ho2 : o = 43 ∨ o = 44) : ∃ Δ, CSP 1 Γ Δ ∧ ((((Γ 10).2.1 6 t = 0 ↔ o = 43) ∧ RES Γ Δ t v (if (Γ 10).2.1 6 t = 0 then 0 else 1)) ∨ (¬ ((Γ 10).2.1 6 t = 0 ↔ o = 43) ∧ JMP Γ Δ t (p + 3))) := by
  have e : F_X3_wideOp (J o) (J (v : Nat)) (pcS Γ (p + 3)) = F_X3_pairOp (if o = 44 then 1 else 0) (J (v : Nat)) (pcS Γ (p + 3)) ∨ F_X3_wideOp (J o) (J (v : Nat)) (pcS Γ (p + 3)) = (F_X3_pairOp (if o = 44 then 1 else 0) (J (v : Nat)) (pcS Γ (p + 3))).bind fun u_81 => some (0, u_81.2) := by
    right
    rcases ho2 with rfl | rfl
    · unfold F_X3_wideOp
      rw [if_neg (by decide), if_neg (by decide), if_neg (by decide), if_neg (by decide), if_neg (by decide), if_neg (by decide), if_neg (by decide), if_neg (by decide), if_neg (by decide), if_pos (by decide), bndE, if_neg (by decide)]; rfl
    · unfold F_X3_wideOp
      rw [if_neg (by decide), if_neg (by decide), if_neg (by decide), if_neg (by decide), if_neg (by decide), if_neg (by decide), if_neg (by decide), if_neg (by decide), if_neg (by decide), if_pos (by decide), bndE, if_pos (by decide)]; rfl
  have e0 : F_X3_pairOp (if o = 44 then 1 else 0) (J (v : Nat)) (pcS Γ (p + 3)) = bnd (fun (t_3 : Int32) (σ_4 : HS) => ( if t_3 = (if o = 44 then 1 else 0) then ( bnd (fun (t_10 : Int32) (σ_11 : HS) => ( (F_X3_push t_10 σ_11).bind fun u_15 => bnd (cI' u_15.2 10 9 (J (v : Nat))) fun σ_17 => some (0, σ_17) ) : Int32 → HS → HR) fun j_12 => if t_3 = 0 then ( j_12 0 σ_4 ) else ( j_12 1 σ_4 ) ) else ( some (0, σ_4) ) ) : Int32 → HS → HR) fun j_5 => if (Γ 10).2.1 6 t = 0 then ( j_5 0 (ppS (pcS Γ (p + 3)) t) ) else ( j_5 1 (ppS (pcS Γ (p + 3)) t) ) := by
    unfold F_X3_pairOp
    rw [c_popP (t := t) h.2.2.1 (by omega), Option.bind_some]; rfl
  have p0 : ∀ x : Int32, bnd (fun (t_10 : Int32) (σ_11 : HS) => ( (F_X3_push t_10 σ_11).bind fun u_15 => bnd (cI' u_15.2 10 9 (J (v : Nat))) fun σ_17 => some ((0 : Int32), σ_17) ) : Int32 → HS → HR) (fun j_12 => if x = 0 then ( j_12 0 (ppS (pcS Γ (p + 3)) t) ) else ( j_12 1 (ppS (pcS Γ (p + 3)) t) )) = some ((0 : Int32), pcS (psh (ppS (pcS Γ (p + 3)) t) t (if x = 0 then 0 else 1)) v) := fun x => by
    rw [bndE]
    by_cases q : x = 0
    · rw [if_pos q, if_pos q]; (try dsimp only); rw [c_pushQ (by omega)]; rfl
    · rw [if_neg q, if_neg q]; (try dsimp only); rw [c_pushQ (by omega)]; rfl
  have e2 : F_X3_pairOp (if o = 44 then 1 else 0) (J (v : Nat)) (pcS Γ (p + 3)) = if ((Γ 10).2.1 6 t = 0 ↔ o = 43) then some ((0 : Int32), pcS (psh (ppS (pcS Γ (p + 3)) t) t (if (Γ 10).2.1 6 t = 0 then 0 else 1)) v) else some ((0 : Int32), ppS (pcS Γ (p + 3)) t) := by
    rw [e0, bndE]
    by_cases q : (Γ 10).2.1 6 t = 0
    · rcases ho2 with rfl | rfl
      · have hi : ((Γ 10).2.1 6 t = 0 ↔ (43 : Int) = 43) := ⟨fun _ => rfl, fun _ => q⟩
        rw [if_pos q, if_pos hi, if_pos q]
        dsimp only
        rw [if_pos (by decide)]
        exact p0 0
      · have hi : ¬ ((Γ 10).2.1 6 t = 0 ↔ (44 : Int) = 43) := fun h => absurd (h.mp q) (by decide)
        rw [if_pos q, if_neg hi]
        dsimp only
        rw [if_neg (by decide)]
    · rcases ho2 with rfl | rfl
      · have hi : ¬ ((Γ 10).2.1 6 t = 0 ↔ (43 : Int) = 43) := fun h => q (h.mpr rfl)
        rw [if_neg q, if_neg hi]
        dsimp only
        rw [if_neg (by decide)]
      · have hi : ((Γ 10).2.1 6 t = 0 ↔ (44 : Int) = 43) := ⟨fun h => absurd h q, fun h => absurd h (by decide)⟩
        rw [if_neg q, if_pos hi, if_neg q]
        dsimp only
        rw [if_pos (by decide)]
        exact p0 1
  have e3 : F_X3_wideOp (J o) (J (v : Nat)) (pcS Γ (p + 3)) = if ((Γ 10).2.1 6 t = 0 ↔ o = 43) then some ((0 : Int32), pcS (psh (ppS (pcS Γ (p + 3)) t) t (if (Γ 10).2.1 6 t = 0 then 0 else 1)) v) else some ((0 : Int32), ppS (pcS Γ (p + 3)) t) := by
    rcases e with e | e
    · rw [e, e2]
    · rw [e, e2]; split <;> rfl
  by_cases q : ((Γ 10).2.1 6 t = 0 ↔ o = 43)
  · rw [if_pos q] at e3
    exact ⟨_, CSP_3 h hpl ho (by omega) hv e3, Or.inl ⟨q, MKt_pc (MKt_psh (MKt_pp (MKt_pc MKt_rfl)) (Nat.le_refl _)), rfl, rfl, psh_st⟩⟩
  · rw [if_neg q] at e3
    exact ⟨_, CSP_3 h hpl ho (by omega) hv e3, Or.inr ⟨q, MKt_pp (MKt_pc MKt_rfl), rfl, rfl⟩⟩
