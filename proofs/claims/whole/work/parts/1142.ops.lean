/-! the class's machine: objects, the world, cells -/
theorem g_at_1 {n : Nat} {f : Nat → Int32} {z : Int} (h : 0 ≤ z) (h2 : z < n) (h3 : n < 100000) : g_at n f (J z) = f z.toNat := q_g_at_in h (by omega) (by omega)
/-- an object is wanted: what comes then, if it is one -/
def objK (o : Int32) (t_1 z : Int32) (Δ : HS) : HR := if o = 21 then ((F_X3_sayName z Δ).bind fun u_30 => some (0, u_30.2)) else if o = 23 then (bnd ((g_at 121 ((Δ 9).2.1 0) z)) fun (x_35 : Int32) => bnd (fun (t_37 : Int32) (σ_38 : HS) => ( (F_X3_push t_37 σ_38).bind fun u_42 => some (0, u_42.2) ) : Int32 → HS → HR) fun j_39 => if x_35 = t_1 then ( j_39 1 Δ ) else ( j_39 0 Δ )) else if o = 24 then (bnd ((g_at 121 ((Δ 9).2.1 0) z)) fun (x_50 : Int32) => (F_X3_push x_50 Δ).bind fun u_52 => some (0, u_52.2)) else if o = 25 then (bnd ((g_at 121 ((Δ 9).2.1 1) z)) fun (x_57 : Int32) => (F_X3_push x_57 Δ).bind fun u_59 => some (0, u_59.2)) else if o = 26 then (bnd ((g_at 121 ((Δ 9).2.1 2) z)) fun (x_64 : Int32) => (F_X3_push x_64 Δ).bind fun u_66 => some (0, u_66.2)) else ((F_X6_takeOut z Δ).bind fun u_69 => bnd (mrg (fun j => j == 9) Δ u_69.2) fun σ_71 => some (0, σ_71))
def objP (o t_1 : Int32) (Γ : HS) : HR := (F_X3_pop Γ).bind fun u_6 => bnd (fun (t_8 : Int32) (σ_9 : HS) => ( (F_X7_isObject u_6.1 σ_9).bind fun u_13 => bnd (mrg (fun j => j == 4 || j == 5 || j == 6 || j == 7) σ_9 u_13.2) fun σ_15 => bnd (fun  (σ_17 : HS) => ( (F_X3_stop 2 σ_17).bind fun u_21 => some (0, u_21.2) ) : HS → HR) fun j_18 => if u_13.1 = 0 then ( j_18  σ_15 ) else ( if t_8 = 0 then ( objK o t_1 u_6.1 σ_15 ) else ( j_18  σ_15 ) ) ) : Int32 → HS → HR) fun j_10 => bnd (fun  (σ_74 : HS) => ( j_10 0 σ_74 ) : HS → HR) fun j_75 => if o = 22 then ( bnd (fun  (σ_80 : HS) => ( j_10 1 σ_80 ) : HS → HR) fun j_81 => if u_6.1 = 1 then ( j_81  u_6.2 ) else ( (F_X7_isRoom u_6.1 u_6.2).bind fun u_87 => bnd (mrg (fun j => j == 4 || j == 5 || j == 6 || j == 7) u_6.2 u_87.2) fun σ_89 => if u_87.1 = 0 then ( j_75  σ_89 ) else ( j_81  σ_89 ) ) ) else ( j_75  u_6.2 )
theorem objOp_eq (o : Int32) (Γ : HS) : F_X3_objectOp o Γ = if o = 23 then (F_X3_pop Γ).bind fun u_97 => objP o u_97.1 u_97.2 else objP o 0 Γ := rfl
/-- what an object instruction (no remove) does with its object -/
theorem c_objP {o : Int} {t1 : Int32} {z : Int} {Γ : HS} {t nO : Nat} (ho : 21 ≤ o ∧ o ≤ 26 ∧ o ≠ 22) (h7 : (Γ 10).1 7 = J (t + 1 : Nat)) (ht : t < 8990) (hz : (Γ 10).2.1 6 t = J z) (hz2 : -32768 ≤ z ∧ z ≤ 32767) (h4 : (Γ 4).2.1 0 0 = J (nO : Nat)) (hn : nO ≤ 120) : objP (J o) t1 Γ = if 1 ≤ z ∧ z ≤ nO then objK (J o) t1 (J z) (ppS Γ t) else some ((0 : Int32), cI' (cI' (ppS Γ t) 10 5 (J 2)) 10 14 (J 4)) := by
  have e22 : ¬ J o = 22 := by rw [show (22 : Int32) = J 22 from rfl, J_eq (by omega) (by omega) (by omega) (by omega)]; omega
  unfold objP
  rw [c_pop h7 (by omega), Option.bind_some, hz]
  dsimp only
  rw [bndE, bndE, if_neg e22]
  dsimp only
  rw [c_isObj (Γ := ppS Γ t) h4 hn (by omega) (by omega), Option.bind_some]
  dsimp only
  rw [bndE, mrg47S, bndE]
  by_cases q : 1 ≤ z ∧ z ≤ nO
  · rw [if_pos q, if_pos q, if_neg (by decide), if_pos (by decide)]
  · rw [if_neg q, if_neg q, if_pos (by decide)]; dsimp only; rw [show F_X3_stop 2 (ppS Γ t) = _ from c_stop (n := 2)]; rfl
/-- holder, first, next -/
theorem m_hfn {p ln t nO : Nat} {o : Int} {z : Int} {Γ : HS} (h : MC0 ln Γ p (t + 1)) (hpl : p < ln) (ht : t < 8990) (ho : op1 Γ p o) (ho2 : 24 ≤ o ∧ o ≤ 26) (hz : (Γ 10).2.1 6 t = J z) (hz2 : -32768 ≤ z ∧ z ≤ 32767) (h4 : (Γ 4).2.1 0 0 = J (nO : Nat)) (hn : nO ≤ 120) : ∃ Δ, CSP 1 Γ Δ ∧ ((¬ (1 ≤ z ∧ z ≤ nO) ∧ BRK Γ Δ 2) ∨ ((1 ≤ z ∧ z ≤ nO) ∧ RES Γ Δ t (p + 1) ((Γ 9).2.1 (o - 24).toNat z.toNat))) := by
  have e := c_objP (Γ := pcS Γ (p + 1)) (o := o) (t1 := 0) (by omega) h.2.2.1 ht hz hz2 h4 hn
  have e2 : RunD (J o) (pcS Γ (p + 1)) = objP (J o) 0 (pcS Γ (p + 1)) := by
    rw [RunD_o (by omega), objOp_eq, if_neg (by rw [show (23 : Int32) = J 23 from rfl, J_eq (by omega) (by omega) (by omega) (by omega)]; omega)]
  rw [e] at e2
  by_cases q : 1 ≤ z ∧ z ≤ nO
  · rw [if_pos q] at e2
    refine ⟨_, CSP_1 (x := 0) (Δ := psh (ppS (pcS Γ (p + 1)) t) t ((Γ 9).2.1 (o - 24).toNat z.toNat)) h hpl ho (by omega) (e2.trans ?_), Or.inr ⟨q, RES_psh1⟩⟩
    have ho3 : o = 24 ∨ o = 25 ∨ o = 26 := by omega
    unfold objK
    rcases ho3 with rfl | rfl | rfl
    · rw [if_neg (by decide), if_neg (by decide), if_pos (by decide), bndE, g_at_1 (by omega) (by omega) (by omega), c_pushQ (t := t) (by omega)]; rfl
    · rw [if_neg (by decide), if_neg (by decide), if_neg (by decide), if_pos (by decide), bndE, g_at_1 (by omega) (by omega) (by omega), c_pushQ (t := t) (by omega)]; rfl
    · rw [if_neg (by decide), if_neg (by decide), if_neg (by decide), if_neg (by decide), if_pos (by decide), bndE, g_at_1 (by omega) (by omega) (by omega), c_pushQ (t := t) (by omega)]; rfl
  · rw [if_neg q] at e2
    exact ⟨_, CSP_1 h hpl ho (by omega) e2, Or.inl ⟨q, MKt_BRK (t := 0) (MKt_pp (MKt_pc MKt_rfl))⟩⟩
theorem m_in {p ln t nO : Nat} {z : Int} {Γ : HS} (h : MC0 ln Γ p (t + 2)) (hpl : p < ln) (ht : t < 8990) (ho : op1 Γ p 23) (hz : (Γ 10).2.1 6 t = J z) (hz2 : -32768 ≤ z ∧ z ≤ 32767) (h4 : (Γ 4).2.1 0 0 = J (nO : Nat)) (hn : nO ≤ 120) : ∃ Δ, CSP 1 Γ Δ ∧ ((¬ (1 ≤ z ∧ z ≤ nO) ∧ BRK Γ Δ 2) ∨ ((1 ≤ z ∧ z ≤ nO) ∧ RES Γ Δ t (p + 1) (if (Γ 9).2.1 0 z.toNat = (Γ 10).2.1 6 (t + 1) then 1 else 0))) := by
  have e := c_objP (Γ := ppS (pcS Γ (p + 1)) (t + 1)) (o := 23) (t1 := (Γ 10).2.1 6 (t + 1)) (by omega) rfl ht hz hz2 h4 hn
  have e2 : RunD (J 23) (pcS Γ (p + 1)) = objP (J 23) ((Γ 10).2.1 6 (t + 1)) (ppS (pcS Γ (p + 1)) (t + 1)) := by
    rw [RunD_o (by omega), objOp_eq, if_pos (by decide), c_popP (t := t + 1) h.2.2.1 (by omega), Option.bind_some]; rfl
  rw [e] at e2
  by_cases q : 1 ≤ z ∧ z ≤ nO
  · rw [if_pos q] at e2
    refine ⟨_, CSP_1 (x := 0) (Δ := psh (ppS (ppS (pcS Γ (p + 1)) (t + 1)) t) t (if (Γ 9).2.1 0 z.toNat = (Γ 10).2.1 6 (t + 1) then 1 else 0)) h hpl ho (by omega) (e2.trans ?_), Or.inr ⟨q, RES_psh2⟩⟩
    unfold objK
    rw [if_neg (by decide), if_pos (by decide), bndE, g_at_1 (by omega) (by omega) (by omega), bndE, show ((ppS (ppS (pcS Γ (p + 1)) (t + 1)) t) 9).2.1 0 = (Γ 9).2.1 0 from rfl]
    by_cases q2 : (Γ 9).2.1 0 z.toNat = (Γ 10).2.1 6 (t + 1)
    · rw [if_pos q2, if_pos q2]; dsimp only; rw [c_pushQ (by omega)]; rfl
    · rw [if_neg q2, if_neg q2]; dsimp only; rw [c_pushQ (by omega)]; rfl
  · rw [if_neg q] at e2
    exact ⟨_, CSP_1 h hpl ho (by omega) e2, Or.inl ⟨q, MKt_BRK (t := 0) (MKt_pp (MKt_pp (MKt_pc MKt_rfl)))⟩⟩
/-- here, noun, second -/
theorem m_hns {p ln t : Nat} {o : Int} {Γ : HS} (h : MC0 ln Γ p t) (hpl : p < ln) (ht : t < 8990) (ho : op1 Γ p o) (ho2 : 28 ≤ o ∧ o ≤ 30) : ∃ Δ, CSP 1 Γ Δ ∧ RES Γ Δ t (p + 1) (if o = 28 then (Γ 9).2.1 0 1 else if o = 29 then (Γ 10).1 3 else (Γ 10).1 4) := by
  refine ⟨_, CSP_1 (x := 0) h hpl ho (by omega) ?_, RES_psh⟩
  rw [RunD_w (by omega)]
  unfold F_X3_worldOp
  have ho3 : o = 28 ∨ o = 29 ∨ o = 30 := by omega
  rcases ho3 with rfl | rfl | rfl
  · rw [if_neg (by decide), if_pos (by decide), if_pos (by decide)]
    unfold F_X6_here
    rw [Option.bind_some]
    dsimp only
    rw [bndE, mrgS, c_pushP (t := t) h.2.2.1 (by omega)]; rfl
  · rw [if_neg (by decide), if_neg (by decide), if_pos (by decide), if_neg (by decide), if_pos (by decide), c_pushP (t := t) h.2.2.1 (by omega)]; rfl
  · rw [if_neg (by decide), if_neg (by decide), if_neg (by decide), if_pos (by decide), if_neg (by decide), if_neg (by decide), c_pushP (t := t) h.2.2.1 (by omega)]; rfl
/-- has -/
theorem m_has {p ln t nO a : Nat} {z : Int} {Γ : HS} (h : MC0 ln Γ p (t + 1)) (hpl : p + 2 < ln) (ht : t < 8990) (ho : op3 Γ p 46 (a : Nat)) (ha : a < 7) (hz : (Γ 10).2.1 6 t = J z) (hz2 : -32768 ≤ z ∧ z ≤ 32767) (h4 : (Γ 4).2.1 0 0 = J (nO : Nat)) (hn : nO ≤ 120) : ∃ Δ, CSP 1 Γ Δ ∧ ((¬ (1 ≤ z ∧ z ≤ nO) ∧ BRK Γ Δ 2) ∨ ((1 ≤ z ∧ z ≤ nO) ∧ RES Γ Δ t (p + 3) (if (((Γ 9).2.1 3 z.toNat) >>> (J (a : Nat) &&& 31)) &&& 1 = 0 then 0 else 1))) := by
  have e : F_X3_wideOp (J 46) (J (a : Nat)) (pcS Γ (p + 3)) = if 1 ≤ z ∧ z ≤ nO then some ((0 : Int32), psh (ppS (pcS Γ (p + 3)) t) t (if (((Γ 9).2.1 3 z.toNat) >>> (J (a : Nat) &&& 31)) &&& 1 = 0 then 0 else 1)) else some ((0 : Int32), cI' (cI' (ppS (pcS Γ (p + 3)) t) 10 5 (J 2)) 10 14 (J 4)) := by
    unfold F_X3_wideOp
    rw [if_neg (by decide), if_neg (by decide), if_neg (by decide), if_neg (by decide), if_neg (by decide), if_neg (by decide), if_neg (by decide), if_neg (by decide), if_neg (by decide), if_neg (by decide), if_neg (by decide)]
    unfold F_X3_traitOp
    rw [c_popP (t := t) h.2.2.1 (by omega), Option.bind_some, st_pc, hz]
    dsimp only
    rw [c_isObj (Γ := ppS (pcS Γ (p + 3)) t) h4 hn (by omega) (by omega), Option.bind_some]
    dsimp only
    rw [bndE, mrg47S]
    by_cases q : 1 ≤ z ∧ z ≤ nO
    · rw [if_pos q, if_pos q, if_neg (by decide), if_pos (by decide)]
      unfold F_X6_bears
      rw [bndE, g_at_1 (by omega) (by omega) (by omega), show ((ppS (pcS Γ (p + 3)) t) 9).2.1 3 = (Γ 9).2.1 3 from rfl]
      by_cases q2 : (((Γ 9).2.1 3 z.toNat) >>> (J (a : Nat) &&& 31)) &&& 1 = 0
      · rw [if_pos q2, if_pos q2, Option.bind_some]
        dsimp only
        rw [bndE, mrgS, bndE, if_pos (by decide)]; dsimp only; rw [c_pushQ (t := t) (by omega)]; rfl
      · rw [if_neg q2, if_neg q2, Option.bind_some]
        dsimp only
        rw [bndE, mrgS, bndE, if_neg (by decide)]; dsimp only; rw [c_pushQ (t := t) (by omega)]; rfl
    · rw [if_neg q, if_neg q, if_pos (by decide), show F_X3_stop 2 _ = _ from c_stop (n := 2)]; rfl
  by_cases q : 1 ≤ z ∧ z ≤ nO
  · rw [if_pos q] at e
    exact ⟨_, CSP_3 h hpl ho (by omega) (by omega) e, Or.inr ⟨q, RES_psh1⟩⟩
  · rw [if_neg q] at e
    exact ⟨_, CSP_3 h hpl ho (by omega) (by omega) e, Or.inl ⟨q, MKt_BRK (t := 0) (MKt_pp (MKt_pc MKt_rfl))⟩⟩
/-- where array k begins and ends -/
def AEND (Γ : HS) (en : Nat → Nat) (nA : Nat) : Prop := nA ≤ 20 ∧ ∀ k, k < nA → (Γ 4).2.1 12 k = J (en (k + 1) : Nat)
theorem c_cellOf {Γ : HS} {en : Nat → Nat} {nA k : Nat} {z : Int} (h : AEND Γ en nA) (hk : k < nA) (h0 : en 0 = 0) (hm : en k ≤ en (k + 1)) (hb : en (k + 1) ≤ 1000) (hz : -32768 ≤ z ∧ z ≤ 32767) : F_X7_cellOf (J (k : Nat)) (J z) Γ = some (if 0 ≤ z ∧ z < en (k + 1) - en k then J (en k + z) else J (-1), Γ) := by
  obtain ⟨h1, h2⟩ := h
  unfold F_X7_cellOf
  have fin : (if J z < 0 then some ((-1 : Int32), Γ) else if g_at 20 ((Γ 4).2.1 12) (J (k : Nat)) - J (en k : Nat) ≤ J z then some ((-1 : Int32), Γ) else some (J (en k : Nat) + J z, Γ)) = some (if 0 ≤ z ∧ z < en (k + 1) - en k then J (en k + z) else J (-1), Γ) := by
    rw [q_g_at_in (by omega) (by omega) (by omega), show ((k : Nat) : Int).toNat = k by omega, h2 k hk, J_sub, show (0 : Int32) = J 0 from rfl, J_add]
    by_cases q : z < 0
    · rw [if_pos (by rw [J_lt (by omega) (by omega) (by omega) (by omega)]; exact q), if_neg (by omega)]; rfl
    · rw [if_neg (by rw [J_lt (by omega) (by omega) (by omega) (by omega)]; exact q)]
      by_cases q2 : (en (k + 1) : Int) - en k ≤ z
      · rw [if_pos (by rw [J_le (by omega) (by omega) (by omega) (by omega)]; exact q2), if_neg (by omega)]; rfl
      · rw [if_neg (by rw [J_le (by omega) (by omega) (by omega) (by omega)]; exact q2), if_pos (by omega)]
  rw [bndE]
  by_cases q : k = 0
  · rw [if_pos (by rw [q]; decide)]
    rw [show (J (en k : Nat) : Int32) = 0 by rw [q, h0]; rfl] at fin
    exact fin
  · rw [if_neg (by rw [show (0 : Int32) = J 0 from rfl, J_le (by omega) (by omega) (by omega) (by omega)]; omega), bndE, bndE, show J (k : Nat) - 1 = J (k - 1 : Nat) by rw [show (1 : Int32) = J 1 from rfl, J_sub]; congr 1; omega, q_g_at_in (n := 20) (i := ((k - 1 : Nat) : Int)) (by omega) (by omega) (by omega), show (((k - 1 : Nat) : Int)).toNat = k - 1 by omega, h2 (k - 1) (by omega), show k - 1 + 1 = k by omega]
    exact fin
theorem m_cell {p ln t k nA : Nat} {en : Nat → Nat} {z : Int} {Γ : HS} (h : MC0 ln Γ p (t + 1)) (hpl : p + 2 < ln) (ht : t < 8990) (ho : op3 Γ p 36 (k : Nat)) (hA : AEND Γ en nA) (hk : k < nA) (h0 : en 0 = 0) (hm : en k ≤ en (k + 1)) (hb : en (k + 1) ≤ 1000) (hz : (Γ 10).2.1 6 t = J z) (hz2 : -32768 ≤ z ∧ z ≤ 32767) : ∃ Δ, CSP 1 Γ Δ ∧ ((¬ (0 ≤ z ∧ z < en (k + 1) - en k) ∧ BRK Γ Δ 4) ∨ ((0 ≤ z ∧ z < en (k + 1) - en k) ∧ RES Γ Δ t (p + 3) ((Γ 9).2.1 5 (en k + z).toNat))) := by
  have hkn := hA.1
  have e : F_X3_wideOp (J 36) (J (k : Nat)) (pcS Γ (p + 3)) = if 0 ≤ z ∧ z < en (k + 1) - en k then some ((0 : Int32), psh (ppS (pcS Γ (p + 3)) t) t ((Γ 9).2.1 5 (en k + z).toNat)) else some ((0 : Int32), cI' (cI' (ppS (pcS Γ (p + 3)) t) 10 5 (J 4)) 10 14 (J 4)) := by
    unfold F_X3_wideOp
    rw [if_neg (by decide), if_neg (by decide), if_neg (by decide), if_pos (by decide), bndE, if_neg (by decide)]
    unfold F_X3_cellOp
    dsimp only
    rw [bndE, if_pos (by decide)]
    dsimp only
    rw [c_popP (t := t) h.2.2.1 (by omega), Option.bind_some, st_pc, hz]
    dsimp only
    rw [c_cellOf (Γ := ppS (pcS Γ (p + 3)) t) hA hk h0 hm hb hz2, Option.bind_some]
    dsimp only
    rw [bndE, mrg47S]
    by_cases q : 0 ≤ z ∧ z < en (k + 1) - en k
    · rw [if_pos q, if_pos q, if_neg (by rw [show (-1 : Int32) = J (-1) from rfl, J_eq (by omega) (by omega) (by omega) (by omega)]; omega), if_pos (by decide), bndE, g_at_1 (by omega) (by omega) (by omega), c_pushQ (t := t) (by omega)]; rfl
    · rw [if_neg q, if_neg q, if_pos (by decide), show F_X3_stop 4 _ = _ from c_stop (n := 4)]; rfl
  by_cases q : 0 ≤ z ∧ z < en (k + 1) - en k
  · rw [if_pos q] at e
    exact ⟨_, CSP_3 h hpl ho (by omega) (by omega) e, Or.inr ⟨q, RES_psh1⟩⟩
  · rw [if_neg q] at e
    exact ⟨_, CSP_3 h hpl ho (by omega) (by omega) e, Or.inl ⟨q, MKt_BRK (t := 0) (MKt_pp (MKt_pc MKt_rfl))⟩⟩
