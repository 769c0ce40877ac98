/-! the class's machine: move, set and clear, random, win and lose, the end of a routine -/
theorem c_isRm2 {Γ : HS} {z : Int} {nO : Nat} {room : Nat → Bool} (h : 1 ≤ z ∧ z ≤ nO) (hn : nO ≤ 120) (hr : ∀ x, x ≤ 120 → (Γ 4).2.1 1 x = if room x = true then 1 else 0) : F_X7_isRoom (J z) Γ = some (if room z.toNat = true then 1 else 0, Γ) := c_isRm h.1 (by omega) (hr _ (by omega))
/-- what a move breaks with: 2, 3, or it can be done (0) -/
def mvB (nO : Nat) (room : Nat → Bool) (pa : Nat → Nat) (x h : Int) : Int := if ¬ (1 ≤ x ∧ x ≤ nO) ∨ ¬ (1 ≤ h ∧ h ≤ nO) ∨ room x.toNat = true ∨ (x = 1 ∧ room h.toNat = false) then 2 else if wiN pa x.toNat (nO + 1) h.toNat = true then 3 else 0
theorem m_move {p ln t nO : Nat} {Γ : HS} {x h : Int} {room : Nat → Bool} {pa fi nx : Nat → Nat} {ch : Nat → List Nat} (hM : MC0 ln Γ p (t + 2)) (hpl : p < ln) (ht : t < 8990) (ho : op1 Γ p 32) (hx : (Γ 10).2.1 6 t = J x) (hx2 : -32768 ≤ x ∧ x ≤ 32767) (hh : (Γ 10).2.1 6 (t + 1) = J h) (hh2 : -32768 ≤ h ∧ h ≤ 32767) (h4 : (Γ 4).2.1 0 0 = J (nO : Nat)) (hn : nO ≤ 120) (hr : ∀ x, x ≤ 120 → (Γ 4).2.1 1 x = if room x = true then 1 else 0) (t0 : TR nO pa fi nx ch) (hC : CTr Γ pa fi nx) : (∃ n : Int, mvB nO room pa x h = n ∧ n ≠ 0 ∧ ∃ Δ, CSP 1 Γ Δ ∧ BRK Γ Δ n) ∨ (mvB nO room pa x h = 0 ∧ ∀ Δ : HS, F_X6_moveInto (J x) (J h) (ppS (ppS (pcS Γ (p + 1)) (t + 1)) t) = some ((0 : Int32), Δ) → (∀ r, r ≠ 9 → Δ r = (ppS (ppS (pcS Γ (p + 1)) (t + 1)) t) r) → CSP 1 Γ Δ) := by
  have eD : RunD (J 32) (pcS Γ (p + 1)) = F_X3_moveOp (pcS Γ (p + 1)) := by unfold RunD; rw [if_pos (by decide)]
  have hs : ∀ n : Int, F_X3_stop (J n) (ppS (ppS (pcS Γ (p + 1)) (t + 1)) t) = _ := fun n => c_stop (n := n)
  have brk : ∀ n : Int, BRK Γ (cI' (cI' (ppS (ppS (pcS Γ (p + 1)) (t + 1)) t) 10 5 (J n)) 10 14 (J 4)) n := fun n => MKt_BRK (t := 0) (MKt_pp (MKt_pp (MKt_pc MKt_rfl)))
  have eI := c_isObj (Γ := ppS (ppS (pcS Γ (p + 1)) (t + 1)) t) h4 hn (z := x) (by omega) (by omega)
  have eI2 := c_isObj (Γ := ppS (ppS (pcS Γ (p + 1)) (t + 1)) t) h4 hn (z := h) (by omega) (by omega)
  have e1 : (J x = 1) = (x = 1) := J_eq (a := x) (b := 1) (by omega) (by omega) (by omega) (by omega)
  have eU : F_X3_moveOp (pcS Γ (p + 1)) = (F_X7_isObject (J x) (ppS (ppS (pcS Γ (p + 1)) (t + 1)) t)).bind fun u_5 => bnd (mrg (fun j => j == 4 || j == 5 || j == 6 || j == 7) (ppS (ppS (pcS Γ (p + 1)) (t + 1)) t) u_5.2) fun σ_7 => bnd (fun  (σ_9 : HS) => ( (F_X3_stop 2 σ_9).bind fun u_13 => some (0, u_13.2) ) : HS → HR) fun j_10 => if u_5.1 = 0 then ( j_10  σ_7 ) else ( (F_X7_isObject (J h) σ_7).bind fun u_18 => bnd (mrg (fun j => j == 4 || j == 5 || j == 6 || j == 7) σ_7 u_18.2) fun σ_20 => if u_18.1 = 0 then ( j_10  σ_20 ) else ( (F_X7_isRoom (J x) σ_20).bind fun u_25 => bnd (mrg (fun j => j == 4 || j == 5 || j == 6 || j == 7) σ_20 u_25.2) fun σ_27 => if u_25.1 = 0 then ( bnd (fun  (σ_31 : HS) => ( (F_X6_isWithin (J h) (J x) σ_31).bind fun u_35 => bnd (mrg (fun j => j == 9) σ_31 u_35.2) fun σ_37 => if u_35.1 = 0 then ( (F_X6_moveInto (J x) (J h) σ_37).bind fun u_41 => bnd (mrg (fun j => j == 9) σ_37 u_41.2) fun σ_43 => some (0, σ_43) ) else ( (F_X3_stop 3 σ_37).bind fun u_46 => some (0, u_46.2) ) ) : HS → HR) fun j_32 => if (J x) = 1 then ( (F_X7_isRoom (J h) σ_27).bind fun u_50 => bnd (mrg (fun j => j == 4 || j == 5 || j == 6 || j == 7) σ_27 u_50.2) fun σ_52 => if u_50.1 = 0 then ( j_10  σ_52 ) else ( j_32  σ_52 ) ) else ( j_32  σ_27 ) ) else ( j_10  σ_27 ) ) ) := by
    unfold F_X3_moveOp
    rw [c_popP (t := t + 1) hM.2.2.1 (by omega), Option.bind_some, st_pc, hh]
    dsimp only
    rw [c_pop (Γ := ppS (pcS Γ (p + 1)) (t + 1)) (t := t) rfl (by omega), Option.bind_some, show ((ppS (pcS Γ (p + 1)) (t + 1)) 10).2.1 6 t = J x from hx]
  have two : mvB nO room pa x h = 2 → F_X3_moveOp (pcS Γ (p + 1)) = some ((0 : Int32), cI' (cI' (ppS (ppS (pcS Γ (p + 1)) (t + 1)) t) 10 5 (J 2)) 10 14 (J 4)) → (∃ n : Int, mvB nO room pa x h = n ∧ n ≠ 0 ∧ ∃ Δ, CSP 1 Γ Δ ∧ BRK Γ Δ n) := fun a b => ⟨2, a, by omega, _, CSP_1 hM hpl ho (by omega) (eD.trans b), brk 2⟩
  by_cases qx : 1 ≤ x ∧ x ≤ nO
  · rw [if_pos qx] at eI
    by_cases qh : 1 ≤ h ∧ h ≤ nO
    · rw [if_pos qh] at eI2
      have eR := c_isRm2 (Γ := ppS (ppS (pcS Γ (p + 1)) (t + 1)) t) qx hn hr
      have eR2 := c_isRm2 (Γ := ppS (ppS (pcS Γ (p + 1)) (t + 1)) t) qh hn hr
      rw [eI, Option.bind_some] at eU
      dsimp only at eU
      rw [bndE, mrg47S, bndE, if_neg (by decide), eI2, Option.bind_some] at eU
      dsimp only at eU
      rw [bndE, mrg47S, if_neg (by decide), eR, Option.bind_some] at eU
      dsimp only at eU
      rw [bndE, mrg47S] at eU
      by_cases qr : room x.toNat = true
      · rw [if_pos qr, if_neg (by decide), show F_X3_stop 2 _ = _ from hs 2] at eU
        exact Or.inl (two (by unfold mvB; rw [if_pos (Or.inr (Or.inr (Or.inl qr)))]) eU)
      · rw [if_neg qr, if_pos rfl, bndE] at eU
        have hwi := c_isWithin t0 (x := h.toNat) (y := x.toNat) (by omega) (by omega) (Γ := ppS (ppS (pcS Γ (p + 1)) (t + 1)) t) hC
        rw [show J (h.toNat : Nat) = J h by congr 1; omega, show J (x.toNat : Nat) = J x by congr 1; omega] at hwi
        have goOn : ¬ (x = 1 ∧ room h.toNat = false) → F_X3_moveOp (pcS Γ (p + 1)) = ((F_X6_isWithin (J h) (J x) (ppS (ppS (pcS Γ (p + 1)) (t + 1)) t)).bind fun u_35 => bnd (mrg (fun j => j == 9) (ppS (ppS (pcS Γ (p + 1)) (t + 1)) t) u_35.2) fun σ_37 => if u_35.1 = 0 then ( (F_X6_moveInto (J x) (J h) σ_37).bind fun u_41 => bnd (mrg (fun j => j == 9) σ_37 u_41.2) fun σ_43 => some (0, σ_43) ) else ( (F_X3_stop 3 σ_37).bind fun u_46 => some (0, u_46.2) )) := fun hq => by
          by_cases q1 : x = 1
          · have qh2 : room h.toNat = true := by
              cases hb : room h.toNat with
              | true => rfl
              | false => exact absurd ⟨q1, hb⟩ hq
            rw [if_pos (by rw [e1]; exact q1), eR2, Option.bind_some] at eU
            dsimp only at eU
            rw [bndE, mrg47S, if_pos qh2, if_neg (by decide)] at eU
            exact eU
          · rw [if_neg (by rw [e1]; exact q1)] at eU
            exact eU
        by_cases q1 : x = 1 ∧ room h.toNat = false
        · rw [if_pos (by rw [e1]; exact q1.1), eR2, Option.bind_some] at eU
          dsimp only at eU
          rw [bndE, mrg47S, q1.2, if_pos (by decide), show F_X3_stop 2 _ = _ from hs 2] at eU
          exact Or.inl (two (by unfold mvB; rw [if_pos (Or.inr (Or.inr (Or.inr q1)))]) eU)
        · have eG := goOn q1
          rw [hwi, Option.bind_some] at eG
          dsimp only at eG
          rw [bndE, mrgS] at eG
          have nb : ¬ (¬ (1 ≤ x ∧ x ≤ nO) ∨ ¬ (1 ≤ h ∧ h ≤ nO) ∨ room x.toNat = true ∨ (x = 1 ∧ room h.toNat = false)) := by
            rintro (a | a | a | a)
            · exact a qx
            · exact a qh
            · exact qr a
            · exact q1 a
          by_cases qw : wiN pa x.toNat (nO + 1) h.toNat = true
          · rw [if_pos qw, if_neg (by decide), show F_X3_stop 3 _ = _ from hs 3] at eG
            exact Or.inl ⟨3, by unfold mvB; rw [if_neg nb, if_pos qw], by omega, _, CSP_1 hM hpl ho (by omega) (eD.trans eG), brk 3⟩
          · rw [if_neg qw, if_pos rfl] at eG
            refine Or.inr ⟨by unfold mvB; rw [if_neg nb, if_neg qw], fun Δ hD hf => CSP_1 (x := 0) hM hpl ho (by omega) (eD.trans (eG.trans ?_))⟩
            rw [hD, Option.bind_some]
            dsimp only
            rw [bndE, mrg9 hf]
    · rw [if_neg qh] at eI2
      rw [eI, Option.bind_some] at eU
      dsimp only at eU
      rw [bndE, mrg47S, bndE, if_neg (by decide), eI2, Option.bind_some] at eU
      dsimp only at eU
      rw [bndE, mrg47S, if_pos rfl, show F_X3_stop 2 _ = _ from hs 2] at eU
      exact Or.inl (two (by unfold mvB; rw [if_pos (Or.inr (Or.inl qh))]) eU)
  · rw [if_neg qx] at eI
    rw [eI, Option.bind_some] at eU
    dsimp only at eU
    rw [bndE, mrg47S, bndE, if_pos rfl] at eU
    dsimp only at eU
    rw [show F_X3_stop 2 _ = _ from hs 2] at eU
    exact Or.inl (two (by unfold mvB; rw [if_pos (Or.inl qx)]) eU)
theorem JMP_9 {Γ Δ : HS} {k t : Nat} {f : Nat → Int32} {Γ1 : HS} (h : MKt 10000 Γ Γ1) (h9 : Γ1 9 = Γ 9) (e : Δ = cA' Γ1 9 k f) : MKt 10000 (cA' Γ 9 k f) Δ := by
  subst e
  refine ⟨fun r hr => ?_, h.2.1, h.2.2.1, h.2.2.2⟩
  rw [cA_r, cA_r]
  by_cases e9 : r = 9
  · rw [if_pos e9, if_pos e9, h9]
  · rw [if_neg e9, if_neg e9]; exact h.1 r hr
/-- set, clear -/
theorem m_give {p ln t nO a : Nat} {o : Int} {z : Int} {Γ : HS} (h : MC0 ln Γ p (t + 1)) (hpl : p + 2 < ln) (ht : t < 8990) (ho : op3 Γ p o (a : Nat)) (ho2 : o = 47 ∨ o = 48) (ha : a < 7) (hz : (Γ 10).2.1 6 t = J z) (hz2 : -32768 ≤ z ∧ z ≤ 32767) (h4 : (Γ 4).2.1 0 0 = J (nO : Nat)) (hn : nO ≤ 120) : ∃ Δ, CSP 1 Γ Δ ∧ ((¬ (1 ≤ z ∧ z ≤ nO) ∧ BRK Γ Δ 2) ∨ ((1 ≤ z ∧ z ≤ nO) ∧ JMP (cA' Γ 9 3 (upd ((Γ 9).2.1 3) z.toNat (if o = 47 then (Γ 9).2.1 3 z.toNat ||| ((1 : Int32) <<< (J (a : Nat) &&& 31)) else (Γ 9).2.1 3 z.toNat &&& (((1 : Int32) <<< (J (a : Nat) &&& 31)) ^^^ (-1 : Int32))))) Δ t (p + 3))) := by
  have eI := c_isObj (Γ := ppS (pcS Γ (p + 3)) t) h4 hn (z := z) (by omega) (by omega)
  have e0 : F_X3_wideOp (J o) (J (a : Nat)) (pcS Γ (p + 3)) = (F_X3_traitOp (J o) (J (a : Nat)) (pcS Γ (p + 3))).bind fun u_92 => some (0, u_92.2) := by
    unfold F_X3_wideOp
    rcases ho2 with rfl | rfl
    · rw [if_neg (by decide), if_neg (by decide), if_neg (by decide), if_neg (by decide), if_neg (by decide), if_neg (by decide), if_neg (by decide), if_neg (by decide), if_neg (by decide), if_neg (by decide), if_neg (by decide)]
    · rw [if_neg (by decide), if_neg (by decide), if_neg (by decide), if_neg (by decide), if_neg (by decide), if_neg (by decide), if_neg (by decide), if_neg (by decide), if_neg (by decide), if_neg (by decide), if_neg (by decide)]
  have e1 : F_X3_traitOp (J o) (J (a : Nat)) (pcS Γ (p + 3)) = (F_X7_isObject (J z) (ppS (pcS Γ (p + 3)) t)).bind fun u_3 => bnd (mrg (fun j => j == 4 || j == 5 || j == 6 || j == 7) (ppS (pcS Γ (p + 3)) t) u_3.2) fun σ_5 => if u_3.1 = 0 then ( (F_X3_stop 2 σ_5).bind fun u_9 => some (0, u_9.2) ) else bnd (fun (t_29 : Int32) (σ_30 : HS) => ( (F_X6_give (J z) (J (a : Nat)) t_29 σ_30).bind fun u_34 => bnd (mrg (fun j => j == 9) σ_30 u_34.2) fun σ_36 => some (0, σ_36) ) : Int32 → HS → HR) fun j_31 => if o = 47 then ( j_31 1 σ_5 ) else ( j_31 0 σ_5 ) := by
    unfold F_X3_traitOp
    rw [c_popP (t := t) h.2.2.1 (by omega), Option.bind_some, st_pc, hz]
    rcases ho2 with rfl | rfl
    · dsimp only
      simp only [if_neg (show ¬ J 47 = (46 : Int32) by decide), if_pos (show J 47 = (47 : Int32) from rfl), if_pos trivial]
    · dsimp only
      simp only [if_neg (show ¬ J 48 = (46 : Int32) by decide), if_neg (show ¬ J 48 = (47 : Int32) by decide), if_neg (show ¬ (48 : Int) = 47 by decide)]
  by_cases q : 1 ≤ z ∧ z ≤ nO
  · rw [if_pos q] at eI
    have gz : ∀ f : Nat → Int32, g_at 121 f (J z) = f z.toNat := fun f => g_at_1 (by omega) (by omega) (by omega)
    have gpz : ∀ (f : Nat → Int32) (v : Int32), g_put 121 f (J z) v = upd f z.toNat v := fun f v => q_g_put_in (by omega) (by omega) (by omega)
    have e9 : ((ppS (pcS Γ (p + 3)) t) 9).2.1 3 = (Γ 9).2.1 3 := rfl
    refine ⟨cA' (ppS (pcS Γ (p + 3)) t) 9 3 (upd ((Γ 9).2.1 3) z.toNat (if o = 47 then (Γ 9).2.1 3 z.toNat ||| ((1 : Int32) <<< (J (a : Nat) &&& 31)) else (Γ 9).2.1 3 z.toNat &&& (((1 : Int32) <<< (J (a : Nat) &&& 31)) ^^^ (-1 : Int32)))), CSP_3 (x := 0) h hpl ho (by omega) (by omega) (e0.trans ?_), Or.inr ⟨q, JMP_9 (Γ1 := ppS (pcS Γ (p + 3)) t) (t := t) (MKt_pp (MKt_pc MKt_rfl)) rfl rfl, rfl, rfl⟩⟩
    rw [e1, eI, Option.bind_some]
    dsimp only
    rw [bndE, mrg47S, if_neg (by decide), bndE]
    unfold F_X6_give
    rcases ho2 with rfl | rfl
    · rw [if_pos rfl, if_pos rfl]
      dsimp only
      rw [bndE, bndE, if_neg (by decide), gz, e9, bndE]
      dsimp only
      rw [gpz, bndE, Option.bind_some]
      dsimp only
      rw [bndE, mrg9 (fun r hr => by rw [cA_r, if_neg hr])]; rfl
    · rw [if_neg (by decide), if_neg (by decide)]
      dsimp only
      rw [bndE, bndE, if_pos (by decide), gz, e9, bndE]
      dsimp only
      rw [gpz, bndE, Option.bind_some]
      dsimp only
      rw [bndE, mrg9 (fun r hr => by rw [cA_r, if_neg hr])]; rfl
  · rw [if_neg q] at eI
    refine ⟨_, CSP_3 (x := 0) h hpl ho (by omega) (by omega) (e0.trans ?_), Or.inl ⟨q, MKt_BRK (t := 0) (n := 2) (MKt_pp (u := t) (MKt_pc (q := p + 3) MKt_rfl))⟩⟩
    rw [e1, eI, Option.bind_some]
    dsimp only
    rw [bndE, mrg47S, if_pos (by decide), show F_X3_stop 2 _ = _ from c_stop (n := 2)]; rfl
/-- a number is drawn -/
theorem m_random {p ln t : Nat} {z : Int} {Γ : HS} (h : MC0 ln Γ p (t + 1)) (hpl : p < ln) (ht : t < 8990) (ho : op1 Γ p 27) (hz : (Γ 10).2.1 6 t = J z) (hz2 : -32768 ≤ z ∧ z ≤ 32767) : ∃ Δ, CSP 1 Γ Δ ∧ ((¬ 1 ≤ z ∧ RES Γ Δ t (p + 1) 0) ∨ (1 ≤ z ∧ RES (cI' Γ 9 8 (drS ((Γ 9).1 8))) Δ t (p + 1) (drV (drS ((Γ 9).1 8)) (J z)))) := by
  have e0 : RunD (J 27) (pcS Γ (p + 1)) = (F_X3_draw (J z) (ppS (pcS Γ (p + 1)) t)).bind fun u_5 => (F_X3_push u_5.1 u_5.2).bind fun u_7 => some (0, u_7.2) := by
    rw [RunD_w (by omega)]
    unfold F_X3_worldOp
    rw [if_pos (by decide), c_popP (t := t) h.2.2.1 (by omega), Option.bind_some, st_pc, hz]
  by_cases q : 1 ≤ z
  · refine ⟨psh (cI' (ppS (pcS Γ (p + 1)) t) 9 8 (drS ((Γ 9).1 8))) t (drV (drS ((Γ 9).1 8)) (J z)), CSP_1 (x := 0) h hpl ho (by omega) (e0.trans ?_), Or.inr ⟨q, MKt_psh ⟨fun r hr => ?_, fun k k7 k9 => ?_, fun k k6 => rfl, fun j hj => rfl⟩ (Nat.le_refl _), rfl, rfl, psh_st⟩⟩
    · unfold F_X3_draw
      rw [if_pos (by rw [show (1 : Int32) = J 1 from rfl, J_le (by omega) (by omega) (by omega) (by omega)]; exact q), bndE, bndE, if_neg (by rw [show (0 : Int32) = J 0 from rfl, J_eq (by omega) (by omega) (by omega) (by omega)]; omega), bndE, Option.bind_some]
      dsimp only
      rw [c_push (Γ := cI' (ppS (pcS Γ (p + 1)) t) 9 8 _) (t := t) rfl (by omega)]; rfl
    · rw [cI_r, cI_r]
      by_cases e9 : r = 9
      · rw [if_pos e9, if_pos e9]; rfl
      · rw [if_neg e9, if_neg e9]; unfold ppS pcS; rw [cI_r, if_neg hr, cI_r, if_neg hr]
    · show upd _ _ _ _ = _
      rw [upd_s, if_neg k7]
      show upd _ _ _ _ = _
      rw [upd_s, if_neg k9]; rfl
  · refine ⟨_, CSP_1 (x := 0) h hpl ho (by omega) (e0.trans ?_), Or.inl ⟨q, RES_psh1 (u := t)⟩⟩
    unfold F_X3_draw
    rw [if_neg (by rw [show (1 : Int32) = J 1 from rfl, J_le (by omega) (by omega) (by omega) (by omega)]; exact q), Option.bind_some]
    dsimp only
    rw [c_pushQ (by omega)]; rfl
/-- win, lose -/
def winL (o : Int) : List Int := if o = 5 then [10, 42, 42, 42, 32, 89, 111, 117, 32, 104, 97, 118, 101, 32, 119, 111, 110, 32, 42, 42, 42, 10] else [10, 42, 42, 42, 32, 89, 111, 117, 32, 104, 97, 118, 101, 32, 108, 111, 115, 116, 32, 42, 42, 42, 10]
theorem txl_win : TXL [10, 42, 42, 42, 32, 89, 111, 117, 32, 104, 97, 118, 101, 32, 119, 111, 110, 32, 42, 42, 42] [10, 42, 42, 42, 32, 89, 111, 117, 32, 104, 97, 118, 101, 32, 119, 111, 110, 32, 42, 42, 42] := by unfold TXL; decide +kernel
theorem txl_lose : TXL [10, 42, 42, 42, 32, 89, 111, 117, 32, 104, 97, 118, 101, 32, 108, 111, 115, 116, 32, 42, 42, 42] [10, 42, 42, 42, 32, 89, 111, 117, 32, 104, 97, 118, 101, 32, 108, 111, 115, 116, 32, 42, 42, 42] := by unfold TXL; decide +kernel
theorem m_win {p ln t : Nat} {o : Int} {Γ : HS} {L0 : List Int} (h : MC0 ln Γ p t) (hpl : p < ln) (ho : op1 Γ p o) (ho2 : o = 5 ∨ o = 6) (hc : OC Γ L0) : ∃ Δ X, CSP 1 Γ Δ ∧ Δ = cI' (cI' X 9 10 (J (o - 4))) 10 14 (J 3) ∧ o8 (pcS Γ (p + 1)) X ∧ OC X (apO L0 (winL o)) := by
  have hc' : OC (pcS Γ (p + 1)) L0 := hc
  rcases ho2 with rfl | rfl
  · obtain ⟨X, e1, e2, e3⟩ := ot_line txl_win hc'
    refine ⟨_, X, CSP_1 (x := 0) h hpl ho (by omega) ?_, rfl, e2, e3⟩
    rw [RunD_f (by omega)]
    unfold F_X3_flowOp
    rw [if_neg (by decide), if_neg (by decide), if_neg (by decide), if_neg (by decide), if_neg (by decide), if_pos (by decide), if_pos (by decide), e1, Option.bind_some]
    dsimp only
    rw [bndE, mrg8 e2, bndE, if_pos (by decide)]; rfl
  · obtain ⟨X, e1, e2, e3⟩ := ot_line txl_lose hc'
    refine ⟨_, X, CSP_1 (x := 0) h hpl ho (by omega) ?_, rfl, e2, e3⟩
    rw [RunD_f (by omega)]
    unfold F_X3_flowOp
    rw [if_neg (by decide), if_neg (by decide), if_neg (by decide), if_neg (by decide), if_neg (by decide), if_pos (by decide), if_neg (by decide), e1, Option.bind_some]
    dsimp only
    rw [bndE, mrg8 e2, bndE, if_neg (by decide)]; rfl
/-- a routine is left -/
def lvS (Γ : HS) (bC d b0 q : Nat) (x : Int32) : HS := psh (cI' (cI' (cI' (cI' Γ 10 7 (J (bC : Nat))) 10 12 (J (d : Nat))) 10 8 (J (b0 : Nat))) 10 9 (J (q : Nat))) bC x
theorem c_leave {Γ : HS} {bC d b0 q : Nat} {x : Int32} (h8 : (Γ 10).1 8 = J (bC : Nat)) (hb : bC < 8990) (h12 : (Γ 10).1 12 = J (d + 1 : Nat)) (hd : d < 30) (hB : (Γ 10).2.1 11 d = J (b0 : Nat)) (hR : (Γ 10).2.1 10 d = J (q : Nat)) : F_X3_leave x Γ = some ((0 : Int32), lvS Γ bC d b0 q x) := by
  have g30 : ∀ f : Nat → Int32, g_at 30 f (J (d : Nat)) = f d := fun f => by rw [q_g_at_in (by omega) (by omega) (by omega)]; rfl
  unfold F_X3_leave
  rw [h12, if_neg (by rw [J_z0 (by omega)]; omega), h8, bndE]
  rw [show ((cI' Γ 10 7 (J (bC : Nat))) 10).1 12 = J (d + 1 : Nat) from h12, show J (d + 1 : Nat) - 1 = J (d : Nat) by rw [show (1 : Int32) = J 1 from rfl, J_sub]; congr 1; omega, bndE]
  rw [show ((cI' (cI' Γ 10 7 (J (bC : Nat))) 10 12 (J (d : Nat))) 10).1 12 = J (d : Nat) from rfl, bndE, g30, show ((cI' (cI' Γ 10 7 (J (bC : Nat))) 10 12 (J (d : Nat))) 10).2.1 11 d = J (b0 : Nat) from hB, bndE, bndE]
  rw [show ((cI' (cI' (cI' Γ 10 7 (J (bC : Nat))) 10 12 (J (d : Nat))) 10 8 (J (b0 : Nat))) 10).1 12 = J (d : Nat) from rfl, bndE, g30, show ((cI' (cI' (cI' Γ 10 7 (J (bC : Nat))) 10 12 (J (d : Nat))) 10 8 (J (b0 : Nat))) 10).2.1 10 d = J (q : Nat) from hR, bndE, bndE]
  rw [c_push (t := bC) rfl (by omega)]; rfl
theorem q_m_end {p ln t bC d b0 q : Nat} {Γ : HS} (h : MC0 ln Γ p t) (hpl : p < ln) (ho : op1 Γ p 0) (h8 : (Γ 10).1 8 = J (bC : Nat)) (hb : bC < 8990) (h12 : (Γ 10).1 12 = J (d + 1 : Nat)) (hd : d < 30) (hB : (Γ 10).2.1 11 d = J (b0 : Nat)) (hR : (Γ 10).2.1 10 d = J (q : Nat)) : CSP 1 Γ (lvS (pcS Γ (p + 1)) bC d b0 q 0) := by
  refine CSP_1 (x := 0) h hpl ho (by omega) ?_
  rw [RunD_f (by omega)]
  unfold F_X3_flowOp
  rw [if_pos (by decide), c_leave (Γ := pcS Γ (p + 1)) h8 hb h12 hd hB hR]; rfl
theorem m_return {p ln t bC d b0 q : Nat} {Γ : HS} (h : MC0 ln Γ p (t + 1)) (hpl : p < ln) (ht : t < 8990) (ho : op1 Γ p 2) (h8 : (Γ 10).1 8 = J (bC : Nat)) (hb : bC < 8990) (h12 : (Γ 10).1 12 = J (d + 1 : Nat)) (hd : d < 30) (hB : (Γ 10).2.1 11 d = J (b0 : Nat)) (hR : (Γ 10).2.1 10 d = J (q : Nat)) : CSP 1 Γ (lvS (ppS (pcS Γ (p + 1)) t) bC d b0 q ((Γ 10).2.1 6 t)) := by
  refine CSP_1 (x := 0) h hpl ho (by omega) ?_
  rw [RunD_f (by omega)]
  unfold F_X3_flowOp
  rw [if_neg (by decide), if_neg (by decide), if_pos (by decide), c_popP (t := t) h.2.2.1 (by omega), Option.bind_some, st_pc]
  dsimp only
  rw [c_leave (Γ := ppS (pcS Γ (p + 1)) t) h8 hb h12 hd hB hR]; rfl
theorem m_end0 {p ln t : Nat} {Γ : HS} (h : MC0 ln Γ p t) (hpl : p < ln) (ho : op1 Γ p 0) (h12 : (Γ 10).1 12 = J (0 : Nat)) : CSP 1 Γ (cI' (pcS Γ (p + 1)) 10 14 (J 1)) := by
  refine CSP_1 (x := 0) h hpl ho (by omega) ?_
  rw [RunD_f (by omega)]
  unfold F_X3_flowOp
  rw [if_pos (by decide)]
  unfold F_X3_leave
  rw [if_pos (show ((pcS Γ (p + 1)) 10).1 12 = 0 from h12), bndE]; rfl
