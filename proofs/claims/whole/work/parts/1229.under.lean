/-! understand, whole, in both -/
variable {nO nV nC : Nat} {room : Nat → Bool}
theorem txl_where : TXL [87, 104, 101, 114, 101, 32, 100, 111, 32, 121, 111, 117, 32, 119, 97, 110, 116, 32, 116, 111, 32, 103, 111, 63] [87, 104, 101, 114, 101, 32, 100, 111, 32, 121, 111, 117, 32, 119, 97, 110, 116, 32, 116, 111, 32, 103, 111, 63] := by unfold TXL; decide +kernel
/-- the class behind the directions -/
def unC (t_9 : Int32) (Θ : HS) : HR := if t_9 = 0 then ( (F_X8_findVerb Θ).bind fun u_24 => if u_24.1 = 0 then ( some (0, u_24.2) ) else ( (F_X8_findNouns u_24.2).bind fun u_29 => if u_29.1 = 0 then ( some (0, u_29.2) ) else ( some (1, u_29.2) ) ) ) else ( (F_X8_refuse ([87, 104, 101, 114, 101, 32, 100, 111, 32, 121, 111, 117, 32, 119, 97, 110, 116, 32, 116, 111, 32, 103, 111, 63] : List Int32) Θ).bind fun u_36 => if ¬ (u_36.1 = 0 ∨ u_36.1 = 1) then none else some (u_36.1, u_36.2) )
def unD (t_9 : Int32) (σ_10 : HS) : HR := ( (F_X8_term (((σ_10 11).1 7) - 1) σ_10).bind fun u_14 => (F_X8_directionOf u_14.1 u_14.2).bind fun u_16 => bnd (fun  (σ_18 : HS) => unC t_9 σ_18 : HS → HR) fun j_19 => if u_16.1 = 0 then ( j_19  u_14.2 ) else ( bnd (fun (t_43 : Int32) (σ_44 : HS) => ( if ((u_14.2 11).1 7) = t_43 then ( bnd (cI' σ_44 11 8 11) fun σ_50 => bnd (cI' σ_50 11 10 u_16.1) fun σ_52 => some (1, σ_52) ) else ( j_19  σ_44 ) ) : Int32 → HS → HR) fun j_45 => if t_9 = 0 then ( j_45 1 u_14.2 ) else ( j_45 2 u_14.2 ) ) )
theorem unC_eq (Γ : HS) : F_X8_understand Γ = bnd (cI' Γ 11 10 0) fun σ_1 => bnd (cI' σ_1 11 11 0) fun σ_3 => bnd (cI' σ_3 11 12 0) fun σ_5 => (F_X8_term 0 σ_5).bind fun u_7 => bnd (fun (t_9 : Int32) (σ_10 : HS) => unD t_9 σ_10 : Int32 → HS → HR) fun j_11 => if u_7.1 = 8 then ( j_11 1 u_7.2 ) else ( j_11 0 u_7.2 ) := rfl
/-- the reference behind the directions -/
def unR (t_1 : Int32) (σ : MS) : MR := if t_1 ≤ 0 then ( (F_X12_isTerm 0 ([103, 111] : List Int32) σ).bind fun u_9 => if u_9.1 = 0 then ( loopF UvB FU (0, 1, u_9.2) ) else ( (F_X12_no ([87, 104, 101, 114, 101, 32, 100, 111, 32, 121, 111, 117, 32, 119, 97, 110, 116, 32, 116, 111, 32, 103, 111, 63] : List Int32) u_9.2).bind fun u_97 => some (u_97.1, u_97.2) ) ) else ( (F_X12_command 11 1 t_1 0 σ).bind fun u_100 => some (u_100.1, u_100.2) )
theorem unR_eq (σ : MS) : F_X12_understand σ = bnd (fun (t_1 : Int32) (σ_2 : MS) => unR t_1 σ_2 : Int32 → MS → MR) fun j_3 => if (σ.1 120) = 1 then ( (F_X12_directionOf 0 σ).bind fun u_104 => j_3 u_104.1 u_104.2 ) else ( bnd (fun  (σ_107 : MS) => ( j_3 0 σ_107 ) : MS → MR) fun j_108 => if (σ.1 120) = 2 then ( (F_X12_isTerm 0 ([103, 111] : List Int32) σ).bind fun u_114 => if u_114.1 = 0 then ( j_108  u_114.2 ) else ( (F_X12_directionOf 1 u_114.2).bind fun u_119 => j_3 u_119.1 u_119.2 ) ) else ( j_108  σ ) ) := und_eq σ
/-- the direction that a line is -/
def dirL (ws : List (List Int)) : Nat := if ws.length = 1 then dirN (ws.getD 0 []) else if ws.length = 2 ∧ ws.getD 0 [] = [103, 111] then dirN (ws.getD 1 []) else 0
theorem dirL_le (ws : List (List Int)) : dirL ws ≤ 6 := by
  unfold dirL
  split
  · exact dirN_le _
  · split
    · exact dirN_le _
    · omega
theorem r_dirL {ws : List (List Int)} {σ : MS} (hT : TRr σ ws) (hn : 0 < ws.length) : F_X12_understand σ = unR (J (dirL ws : Nat)) σ := by
  have h12 := hT.2.1
  rw [unR_eq, bndE, hT.1]
  unfold dirL
  by_cases q1 : ws.length = 1
  · rw [if_pos (by rw [q1]; rfl), if_pos q1, show F_X12_directionOf 0 σ = _ from r_dir hT hn, Option.bind_some]
  · rw [if_neg (by rw [show (1 : Int32) = J ((1 : Nat) : Int) from rfl, J_eqN (by omega) (by omega)]; exact q1), if_neg q1, bndE]
    by_cases q2 : ws.length = 2
    · rw [if_pos (by rw [q2]; rfl), show F_X12_isTerm 0 [103, 111] σ = _ from r_isL hT hn lts_8, Option.bind_some]
      dsimp only
      by_cases q3 : ws.getD 0 [] = [103, 111]
      · rw [if_pos q3, if_neg (by decide), if_pos ⟨q2, q3⟩, show F_X12_directionOf 1 σ = _ from r_dir hT (t := 1) (by omega), Option.bind_some]
      · rw [if_neg q3, if_pos rfl, if_neg (fun h => q3 h.2)]; rfl
    · rw [if_neg (by rw [show (2 : Int32) = J ((2 : Nat) : Int) from rfl, J_eqN (by omega) (by omega)]; exact q2), if_neg (fun h => q2 h.1)]; rfl
theorem dir_go : dirN [103, 111] = 0 := by decide
theorem W_und {ow : Nat → List (List Int)} {W : List Int} {ws : List (List Int)} {F : Nat → Nat} {nv : Nat} {σ : MS} {Γ : HS} (hN : NCX nO room nV nC ow W ws σ Γ) (hV : VRBB ow W F nv σ Γ) (hF : FRMV F) (hn : 0 < ws.length) : UNO nO room F σ Γ (F_X12_understand σ) (F_X8_understand Γ) := by
  have hX : cUn Γ (cI' (cI' (cI' Γ 11 10 0) 11 11 0) 11 12 0) := cUn_trans (cUn_trans (cUn_i (by omega)) (cUn_i (by omega))) (cUn_i (by omega))
  have eC := unC_eq Γ
  rw [bndE, bndE, bndE] at eC
  have X10 : ((cI' (cI' (cI' Γ 11 10 0) 11 11 0) 11 12 0) 11).1 10 = 0 := rfl
  have X11 : ((cI' (cI' (cI' Γ 11 10 0) 11 11 0) 11 12 0) 11).1 11 = 0 := rfl
  have X12 : ((cI' (cI' (cI' Γ 11 10 0) 11 11 0) 11 12 0) 11).1 12 = 0 := rfl
  generalize cI' (cI' (cI' Γ 11 10 0) 11 11 0) 11 12 0 = X at hX eC X10 X11 X12
  have hNX := NCX_un hN hX
  have hNX' := hNX
  obtain ⟨x1, x2, x3, x4, x5, x6, x7, x8, x9, x10, x11⟩ := hNX'
  have h12 := x10.2.1
  have hw := fun t ht => (x10.2.2 t ht).1
  have eR := r_dirL x10 hn
  obtain ⟨z, z1, z2⟩ := c_term x11 h12 hn
  obtain ⟨y, y1, y2⟩ := c_term x11 h12 (t := ws.length - 1) (by omega)
  have hd := c_dir x8 y2 (hw _ (by omega))
  have d6 := dirN_le (ws.getD (ws.length - 1) [])
  have eg : (J z = 8) = (ws.getD 0 [] = [103, 111]) := by
    rw [show (8 : Int32) = J ((8 : Nat) : Int) from rfl, fx_J x8 z2 (hw 0 hn) (by omega)]; rfl
  -- the class up to the verbs
  have eC2 : F_X8_understand Γ = if dirL ws = 0 then unC (if ws.getD 0 [] = [103, 111] then 1 else 0) X else some (1, cI' (cI' X 11 8 11) 11 10 (J (dirL ws : Nat))) := by
    rw [show F_X8_term 0 X = some (J z, X) from z1, Option.bind_some] at eC
    dsimp only at eC
    rw [bndE] at eC
    have eD : ∀ t_9 : Int32, unD t_9 X = if J (dirN (ws.getD (ws.length - 1) []) : Nat) = 0 then unC t_9 X else (if t_9 = 0 then (if J (ws.length : Nat) = 1 then some (1, cI' (cI' X 11 8 11) 11 10 (J (dirN (ws.getD (ws.length - 1) []) : Nat))) else unC t_9 X) else (if J (ws.length : Nat) = 2 then some (1, cI' (cI' X 11 8 11) 11 10 (J (dirN (ws.getD (ws.length - 1) []) : Nat))) else unC t_9 X)) := fun t_9 => by
      unfold unD
      rw [x11.1, show J (ws.length : Nat) - 1 = J (ws.length - 1 : Nat) by rw [show (1 : Int32) = J 1 from rfl, J_sub]; congr 1; omega, y1, Option.bind_some]
      dsimp only
      rw [hd, Option.bind_some]
      dsimp only
      rw [bndE, bndE, x11.1]
      dsimp only
      rw [bndE, bndE]
    rw [eC]
    dsimp only
    rw [eD, eD]
    have zd : (J (dirN (ws.getD (ws.length - 1) []) : Nat) = 0) = (dirN (ws.getD (ws.length - 1) []) = 0) := J_z0 (by omega)
    by_cases q3 : ws.getD 0 [] = [103, 111]
    · rw [if_pos (by rw [eg]; exact q3), if_pos q3]
      by_cases q2 : ws.length = 2
      · have e1 : dirL ws = dirN (ws.getD (ws.length - 1) []) := by
          unfold dirL; rw [if_neg (by omega), if_pos ⟨q2, q3⟩, q2]
        rw [e1]
        by_cases q0 : dirN (ws.getD (ws.length - 1) []) = 0
        · rw [if_pos (by rw [zd]; exact q0), if_pos q0]
        · rw [if_neg (by rw [zd]; exact q0), if_neg q0, if_neg (by decide)]
          rw [if_pos (by rw [q2]; rfl)]
      · have e1 : dirL ws = 0 := by
          unfold dirL
          by_cases q1 : ws.length = 1
          · rw [if_pos q1, q3]; exact dir_go
          · rw [if_neg q1, if_neg (fun h => q2 h.1)]
        rw [e1, if_pos (show (0 : Nat) = 0 from rfl)]
        by_cases q0 : dirN (ws.getD (ws.length - 1) []) = 0
        · rw [if_pos (by rw [zd]; exact q0)]
        · rw [if_neg (by rw [zd]; exact q0), if_neg (by decide)]
          rw [if_neg (by rw [show (2 : Int32) = J ((2 : Nat) : Int) from rfl, J_eqN (by omega) (by omega)]; exact q2)]
    · rw [if_neg (by rw [eg]; exact q3), if_neg q3]
      by_cases q1 : ws.length = 1
      · have e1 : dirL ws = dirN (ws.getD (ws.length - 1) []) := by
          unfold dirL; rw [if_pos q1, q1]
        rw [e1]
        by_cases q0 : dirN (ws.getD (ws.length - 1) []) = 0
        · rw [if_pos (by rw [zd]; exact q0), if_pos q0]
        · rw [if_neg (by rw [zd]; exact q0), if_neg q0, if_pos rfl]
          rw [if_pos (by rw [q1]; rfl)]
      · have e1 : dirL ws = 0 := by
          unfold dirL; rw [if_neg q1, if_neg (fun h => q3 h.2)]
        rw [e1, if_pos (show (0 : Nat) = 0 from rfl)]
        by_cases q0 : dirN (ws.getD (ws.length - 1) []) = 0
        · rw [if_pos (by rw [zd]; exact q0)]
        · rw [if_neg (by rw [zd]; exact q0), if_pos rfl]
          rw [if_neg (by rw [show (1 : Int32) = J ((1 : Nat) : Int) from rfl, J_eqN (by omega) (by omega)]; exact q1)]
  have dl := dirL_le ws
  rw [eR, eC2]
  by_cases qd : dirL ws = 0
  · rw [if_pos qd, qd]
    unfold unR unC
    rw [if_pos (show J ((0 : Nat) : Int) ≤ 0 by decide), show F_X12_isTerm 0 [103, 111] σ = _ from r_isL x10 hn lts_8, Option.bind_some]
    dsimp only
    by_cases q3 : ws.getD 0 [] = [103, 111]
    · rw [if_pos q3, if_neg (show ¬ (1 : Int32) = 0 by decide), if_neg (show ¬ (1 : Int32) = 0 by decide)]
      obtain ⟨τ, Δ, a1, a2, a3⟩ := W_no txl_where x2
      refine Or.inl ⟨τ, Δ, X, by rw [a1]; rfl, ?_, hX, a3⟩
      rw [a2, Option.bind_some]
      dsimp only
      rw [if_neg (by decide)]
    · rw [if_neg q3, if_pos (show (0 : Int32) = 0 from rfl), if_pos (show (0 : Int32) = 0 from rfl)]
      have hv := W_verbs hNX hn (VRBB_un hV hX) nv 0 FU false X (by omega) (FU_gt (by have := hV.2.2.1; omega)) cUj_rfl
      have ef : F_X8_findVerb X = loopF (FvC (J (nv : Nat))) FU (0, 1, X) := by
        rw [fv_eq, show (1 : Int32) = J ((1 : Nat) : Int) from rfl, q_g_at_in (by omega) (by omega) (by omega), Int.toNat_natCast, (VRBB_un hV hX).2.1, bndE]
      rw [ef]
      rcases hv with ⟨τ, Δ, Γ', a1, a2, a3, a4⟩ | ⟨u, p, Δ, u1, u2, u3, a2, a3, a4, a5, a6⟩
      · refine Or.inl ⟨τ, Δ, Γ', a1, ?_, cUn_trans hX (cUj_un a3), a4⟩
        rw [show loopF (FvC (J (nv : Nat))) FU (0, 1, X) = some (0, Δ) from a2, Option.bind_some]
        dsimp only
        rw [if_pos rfl]
      · -- the nouns
        have k11 : (Δ 11).1 11 = 0 := (a3.2.1 11 (by omega) (by omega)).trans X11
        have k12 : (Δ 11).1 12 = 0 := (a3.2.1 12 (by omega) (by omega)).trans X12
        have k10 : (Δ 11).1 10 = 0 := (a3.2.1 10 (by omega) (by omega)).trans X10
        replace a3 : cUn Γ Δ := cUn_trans hX (cUj_un a3)
        rw [show loopF (FvC (J (nv : Nat))) FU (0, 1, X) = some (1, Δ) from a2, Option.bind_some]
        dsimp only
        rw [if_neg (show ¬ (1 : Int32) = 0 by decide)]
        have fin : ∀ mR : MR, UNO nO room F σ Γ mR (F_X8_findNouns Δ) → UNO nO room F σ Γ mR ((F_X8_findNouns Δ).bind fun u_29 => if u_29.1 = 0 then some (0, u_29.2) else some (1, u_29.2)) := fun mR h => by
          rcases h with ⟨τ, Θ, Γ', b1, b2, b3, b4⟩ | ⟨a, x, y, Θ, b1, b2⟩ | ⟨a, Θ, b1, b2, b3⟩
          · refine Or.inl ⟨τ, Θ, Γ', b1, ?_, b3, b4⟩
            rw [b2, Option.bind_some]
            dsimp only
            rw [if_pos rfl]
          · refine Or.inr (Or.inl ⟨a, x, y, Θ, ?_, b2⟩)
            rw [b1, Option.bind_some]
            dsimp only
            rw [if_neg (by decide)]
          · refine Or.inr (Or.inr ⟨a, Θ, b1, ?_, b3⟩)
            rw [b2]
            have hv := W_all01 (NCX_un hN b3.1) b1 b3.2.1
            obtain ⟨⟨pa, fi, nx, ch, tr, P⟩, w2, w3, w4, -⟩ := NCX_un hN b3.1
            obtain ⟨t, L, τ, Φ, e1, e2, e3, e4, e5, e6, e7, e8, e9⟩ := W_all b1 P w3 w4 b3.2.1
            obtain ⟨v, Ψ, c1, c2⟩ := chEnd_01 (OUT_r w2 (e9.1 8 (by omega))) e2
            rw [c1, Option.bind_some]
            dsimp only
            rcases c2 with rfl | rfl
            · rw [if_pos rfl]
            · rw [if_neg (by decide)]
        refine fin _ ?_
        have eU : loopF UvB FU (0, 1, σ) = loopF UvB FU (if false = true then 1 else 0, J (0 + 1 : Nat), σ) := rfl
        rw [eU]
        rcases a6 with ⟨f0, n1, r⟩ | ⟨f0, n1, rfl, r⟩ | ⟨f0, n1, n2, r⟩
        · rw [r]
          have hc := (VRBB_un hV a3).2.2.2.2 u u1 u2 u3
          have e := fn_eq Δ
          rw [bndE, a4, q_g_at_in (by omega) (by have := hV.2.2.1; omega) (by omega), Int.toNat_natCast, hc.2.2.2.1, bndE, f0, if_pos (show J ((0 : Nat) : Int) = 0 from rfl)] at e
          rw [e]
          have u60 := hV.2.2.1
          refine Or.inr (Or.inl ⟨u, 0, 0, Δ, rfl, a3, a4, k10, k11, k12, ?_, u1, by omega, by omega, by omega, fun h1 h2 => ?_, fun h => ?_, fun h => absurd h u3, fun _ => rfl, fun h => by omega⟩)
          · rw [f0]; rfl
          · exfalso
            rcases Nat.lt_or_ge 8 u with g | g
            · have := hF.2.2.1
              obtain rfl | rfl : u = 9 ∨ u = 10 := by omega
              · omega
              · omega
            · have := hF.2.1 u h1 g; omega
          · exfalso
            have := hF.2.2.1
            rcases h with rfl | rfl <;> omega
        · rw [r]
          exact W_one hN hV hF a3 u1 u2 u3 a4 a5 k11 k12 n1 f0
        · rw [r]
          exact W_two hN hV hF a3 u1 u2 u3 a4 a5 k11 k12 n1 n2 f0
  · rw [if_neg qd]
    unfold unR
    rw [if_neg (by rw [show (0 : Int32) = J ((0 : Nat) : Int) from rfl, J_le (by omega) (by omega) (by omega) (by omega)]; omega), bind_id]
    refine Or.inr (Or.inl ⟨11, dirL ws, 0, cI' (cI' X 11 8 11) 11 10 (J (dirL ws : Nat)), rfl, cUn_trans hX (cUn_trans (cUn_i (by omega)) (cUn_i (by omega))), rfl, rfl, X11, X12, ?_, by omega, by omega, by omega, by omega, fun _ h => by omega, fun h => by omega, fun _ => ⟨by omega, dl⟩, fun h => ?_, fun _ h => absurd rfl h⟩)
    · rw [hF.2.2.1.2.2]; rfl
    · rw [hF.2.2.1.2.2] at h; cases h
