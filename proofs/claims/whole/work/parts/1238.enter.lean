/-! enter: from the line to its end -/
variable {R : Nat → Nat → Int32} {nO nV nC nA ln : Nat} {room : Nat → Bool} {en : Nat → Nat} {TX : Nat → Int → Int → Prop} {DN : Nat → Nat → Nat → Prop}
theorem txl_nodo : TXL [84, 104, 101, 114, 101, 32, 105, 115, 32, 110, 111, 116, 104, 105, 110, 103, 32, 116, 111, 32, 100, 111, 46] [84, 104, 101, 114, 101, 32, 105, 115, 32, 110, 111, 116, 104, 105, 110, 103, 32, 116, 111, 32, 100, 111, 46] := by unfold TXL; decide +kernel
theorem r_ref0 (σ : MS) : F_X12_refuses 0 σ = some ((0 : Int32), mI σ 0 0) := by
  unfold F_X12_refuses
  rw [bndE, if_pos rfl]
theorem r_ref1 {p : Int32} (h : p ≠ 0) (σ : MS) : F_X12_refuses p σ = some ((1 : Int32), mI σ 0 p) := by
  unfold F_X12_refuses
  rw [bndE, if_neg h]
theorem UND_keep {σ τ : MS} {Γ Δ : HS} {ps : Nat → CS} (h : UND nO room nV nC σ Γ ps) (h99 : τ.2 99 = σ.2 99) (h101 : τ.1 101 = σ.1 101) (h18 : (Δ 0).1 18 = (Γ 0).1 18) (h17 : (Δ 0).1 17 = (Γ 0).1 17) : UND nO room nV nC τ Δ ps := by
  unfold UND
  rw [h99, h101, h18, h17]; exact h
/-- what enter comes to in both -/
def ENT (R : Nat → Nat → Int32) (nO nV nC nA : Nat) (room : Nat → Bool) (en : Nat → Nat) (ln : Nat) (TX : Nat → Int → Int → Prop) (DN : Nat → Nat → Nat → Prop) (Γ0 : HS) (F : Nat → Nat) (no ne nv : Nat) (ow : Nat → List (List Int)) (W : List Int) (σ : MS) (X : HS) (T : TS) (mR : MR) (mC : HA) : Prop := ∃ (v : Int32) (σ' : MS) (Δ : HS) (ps : Nat → CS), mR = some (v, σ') ∧ mC = some ((0, v), (Δ, T.2.1, T.2.2.1, ps)) ∧ PLY R nO nV nC nA room en ln TX DN Γ0 F no ne nv ow W σ' Δ ∧ UND nO room nV nC σ' Δ ps ∧ (∀ y, y < 10400 → σ'.2 99 y = σ.2 99 y) ∧ rPl σ σ' ∧ (∀ k, k = 0 ∨ k = 4 → σ'.1 k = σ.1 k) ∧ cPl X Δ ∧ (Δ 0).1 1 = (X 0).1 1
theorem ENT_pre {Γ0 : HS} {F : Nat → Nat} {no ne nv : Nat} {ow : Nat → List (List Int)} {W : List Int} {σ σ1 : MS} {X X1 : HS} {T : TS} {mR : MR} {mC : HA} (h : ENT R nO nV nC nA room en ln TX DN Γ0 F no ne nv ow W σ1 X1 T mR mC) (h99 : σ1.2 99 = σ.2 99) (hr : rPl σ σ1) (h0 : ∀ k, k = 0 ∨ k = 4 → σ1.1 k = σ.1 k) (hc : cPl X X1) (h1 : (X1 0).1 1 = (X 0).1 1) : ENT R nO nV nC nA room en ln TX DN Γ0 F no ne nv ow W σ X T mR mC := by
  obtain ⟨v, σ', Δ, ps, a1, a2, a3, a4, a5, a6, a7, a8, a9⟩ := h
  exact ⟨v, σ', Δ, ps, a1, a2, a3, a4, fun y hy => by rw [a5 y hy, h99], rPl_trans hr a6, fun k hk => by rw [a7 k hk, h0 k hk], cPl_trans hc a8, by rw [a9, h1]⟩
theorem cPl_un {Γ Δ : HS} (h : cUn Γ Δ) : cPl Γ Δ := cPl_r (fun r _ _ _ r11 => h.1 r r11)
theorem NCX_of {Γ0 : HS} {F : Nat → Nat} {no ne nv : Nat} {ow : Nat → List (List Int)} {W : List Int} {ws : List (List Int)} {σ : MS} {Γ : HS} (h : PLY R nO nV nC nA room en ln TX DN Γ0 F no ne nv ow W σ Γ) (hT : TRr σ ws) (hTc : TRc Γ W ws) : NCX nO room nV nC ow W ws σ Γ := by
  obtain ⟨⟨⟨d1, d2, d3⟩, s1, s2, s3, s4, s5, s6, s7, s8, s9, s10, s11, s12, s13⟩, h2, h3, -⟩ := h
  exact ⟨h2, h3, s2.2.2.1, s2.2.2.2.1, s12, s9, s10, s11, d3, hT, hTc⟩
/-- from what is understood on -/
theorem W_do {Γ0 : HS} {F : Nat → Nat} {no ne nv n : Nat} {ow : Nat → List (List Int)} {W : List Int} {ws : List (List Int)} {σ : MS} {Γ : HS} {T : TS} (hS : PLY R nO nV nC nA room en ln TX DN Γ0 F no ne nv ow W σ Γ) (hU : UND nO room nV nC σ Γ T.2.2.2) (hT : TRr σ ws) (hTc : TRc Γ W ws) (hn : 0 < ws.length) (hL : LNE σ Γ n) (h95 : σ.1 95 = J ((0 : Nat) : Int)) : ENT R nO nV nC nA room en ln TX DN Γ0 F no ne nv ow W σ Γ T (F_X12_understand σ) (HE2 T Γ) := by
  have hN := NCX_of hS hT hTc
  have hS' := hS
  obtain ⟨s1, s2, s3, s4, s5, s6⟩ := hS'
  have hV : VRBB ow W F nv σ Γ := s1.2.2.2.2.2.2.2.2.1
  have hF : FRMV F := s1.1.2.1
  -- a line that is no command
  have nocmd : ∀ (τ : MS) (Δ Γ' : HS) (mR : MR) (σ1 : MS), mR = some (0, τ) → F_X8_understand Γ = some (0, Δ) → cUn Γ Γ' → TLS σ1 Γ' τ Δ → (∀ k, σ1.1 k = σ.1 k) → (∀ k, k ≠ 121 → σ1.2 k = σ.2 k) → ENT R nO nV nC nA room en ln TX DN Γ0 F no ne nv ow W σ Γ T mR (HE2 T Γ) := fun τ Δ Γ' mR σ1 e1 e2 hu ht hi ha => by
    have P1 : PLY R nO nV nC nA room en ln TX DN Γ0 F no ne nv ow W σ1 Γ' := PLY_kept hS ⟨fun k _ _ _ _ => hi k, fun k _ a => ha k (by omega)⟩ (fun r r4 r10 => hu.1 r (by omega))
    have hd : ∀ r, r ≠ 8 → r ≠ 9 → r ≠ 10 → r ≠ 11 → Δ r = Γ r := fun r r8 _ r10 r11 => by rw [ht.2.1.1 r r8 r10, hu.1 r r11]
    have h0 : Δ 0 = Γ 0 := hd 0 (by omega) (by omega) (by omega) (by omega)
    have c10 : (Δ 9).1 10 = 0 := by
      rw [ht.2.1.1 9 (by omega) (by omega), hu.1 9 (by omega)]
      obtain ⟨e, q1, q2, q3⟩ := PLT_e s2
      rw [q3, ← q2, h95]; rfl
    refine ⟨0, τ, Δ, T.2.2.2, e1, ?_, PLY_told P1 ht, UND_keep hU ?_ ?_ (by rw [h0]) (by rw [h0]), fun y hy => ?_, ?_, fun k hk => ?_, cPl_r hd, by rw [h0]⟩
    · unfold HE2
      rw [e2, Option.bind_some]
      dsimp only
      rw [mrgB (fun r r8 r9 r10 r11 _ => hd r r8 r9 r10 r11), bndE, if_pos rfl, c10, if_pos rfl]
    · rw [ht.1.2 99 (by omega), ha 99 (by omega)]
    · rw [ht.1.1 101 (by omega), hi 101]
    · rw [ht.1.2 99 (by omega), ha 99 (by omega)]
    · exact rPl_trans ⟨fun k _ _ _ _ => hi k, fun k _ _ _ a => ha k (by omega)⟩ (rPl_O ht.1)
    · rw [ht.1.1 k (by omega), hi k]
  -- a command
  have cmd : ∀ (X Θ : HS) (υ σ1 : MS) (mR : MR), F_X8_understand Γ = some (1, X) → cUn Γ X → mR = enK υ → F_X8_act X = some (0, Θ) → TRN nO room nV nC σ1 X υ Θ → (∀ k, σ1.1 k = σ.1 k) → (∀ k, k ≠ 121 → σ1.2 k = σ.2 k) → ENT R nO nV nC nA room en ln TX DN Γ0 F no ne nv ow W σ Γ T mR (HE2 T Γ) := fun X Θ υ σ1 mR e1 hu e2 e3 ht hi ha => by
    have P1 : PLY R nO nV nC nA room en ln TX DN Γ0 F no ne nv ow W σ1 X := PLY_kept hS ⟨fun k _ _ _ _ => hi k, fun k _ a => ha k (by omega)⟩ (fun r r4 r10 => hu.1 r (by omega))
    have U1 : UND nO room nV nC σ1 X T.2.2.2 := UND_keep hU (ha 99 (by omega)) (hi 101) (by rw [hu.1 0 (by omega)]) (by rw [hu.1 0 (by omega)])
    obtain ⟨v, σ', Δ, ps, a1, a2, a3⟩ := W_end P1 U1 e3 ht
    have E1 : ENT R nO nV nC nA room en ln TX DN Γ0 F no ne nv ow W σ1 X T mR (HE2 T Γ) := by
      refine ⟨v, σ', Δ, ps, e2.trans a1, ?_, a3⟩
      unfold HE2
      rw [e1, Option.bind_some]
      dsimp only
      rw [mrgB (fun r _ _ _ r11 _ => hu.1 r r11), bndE, if_neg (by decide)]; exact a2
    exact ENT_pre E1 (ha 99 (by omega)) ⟨fun k _ _ _ _ => hi k, fun k _ _ _ a => ha k (by omega)⟩ (fun k _ => hi k) (cPl_un hu) (by rw [hu.1 0 (by omega)])
  rcases W_und hN hV hF hn with ⟨τ, Δ, Γ', a1, a2, a3, a4⟩ | ⟨a, x, y, X, a1, a2, a3, a4, a5, a6, a7, b1, b2, b3, b4, b5, b6, b7, b8, b9⟩ | ⟨a, X, a1, a2, a3, a4, a5, a6, a7⟩
  · exact nocmd τ Δ Γ' _ σ a1 a2 a3 a4 (fun _ => rfl) (fun _ _ => rfl)
  · have P1 : PLY R nO nV nC nA room en ln TX DN Γ0 F no ne nv ow W σ X := PLY_kept hS ⟨fun k _ _ _ _ => rfl, fun k _ _ => rfl⟩ (fun r r4 r10 => a2.1 r (by omega))
    have L1 : LNE σ X n := by
      unfold LNE at hL ⊢
      rw [a2.2.1 5 (by omega) (by omega), a2.2.2 4 (by omega)]; exact hL
    obtain ⟨υ, Θ, t1, t2, t3⟩ := W_turn P1.1 P1.2.1 P1.2.2.1 s6 L1 a3 a4 a5 a6 b2 b3 b4 b5 b6 b7 b8 b9
    exact cmd X Θ υ σ _ a1 a2 (a7.trans t1) t2 t3 (fun _ => rfl) (fun _ _ => rfl)
  · obtain ⟨pa, fi, nx, ch, tr, P⟩ := (PL_keep s2 (fun _ _ => rfl) (fun _ _ => rfl) (a3.1 9 (by omega)) : PL nO room nV nC σ X)
    obtain ⟨t, L, τ, X1, e1, e2, e3, e4, e5, e6, e7, e8, e9⟩ := W_all a1 P hN.2.2.1 hN.2.2.2.1 a4
    have h1 : ∀ k, τ.1 k = σ.1 k := fun k => by rw [e8.1]
    have h2 : ∀ k, k ≠ 121 → τ.2 k = σ.2 k := fun k hk => e8.2 k hk
    have U1 : cUn Γ X1 := cUn_trans a3 ⟨e9.1, fun k hk h15 => e9.2.1 k h15 (by omega), e9.2.2⟩
    have P1 : PLY R nO nV nC nA room en ln TX DN Γ0 F no ne nv ow W τ X1 := PLY_kept hS ⟨fun k _ _ _ _ => h1 k, fun k _ a => h2 k (by omega)⟩ (fun r r4 r10 => U1.1 r (by omega))
    by_cases q : L.length = 0
    · obtain ⟨τ2, Δ, c1, c2, c3⟩ := W_no txl_nodo P1.2.2.1
      refine nocmd τ2 Δ X1 _ τ ?_ ?_ U1 c3 h1 h2
      · rw [a7, e1]
        unfold alK
        rw [if_pos (by rw [q]; rfl), bind_id]; exact c1
      · rw [a2, e2]
        unfold chEnd
        rw [e3.1, if_neg (by rw [q]; decide), c2, Option.bind_some]
        dsimp only
        rw [if_pos rfl]
    · have L1 : LNE τ X1 n := by
        unfold LNE at hL ⊢
        rw [h1 117, h2 116 (by omega), U1.2.1 5 (by omega) (by omega), U1.2.2 4 (by omega)]; exact hL
      obtain ⟨υ, Θ, t1, t2, t3⟩ := W_turnA P1.1 P1.2.1 P1.2.2.1 P1.2.2.2.1 P1.2.2.2.2.2 L1 a1 (by rw [e9.2.1 8 (by omega) (by omega)]; exact a4) (by rw [e9.2.1 11 (by omega) (by omega)]; exact a5) (by rw [e9.2.1 12 (by omega) (by omega)]; exact a6) e4 e5 e3 e6 e7
      refine cmd X1 Θ υ τ _ ?_ U1 ?_ t2 t3 h1 h2
      · rw [a2, e2]
        unfold chEnd
        rw [e3.1, if_pos (by rw [show (0 : Int32) = J ((0 : Nat) : Int) from rfl, J_lt (by omega) (by omega) (by omega) (by omega)]; omega)]
      · rw [a7, e1]
        unfold alK
        rw [if_neg (by rw [J_z0 (by omega)]; exact q)]; exact t1
theorem cHr_un {Γ Δ : HS} (h : cHr Γ Δ) : ∀ r, r ≠ 11 → Δ r = Γ r := h.1
/-- enter, while something is played -/
theorem W_enter {Γ0 : HS} {F : Nat → Nat} {no ne nv len : Nat} {ow : Nat → List (List Int)} {W : List Int} {b : Nat → Int} {σ : MS} {T : TS} (hS : PLY R nO nV nC nA room en ln TX DN Γ0 F no ne nv ow W σ T.1) (hU : UND nO room nV nC σ T.1 T.2.2.2) (hl : len ≤ 16000) (h4 : σ.1 4 = J (len : Nat)) (h1 : (T.1 0).1 1 = J (len : Nat)) (hb : ∀ j, j < len → σ.2 3 j = J (b j) ∧ (T.1 13).2.1 0 j = J (b j) ∧ (b j = 10 ∨ (32 ≤ b j ∧ b j ≤ 126))) (h86 : σ.1 86 = J 1) (h8 : (T.1 0).1 8 = J 1) : ∃ (v : Int32) (σ' : MS) (Δ : HS) (ps : Nat → CS), F_X12_enter σ = some (v, σ') ∧ H_enter T = some ((0, v), (Δ, T.2.1, T.2.2.1, ps)) ∧ PLY R nO nV nC nA room en ln TX DN Γ0 F no ne nv ow W σ' Δ ∧ UND nO room nV nC σ' Δ ps ∧ (∀ y, y < 10400 → σ'.2 99 y = σ.2 99 y) ∧ rPl σ σ' ∧ σ'.1 0 = 0 ∧ σ'.1 4 = 0 ∧ cPl T.1 Δ ∧ (Δ 0).1 1 = 0 := by
  have hn : (if len < 120 then len else 120) ≤ 120 := by split <;> omega
  have hnl : (if len < 120 then len else 120) ≤ len := by split <;> omega
  -- the reference up to the line
  have eR := ent_eq σ
  rw [bndE, if_neg (show ¬ σ.1 86 = 0 by rw [h86]; decide)] at eR
  dsimp only at eR
  rw [r_ref0, Option.bind_some] at eR
  dsimp only at eR
  rw [if_pos rfl, bndE, show (mI (mI σ 0 0) 103 0).1 4 = J (len : Nat) from h4, show (120 : Int32) = J ((120 : Nat) : Int) from rfl, J_min (a := J (len : Nat)) (n := 120) rfl (by omega) (by omega), bndE, bndE] at eR
  obtain ⟨σ1, r1, r2, r3⟩ := EtB_go (b := b) hn entK _ 0 FU (mI (mI (mI σ 0 0) 103 0) 117 (J ((if len < 120 then len else 120 : Nat) : Int))) (Nat.zero_add _) (FU_gt (by omega)) rfl (fun j hj => ⟨(hb j (by omega)).1, (hb j (by omega)).2.2⟩) (fun j hj => absurd hj (Nat.not_lt_zero _))
  have eR2 : F_X12_enter σ = entK σ1 := eR.trans r1
  -- the class up to the line
  have eW : F_X5_wipe T.1 = some ((0 : Int32), cI' T.1 8 1 0) := by unfold F_X5_wipe; rw [bndE]
  have eC : H_enter T = (F_X8_listen (J (len : Nat)) (cI' (cI' T.1 8 1 0) 0 1 0)).bind fun u2 => bnd (mrg bE13 (cI' (cI' T.1 8 1 0) 0 1 0) u2.2) fun Γ3 => if u2.1 = 0 then some ((0, if ((Γ3 9).1 10) = 0 then 0 else 3), (Γ3, T.2)) else HE2 T Γ3 := by
    unfold H_enter
    rw [if_neg (by rw [h8]; decide), eW, Option.bind_some]
    dsimp only
    rw [mrgE (fun r hr => by rw [cI_r, if_neg (by rintro rfl; exact absurd hr (by decide))]), bndE, bndE, bndE, show ((cI' T.1 8 1 0) 0).1 1 = J (len : Nat) from h1]
  -- what both know then
  have T0 : TLS (mI σ 0 0) T.1 (mI (mI σ 0 0) 103 0) (cI' T.1 8 1 0) := ⟨⟨fun k hk => by rw [mI_1, if_neg hk], fun _ _ => rfl⟩, ⟨fun r r8 _ => by rw [cI_r, if_neg r8], rfl, fun _ _ => rfl⟩, ⟨[], OL_nil, OL_nil⟩⟩
  have P0 : PLY R nO nV nC nA room en ln TX DN Γ0 F no ne nv ow W (mI σ 0 0) T.1 := PLY_kept hS ⟨fun k a _ _ _ => by rw [mI_1, if_neg a], fun _ _ _ => rfl⟩ (fun _ _ _ => rfl)
  have P1 := PLY_told P0 T0
  have P2 : PLY R nO nV nC nA room en ln TX DN Γ0 F no ne nv ow W σ1 (cI' (cI' T.1 8 1 0) 0 1 0) := PLY_kept P1 ⟨fun k _ a _ c => by rw [r3.1 k (by omega) (by omega), mI_1, if_neg (by omega)], fun k _ c => by rw [r3.2 k (by omega) (by omega) (by omega)]; rfl⟩ (fun r r4 r10 => by rw [cI_r, if_neg (by omega)])
  obtain ⟨e, e1, e2, e3⟩ := PLT_e P2.2.1
  have U2 : UND nO room nV nC σ1 (cI' (cI' T.1 8 1 0) 0 1 0) T.2.2.2 := UND_keep hU (by rw [r3.2 99 (by omega) (by omega) (by omega)]; rfl) (by rw [r3.1 101 (by omega) (by omega)]; rfl) rfl rfl
  have fr1 : rPl σ σ1 := rPl_trans (rPl_trans (rPl_trans (rPl_i (k := 0) (v := 0) (by omega)) (rPl_i (k := 103) (v := 0) (by omega))) (rPl_i (by omega))) (rPl_E r3)
  have f99 : σ1.2 99 = σ.2 99 := by rw [r3.2 99 (by omega) (by omega) (by omega)]; rfl
  have f0 : σ1.1 0 = 0 := by rw [r3.1 0 (by omega) (by omega)]; rfl
  have cP2 : cPl T.1 (cI' (cI' T.1 8 1 0) 0 1 0) := cPl_trans (cPl_r (fun r r8 _ _ _ => by rw [cI_r, if_neg r8])) (cPl_0 (by omega))
  rw [eR2, eC]
  rcases W_listen (W := W) P2.2.1 P2.2.2.1 P2.1.2.2.2.2.2.2.2.2.2.2.2.1 hl (b := b) (fun j hj => ⟨(hb j hj).2.1, (hb j hj).2.2⟩) r2 e1 e2 with ⟨σ2, τ, Γ', Δ, a1, a2, a3, a4, a5⟩ | ⟨σ2, Δ, ws, n, q0, a1, a2, a3, a4, a5, a6, a7, a8⟩
  · have P3 : PLY R nO nV nC nA room en ln TX DN Γ0 F no ne nv ow W σ2 Γ' := PLY_kept P2 ⟨fun k _ b4 _ c => by rw [a3.1 k (by omega) (by omega), mI_1, if_neg b4], fun k _ c => by rw [a3.2 k (by omega) (by omega) (by omega)]; rfl⟩ (fun r r4 r10 => a4.1 r (by omega))
    have hd : ∀ r, r ≠ 8 → r ≠ 9 → r ≠ 10 → r ≠ 11 → Δ r = (cI' (cI' T.1 8 1 0) 0 1 0) r := fun r r8 _ r10 r11 => by rw [a5.2.1.1 r r8 r10, a4.1 r r11]
    have h0 := hd 0 (by omega) (by omega) (by omega) (by omega)
    refine ⟨_, τ, Δ, T.2.2.2, a1, ?_, PLY_told P3 a5, UND_keep U2 ?_ ?_ (by rw [h0]) (by rw [h0]), fun y hy => ?_, rPl_trans (rPl_trans fr1 (rPl_trans (rPl_i (k := 4) (v := 0) (by omega)) (rPl_E a3))) (rPl_O a5.1), ?_, ?_, cPl_trans cP2 (cPl_r hd), by rw [h0]; rfl⟩
    · rw [a2, Option.bind_some]
      dsimp only
      rw [mrgB13 (fun r r8 r9 r10 r11 _ => hd r r8 r9 r10 r11), bndE, if_pos rfl, a5.2.1.1 9 (by omega) (by omega), a4.1 9 (by omega), e3, J_ite0 (by omega)]
    · rw [a5.1.2 99 (by omega), a3.2 99 (by omega) (by omega) (by omega)]; rfl
    · rw [a5.1.1 101 (by omega), a3.1 101 (by omega) (by omega)]; rfl
    · rw [a5.1.2 99 (by omega), a3.2 99 (by omega) (by omega) (by omega)]
      show σ1.2 99 y = _
      rw [f99]
    · rw [a5.1.1 0 (by omega), a3.1 0 (by omega) (by omega)]; exact f0
    · rw [a5.1.1 4 (by omega), a3.1 4 (by omega) (by omega)]; rfl
  · have P3 : PLY R nO nV nC nA room en ln TX DN Γ0 F no ne nv ow W σ2 Δ := PLY_kept P2 ⟨fun k _ b4 _ c => by rw [a3.1 k (by omega) (by omega), mI_1, if_neg b4], fun k _ c => by rw [a3.2 k (by omega) (by omega) (by omega)]; rfl⟩ (fun r r4 r10 => a4.1 r (by omega))
    have U3 : UND nO room nV nC σ2 Δ T.2.2.2 := UND_keep U2 (by rw [a3.2 99 (by omega) (by omega) (by omega)]; rfl) (by rw [a3.1 101 (by omega) (by omega)]; rfl) (by rw [a4.1 0 (by omega)]) (by rw [a4.1 0 (by omega)])
    have g := W_do P3 U3 a5 a6 a7 a8 (by rw [a3.1 95 (by omega) (by omega)]; show σ1.1 95 = _; rw [e2, q0])
    obtain ⟨v, σ', Θ, ps, g1, g2, g3, g4, g5, g6, g7, g8, g9⟩ := g
    refine ⟨v, σ', Θ, ps, a1.trans g1, ?_, g3, g4, fun y hy => ?_, rPl_trans (rPl_trans fr1 (rPl_trans (rPl_i (k := 4) (v := 0) (by omega)) (rPl_E a3))) g6, ?_, ?_, cPl_trans (cPl_trans cP2 (cPl_r (fun r _ _ _ r11 => a4.1 r r11))) g8, ?_⟩
    · rw [a2, Option.bind_some]
      dsimp only
      rw [mrgB13 (fun r _ _ _ r11 _ => a4.1 r r11), bndE, if_neg (by decide)]; exact g2
    · rw [g5 y hy, a3.2 99 (by omega) (by omega) (by omega)]
      show σ1.2 99 y = _
      rw [f99]
    · rw [g7 0 (by omega), a3.1 0 (by omega) (by omega)]; exact f0
    · rw [g7 4 (by omega), a3.1 4 (by omega) (by omega)]; rfl
    · rw [g9, a4.1 0 (by omega)]; rfl
