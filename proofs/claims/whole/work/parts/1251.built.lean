/-! build keeps what holds between two calls, if laying does what it must -/
/-- a world with the story of another -/
def drv (Γ D : HS) : HS := fun r => if 4 ≤ r ∧ r ≤ 7 then D r else Γ r
theorem drv_in {Γ D : HS} {r : Nat} (h : 4 ≤ r ∧ r ≤ 7) : drv Γ D r = D r := if_pos h
theorem drv_no {Γ D : HS} {r : Nat} (h : ¬ (4 ≤ r ∧ r ≤ 7)) : drv Γ D r = Γ r := if_neg h
/-- the draft becomes the story -/
def opnH (Γ : HS) : HS := cA' (cI' (cI' (cI' Γ 0 7 1) 0 8 0) 0 18 0) 0 15 (g_fill 4 ((Γ 0).2.1 15) 0)
def HB3 (T : TS) (Γ6 : HS) : HA := (F_X0_link Γ6).bind fun u4 => bnd (mrg (fun j => j == 1 || j == 5) Γ6 u4.2) fun Γ7 => (F_X9_packAll Γ7).bind fun u5 => bnd (mrg (fun j => j == 1 || j == 6) Γ7 u5.2) fun Γ8 => some ((0, (Γ8 4).2.1 0 0), (opnH Γ8, T.1, T.2.2))
def HB2 (T : TS) (Γ5 : HS) : HA := (F_X4_giveAll Γ5).bind fun u3 => bnd (mrg (fun j => j == 1 || j == 3 || j == 4 || j == 5 || j == 6 || j == 7) Γ5 u3.2) fun Γ6 => if u3.1 = 0 then HB3 T Γ6 else some ((0, -u3.1), (drv (cI' Γ6 0 9 ((Γ6 3).1 17)) T.1, Γ6, T.2.2))
def H_build (T : TS) : HA := (F_X10_cut ((T.1 0).1 1) T.1).bind fun u0 => bnd (mrg (fun j => j == 13 || j == 1) T.1 u0.2) fun Γ1 => bnd (cI' (cI' Γ1 0 1 0) 0 9 (-1)) fun Γ3 => (F_X7_clear (drv Γ3 T.2.1)).bind fun u1 => bnd (mrg bD (drv Γ3 T.2.1) u1.2) fun Γ4 => (F_X2_readAll Γ4).bind fun u2 => bnd (mrg (fun j => j == 1 || j == 2 || j == 5) Γ4 u2.2) fun Γ5 => if u2.1 = 0 then HB2 T Γ5 else some ((0, -u2.1), (drv (cI' Γ5 0 9 ((Γ5 2).1 7)) T.1, Γ5, T.2.2))
theorem top_nw {L : Nat} {σ : MS} {T : TS} (h : TOP L σ T) : ∃ nw : Nat, nw < 6 ∧ (T.1 0).1 17 = J (nw : Nat) := by
  rcases top_idle h with g | ⟨R, nO, nV, nC, nA, room, en, ln, TX, DN, Γ0, F, no, ne, nv, ow, W, fr, wh, at0, hL, g⟩
  · exact g.2.2.2
  · obtain ⟨u, nw, -, n1, -, -, n2, -⟩ := g.2.1
    exact ⟨nw, n1, n2⟩
/-- a text with a fault leaves the play as it is -/
theorem top_fault {L q : Nat} {σ υ : MS} {T T' : TS} (h : TOP L σ T) (u : rfU σ υ) (h16 : υ.1 16 = J (q : Nat)) (hc : ∀ r, r ≠ 0 → r ≠ 1 → r ≠ 2 → r ≠ 3 → T'.1 r = T.1 r) (h1 : (T'.1 0).1 1 = 0) (h9 : (T'.1 0).1 9 = J (q : Nat)) (h0 : ∀ j, j ≠ 1 → j ≠ 9 → (T'.1 0).1 j = (T.1 0).1 j) (h02 : (T'.1 0).2 = (T.1 0).2) (e2 : T'.2.2 = T.2.2) : TOP 0 υ T' := by
  obtain ⟨-, ⟨r1, ⟨w, o1, o2⟩, r3, r4, r5⟩, h⟩ := h
  obtain ⟨ui, ua, ⟨u4, u0⟩, -, -⟩ := u
  have idl : IDL σ T.1 → IDL υ T'.1 := fun g => IDL_fr g (ui 86 (by omega)) (ua 100 (by omega) (by omega)) (h0 8 (by omega) (by omega)) (h0 17 (by omega) (by omega)) h02
  refine ⟨⟨by omega, u4, h1, fun j hj => absurd hj (Nat.not_lt_zero _)⟩, ⟨by rw [h9, h16], ⟨w, OL_congr o1 (ua 102 (by omega) (by omega)) (ui 103 (by omega)), OL_congr o2 (by rw [hc 8 (by omega) (by omega) (by omega) (by omega)]) (by rw [hc 8 (by omega) (by omega) (by omega) (by omega)])⟩, ?_, WAI_10 (by rw [hc 10 (by omega) (by omega) (by omega) (by omega)]) r4, by rw [ui 113 (by omega)]; exact r5.1, by rw [ui 115 (by omega)]; exact r5.2⟩, ?_⟩
  · unfold NOU at r3 ⊢
    rw [hc 10 (by omega) (by omega) (by omega) (by omega), ui 108 (by omega), ui 109 (by omega)]; exact r3
  · rcases h with ⟨⟨a, b⟩, g, g77⟩ | ⟨R, nO, nV, nC, nA, room, en, ln, TX, DN, Γ0, F, no, ne, nv, ow, W, fr, wh, at0, hL, g⟩
    · exact Or.inl ⟨⟨by rw [ui 44 (by omega)]; exact a, by rw [h0 7 (by omega) (by omega)]; exact b⟩, idl g, by rw [ua 77 (by omega) (by omega)]; exact g77⟩
    · refine Or.inr ⟨R, nO, nV, nC, nA, room, en, ln, TX, DN, Γ0, F, no, ne, nv, ow, W, fr, wh, at0, LVP_keep hL (fun k hk => ui k (by omega)) (fun k hk => ua k (by omega) (by omega)) (fun r a b => hc r (by omega) (by omega) (by omega) (by omega)) (h0 7 (by omega) (by omega)), ?_⟩
      rcases g with g | ⟨g1, gU, gS, g86, g8⟩
      · exact Or.inl (idl g)
      · refine Or.inr ⟨PLY_same g1 (fun k hk => ui k (by omega)) (fun k hk => ua k (by omega) (by omega)) (fun r a b => hc r (by omega) (by omega) (by omega) (by omega)), ?_, ?_, by rw [ui 86 (by omega)]; exact g86, by rw [h0 8 (by omega) (by omega)]; exact g8⟩
        · rw [e2]
          exact UND_keep gU (ua 99 (by omega) (by omega)) (ui 101 (by omega)) (h0 18 (by omega) (by omega)) (h0 17 (by omega) (by omega))
        · rw [e2]
          unfold SVD at gS ⊢
          rw [ua 100 (by omega) (by omega), ua 99 (by omega) (by omega), h02]; exact gS
theorem top_77 {L : Nat} {σ : MS} {T : TS} (h : TOP L σ T) : σ.2 77 0 = 0 := by
  rcases h.2.2 with g | ⟨R, nO, nV, nC, nA, room, en, ln, TX, DN, Γ0, F, no, ne, nv, ow, W, fr, wh, at0, hL, g⟩
  · exact g.2.2
  · have st := hL.1.2.1
    rw [st.2.2.2.1.1.2 0 (Nat.zero_le _), st.2.2.2.1.2.2.1]; rfl
/-- what laying a built text must come to (its proof is to come) -/
def LAYJ : Prop := ∀ (T N : Nat) (kd vl rv : Nat → Int) (pl : Nat → Nat) (b : Nat → Int) (L : Nat) (W0 : List Int) (Γ0 : HS) (σ : MS) (Γ : HS) (υ : MS) (E Δ Γ' : HS) (g : Nat → Int32), L ≤ 4095 → BLT T N kd vl rv pl b L W0 Γ0 σ Γ υ E Δ Γ' → υ.2 77 0 = 0 → ∃ (w : Int32) (τ : MS), F_X12_lay (mI (mA υ 85 g) 16 (-1)) = some (w, τ) ∧ (τ.1 86 = 0 ∧ ∀ p, p < 4 → τ.2 100 p = 0) ∧ (∀ k, k = 0 ∨ k = 4 ∨ k = 103 ∨ k = 108 ∨ k = 109 ∨ k = 113 ∨ k = 115 → τ.1 k = υ.1 k) ∧ τ.1 16 = -1 ∧ τ.2 102 = υ.2 102 ∧ ∃ (R : Nat → Nat → Int32) (nO nV nC nA : Nat) (room : Nat → Bool) (en : Nat → Nat) (ln : Nat) (TX : Nat → Int → Int → Prop) (DN : Nat → Nat → Nat → Prop) (Γ0 : HS) (F : Nat → Nat) (no ne nv : Nat) (ow : Nat → List (List Int)) (W : List Int) (fr : Nat) (wh at0 : Nat → Nat), ∀ Θ : HS, (∀ r, 4 ≤ r → r ≤ 7 → Θ r = Γ' r) → (Θ 0).1 7 = 1 → LVP R nO nV nC nA room en ln TX DN Γ0 F no ne nv ow W fr wh at0 τ Θ
theorem W_build (hJ : LAYJ) {L : Nat} {σ : MS} {T : TS} (h : TOP L σ T) (hL : L ≤ 4095) : ALK (TPO L) (F_X12_build σ) (H_build T) := by
  obtain ⟨t1, t2, t3, t4⟩ := h.1
  have hb : ∀ i, i < L → (T.1 13).2.1 0 i = J ((fun j => (σ.2 3 j).toInt) i) ∧ ((fun j => (σ.2 3 j).toInt) i = 10 ∨ (32 ≤ (fun j => (σ.2 3 j).toInt) i ∧ (fun j => (σ.2 3 j).toInt) i ≤ 126)) := fun j hj => by
    obtain ⟨w, w1, w2, w3⟩ := t4 j hj
    dsimp only
    refine ⟨by rw [w2, J_of, w1], ?_⟩
    rw [w1, J_toInt (by omega) (by omega)]; omega
  obtain ⟨⟨x, Γ1⟩, e1, Tn, cl, c1, c2⟩ := c_cut (b := fun j => (σ.2 3 j).toInt) (L := L) (Γ := T.1) (by omega) (fun i hi => (hb i hi).1) (fun i hi => (hb i hi).2)
  dsimp only at c1 c2
  have D1 : (drv (cI' (cI' Γ1 0 1 0) 0 9 (-1)) T.2.1) 1 = Γ1 1 := by rw [drv_no (by omega), cI_r, if_neg (by omega), cI_r, if_neg (by omega)]
  have c1' : cLex (fun j => (σ.2 3 j).toInt) L Tn cl (drv (cI' (cI' Γ1 0 1 0) 0 9 (-1)) T.2.1) := by
    unfold cLex csrc cnam at c1 ⊢
    rw [D1]; exact c1
  obtain ⟨Γ4, W0, e4, hcls⟩ := c_clear (drv (cI' (cI' Γ1 0 1 0) 0 9 (-1)) T.2.1)
  have f4 : ∀ r, ¬ (4 ≤ r ∧ r ≤ 7) → Γ4 r = (cI' (cI' Γ1 0 1 0) 0 9 (-1)) r := fun r hr => by rw [hcls.1 r (by omega) (by omega) (by omega) (by omega), drv_no hr]
  have z0 : ∀ j, j ≠ 1 → j ≠ 9 → (Γ4 0).1 j = (T.1 0).1 j := fun j a b => by
    rw [f4 0 (by omega)]
    show upd (upd (Γ1 0).1 1 0) 9 (-1) j = _
    rw [upd_s, if_neg b, upd_s, if_neg a, c2 0 (by omega)]
  have z1 : (Γ4 0).1 1 = 0 := by rw [f4 0 (by omega)]; rfl
  have z9 : (Γ4 0).1 9 = -1 := by rw [f4 0 (by omega)]; rfl
  have z2 : (Γ4 0).2 = (T.1 0).2 := by
    rw [f4 0 (by omega)]
    show (Γ1 0).2 = _
    rw [c2 0 (by omega)]
  have zr : ∀ r, 8 ≤ r → Γ4 r = T.1 r := fun r hr => by rw [f4 r (by omega), cI_r, if_neg (by omega), cI_r, if_neg (by omega), c2 r (by omega)]
  have B := build_join (σ := σ) hL t2 (fun i _ => (J_of _).symm) (fun i hi => (hb i hi).2) c1' hcls
  have eH : H_build T = (F_X2_readAll Γ4).bind fun u2 => bnd (mrg (fun j => j == 1 || j == 2 || j == 5) Γ4 u2.2) fun Γ5 => if u2.1 = 0 then HB2 T Γ5 else some ((0, -u2.1), (drv (cI' Γ5 0 9 ((Γ5 2).1 7)) T.1, Γ5, T.2.2)) := by
    unfold H_build
    rw [t3, e1, Option.bind_some]
    dsimp only
    rw [mrgE (fun r hr => c2 r (by rintro rfl; exact absurd hr (by decide))), bndE, bndE, e4, Option.bind_some]
    dsimp only
    rw [mrgE (fun r hr => hcls.1 r (by rintro rfl; exact absurd hr (by decide)) (by rintro rfl; exact absurd hr (by decide)) (by rintro rfl; exact absurd hr (by decide)) (by rintro rfl; exact absurd hr (by decide))), bndE]
  rw [eH]
  clear eH e1 e4
  have fin : ∀ (f : Int) (q : Nat) (υ : MS) (Γ5 : HS), 0 < f ∧ f ≤ 6 → F_X12_build σ = some (J (-f), υ) → υ.1 16 = J (q : Nat) → rfU σ υ → (∀ r, r = 0 ∨ 8 ≤ r → Γ5 r = Γ4 r) → ALK (TPO L) (F_X12_build σ) (some ((0, -(J f)), (drv (cI' Γ5 0 9 (J (q : Nat))) T.1, Γ5, T.2.2))) := fun f q υ Γ5 hf a1 a2 a3 a4 => by
    refine ⟨J (-f), -(J f), 0, υ, _, a1, rfl, a3.2.2.1.2, fun _ => by rw [J_neg], 0, by omega, top_fault h a3 a2 (fun r r0 r1 r2 r3 => ?_) ?_ ?_ (fun j j1 j9 => ?_) ?_ rfl⟩
    · show drv _ T.1 r = _
      by_cases c : 4 ≤ r ∧ r ≤ 7
      · rw [drv_in c]
      · rw [drv_no c, cI_r, if_neg r0, a4 r (by omega), zr r (by omega)]
    · show ((drv (cI' Γ5 0 9 (J (q : Nat))) T.1) 0).1 1 = 0
      rw [drv_no (by omega)]
      show upd (Γ5 0).1 9 (J (q : Nat)) 1 = 0
      rw [upd_s, if_neg (by omega), a4 0 (by omega), z1]
    · show ((drv (cI' Γ5 0 9 (J (q : Nat))) T.1) 0).1 9 = _
      rw [drv_no (by omega)]; rfl
    · show ((drv (cI' Γ5 0 9 (J (q : Nat))) T.1) 0).1 j = _
      rw [drv_no (by omega)]
      show upd (Γ5 0).1 9 (J (q : Nat)) j = _
      rw [upd_s, if_neg j9, a4 0 (by omega), z0 j j1 j9]
    · show ((drv (cI' Γ5 0 9 (J (q : Nat))) T.1) 0).2 = _
      rw [drv_no (by omega)]
      show (Γ5 0).2 = _
      rw [a4 0 (by omega), z2]
  have nz : ∀ f : Int, 0 < f ∧ f ≤ 6 → ¬ J f = 0 := fun f hf => by rw [show (0 : Int32) = J 0 from rfl, J_eq (by omega) (by omega) (by omega) (by omega)]; omega
  rcases B with ⟨f, q, υ, hf, hq, b1, b2, b3, ⟨Γ5, r1, r2, r3⟩ | ⟨Γ5, Γ6, r1, r2, r3, r4, r5⟩⟩ | ⟨T0, N, kd, vl, rv, pl, σ1, υ, g, Γ5, E, Δ, Γ', b1, b2, b3, b4, b5⟩
  · rw [r1, Option.bind_some]
    dsimp only
    rw [mrgE (fun r hr => r3.1 r (by rintro rfl; exact absurd hr (by decide)) (by rintro rfl; exact absurd hr (by decide)) (by rintro rfl; exact absurd hr (by decide))), bndE, if_neg (nz f hf), r2]
    exact fin f q υ Γ5 hf b1 b2 b3 (fun r hr => r3.1 r (by omega) (by omega) (by omega))
  · rw [r1, Option.bind_some]
    dsimp only
    rw [mrgE (fun r hr => r2.1 r (by rintro rfl; exact absurd hr (by decide)) (by rintro rfl; exact absurd hr (by decide)) (by rintro rfl; exact absurd hr (by decide))), bndE, if_pos rfl]
    unfold HB2
    rw [r3, Option.bind_some]
    dsimp only
    rw [mrgE (fun r hr => r5 r (by rintro rfl; exact absurd hr (by decide)) (by rintro rfl; exact absurd hr (by decide)) (by rintro rfl; exact absurd hr (by decide)) (by rintro rfl; exact absurd hr (by decide)) (by rintro rfl; exact absurd hr (by decide)) (by rintro rfl; exact absurd hr (by decide))), bndE, if_neg (nz f hf), r4]
    exact fin f q υ Γ6 hf b1 b2 b3 (fun r hr => by rw [r5 r (by omega) (by omega) (by omega) (by omega) (by omega) (by omega), r2.1 r (by omega) (by omega) (by omega)])
  · obtain ⟨w, τ, l1, ⟨l2, l3⟩, l4, l5, l6, R, nO, nV, nC, nA, room, en, ln, TX, DN, Γ0, F, no, ne, nv, ow, W, fr, wh, at0, l7⟩ := hJ T0 N kd vl rv pl _ L W0 Γ4 σ1 Γ5 υ E Δ Γ' g hL b5 (by rw [b2.2.1 77 (by omega) (by omega)]; exact top_77 h)
    obtain ⟨m, nm, cl', c, ls, is, ps, ds, os, es, -, -, -, -, -, -, -, -, -, -, -, -, -, -, -, -, -, -, -, -, -, -, -, q1, q2, q3, q4, -, -, q5, q6, -, -⟩ := b5
    obtain ⟨G, Θ, τ', K, S, -, -, -, -, -, m6, -, -, -, -, -, -, -, -, -, -, -, -, ck, -⟩ := q2
    have fE : ∀ r, r ≠ 1 → r ≠ 3 → r ≠ 4 → r ≠ 7 → E r = Γ5 r := fun r a b c d => by
      rw [ck.1 r a b c d]
      unfold stG
      rw [cI_r, if_neg b, cI_r, if_neg b, cI_r, if_neg b, cI_r, if_neg b, cI_r, if_neg b, cI_r, if_neg b, m6 r b c]
    have fG : ∀ r, r = 0 ∨ 8 ≤ r → Γ' r = Γ4 r := fun r hr => by
      rw [q6 r (by omega), q4 r (by omega), fE r (by omega) (by omega) (by omega) (by omega), q1.1 r (by omega) (by omega) (by omega)]
    have fO : ∀ r, r ≠ 0 → opnH Γ' r = Γ' r := fun r hr => by
      unfold opnH
      rw [cA_r, if_neg hr, cI_r, if_neg hr, cI_r, if_neg hr, cI_r, if_neg hr]
    have fI : ∀ j, j ≠ 7 → j ≠ 8 → j ≠ 18 → (opnH Γ' 0).1 j = (Γ4 0).1 j := fun j a b c => by
      rw [← fG 0 (by omega)]
      show upd (upd (upd (Γ' 0).1 7 1) 8 0) 18 0 j = _
      rw [upd_s, if_neg c, upd_s, if_neg b, upd_s, if_neg a]
    have LV := l7 (opnH Γ') (fun r a b => fO r (by omega)) rfl
    obtain ⟨nw, n1, n2⟩ := top_nw h
    obtain ⟨-, ⟨-, ⟨w', o1, o2⟩, r3, r4, r5⟩, -⟩ := h
    have ui := b2.1
    have ua := b2.2.1
    refine ⟨τ.1 78, (Γ' 4).2.1 0 0, 0, τ, (opnH Γ', T.1, T.2.2), ?_, ?_, by rw [l4 0 (by omega)]; exact b2.2.2.1.2, fun _ => ?_, 0, by omega, ⟨by omega, by rw [l4 4 (by omega)]; exact b2.2.2.1.1, ?_, fun j hj => absurd hj (Nat.not_lt_zero _)⟩, ⟨?_, ⟨w', OL_congr o1 (by rw [l6, ua 102 (by omega) (by omega)]) (by rw [l4 103 (by omega), ui 103 (by omega)]), OL_congr o2 (by dsimp only; rw [fO 8 (by omega), fG 8 (by omega), zr 8 (by omega)]) (by dsimp only; rw [fO 8 (by omega), fG 8 (by omega), zr 8 (by omega)])⟩, ?_, WAI_10 (by dsimp only; rw [fO 10 (by omega), fG 10 (by omega), zr 10 (by omega)]) r4, by rw [l4 113 (by omega), ui 113 (by omega)]; exact r5.1, by rw [l4 115 (by omega), ui 115 (by omega)]; exact r5.2⟩, Or.inr ⟨R, nO, nV, nC, nA, room, en, ln, TX, DN, Γ0, F, no, ne, nv, ow, W, fr, wh, at0, LV, Or.inl ⟨l2, rfl, fun p hp => ⟨l3 p hp, if_pos hp⟩, nw, n1, ?_⟩⟩⟩
    · rw [b1, l1, Option.bind_some]
    · rw [b3, Option.bind_some]
      dsimp only
      rw [mrgE (fun r hr => q1.1 r (by rintro rfl; exact absurd hr (by decide)) (by rintro rfl; exact absurd hr (by decide)) (by rintro rfl; exact absurd hr (by decide))), bndE, if_pos rfl]
      unfold HB2
      rw [b4, Option.bind_some]
      dsimp only
      rw [mrgE (fun r hr => fE r (by rintro rfl; exact absurd hr (by decide)) (by rintro rfl; exact absurd hr (by decide)) (by rintro rfl; exact absurd hr (by decide)) (by rintro rfl; exact absurd hr (by decide))), bndE, if_pos rfl]
      unfold HB3
      rw [q3, Option.bind_some]
      dsimp only
      rw [mrgE (fun r hr => q4 r (by rintro rfl; exact absurd hr (by decide))), bndE, q5, Option.bind_some]
      dsimp only
      rw [mrgE (fun r hr => q6 r (by rintro rfl; exact absurd hr (by decide))), bndE]
    · have e := LV.2.2.1 0 (by omega)
      rw [fO 4 (by omega)] at e
      exact e.symm
    · show (opnH Γ' 0).1 1 = 0
      rw [fI 1 (by omega) (by omega) (by omega)]; exact z1
    · show (opnH Γ' 0).1 9 = _
      rw [fI 9 (by omega) (by omega) (by omega), l5]; exact z9
    · unfold NOU at r3 ⊢
      dsimp only
      rw [fO 10 (by omega), fG 10 (by omega), zr 10 (by omega), l4 108 (by omega), l4 109 (by omega), ui 108 (by omega), ui 109 (by omega)]; exact r3
    · show (opnH Γ' 0).1 17 = _
      rw [fI 17 (by omega) (by omega) (by omega), z0 17 (by omega) (by omega)]; exact n2
