/-! a story with nothing of its own, whole -/
variable {T N : Nat} {kd vl rv : Nat → Int} {pl : Nat → Nat}
def Cl1 : ((Int32 × HS) → HR) → Int32 × HS → HR := (fun (again_20 : (Int32 × HS) → HR) (s_19 : Int32 × HS) => ( if 121 ≤ s_19.1 then (Cl2 s_19.2) else ( if s_19.1 < 0 ∨ 121 ≤ s_19.1.toNatClampNeg then none else bnd (cA' s_19.2 4 1 (upd ((s_19.2 4).2.1 1) s_19.1.toNatClampNeg (vp_nar .boolean 0))) fun σ_99 => bnd (s_19.1 + 1) fun (x_101 : Int32) => again_20 (x_101, σ_99) ) ))
theorem clear_eq (Γ : HS) : F_X7_clear Γ = bnd (cA' Γ 4 0 (g_fill 7 ((Γ 4).2.1 0) 0)) fun σ_1 => bnd (cA' σ_1 4 0 (upd ((σ_1 4).2.1 0) (0 : Int32).toNatClampNeg 1)) fun σ_3 => bnd (cA' σ_3 4 0 (upd ((σ_3 4).2.1 0) (1 : Int32).toNatClampNeg 11)) fun σ_5 => bnd (cA' σ_5 4 2 (g_fill 121 ((σ_5 4).2.1 2) (-1))) fun σ_7 => bnd (cA' σ_7 4 3 (g_fill 121 ((σ_7 4).2.1 3) (-1))) fun σ_9 => bnd (cA' σ_9 4 4 (g_fill 121 ((σ_9 4).2.1 4) 0)) fun σ_11 => bnd (cA' σ_11 4 5 (g_fill 121 ((σ_11 4).2.1 5) 0)) fun σ_13 => bnd (cA' σ_13 4 6 (g_fill 726 ((σ_13 4).2.1 6) 0)) fun σ_15 => bnd (cA' σ_15 4 10 (g_fill 181 ((σ_15 4).2.1 10) 0)) fun σ_17 => loopF Cl1 FU (0, σ_17) := rfl
/-- the story's words stand -/
def CLW (Γ0 : HS) (W : List Int) (Γ : HS) : Prop := CLP Γ0 11 W Γ ∧ W.length ≤ 60 ∧ (∀ e, e < 21 → W.getD e 0 = tm9 (OFXw.getD e [])) ∧ 21 ≤ W.length ∧ ∃ ki ko : Nat, ki < W.length ∧ ko < W.length ∧ (Γ 4).2.1 8 9 = J (ki : Nat) ∧ (Γ 4).2.1 8 10 = J (ko : Nat) ∧ W.getD ki 0 = tm9 [105, 110] ∧ W.getD ko 0 = tm9 [111, 110]
theorem tm9_nd0 : ∀ j, j < 21 → ∀ i, i < j → tm9 (OFXw.getD i []) ≠ tm9 (OFXw.getD j []) := by decide +kernel
theorem tm9_nd : ∀ i j, i < j → j < 21 → tm9 (OFXw.getD i []) ≠ tm9 (OFXw.getD j []) := fun i j a b => tm9_nd0 j b i a
theorem nm_me : nmW [109, 101] := by unfold nmW; decide +kernel
theorem nm_in : nmW [105, 110] := by unfold nmW; decide +kernel
theorem nm_on : nmW [111, 110] := by unfold nmW; decide +kernel
theorem c_Cl2 {Γ : HS} (h10 : ∀ o, o ≤ 180 → (Γ 4).2.1 10 o = 0) : ∃ (Γ0 Γ' : HS) (W : List Int), Cl2 Γ = some ((0 : Int32), Γ') ∧ CLW Γ0 W Γ' ∧ cI' (cI' (cI' (cI' (cI' (cI' (cI' (cI' Γ 5 1 0) 5 5 0) 5 6 0) 5 7 0) 5 8 (-1)) 6 1 0) 6 6 0) 7 2 0 = Γ0 := by
  generalize hA : cI' (cI' (cI' (cI' (cI' Γ 5 1 0) 5 5 0) 5 6 0) 5 7 0) 5 8 (-1) = ΓA
  generalize hB : cI' (cI' ΓA 6 1 0) 6 6 0 = ΓB
  generalize hC : cI' ΓB 7 2 0 = ΓC
  have a1 : F_X0_wipe Γ = some ((0 : Int32), ΓA) := by rw [← hA]; rfl
  have a2 : F_X9_wipe ΓA = some ((0 : Int32), ΓB) := by rw [← hB]; rfl
  have a3 : F_X1_wipe ΓB = some ((0 : Int32), ΓC) := by rw [← hC]; rfl
  have m1 : mrg (fun j => j == 5) Γ ΓA = ΓA := mrgR5 (fun r hr => by rw [← hA, cI_r, if_neg hr, cI_r, if_neg hr, cI_r, if_neg hr, cI_r, if_neg hr, cI_r, if_neg hr])
  have m2 : mrg (fun j => j == 6) ΓA ΓB = ΓB := mrgR6 (fun r hr => by rw [← hB, cI_r, if_neg hr, cI_r, if_neg hr])
  have m3 : mrg (fun j => j == 7) ΓB ΓC = ΓC := mrgE (fun r hr => by rw [← hC, cI_r, if_neg (by rintro rfl; exact absurd hr (by decide))])
  have c4 : ΓC 4 = Γ 4 := by
    rw [← hC, cI_r, if_neg (by omega), ← hB, cI_r, if_neg (by omega), cI_r, if_neg (by omega), ← hA, cI_r, if_neg (by omega), cI_r, if_neg (by omega), cI_r, if_neg (by omega), cI_r, if_neg (by omega), cI_r, if_neg (by omega)]
  have cD : DOK ΓC [] := ⟨fun i => i, by rw [← hC]; rfl, by decide, fun m hm => absurd hm (by show ¬ m < 0; omega), fun i hi => absurd hi (by show ¬ i < 0; omega), fun i j _ hj => absurd hj (by show ¬ j < 0; omega), fun m hm => absurd hm (by show ¬ m < 0; omega)⟩
  -- the words that nobody owns
  obtain ⟨Δ, e1, K, K0, Kn, hK⟩ := c_learnOwned OFX_ok (o := 0) (R := AW0) (fun t Γ Δ h => by obtain ⟨-, W, V, -, a, -⟩ := h; exact ⟨V, a⟩) (fun w Γ hw hD => c_addWord0 hD (tm9_rng hw).1 (tm9_rng hw).2) ⟨[], cD⟩
  rw [← K0] at cD
  obtain ⟨d1, d2⟩ := W0_chain cD 21 (by omega) hK tm9_nd
  have eK : K 21 = Δ := Kn
  rw [eK] at d1 d2
  rw [K0] at d2
  have hl21 : ((List.range 21).map (fun e => tm9 (OFXw.getD e []))).length = 21 := by rw [List.length_map, List.length_range]
  have hg21 : ∀ e, e < 21 → ((List.range 21).map (fun e => tm9 (OFXw.getD e []))).getD e 0 = tm9 (OFXw.getD e []) := fun k hk => by
    rw [List.getD_eq_getElem?_getD, List.getElem?_eq_getElem (by rw [hl21]; exact hk), List.getElem_map, List.getElem_range]; rfl
  generalize (List.range 21).map (fun e => tm9 (OFXw.getD e [])) = W0 at *
  have w0 : WST Δ W0 (fun _ => 0) (fun _ _ => 0) := ⟨d1, fun o o1 o2 => ⟨Nat.zero_le _, by rw [d2 4 (by omega), c4, h10 o o2]; rfl, fun e he => absurd he (Nat.not_lt_zero _)⟩⟩
  -- me
  obtain ⟨Δ1, f1, f2⟩ := c_addWord (o := 1) (t := tm9 [109, 101]) (by omega) (by omega) ⟨W0, d1⟩ (tm9_rng nm_me).1 (tm9_rng nm_me).2
  obtain ⟨⟨W1, g1, g2, g3⟩, g4⟩ := WST_step w0 (by omega) (by omega) f2 (by omega) (by omega)
  have P0 : CLP ΓC 0 W1 Δ1 := by
    refine ⟨WST_congr g1 (fun o o1 o2 => ?_) (fun o e o1 o2 he => ?_), fun r r4 r7 => by rw [g4.1 r r4 r7, d2 r r7], by rw [g4.2.1, d2 4 (by omega)], fun j j7 j8 j9 j10 => by rw [g4.2.2 j j9 j10, d2 4 (by omega)], fun v v1 v2 => by omega⟩
    · unfold owS
      by_cases q : o = 1
      · rw [if_pos q, if_pos q]; rfl
      · rw [if_neg q, if_neg q, if_neg (by omega)]; rfl
    · by_cases q : o = 1
      · rw [if_pos q] at he
        unfold owS
        rw [if_pos q, if_pos ⟨q, by omega⟩, show e = 0 by omega]; rfl
      · rw [if_neg q] at he; omega
  -- the verbs
  obtain ⟨W2, Δ2, h1, P1, p1, l1, -⟩ := c_addVb (f := 0) P0 (by omega) OV1_ok rfl (by decide) rfl (by omega)
  obtain ⟨W3, Δ3, h2, P2, p2, l2, -⟩ := c_addVb (f := 0) P1 (by omega) OV2_ok rfl (by decide) rfl (by omega)
  obtain ⟨W4, Δ4, h3, P3, p3, l3, -⟩ := c_addVb (f := 0) P2 (by omega) OV3_ok rfl (by decide) rfl (by omega)
  obtain ⟨W5, Δ5, h4, P4, p4, l4, -⟩ := c_addVb (f := 1) P3 (by omega) OV4_ok rfl (by decide) rfl (by omega)
  obtain ⟨W6, Δ6, h5, P5, p5, l5, -⟩ := c_addVb (f := 1) P4 (by omega) OV5_ok rfl (by decide) rfl (by omega)
  obtain ⟨W7, Δ7, h6, P6, p6, l6, -⟩ := c_addVb (f := 1) P5 (by omega) OV6_ok rfl (by decide) rfl (by omega)
  obtain ⟨W8, Δ8, h7, P7, p7, l7, -⟩ := c_addVb (f := 1) P6 (by omega) OV7_ok rfl (by decide) rfl (by omega)
  obtain ⟨W9, Δ9, h8, P8, p8, l8, -⟩ := c_addVb (f := 1) P7 (by omega) OV8_ok rfl (by decide) rfl (by omega)
  obtain ⟨WA, ΔA, h9, P9, p9, l9, -⟩ := c_addVb (f := 2) P8 (by omega) OV9_ok rfl (by decide) rfl (by omega)
  obtain ⟨WB, ΔB, hA', PA, pA, lA, -⟩ := c_addVb (f := 2) P9 (by omega) OV9_ok rfl (by decide) rfl (by omega)
  -- the joints
  obtain ⟨WC, ki, ΔC, i1, i2, i3, i4, i5, i6, i7⟩ := WST_learn PA.1 (tm9_rng nm_in) (by omega)
  have QA : CLP ΓC 10 WC ΔC := CLP_wfr PA ⟨fun r _ b => i3 r b, by rw [i3 4 (by omega)], fun k _ _ => by rw [i3 4 (by omega)]⟩ i2
  have QB := CLP_8 (g := upd ((ΔC 4).2.1 8) 9 (J (ki : Nat))) QA
  generalize hD : cA' ΔC 4 8 (upd ((ΔC 4).2.1 8) 9 (J (ki : Nat))) = ΔD at QB
  obtain ⟨WE, ko, ΔE, j1, j2, j3, j4, j5, j6, j7⟩ := WST_learn QB.1 (tm9_rng nm_on) (by omega)
  have QC : CLP ΓC 10 WE ΔE := CLP_wfr QB ⟨fun r _ b => j3 r b, by rw [j3 4 (by omega)], fun k _ _ => by rw [j3 4 (by omega)]⟩ j2
  have QD := CLP_8 (g := upd ((ΔE 4).2.1 8) 10 (J (ko : Nat))) QC
  generalize hF : cA' ΔE 4 8 (upd ((ΔE 4).2.1 8) 10 (J (ko : Nat))) = ΔF at QD
  have x89 : (ΔF 4).2.1 8 9 = J (ki : Nat) := by
    rw [← hF, cA4g, if_pos rfl, upd_s, if_neg (by omega), j3 4 (by omega), ← hD, cA4g, if_pos rfl, upd_s, if_pos rfl]
  have x810 : (ΔF 4).2.1 8 10 = J (ko : Nat) := by
    rw [← hF, cA4g, if_pos rfl, upd_s, if_pos rfl]
  have PR : PRE W0 WE := PRE_trans g2 (PRE_trans p1 (PRE_trans p2 (PRE_trans p3 (PRE_trans p4 (PRE_trans p5 (PRE_trans p6 (PRE_trans p7 (PRE_trans p8 (PRE_trans p9 (PRE_trans pA (PRE_trans i4 j4)))))))))))
  -- go
  generalize hG : cA' ΔF 4 7 (upd ((ΔF 4).2.1 7) 11 (J 1)) = ΔG
  have QG : CLP ΓC 11 WE ΔG := by
    obtain ⟨⟨⟨p, w1, w2, w3, w4, w5, w6⟩, w7⟩, q2, q3, q4, q5⟩ := QD
    have e7 : ∀ j, (ΔG 4).2.1 j = if j = 7 then upd ((ΔF 4).2.1 7) 11 (J 1) else (ΔF 4).2.1 j := fun j => by rw [← hG, cA4g]
    have er : ∀ r, r ≠ 4 → ΔG r = ΔF r := fun r hr => by rw [← hG, cA_r, if_neg hr]
    refine ⟨WST_congr (bn := fun o => (owS 10 o).length) (bt := fun o e => tm9 ((owS 10 o).getD e [])) ⟨⟨p, by rw [er 7 (by omega)]; exact w1, w2, w3, by rw [er 7 (by omega)]; exact w4, w5, w6⟩, fun o o1 o2 => ?_⟩ (fun o o1 o2 => ?_) (fun o e o1 o2 he => ?_), fun r a b => by rw [er r a]; exact q2 r a b, by rw [← hG]; exact q3, fun j a b c d => by rw [e7, if_neg a]; exact q4 j a b c d, fun v v1 v2 => ?_⟩
    · rw [e7, if_neg (by omega), e7, if_neg (by omega)]
      exact w7 o o1 o2
    · unfold owS
      by_cases c1 : o = 1
      · rw [if_pos c1, if_pos c1]
      · rw [if_neg c1, if_neg c1]
        by_cases c2 : 121 ≤ o ∧ o ≤ 120 + 10
        · rw [if_pos c2, if_pos (by omega)]
        · rw [if_neg c2]
          by_cases c3 : 121 ≤ o ∧ o ≤ 120 + 11
          · rw [if_pos c3, show o = 131 by omega]; rfl
          · rw [if_neg c3]
    · unfold owS at he ⊢
      by_cases c1 : o = 1
      · rw [if_pos c1, if_pos c1]
      · rw [if_neg c1] at he
        rw [if_neg c1, if_neg c1]
        by_cases c2 : 121 ≤ o ∧ o ≤ 120 + 10
        · rw [if_pos c2, if_pos (by omega)]
        · rw [if_neg c2] at he
          exact absurd he (by show ¬ e < 0; omega)
    · rw [e7, if_pos rfl, upd_s]
      by_cases c1 : v = 11
      · rw [if_pos c1, c1]; rfl
      · rw [if_neg c1]; exact q5 v v1 (by omega)
  have xv : F_X7_addVerb 11 1 ([] : List Int32) ΔF = some ((0 : Int32), ΔG) := by
    unfold F_X7_addVerb
    rw [bndE, show (11 : Int32) = J 11 from rfl, q_g_put_in (n := 61) (i := 11) (by omega) (by omega) (by omega), show (1 : Int32) = J 1 from rfl, show (11 : Int).toNat = 11 from rfl, hG, learn_none, Option.bind_some]
  refine ⟨ΓC, ΔG, WE, ?_, ⟨QG, by omega, fun e he => by rw [PR.2 e (by omega)]; exact hg21 e he, by have := PR.1; omega, ki, ko, by have := j4.1; omega, j6, by rw [← hG, cA4g, if_neg (by omega)]; exact x89, by rw [← hG, cA4g, if_neg (by omega)]; exact x810, by rw [j4.2 ki i6]; exact i7, j7⟩, rfl⟩
  unfold Cl2
  rw [a1, Option.bind_some]
  simp only [bndE]
  rw [m1, a2, Option.bind_some]
  dsimp only
  rw [m2, a3, Option.bind_some]
  dsimp only
  rw [m3, e1, Option.bind_some]
  dsimp only
  rw [packed_me, Option.bind_some]
  dsimp only
  have f1 : F_X7_addWord 1 (L64 (tm9 [109, 101])) Δ = some (0, Δ1) := f1
  rw [f1, Option.bind_some]
  dsimp only
  have h1 : F_X7_addVerb 1 0 OV1 Δ1 = some (0, Δ2) := h1
  rw [h1, Option.bind_some]
  dsimp only
  have h2 : F_X7_addVerb 2 0 OV2 Δ2 = some (0, Δ3) := h2
  rw [h2, Option.bind_some]
  dsimp only
  have h3 : F_X7_addVerb 3 0 OV3 Δ3 = some (0, Δ4) := h3
  rw [h3, Option.bind_some]
  dsimp only
  have h4 : F_X7_addVerb 4 1 OV4 Δ4 = some (0, Δ5) := h4
  rw [h4, Option.bind_some]
  dsimp only
  have h5 : F_X7_addVerb 5 1 OV5 Δ5 = some (0, Δ6) := h5
  rw [h5, Option.bind_some]
  dsimp only
  have h6 : F_X7_addVerb 6 1 OV6 Δ6 = some (0, Δ7) := h6
  rw [h6, Option.bind_some]
  dsimp only
  have h7 : F_X7_addVerb 7 1 OV7 Δ7 = some (0, Δ8) := h7
  rw [h7, Option.bind_some]
  dsimp only
  have h8 : F_X7_addVerb 8 1 OV8 Δ8 = some (0, Δ9) := h8
  rw [h8, Option.bind_some]
  dsimp only
  have h9 : F_X7_addVerb 9 2 OV9 Δ9 = some (0, ΔA) := h9
  rw [h9, Option.bind_some]
  dsimp only
  have hA' : F_X7_addVerb 10 2 OV9 ΔA = some (0, ΔB) := hA'
  rw [hA', Option.bind_some]
  dsimp only
  rw [packed_in, Option.bind_some]
  dsimp only
  rw [i1, Option.bind_some]
  dsimp only
  rw [mrgE (b := fun j => j == 7) (Γ := ΔB) (Δ := ΔC) (fun r hr => i3 r (by rintro rfl; exact absurd hr (by decide))), show (9 : Int32).toNatClampNeg = 9 from rfl, hD, packed_on, Option.bind_some]
  dsimp only
  rw [j1, Option.bind_some]
  dsimp only
  rw [mrgE (b := fun j => j == 7) (Γ := ΔD) (Δ := ΔE) (fun r hr => j3 r (by rintro rfl; exact absurd hr (by decide))), show (10 : Int32).toNatClampNeg = 10 from rfl, hF, xv, Option.bind_some]
