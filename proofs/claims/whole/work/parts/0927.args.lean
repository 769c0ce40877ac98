/-! arguments -/
variable {T N : Nat} {kd vl rv : Nat → Int} {pl : Nat → Nat}
theorem unf_fx {a : Nat} : unf kd a = fxO kd 2 a := rfl
theorem CX_cfl' {Γ : HS} {a dp ln : Nat} (h : CN T N kd vl pl Γ a dp ln) {f : Int} {d : Int} (hf : f = 2 ∨ f = 5) : CX N kd vl pl (cfl N (cop Γ d) f a) f a := ⟨h.1, rfl, rfl, hf, rfl, rfl, ln, h.2.2.2.2.2.2.2.2, h.2.2.2.2.2.1⟩
/-- the end of arguments -/
theorem args_end (hT : TKE T N kd vl rv pl) {B : Nat} {σ0 σ : MS} {Γ0 Γ : HS} {nm a ac dp ln ln' nn nn' h c : Nat} {f : Int} (h1 : RN T kd vl rv pl σ ac (dp + 1) nn') (h2 : CN T N kd vl pl Γ ac (dp + 1) ln') (h3 : LST kd σ (EXP kd vl rv pl σ Γ h) 1 nn nn' f c (a + 1) ac ln ln') (h4 : nn' ≤ nn + 3 * (ac - (a + 1)) ∧ h ≤ 84000 * (31 - (dp + 1)) + 10000 * min 3 (8 - 2) + 2000 * (8 - 6) + (ac - (a + 1))) (h5 : ln' ≤ ln + 4 * (ac - (a + 1))) (h6 : c ≤ ac - a) (h7 : rX nn σ0 σ) (h8 : cXt ln nm Γ0 Γ) (h9 : rfP σ0 σ) (h10 : cfP Γ0 Γ) (hnm : nm + 1 = a) (ha : a < ac) (hln : ln ≤ ln') (hlim : ln' < 39500) (hB : nn' ≤ B) (hB2 : B ≤ 38000) (hf : -1 ≤ f ∧ f < nn') (hdp : dp < 30) : Ok2 ((F_X12_shut 41 σ).bind fun u_10 => some (J f, u_10.2)) (bnd (cI' Γ 2 4 (((Γ 2).1 4) - 1)) fun σ_8 => (F_X2_need 41 σ_8).bind fun u_10 => bnd (cA' u_10.2 1 6 (g_put 16001 ((u_10.2 1).2.1 6) (J (nm : Nat)) (J (c : Nat)))) fun σ_12 => (F_X0_add_ 40 (J (nm : Nat)) σ_12).bind fun u_14 => bnd (mrg (fun j => j == 5) σ_12 u_14.2) fun σ_16 => some ((0 : Int32), σ_16)) (ARes T N kd vl rv pl B σ0 Γ0 nm a dp ln nn) := by
  obtain ⟨n1, n2, n3, n4⟩ := TKE_N hT
  have hac := h1.2.2.2.2.2.2.1
  rw [show (41 : Int32) = J 41 from rfl, r_shut hT h1 (by decide) (by omega), show dp + 1 - 1 = dp by omega]
  refine Ok2_rbnd ?_
  rw [h2.2.2.2.1, show J ((dp + 1 : Nat) : Int) - 1 = J (dp : Nat) by rw [J_lit, J_sub]; exact congrArg J (by show ((dp + 1 : Nat) : Int) - 1 = _; omega)]
  have h2' : CN T N kd vl pl (cop Γ dp) ac dp ln' := CN_cop h2 (by omega)
  rw [show cI' Γ 2 4 (J (dp : Nat)) = cop Γ dp from rfl, c_need hT h2' (by omega)]
  refine Ok2_lsome (Ok2_rsome (Ok2_rbnd ?_))
  rw [q_g_put_in (by omega) (by omega) (by omega), Int.toNat_natCast]
  dsimp only
  by_cases q : kd ac = 41
  · rw [if_pos q, if_pos q]
    have hacT := TKE_lt hT hac (by omega) (by omega)
    have c1 := CN_cps hT h2' hacT
    have c2 : CN T N kd vl pl (cA' (cps kd (cop Γ dp) ac) 1 6 (upd (((cps kd (cop Γ dp) ac) 1).2.1 6) nm (J (c : Nat)))) (ac + 1) dp ln' := ⟨⟨c1.1.1, c1.1.2⟩, c1.2⟩
    rw [show (40 : Int32) = J 40 from rfl, c_add3 c2.2.2.2.2.2.1 (by omega) (by omega) (by omega)]
    refine Ok2_rsome (Ok2_rbnd ?_)
    rw [mrg5 oth5_ca3]
    refine Ok2_some (Or.inl ⟨h, c, ac, ln', nn', f, rfl, RN_opn (RN_psd h1 hacT) (by omega), CN_ca3 c2 (by omega), ?_, q, ha, hln, ?_, op3_ca3, by omega, by omega, h6, ?_, ?_, ?_, ?_⟩)
    · -- the list stays what it is
      obtain ⟨xs, ls, is, js, ps, b1, b2, b3, b4, b5, b6, b7, b8, b9, b10, b11⟩ := h3
      have hr := LST_rng b4 b9 b10
      refine ⟨xs, ls, is, js, ps, b1, b2, b3, fun k hk => ?_, b5, b6, b7, b8, b9, b10, b11⟩
      have r1 := hr k 0 (by omega)
      have r2 := hr (c - (k + 1)) (k + 1) (by omega)
      rw [show k + 1 + (c - (k + 1)) = c by omega] at r2
      rw [Nat.zero_add] at r1
      have b := b4 k hk
      have bb9 := b9 k hk
      have bj : js k ≤ is (k + 1) := by rw [bb9.2]; split <;> omega
      refine ⟨b.1, b.2.1, EXP_ag (σ := σ) (Γ := Γ) _ _ _ _ _ _ _ _ (fun y _ _ => ⟨rfl, rfl, rfl, fun _ => rfl, fun _ _ _ _ => rfl, fun _ => rfl⟩) ⟨fun r r1 r2 => ?_, fun t t1 t2 => ?_⟩ b.2.2⟩
      · show upd _ _ _ _ = _
        rw [upd_s, if_neg (by omega), upd_s, if_neg (by omega), upd_s, if_neg (by omega)]; rfl
      · show upd _ _ _ _ = _
        rw [upd_s, if_neg (by omega)]; rfl
    · show upd _ _ _ _ = _; rw [upd_s, if_pos rfl]
    · exact rX_trans h7 (fun _ _ _ _ _ => rfl) (Nat.le_refl nn)
    · exact cXt_trans h8 (cXt_trans (cXt_trans (cXt_trans (cXt_cop (d := dp)) (cXt_cps (kd := kd) (b := ac)) (Nat.le_refl ln) (Nat.le_refl nm)) (cXt_A6 (Nat.le_refl nm)) (Nat.le_refl ln) (Nat.le_refl nm)) (cXt_ca3 hln) (Nat.le_refl ln) (Nat.le_refl nm)) (Nat.le_refl ln) (Nat.le_refl nm)
    · exact rfP_trans h9 (rfP_trans rfP_psd rfP_opn)
    · exact cfP_trans h10 (cfP_trans (cfP_trans (cfP_trans cfP_cop cfP_cps) cfP_A6) cfP_ca3)
  · rw [if_neg q, if_neg q]
    have x1 : RX T kd vl rv pl (opn (stp σ (unf kd ac) (pl ac)) (dp : Nat)) (unf kd ac) (pl ac) nn' := RX_opn (RX_stp h1)
    have x2 : CX N kd vl pl (cA' (cfl N (cop Γ dp) 2 ac) 1 6 (upd (((cfl N (cop Γ dp) 2 ac) 1).2.1 6) nm (J (c : Nat)))) 2 ac := CX_A6 (CX_cfl h2' (Or.inl rfl))
    refine Ok2_sep (Q := fun u => u = (J f, opn (stp σ (unf kd ac) (pl ac)) (dp : Nat))) (R := fun v => CX N kd vl pl v.2 2 ac ∧ cfP Γ0 v.2) (Ok_some rfl) ?_ ?_
    · refine y_add3' x2 40 _ (g := fun _ σ_16 => some ((0 : Int32), σ_16)) (fun z Θ _ _ hΘ hc2 => Ok_some ⟨hΘ, ?_⟩)
      exact cfP_trans h10 (cfP_trans (cfP_trans (cfP_trans cfP_cop cfP_cfl) cfP_A6) hc2)
    · rintro u v rfl ⟨v1, v2⟩
      exact Or.inr ⟨_, 2, ac, nn', x1, v1, rfl, hac, hB, rfP_trans h9 (rfP_trans rfP_stp rfP_opn), v2, f, rfl, hf.1, by omega⟩
theorem sArgs (hT : TKE T N kd vl rv pl) {dp : Nat} (hE : dp < 30 → simE T N kd vl rv pl 0 0 8 (dp + 1)) {B a ln nn d1 d2 nm : Nat} {σ : MS} {Γ : HS} (h1 : RN T kd vl rv pl σ a dp nn) (h2 : CN T N kd vl pl Γ a dp ln) (hka : kd a = 40) (hnm : nm + 1 = a) (hp : preE T B a dp ln nn 0) (hd1 : 9 * (31 - dp) ≤ d1) (hd2 : 9 * (31 - dp) ≤ d2) (hdp : dp ≤ 30) : Ok2 (gE d1 8 0 0 0 σ) (gG d2 7 (J (nm : Nat)) 0 0 Γ) (ARes T N kd vl rv pl B σ Γ nm a dp ln nn) := by
  obtain ⟨n1, n2, n3, n4⟩ := TKE_N hT
  have haT := TKE_lt hT h1.2.2.2.2.2.2.1 (by omega) (by omega)
  unfold preE at hp
  obtain ⟨d1, rfl⟩ : ∃ e, d1 = e + 1 := ⟨d1 - 1, by omega⟩
  obtain ⟨d2, rfl⟩ : ∃ e, d2 = e + 1 := ⟨d2 - 1, by omega⟩
  rw [q_gE_8, q_gG_7]
  unfold F_X12_arguments F_X2_arguments
  rw [c_deepen hT h2 haT, show (40 : Int32) = J 40 from rfl]
  -- the loops
  have hloop : ∀ (u : Int32 × MS) (v : Int32 × HS), (∃ x : Int, u.1 = J x ∧ -1 ≤ x ∧ x < 40000 ∧ ((∃ (h ac ln' nn' f : Nat), x = f ∧ RN T kd vl rv pl u.2 ac (dp + 1) nn' ∧ CN T N kd vl pl v.2 ac (dp + 1) ln' ∧ EXP kd vl rv pl u.2 v.2 h nn nn' f (a + 1) ac ln ln' ∧ u.2.2 22 f = J (-1) ∧ (nn' ≤ nn + 3 * (ac - (a + 1)) ∧ h ≤ 84000 * (31 - (dp + 1)) + 10000 * min 3 (8 - 2) + 2000 * (8 - 6) + (ac - (a + 1))) ∧ ln' ≤ ln + 4 * (ac - (a + 1)) ∧ rX nn σ u.2 ∧ cXt ln nm Γ v.2 ∧ rfP σ u.2 ∧ cfP Γ v.2 ∧ dp < 30) ∨ (∃ f f' w nn', RX T kd vl rv pl u.2 f (pl w) nn' ∧ CX N kd vl pl v.2 f' w ∧ f = fxO kd f' w ∧ w ≤ T ∧ nn' ≤ B ∧ rfP σ u.2 ∧ cfP Γ v.2))) → Ok2 (loopF (fun (again_17 : (Int32 × MS) → MR) (s_16 : Int32 × MS) => (
      (F_X12_took 44 s_16.2).bind fun u_20 =>
      if u_20.1 = 0 then (
        (F_X12_shut 41 u_20.2).bind fun u_10 => some (u.1, u_10.2)
      ) else (
        (gE d1 0 0 0 0 u_20.2).bind fun u_25 =>
        if s_16.1 < 0 ∨ 40000 ≤ s_16.1.toNatClampNeg then none else
        bnd (mA u_25.2 22 (upd (u_25.2.2 22) s_16.1.toNatClampNeg u_25.1)) fun σ_29 =>
        again_17 (u_25.1, σ_29)
      )
    )) FU (u.1, u.2)) (loopF (fun (again_24 : (Int32 × HS) → HR) (s_23 : Int32 × HS) => (
      if ((s_23.2 1).1 2) ≤ s_23.1 then (
        (fun (v2_3 : Int32) (σ_4 : HS) => bnd (cI' σ_4 2 4 (((σ_4 2).1 4) - 1)) fun σ_8 => (F_X2_need 41 σ_8).bind fun u_10 => bnd (cA' u_10.2 1 6 (g_put 16001 ((u_10.2 1).2.1 6) (J (nm : Nat)) v2_3)) fun σ_12 => (F_X0_add_ 40 (J (nm : Nat)) σ_12).bind fun u_14 => bnd (mrg (fun j => j == 5) σ_12 u_14.2) fun σ_16 => some ((0 : Int32), σ_16)) s_23.1 s_23.2
      ) else (
        (F_X2_accept 44 s_23.2).bind fun u_30 =>
        if u_30.1 = 0 then (
          (fun (v2_3 : Int32) (σ_4 : HS) => bnd (cI' σ_4 2 4 (((σ_4 2).1 4) - 1)) fun σ_8 => (F_X2_need 41 σ_8).bind fun u_10 => bnd (cA' u_10.2 1 6 (g_put 16001 ((u_10.2 1).2.1 6) (J (nm : Nat)) v2_3)) fun σ_12 => (F_X0_add_ 40 (J (nm : Nat)) σ_12).bind fun u_14 => bnd (mrg (fun j => j == 5) σ_12 u_14.2) fun σ_16 => some ((0 : Int32), σ_16)) s_23.1 u_30.2
        ) else (
          (gG d2 0 0 0 0 u_30.2).bind fun u_35 =>
          bnd (s_23.1 + 1) fun (x_37 : Int32) =>
          again_24 (x_37, u_35.2)
        )
      )
    )) FU (1, v.2)) (ARes T N kd vl rv pl B σ Γ nm a dp ln nn) := by
    rintro ⟨u1, u2⟩ ⟨v1, v2⟩ ⟨x, hx1, hx2, hx3, hcase⟩
    dsimp only at hx1 hcase
    subst hx1
    refine Ok2_loop (P := fun s t k => (∃ (h c ac ln' nn' : Nat) (xs ls is js ps : Nat → Nat) (τ : MS) (Δ : HS), s = (J (xs (c - 1) : Nat), τ) ∧ t = (J (c : Nat), Δ) ∧ T + 2 - ac ≤ k ∧ 1 ≤ c ∧ RN T kd vl rv pl τ ac (dp + 1) nn' ∧ CN T N kd vl pl Δ ac (dp + 1) ln' ∧ LSTf kd τ (EXP kd vl rv pl τ Δ h) 1 x c (a + 1) ac ln ln' xs ls is js ps ∧ ls 0 = nn ∧ ls c = nn' ∧ c ≤ ac - a ∧ a + 1 < ac ∧ ln < ln' ∧ (nn' ≤ nn + 3 * (ac - (a + 1)) ∧ h ≤ 84000 * (31 - (dp + 1)) + 10000 * min 3 (8 - 2) + 2000 * (8 - 6) + (ac - (a + 1))) ∧ ln' ≤ ln + 4 * (ac - (a + 1)) ∧ rX nn σ τ ∧ cXt ln nm Γ Δ ∧ rfP σ τ ∧ cfP Γ Δ ∧ dp < 30) ∨ (∃ f f' w nn', RX T kd vl rv pl s.2 f (pl w) nn' ∧ CX N kd vl pl t.2 f' w ∧ f = fxO kd f' w ∧ w ≤ T ∧ nn' ≤ B ∧ rfP σ s.2 ∧ cfP Γ t.2)) ?_ FU FU _ _ (T + 2) (FU_gt (by omega)) (FU_gt (by omega)) ?_
    · clear hcase
      rintro b1 b2 s t k hP ih
      rcases hP with ⟨h, c, ac, ln', nn', xs, ls, is, js, ps, τ, Δ, rfl, rfl, pk, p1, p2, p3, p4, p5, p6, p7, p8, p9, p10, p11, p12, p13, p14, p15, p16⟩ | ⟨f, f', w, nn', q1, q2, q3, q4, q5, q6, q7⟩
      · have hac := p2.2.2.2.2.2.2.1
        have hxn : x < nn' := by
          have e := p4.1.1
          rw [if_neg (by omega)] at e
          have e2 := (p4.2.1 0 (by omega)).2.1
          have e3 := (LST_rng p4.2.1 p4.2.2.2.2.2.2.1 p4.2.2.2.2.2.2.2.1 (c - 1) 1 (by omega)).1
          rw [show 1 + (c - 1) = c by omega] at e3
          rw [Nat.zero_add] at e2
          omega
        refine Ok2_rneg (by show ¬ ((Δ 1).1 2 ≤ J (c : Nat)); rw [p3.1.1, J_le (by omega) (by omega) (by omega) (by omega)]; omega) ?_
        dsimp only
        rw [show (44 : Int32) = J 44 from rfl, r_took hT p2 (by decide), c_accept hT p3 (by omega)]
        refine Ok2_lsome (Ok2_rsome ?_)
        by_cases qc : kd ac = 44
        · rw [if_pos qc, if_pos qc]
          refine Ok2_lneg J1_ne (Ok2_rneg J1_ne ?_)
          have hacT := TKE_lt hT hac (by omega) (by omega)
          have r1 := RN_psd p2 hacT
          have c1 := CN_cps hT p3 hacT
          dsimp only
          refine Ok2_bind (Ok2_mono (hE p16 (B - 1) (ac + 1) ln' nn' d1 d2 (psd τ ac) (cps kd Δ ac) r1 c1 (by unfold preE; omega) (by omega) (by omega)) ?_)
          rintro ⟨w1, w2⟩ ⟨z1, z2⟩ hres
          have hxs : xs (c - 1) < nn' := by
            have e2 := (p4.2.1 (c - 1) (by omega)).2.1
            rw [show c - 1 + 1 = c by omega] at e2; omega
          have hlim : nn' < 38000 := by omega
          refine Ok2_lneg (ng (n := xs (c - 1)) (by omega)).1 ?_
          refine Ok2_lbnd (Ok2_rbnd ?_)
          dsimp only
          rw [(ng (n := xs (c - 1)) (by omega)).2, show J (c : Nat) + 1 = J (c + 1 : Nat) by rw [J_lit, J_add]; rfl]
          rcases hres with ⟨h', a', ln2, nn2, y, e1, e2, e3, e4, e5, e6, e7, e8, e9, e10, e11⟩ | ⟨f, f', w, nn2, g1, g2, g3, g4, g5, g6, g7, -⟩
          · dsimp only at e1 e2 e3 e4 e5 e8 e9 e10 e11
            subst e1
            have hr5 := EXP_rng e5
            refine ih _ _ (T + 2 - a') (by have := e3.2.2.2.2.2.2.1; omega) (Or.inl ⟨max h h', c + 1, a', ln2, nn2, _, _, _, _, _, mA w2 22 (upd (w2.2 22) (xs (c - 1)) (J (y : Nat))), z2, ?_, rfl, Nat.le_refl _, by omega, RN_mA e3 (by omega) (by omega) (by omega), e4, LSTf_snoc p4 (by omega) (F := EXP kd vl rv pl (mA w2 22 (upd (w2.2 22) (xs (c - 1)) (J (y : Nat)))) z2 (max h h')) ?_ ?_ (by omega) hr5.2.1 hr5.2.2.1 hr5.2.2.2 (fun _ => qc) ?_ ?_ ?_, ?_, ?_, by omega, by omega, by omega, by omega, by omega, ?_, ?_, ?_, ?_, p16⟩)
            · simp
            · intro k hk hEk
              have r1 := (LST_rng p4.2.1 p4.2.2.2.2.2.2.1 p4.2.2.2.2.2.2.2.1 (c - (k + 1)) (k + 1) (by omega))
              rw [show k + 1 + (c - (k + 1)) = c by omega] at r1
              have b9 := p4.2.2.2.2.2.2.1 k hk
              have bj : js k ≤ is (k + 1) := by rw [b9.2]; split <;> omega
              have b4 := p4.2.2.2.1
              have b6 := p4.2.2.2.2.2.1
              refine EXP_mono h _ (by omega) _ _ _ _ _ _ _ (EXP_ag (σ := τ) (Γ := Δ) _ _ _ _ _ _ _ _ (fun y' y1 y2 => ?_) ⟨fun r r1 r2 => ?_, fun t' t1 t2 => ?_⟩ hEk)
              · have g : ∀ m, 17 ≤ m → m ≤ 22 → w2.2 m y' = τ.2 m y' := fun m m1 m2 => e8 m m1 m2 y' (by omega)
                refine ⟨g 17 (by omega) (by omega), g 18 (by omega) (by omega), g 19 (by omega) (by omega), fun _ => g 20 (by omega) (by omega), fun _ _ _ _ => g 21 (by omega) (by omega), fun hy => ?_⟩
                show upd _ _ _ _ = _
                rw [upd_s, if_neg ?_]
                · exact g 22 (by omega) (by omega)
                · rintro rfl
                  by_cases qk : k = c - 1
                  · exact hy (by rw [qk])
                  · have r2 := (LST_rng p4.2.1 p4.2.2.2.2.2.2.1 p4.2.2.2.2.2.2.2.1 (c - 1 - (k + 1)) (k + 1) (by omega)).1
                    rw [show k + 1 + (c - 1 - (k + 1)) = c - 1 by omega] at r2
                    have := (p4.2.1 (c - 1) (by omega)).1
                    omega
              · exact (e9.1 r (by omega)).trans rfl
              · exact (e9.2 t' (by omega)).trans rfl
            · rw [p6]
              refine EXP_mono h' _ (by omega) _ _ _ _ _ _ _ (EXP_ag (σ := w2) (Γ := z2) _ _ _ _ _ _ _ _ (fun y' y1 y2 => ⟨rfl, rfl, rfl, fun _ => rfl, fun _ _ _ _ => rfl, fun _ => ?_⟩) ⟨fun _ _ _ => rfl, fun _ _ _ => rfl⟩ e5)
              show upd _ _ _ _ = _
              rw [upd_s, if_neg (by omega)]
            · intro k hk
              have b2 := (p4.2.1 k (by omega)).2.1
              have r2 := (LST_rng p4.2.1 p4.2.2.2.2.2.2.1 p4.2.2.2.2.2.2.2.1 (c - 1 - (k + 1)) (k + 1) (by omega)).1
              rw [show k + 1 + (c - 1 - (k + 1)) = c - 1 by omega] at r2
              have b3 := (p4.2.1 (c - 1) (by omega)).1
              show upd _ _ _ _ = _
              rw [upd_s, if_neg (by omega)]
              exact e8 22 (by omega) (by omega) _ (by omega)
            · show upd _ _ _ _ = _
              rw [upd_s, if_pos rfl]
            · show upd _ _ _ _ = _
              rw [upd_s, if_neg (by omega)]; exact e2
            · rw [if_neg (by omega)]; exact p5
            · rw [if_pos rfl]
            · have r2 := (LST_rng p4.2.1 p4.2.2.2.2.2.2.1 p4.2.2.2.2.2.2.2.1 (c - 1) 0 (by omega)).1
              rw [Nat.zero_add] at r2
              have b3 := (p4.2.1 (c - 1) (by omega)).1
              exact rX_trans (rX_trans (rX_trans p12 (rX_psd (a := ac)) (Nat.le_refl nn)) e8 (by omega)) (rX_mA (by omega)) (Nat.le_refl nn)
            · exact cXt_trans p13 (cXt_trans (cXt_cps (kd := kd) (b := ac)) e9 (by omega) (by omega)) (Nat.le_refl ln) (Nat.le_refl nm)
            · exact rfP_trans p14 (rfP_trans rfP_psd (rfP_trans e10 (rfP_mA (by omega))))
            · exact cfP_trans p15 (cfP_trans cfP_cps e11)
          · have h1' := RX_mA (m := 22) (g := upd (w2.2 22) (xs (c - 1)) w1) g1 (by omega) (by omega) (by omega)
            exact ih _ _ 0 (by omega) (Or.inr ⟨f, f', w, nn2, h1', g2, g3, g4, by omega, rfP_trans p14 (rfP_trans rfP_psd (rfP_trans g6 (rfP_mA (by omega)))), cfP_trans p15 (cfP_trans cfP_cps g7)⟩)
        · rw [if_neg qc, if_neg qc]
          refine Ok2_lpos J0_eq (Ok2_rpos J0_eq ?_)
          exact args_end hT p2 p3 (LSTf_LST p4 (by omega) (by omega)) p10 p11 p7 p12 p13 p14 p15 hnm (by omega) (by omega) (by omega) (by omega) (by omega) ⟨hx2, hxn⟩ p16
      · obtain ⟨s1, s2⟩ := s
        obtain ⟨t1, t2⟩ := t
        dsimp only at q1 q2 q6 q7
        dsimp only
        rw [x_took q1]
        refine Ok2_lsome (Ok2_lpos J0_eq ?_)
        have hs := fun cnt : Int32 => Ok2_mono (args_stop hT q1 q2 q3 q4 q5 q6 q7 (x := x) ⟨hx2, hx3⟩ (nm := J (nm : Nat)) (cnt := cnt)) (fun u' v' h => (Or.inr h : ARes T N kd vl rv pl B σ Γ nm a dp ln nn u' v'))
        by_cases qq : (t2 1).1 2 ≤ t1
        · exact Ok2_rpos qq (hs t1)
        · refine Ok2_rneg qq ?_
          rw [show (44 : Int32) = J 44 from rfl, y_accept q2 (by omega)]
          exact Ok2_rsome (Ok2_rpos J0_eq (hs t1))
    · rcases hcase with ⟨h, ac, ln', nn', f, rfl, p1, p2, p3, p4, p5, p6, p7, p8, p9, p10, p11⟩ | ⟨f, f', w, nn', p1, p2, p3, p4, p5, p6, p7⟩
      · have hr := EXP_rng p3
        have hac := p1.2.2.2.2.2.2.1
        have hl := LSTf_one (kd := kd) (σ := u2) (E := EXP kd vl rv pl u2 v2 h) (sep := 1) p3 hr.1 hr.2.1 hr.2.2.1 hr.2.2.2 p4
        exact Or.inl ⟨h, 1, ac, ln', nn', _, _, _, _, _, u2, v2, rfl, rfl, by omega, by omega, p1, p2, hl, rfl, rfl, by omega, by omega, by omega, p5, p6, p7, p8, p9, p10, p11⟩
      · exact Or.inr ⟨f, f', w, nn', p1, p2, p3, p4, p5, p6, p7⟩
  by_cases hd30 : dp = 30
  · -- the 31st
    rw [r_open_x hT h1 (by decide) hka hd30, if_neg (by omega)]
    refine Ok2_lsome (Ok2_rsome ?_)
    have x1 : RX T kd vl rv pl (opn (stp σ 5 (pl a)) 31) 5 (pl a) nn := RX_opn (RX_stp h1)
    have x2 : CX N kd vl pl (cfl N (cop Γ (dp + 1 : Nat)) 5 a) 5 a := CX_cfl' h2 (Or.inr rfl)
    rw [x_isSign x1]
    refine Ok2_lsome (Ok2_lbnd (Ok2_rbnd (Ok2_lpos J0_eq (Ok2_rneg (by rw [x2.2.2.1]; decide) ?_))))
    have hs := (sE hT (B := B) x1 x2 (by omega) (by omega) (by unfold fxO; rw [if_neg (by omega)]) (by omega) (rfP_trans rfP_stp rfP_opn : rfP σ _) (cfP_trans cfP_cop cfP_cfl : cfP Γ _) (d1 := d1) (d2 := d2) (by omega) (by omega) 0).1 rfl
    refine Ok2_bind (Ok2_mono hs ?_)
    rintro u v ⟨f, f', w, nn', a1, a2, a3, a4, a5, a6, a7, x, a8, a9, a10⟩
    exact hloop u v ⟨x, a8, a9, a10, Or.inr ⟨f, f', w, nn', a1, a2, a3, a4, a5, a6, a7⟩⟩
  · have hd30' : dp < 30 := by omega
    rw [r_open_y hT h1 (by decide) hka hd30', if_pos hd30']
    refine Ok2_lsome (Ok2_rsome ?_)
    have r0 : RN T kd vl rv pl (opn σ (dp + 1 : Nat)) a (dp + 1) nn := RN_opn h1 (by omega)
    have r1 := RN_psd r0 haT
    have c1 := CN_cps hT (CN_cop (d := dp + 1) h2 (by omega)) haT
    have g1 : rfP σ (psd (opn σ (dp + 1 : Nat)) a) := rfP_trans rfP_opn rfP_psd
    have g2 : cfP Γ (cps kd (cop Γ (dp + 1 : Nat)) a) := cfP_trans cfP_cop cfP_cps
    have g3 : rX nn σ (psd (opn σ (dp + 1 : Nat)) a) := fun _ _ _ _ _ => rfl
    have g4 : cXt ln nm Γ (cps kd (cop Γ (dp + 1 : Nat)) a) := cXt_trans (cXt_cop (d := ((dp + 1 : Nat) : Int))) cXt_cps (Nat.le_refl ln) (Nat.le_refl nm)
    dsimp only
    rw [show (41 : Int32) = J 41 from rfl, r_isSign hT r1 (by decide)]
    refine Ok2_lsome (Ok2_lbnd (Ok2_rbnd ?_))
    dsimp only
    rw [c1.2.2.1]
    have hkr := kdOk_rng (TKE_ok hT (show a + 1 ≤ T by omega))
    by_cases q41 : kd (a + 1) = 41
    · rw [if_pos q41, q41]
      refine Ok2_lneg J1_ne (Ok2_rpos rfl ?_)
      have := args_end (h := 0) (c := 0) (f := -1) hT r1 c1 (LSTf_LST (LSTf_nil (n := nn)) (Nat.le_refl nn) (Nat.le_refl nn)) (by omega) (by omega) (by omega) g3 g4 g1 g2 hnm (by omega) (Nat.le_refl ln) (by omega) (B := B) (by omega) (by omega) ⟨by omega, by omega⟩ hd30'
      exact this
    · rw [if_neg q41]
      refine Ok2_lpos J0_eq (Ok2_rneg (by rw [J_eq (by omega) (by omega) (by omega) (by omega)]; exact q41) ?_)
      refine Ok2_bind (Ok2_mono (hE hd30' (B - 1) (a + 1) ln nn d1 d2 _ _ r1 c1 (by unfold preE; omega) (by omega) (by omega)) ?_)
      rintro u v hres
      rcases hres with ⟨h', a', ln2, nn2, y, e1, e2, e3, e4, e5, e6, e7, e8, e9, e10, e11⟩ | ⟨f, f', w, nn2, g1', g2', g3', g4', g5', g6', g7', x, g8', g9', g10'⟩
      · have hr5 := EXP_rng e5
        have := e3.2.2.2.2.2.2.1
        refine hloop u v ⟨y, e1, by omega, by omega, Or.inl ⟨h', a', ln2, nn2, y, rfl, e3, e4, e5, e2, by omega, by omega, rX_trans g3 e8 (Nat.le_refl nn), cXt_trans g4 e9 (Nat.le_refl ln) (by omega), rfP_trans g1 e10, cfP_trans g2 e11, hd30'⟩⟩
      · exact hloop u v ⟨x, g8', g9', g10', Or.inr ⟨f, f', w, nn2, g1', g2', g3', g4', by omega, rfP_trans g1 g6', cfP_trans g2 g7'⟩⟩
