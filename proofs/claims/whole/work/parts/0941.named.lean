/-! a call; what fits nothing; a cell -/
variable {T N : Nat} {kd vl rv : Nat → Int} {pl : Nat → Nat}
theorem cn_0 (hT : TKE T N kd vl rv pl) {Δ : HS} {a dp ln : Nat} (h2 : CN T N kd vl pl Δ a dp ln) (hk : kd a = 2) : F_X2_named Δ = if kd (a + 1) = 40 then ((G_X2_arguments (J (a : Nat)) (cps kd Δ a)).bind fun u_7 => (F_X0_add 1 u_7.2).bind fun u_9 => bnd (mrg (fun j => j == 5) u_7.2 u_9.2) fun σ_11 => some ((0 : Int32), σ_11)) else if kd (a + 1) = 91 then ((G_X2_index (cps kd Δ a)).bind fun u_16 => (F_X2_need 61 u_16.2).bind fun u_18 => (G_X2_expression u_18.2).bind fun u_20 => (F_X0_add_ 39 (J (a : Nat)) u_20.2).bind fun u_22 => bnd (mrg (fun j => j == 5) u_20.2 u_22.2) fun σ_24 => some ((0 : Int32), σ_24)) else ((F_X2_need 61 (cps kd Δ a)).bind fun u_27 => (G_X2_expression u_27.2).bind fun u_29 => (F_X0_add_ 50 (J (a : Nat)) u_29.2).bind fun u_31 => bnd (mrg (fun j => j == 5) u_29.2 u_31.2) fun σ_33 => some ((0 : Int32), σ_33)) := by
  have haT := TKE_lt hT h2.2.2.2.2.2.2.1 (by omega) (by omega)
  have hkr1 := kdOk_rng (TKE_ok hT (show a + 1 ≤ T by omega))
  have c1 := CN_cps hT h2 haT
  unfold F_X2_named
  simp only [bnd]
  rw [h2.2.1, c_pass hT h2 haT, Option.bind_some, c1.2.2.1]
  by_cases q : kd (a + 1) = 40
  · rw [if_pos q, q, if_pos (show J 40 = 40 from rfl)]
  · rw [if_neg q, if_neg (by rw [show (40 : Int32) = J 40 from rfl, J_eq (by omega) (by omega) (by omega) (by omega)]; exact q)]
    by_cases q2 : kd (a + 1) = 91
    · rw [if_pos q2, q2, if_pos (show J 91 = 91 from rfl)]
    · rw [if_neg q2, if_neg (by rw [show (91 : Int32) = J 91 from rfl, J_eq (by omega) (by omega) (by omega) (by omega)]; exact q2)]
theorem sn_e (hT : TKE T N kd vl rv pl) {B a dp ln nn : Nat} {σ0 ρ : MS} {Γ0 Δ : HS} (h : St1 T N kd vl rv pl B σ0 Γ0 a dp ln nn ρ Δ) (hk : kd a = 2) (hk1 : kd (a + 1) ≠ 61) (hk2 : kd (a + 1) ≠ 91) (hk3 : kd (a + 1) ≠ 40) : Ok2 ((F_X12_named (J (nn : Nat)) ρ).bind fun u_99 => (F_X12_need 59 u_99.2).bind fun u_15 => some (J (nn : Nat), u_15.2)) ((F_X2_named Δ).bind fun u_49 => (F_X2_need 59 u_49.2).bind fun u_21 => some ((0 : Int32), u_21.2)) (StR T N kd vl rv pl 0 B σ0 Γ0 a dp ln nn) := by
  obtain ⟨h1, h2, h3, h4, h5, h6, h7, h8, h9, h10⟩ := h
  unfold preS at h9
  have ha := h1.2.2.2.2.2.2.1
  have haT := TKE_lt hT ha (by omega) (by omega)
  have c1 := CN_cps hT h2 haT
  have r1 := nm2_RN hT h1 hk
  have r2 : RN T kd vl rv pl (mA (nm2 kd rv pl ρ nn a) 17 (upd ((nm2 kd rv pl ρ nn a).2 17) nn 33)) (a + 1) dp (nn + 2) := RN_mA r1 (by omega) (by omega) (by omega)
  rw [rn_a hT h1 (by omega) hk hk2 hk1 (fun σ => (F_X12_need 59 σ).bind fun u_15 => some (J (nn : Nat), u_15.2)), args_n hT r2 hk3, cn_0 hT h2 hk, if_neg hk3, if_neg hk2, show F_X2_need 61 (cps kd Δ a) = _ from c_need hT c1 (c := 61) (by omega), if_neg hk1, Option.bind_some]
  simp only [Option.bind_assoc]
  have x2 : yXX N kd vl pl Γ0 2 (a + 1) (cfl N (cps kd Δ a) 2 (a + 1)) := ⟨CX_cfl c1 (Or.inl rfl), cfP_trans h8 (cfP_trans cfP_cps cfP_cfl)⟩
  refine Ok2_mono (stop2 (B := B) (sa_stop hT (by omega) (by omega) (by omega) ⟨⟨nn + 2, RX_stp r2, by omega⟩, rfP_trans h7 (rfP_trans nm2_rfP (rfP_trans (rfP_mA (by omega)) rfP_stp))⟩) (f' := 2) ?_ rfl (by omega) ⟨by omega, by omega⟩) (fun _ _ h => Or.inr h)
  refine Ok_bind (Ok_mono (yy_expr hT x2) (fun u hu => ?_))
  exact yy_add3 hu 50 (J (a : Nat)) (g := fun _ σ => (some ((0 : Int32), σ)).bind fun u_49 => (F_X2_need 59 u_49.2).bind fun u_21 => some ((0 : Int32), u_21.2)) (fun _ Θ _ _ hΘ => Ok_bind (Ok_some (Ok_bind (Ok_mono (yy_need hT hΘ (c := 59) (by omega)) (fun u hu => Ok_some hu)))))
theorem sn_a (hT : TKE T N kd vl rv pl) {B a dp ln nn : Nat} {σ0 ρ : MS} {Γ0 Δ : HS} (h : St1 T N kd vl rv pl B σ0 Γ0 a dp ln nn ρ Δ) (hk : kd a = 2) (hk3 : kd (a + 1) = 40) : Ok2 ((F_X12_named (J (nn : Nat)) ρ).bind fun u_99 => (F_X12_need 59 u_99.2).bind fun u_15 => some (J (nn : Nat), u_15.2)) ((F_X2_named Δ).bind fun u_49 => (F_X2_need 59 u_49.2).bind fun u_21 => some ((0 : Int32), u_21.2)) (StR T N kd vl rv pl 0 B σ0 Γ0 a dp ln nn) := by
  obtain ⟨h1, h2, h3, h4, h5, h6, h7, h8, h9, h10⟩ := h
  unfold preS at h9
  have ha := h1.2.2.2.2.2.2.1
  have haT := TKE_lt hT ha (by omega) (by omega)
  have c1 := CN_cps hT h2 haT
  have r1 := nm2_RN hT h1 hk
  have en := g_en (n := nn) (by omega)
  rw [(ng (n := nn) (by omega)).2] at en
  have r2 : RN T kd vl rv pl (mA (nm2 kd rv pl ρ nn a) 17 (upd ((nm2 kd rv pl ρ nn a).2 17) nn 33)) (a + 1) dp (nn + 2) := RN_mA r1 (by omega) (by omega) (by omega)
  have f2 : rfP σ0 (mA (nm2 kd rv pl ρ nn a) 17 (upd ((nm2 kd rv pl ρ nn a).2 17) nn 33)) := rfP_trans h7 (rfP_trans nm2_rfP (rfP_mA (by omega)))
  rw [rn_a hT h1 (by omega) hk (by omega) (by omega) (fun σ => (F_X12_need 59 σ).bind fun u_15 => some (J (nn : Nat), u_15.2)), cn_0 hT h2 hk, if_pos hk3]
  simp only [Option.bind_assoc]
  refine Ok2_bind (Ok2_mono (show Ok2 (G_X12_arguments _) (G_X2_arguments (J (a : Nat)) _) _ from sArgs hT (fun hd => sim_expr hT (dp := dp + 1) (by omega)) (B := B - 10) (d1 := 300) (d2 := 300) r2 c1 hk3 rfl (by unfold preE; omega) (by omega) (by omega) h10) ?_)
  rintro ⟨u1, u2⟩ ⟨v1, v2⟩ hr
  refine Ok2_lneg en (Ok2_lbnd ?_)
  dsimp only
  rcases hr with ⟨h, c, a', q', nn', f, e1, e2, e3, e4, e5, e6, e7, e8, e9, e10, e11, e12, e13, e14, e15, e16⟩ | hs
  · dsimp only at e1 e2 e3 e4 e8 e9 e13 e14 e15 e16
    subst e1
    have ha' := e2.2.2.2.2.2.2.1
    have hnn : nn + 2 ≤ nn' := by
      obtain ⟨xs, ls, is, js, ps, b1, b2, b3, b4, b5, b6, b7, b8, b9, b10, b11⟩ := e4
      have := (LST_rng b4 b9 b10 c 0 (by omega)).1
      rw [Nat.zero_add] at this; omega
    rw [show (1 : Int32) = J 1 from rfl, c_add1 e3.2.2.2.2.2.1 (by omega) (by omega) (by omega), Option.bind_some]
    simp only [bnd]
    rw [mrg5 oth5_ca1, Option.bind_some]
    have g : ∀ j, 17 ≤ j → j ≤ 22 → j ≠ 20 → (mA u2 20 (upd (u2.2 20) nn (J f))).2 j nn = (mA (nm2 kd rv pl ρ nn a) 17 (upd ((nm2 kd rv pl ρ nn a).2 17) nn 33)).2 j nn := by
      intro j j1 j2 j3
      rw [mA_2, if_neg j3]
      exact e13 j (by omega) (by omega) nn (by omega)
    refine st_end hT (RN_mA e2 (by omega) (by omega) (by omega)) (CN_ca1 e3 (by omega)) ?_ ?_ ?_ (by omega) (by omega) (by omega) (by omega) (by omega) ?_ ?_ ?_ ?_ (by omega) (by omega)
    · refine Or.inr (Or.inr (Or.inr (Or.inr (Or.inr (Or.inr (Or.inr (Or.inr ⟨f, nn + 1, c, a', q', hk, hk3, e5, rfl, rfl, ?_, ?_, ?_, by omega, by omega, ?_, e8, ?_, ?_, ?_⟩)))))))
      · rw [g 17 (by omega) (by omega) (by omega)]; show upd _ _ _ _ = _; rw [upd_s, if_pos rfl]; rfl
      · rw [g 19 (by omega) (by omega) (by omega)]; exact nm2_19 (σ := ρ)
      · exact NMN_mA (NMN_rX (NMN_mA (j := 17) (v := 33) (n := nn) (nm2_NMN (σ := ρ) (n := nn) hk) (by omega)) e13 (by omega)) (by omega)
      · show upd _ _ _ _ = _; rw [upd_s, if_pos rfl]
      · exact op3_ag (i := 0) (j := 0) e9 (agC_ca1 (Nat.le_refl (q' + 3))) (Nat.zero_le _) (Nat.le_refl _)
      · exact op1_ca1
      · obtain ⟨xs, ls, is, js, ps, b1, b2, b3, b4, b5, b6, b7, b8, b9, b10, b11⟩ := e4
        have hr := LST_rng b4 b9 b10
        refine ⟨xs, ls, is, js, ps, ⟨b1.1, fun k hk => b1.2 k hk⟩, by omega, b3, fun k hk => ?_, b5, b6, b7, b8, b9, b10, b11⟩
        have b := b4 k hk
        have r1 := hr k 0 (by omega)
        have r2 := hr (c - (k + 1)) (k + 1) (by omega)
        rw [show k + 1 + (c - (k + 1)) = c by omega] at r2
        rw [Nat.zero_add] at r1
        have s3 : ps (k + 1) ≤ q' := by
          have := b9; have := b10
          rw [← b8]; exact r2.2.2
        exact ⟨b.1, b.2.1, EX_c1 (EX_mA (EX_of b.2.2 (by omega)) (Or.inr (Or.inl rfl)) (Or.inl (by omega))) (by omega)⟩
    · rw [g 22 (by omega) (by omega) (by omega)]; exact (nm2_A (σ := ρ) (j := 22) (by omega)).trans h4
    · rw [g 18 (by omega) (by omega) (by omega)]; exact (nm2_A (σ := ρ) (j := 18) (by omega)).trans h3
    · exact rX_trans h5 (rX_trans nm2_rX (rX_trans (rX_mA (Nat.le_refl nn)) (rX_trans (rX_le e13 (by omega)) (rX_mA (Nat.le_refl nn)) (Nat.le_refl nn)) (Nat.le_refl nn)) (Nat.le_refl nn)) (Nat.le_refl nn)
    · exact cXt_trans h6 (cXt_trans cXt_cps (cXt_trans e14 (cXt_ca1 (show ln ≤ q' + 3 by omega)) (Nat.le_refl ln) (Nat.le_refl a)) (Nat.le_refl ln) (Nat.le_refl a)) (Nat.le_refl ln) (Nat.le_refl a)
    · exact rfP_trans f2 (rfP_trans e15 (rfP_mA (by omega)))
    · exact cfP_trans h8 (cfP_trans cfP_cps (cfP_trans e16 cfP_ca1))
  · obtain ⟨f, f', w', x1, x2, x3, x4, -⟩ := of_SRes (SRes_mono hs f2 (cfP_trans h8 cfP_cps))
    have x1' := xx_mA (k := 20) (g := upd (u2.2 20) nn u1) x1 (by omega)
    refine Ok2_mono (stop2 (B := B) (st_stop hT (nn := nn) (xx_B x1' (by omega)) x2).1 (f' := f') ?_ x3 x4 ⟨by omega, by omega⟩) (fun _ _ h => Or.inr h)
    exact yy_add x2 1 (g := fun σ => (some ((0 : Int32), σ)).bind fun u_49 => (F_X2_need 59 u_49.2).bind fun u_21 => some ((0 : Int32), u_21.2)) (fun Θ hΘ => Ok_bind (Ok_some ((st_stop hT (nn := nn) x1' hΘ).2)))
