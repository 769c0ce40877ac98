/-! a cell -/
variable {T N : Nat} {kd vl rv : Nat → Int} {pl : Nat → Nat}
/-- behind a fault: the end of an index -/
theorem ix_stop (hT : TKE T N kd vl rv pl) {B C : Nat} {σ0 : MS} {Γ0 : HS} {f f' : Int} {w : Nat} {σ : MS} {v : HS} (x1 : rXX T kd vl rv pl B σ0 f w σ) (x2 : yXX N kd vl pl Γ0 f' w v) {K : MS → MR} {L : HS → HR} {P : Int32 × MS → Int32 × HS → Prop} (h : ∀ σ' v', rXX T kd vl rv pl B σ0 f w σ' → yXX N kd vl pl Γ0 f' w v' → Ok2 (K σ') (L v') P) : Ok2 ((F_X12_shut 93 σ).bind fun u => K u.2) ((bnd (cI' v 2 4 (((v 2).1 4) - 1)) fun σ_5 => (F_X2_need 93 σ_5).bind fun u_7 => some ((0 : Int32), u_7.2)).bind fun u_16 => L u_16.2) P := by
  refine Ok2_bind (Ok2_sep (xx_shut hT x1 93) (R := fun u => yXX N kd vl pl Γ0 f' w u.2) ?_ (fun u v y1 y2 => h u.2 v.2 y1 y2))
  refine Ok_bnd (Ok_bind (Ok_mono (y_need (c := 93) hT (CX_cop x2.1) (by omega)) (fun r2 hr2 => Ok_some ⟨hr2.1, ?_⟩)))
  exact cfP_trans x2.2 (cfP_trans cfP_I2 hr2.2)
theorem sn_c (hT : TKE T N kd vl rv pl) {B a dp ln nn : Nat} {σ0 ρ : MS} {Γ0 Δ : HS} (h : St1 T N kd vl rv pl B σ0 Γ0 a dp ln nn ρ Δ) (hk : kd a = 2) (hk1 : kd (a + 1) = 91) : Ok2 ((F_X12_named (J (nn : Nat)) ρ).bind fun u_99 => (F_X12_need 59 u_99.2).bind fun u_15 => some (J (nn : Nat), u_15.2)) ((F_X2_named Δ).bind fun u_49 => (F_X2_need 59 u_49.2).bind fun u_21 => some ((0 : Int32), u_21.2)) (StR T N kd vl rv pl 0 B σ0 Γ0 a dp ln nn) := by
  obtain ⟨h1, h2, h3, h4, h5, h6, h7, h8, h9, h10⟩ := h
  unfold preS at h9
  have ha := h1.2.2.2.2.2.2.1
  have haT := TKE_lt hT ha (by omega) (by omega)
  have haT1 := TKE_lt hT (show a + 1 ≤ T by omega) (by omega) (by omega)
  have c1 := CN_cps hT h2 haT
  have r1 := nm2_RN hT h1 hk
  have en := g_en (n := nn) (by omega)
  rw [(ng (n := nn) (by omega)).2] at en
  have r2 : RN T kd vl rv pl (mA (nm2 kd rv pl ρ nn a) 17 (upd ((nm2 kd rv pl ρ nn a).2 17) nn 23)) (a + 1) dp (nn + 2) := RN_mA r1 (by omega) (by omega) (by omega)
  have f2 : rfP σ0 (mA (nm2 kd rv pl ρ nn a) 17 (upd ((nm2 kd rv pl ρ nn a).2 17) nn 23)) := rfP_trans h7 (rfP_trans nm2_rfP (rfP_mA (by omega)))
  have x2 : rX nn σ0 (mA (nm2 kd rv pl ρ nn a) 17 (upd ((nm2 kd rv pl ρ nn a).2 17) nn 23)) := rX_trans h5 (rX_trans nm2_rX (rX_mA (Nat.le_refl nn)) (Nat.le_refl nn)) (Nat.le_refl nn)
  have v17 : (mA (nm2 kd rv pl ρ nn a) 17 (upd ((nm2 kd rv pl ρ nn a).2 17) nn 23)).2 17 nn = J 23 := by show upd _ _ _ _ = _; rw [upd_s, if_pos rfl]; rfl
  have v18 : (mA (nm2 kd rv pl ρ nn a) 17 (upd ((nm2 kd rv pl ρ nn a).2 17) nn 23)).2 18 nn = J (pl a) := (nm2_A (σ := ρ) (j := 18) (by omega)).trans h3
  have v19 : (mA (nm2 kd rv pl ρ nn a) 17 (upd ((nm2 kd rv pl ρ nn a).2 17) nn 23)).2 19 nn = J (nn + 1 : Nat) := nm2_19 (σ := ρ)
  have v22 : (mA (nm2 kd rv pl ρ nn a) 17 (upd ((nm2 kd rv pl ρ nn a).2 17) nn 23)).2 22 nn = J (-1) := (nm2_A (σ := ρ) (j := 22) (by omega)).trans h4
  have vN : NMN rv pl (mA (nm2 kd rv pl ρ nn a) 17 (upd ((nm2 kd rv pl ρ nn a).2 17) nn 23)) (nn + 1) a := NMN_mA (j := 17) (v := 23) (n := nn) (nm2_NMN (σ := ρ) (n := nn) hk) (by omega)
  rw [rn_c hT h1 (by omega) hk hk1 (fun σ => (F_X12_need 59 σ).bind fun u_15 => some (J (nn : Nat), u_15.2)), cn_0 hT h2 hk, if_neg (by omega), if_pos hk1]
  revert r2 f2 x2 v17 v18 v19 v22 vN
  generalize mA (nm2 kd rv pl ρ nn a) 17 (upd ((nm2 kd rv pl ρ nn a).2 17) nn 23) = τ
  intro r2 f2 x2 v17 v18 v19 v22 vN
  rw [show G_X2_index (cps kd Δ a) = F_X2_index (gG 299) (cps kd Δ a) from q_gG_8 299 0 _]
  unfold F_X2_index
  rw [c_deepen hT c1 haT1]
  simp only [Option.bind_assoc]
  -- behind a fault, at the ]
  have hs3 : ∀ (f f' : Int) (w : Nat) (σ' : MS) (v' : HS), rXX T kd vl rv pl (B - 5) σ0 f w σ' → yXX N kd vl pl Γ0 f' w v' → f = fxO kd f' w → w ≤ T → Ok2 ((F_X12_shut 93 σ').bind fun u_38 => (F_X12_need 61 u_38.2).bind fun u_40 => (G_X12_expression u_40.2).bind fun u_42 => if J (nn : Nat) < 0 ∨ 40000 ≤ nn then none else bnd (mA u_42.2 21 (upd (u_42.2.2 21) nn u_42.1)) fun σ => (F_X12_need 59 σ).bind fun u_15 => some (J (nn : Nat), u_15.2)) ((bnd (cI' v' 2 4 (((v' 2).1 4) - 1)) fun σ_5 => (F_X2_need 93 σ_5).bind fun u_7 => some ((0 : Int32), u_7.2)).bind fun u_16 => (F_X2_need 61 u_16.2).bind fun u_18 => (G_X2_expression u_18.2).bind fun u_20 => (F_X0_add_ 39 (J (a : Nat)) u_20.2).bind fun u_22 => (bnd (mrg (fun j => j == 5) u_20.2 u_22.2) fun σ_24 => some ((0 : Int32), σ_24)).bind fun u_49 => (F_X2_need 59 u_49.2).bind fun u_21 => some ((0 : Int32), u_21.2)) (StR T N kd vl rv pl 0 B σ0 Γ0 a dp ln nn) := by
    intro f f' w σ' v' y1 y2 y3 y4
    exact ix_stop (C := B) hT y1 y2 (K := fun σ' => (F_X12_need 61 σ').bind fun u_40 => (G_X12_expression u_40.2).bind fun u_42 => if J (nn : Nat) < 0 ∨ 40000 ≤ nn then none else bnd (mA u_42.2 21 (upd (u_42.2.2 21) nn u_42.1)) fun σ => (F_X12_need 59 σ).bind fun u_15 => some (J (nn : Nat), u_15.2)) (L := fun v' => (F_X2_need 61 v').bind fun u_18 => (G_X2_expression u_18.2).bind fun u_20 => (F_X0_add_ 39 (J (a : Nat)) u_20.2).bind fun u_22 => (bnd (mrg (fun j => j == 5) u_20.2 u_22.2) fun σ_24 => some ((0 : Int32), σ_24)).bind fun u_49 => (F_X2_need 59 u_49.2).bind fun u_21 => some ((0 : Int32), u_21.2)) (fun σ'' v'' z1 z2 => se_stop hT (by omega) (by omega) (by omega) (Or.inr rfl) z1 z2 y3 y4)
  -- behind a fault, at the value of the index
  have hs2 : ∀ (f f' : Int) (w : Nat) (u : Int32 × MS) (v' : HS), rXX T kd vl rv pl (B - 5) σ0 f w u.2 → yXX N kd vl pl Γ0 f' w v' → f = fxO kd f' w → w ≤ T → Ok2 (if J (nn : Nat) < 0 ∨ 40000 ≤ nn then none else bnd (mA u.2 20 (upd (u.2.2 20) nn u.1)) fun σ => (F_X12_shut 93 σ).bind fun u_38 => (F_X12_need 61 u_38.2).bind fun u_40 => (G_X12_expression u_40.2).bind fun u_42 => if J (nn : Nat) < 0 ∨ 40000 ≤ nn then none else bnd (mA u_42.2 21 (upd (u_42.2.2 21) nn u_42.1)) fun σ => (F_X12_need 59 σ).bind fun u_15 => some (J (nn : Nat), u_15.2)) ((bnd (cI' v' 2 4 (((v' 2).1 4) - 1)) fun σ_5 => (F_X2_need 93 σ_5).bind fun u_7 => some ((0 : Int32), u_7.2)).bind fun u_16 => (F_X2_need 61 u_16.2).bind fun u_18 => (G_X2_expression u_18.2).bind fun u_20 => (F_X0_add_ 39 (J (a : Nat)) u_20.2).bind fun u_22 => (bnd (mrg (fun j => j == 5) u_20.2 u_22.2) fun σ_24 => some ((0 : Int32), σ_24)).bind fun u_49 => (F_X2_need 59 u_49.2).bind fun u_21 => some ((0 : Int32), u_21.2)) (StR T N kd vl rv pl 0 B σ0 Γ0 a dp ln nn) := by
    intro f f' w u v' y1 y2 y3 y4
    exact Ok2_lneg en (Ok2_lbnd (hs3 f f' w _ v' (xx_mA y1 (by omega)) y2 y3 y4))
  by_cases hd30 : dp = 30
  · rw [show F_X12_open 91 τ = _ from r_open_x hT r2 (c := 91) (by decide) hk1 hd30, if_neg (by omega)]
    refine Ok2_lsome (Ok2_rsome ?_)
    have y1 : RX T kd vl rv pl (opn (stp τ 5 (pl (a + 1))) 31) 5 (pl (a + 1)) (nn + 2) := RX_opn (RX_stp r2)
    have y2 : CX N kd vl pl (cfl N (cop (cps kd Δ a) (dp + 1 : Nat)) 5 (a + 1)) 5 (a + 1) := CX_cfl' c1 (Or.inr rfl)
    have z1 : rXX T kd vl rv pl (B - 6) σ0 5 (a + 1) (opn (stp τ 5 (pl (a + 1))) 31) := ⟨⟨nn + 2, y1, by omega⟩, rfP_trans f2 (rfP_trans rfP_stp rfP_opn)⟩
    have z2 : cfP Γ0 (cfl N (cop (cps kd Δ a) (dp + 1 : Nat)) 5 (a + 1)) := cfP_trans h8 (cfP_trans cfP_cps (cfP_trans cfP_cop cfP_cfl))
    refine Ok2_bind (Ok2_sep (xx_expr hT z1 (by omega)) (yG0 hT y2 (d := 299) (by omega)) (fun u v w1 w2 => ?_))
    exact hs2 5 5 (a + 1) u v.2 (xx_B w1 (by omega)) ⟨w2.1, cfP_trans z2 w2.2⟩ (by unfold fxO; rw [if_neg (by omega)]) (by omega)
  have hd30' : dp < 30 := by omega
  rw [show F_X12_open 91 τ = _ from r_open_y hT r2 (c := 91) (by decide) hk1 hd30', if_pos hd30']
  refine Ok2_lsome (Ok2_rsome ?_)
  have r0 : RN T kd vl rv pl (opn τ (dp + 1 : Nat)) (a + 1) (dp + 1) (nn + 2) := RN_opn r2 (by omega)
  have r4 := RN_psd r0 haT1
  have c2 := CN_cps hT (CN_cop (d := dp + 1) c1 (by omega)) haT1
  have f4 : rfP σ0 (psd (opn τ (dp + 1 : Nat)) (a + 1)) := rfP_trans f2 (rfP_trans rfP_opn rfP_psd)
  have f5 : cfP Γ0 (cps kd (cop (cps kd Δ a) (dp + 1 : Nat)) (a + 1)) := cfP_trans h8 (cfP_trans cfP_cps (cfP_trans cfP_cop cfP_cps))
  refine Ok2_bind (Ok2_mono (show Ok2 (G_X12_expression _) (gG 299 0 0 0 0 _) _ from sim_expr hT (dp := dp + 1) (by omega) (B - 10) (a + 1 + 1) ln (nn + 2) 300 299 _ _ r4 c2 (by unfold preE; omega) (by omega) (by omega)) ?_)
  rintro ⟨u1, u2⟩ ⟨v1, v2⟩ hr
  rcases hr with ⟨h', k, ln2, nn2, y, e1, e2, e3, e4, e5, e6, e7, e8, e9, e10, e11⟩ | hs
  rotate_left
  · obtain ⟨f, f', w', y1, y2, y3, y4, -⟩ := of_SRes (SRes_mono hs f4 f5)
    exact hs2 f f' w' (u1, u2) v2 (xx_B y1 (by omega)) y2 y3 y4
  dsimp only at e1 e2 e3 e4 e5 e8 e9 e10 e11
  subst e1
  have hr5 := EXP_rng e5
  have ha' := e3.2.2.2.2.2.2.1
  refine Ok2_lneg en (Ok2_lbnd ?_)
  dsimp only
  have r5 : RN T kd vl rv pl (mA u2 20 (upd (u2.2 20) nn (J (y : Nat)))) k (dp + 1) nn2 := RN_mA e3 (by omega) (by omega) (by omega)
  rw [show F_X12_shut 93 (mA u2 20 (upd (u2.2 20) nn (J (y : Nat)))) = _ from r_shut hT r5 (c := 93) (by decide) (by omega), show dp + 1 - 1 = dp by omega]
  refine Ok2_lsome ?_
  rw [e4.2.2.2.1, show J ((dp + 1 : Nat) : Int) - 1 = J (dp : Nat) by rw [J_lit, J_sub]; exact congrArg J (by show ((dp + 1 : Nat) : Int) - 1 = _; omega)]
  have h2' : CN T N kd vl pl (cop v2 dp) k dp ln2 := CN_cop e4 (by omega)
  rw [show (bnd (cI' v2 2 4 (J (dp : Nat))) fun σ_5 => (F_X2_need 93 σ_5).bind fun u_7 => some ((0 : Int32), u_7.2)) = (F_X2_need 93 (cop v2 dp)).bind fun u_7 => some ((0 : Int32), u_7.2) from rfl, show F_X2_need 93 (cop v2 dp) = _ from c_need hT h2' (c := 93) (by omega), Option.bind_some, Option.bind_some]
  dsimp only
  have w17 : u2.2 17 nn = J 23 := (e8 17 (by omega) (by omega) nn (by omega)).trans v17
  have w18 : u2.2 18 nn = J (pl a) := (e8 18 (by omega) (by omega) nn (by omega)).trans v18
  have w19 : u2.2 19 nn = J (nn + 1 : Nat) := (e8 19 (by omega) (by omega) nn (by omega)).trans v19
  have w22 : u2.2 22 nn = J (-1) := (e8 22 (by omega) (by omega) nn (by omega)).trans v22
  have wN : NMN rv pl (mA u2 20 (upd (u2.2 20) nn (J (y : Nat)))) (nn + 1) a := NMN_mA (NMN_rX (NMN_rX vN (rX_trans rX_opn rX_psd (Nat.le_refl (nn + 2))) (by omega)) e8 (by omega)) (by omega)
  have f6 : rfP σ0 (mA u2 20 (upd (u2.2 20) nn (J (y : Nat)))) := rfP_trans f4 (rfP_trans e10 (rfP_mA (by omega)))
  have f7 : cfP Γ0 (cop v2 dp) := cfP_trans f5 (cfP_trans e11 cfP_cop)
  have x6 : rX nn σ0 (mA u2 20 (upd (u2.2 20) nn (J (y : Nat)))) := rX_trans x2 (rX_trans (rX_trans rX_opn rX_psd (Nat.le_refl nn)) (rX_trans (rX_le e8 (by omega)) (rX_mA (Nat.le_refl nn)) (Nat.le_refl nn)) (Nat.le_refl nn)) (Nat.le_refl nn)
  have x7 : cXt ln a Γ0 (cop v2 dp) := by
    have g1 : cXt ln a Δ (cps kd (cop (cps kd Δ a) (dp + 1 : Nat)) (a + 1)) := cXt_trans cXt_cps (cXt_trans cXt_cop cXt_cps (Nat.le_refl ln) (Nat.le_refl a)) (Nat.le_refl ln) (Nat.le_refl a)
    have g2 := cXt_trans g1 (cXt_trans e9 (cXt_cop (d := ((dp : Nat) : Int))) (Nat.le_refl ln) (Nat.le_refl (a + 1 + 1))) (Nat.le_refl ln) (by omega)
    exact cXt_trans h6 g2 (Nat.le_refl ln) (Nat.le_refl a)
  have E1 : EX kd vl rv pl (mA u2 20 (upd (u2.2 20) nn (J (y : Nat)))) (cop v2 dp) (nn + 2) nn2 y (a + 2) k ln ln2 := EX_mA (EX_ag (σ := u2) (Γ := v2) (fun _ _ _ => ⟨rfl, rfl, rfl, fun _ => rfl, fun _ _ _ _ => rfl, fun _ => rfl⟩) ⟨fun _ _ _ => rfl, fun _ _ _ => rfl⟩ (EX_of e5 (by omega))) (Or.inr (Or.inl rfl)) (Or.inl (by omega))
  have w17' : (mA u2 20 (upd (u2.2 20) nn (J (y : Nat)))).2 17 nn = J 23 := w17
  have w18' : (mA u2 20 (upd (u2.2 20) nn (J (y : Nat)))).2 18 nn = J (pl a) := w18
  have w19' : (mA u2 20 (upd (u2.2 20) nn (J (y : Nat)))).2 19 nn = J (nn + 1 : Nat) := w19
  have w22' : (mA u2 20 (upd (u2.2 20) nn (J (y : Nat)))).2 22 nn = J (-1) := w22
  have w20' : (mA u2 20 (upd (u2.2 20) nn (J (y : Nat)))).2 20 nn = J y := by show upd _ _ _ _ = _; rw [upd_s, if_pos rfl]
  clear w17 w18 w19 w22
  revert r5 wN f6 x6 E1 w17' w18' w19' w22' w20'
  generalize mA u2 20 (upd (u2.2 20) nn (J (y : Nat))) = κ
  intro r5 wN f6 x6 E1 w17 w18 w19 w22 w20
  have r6 : RN T kd vl rv pl (opn κ dp) k dp nn2 := RN_opn r5 (by omega)
  by_cases q93 : kd k = 93
  rotate_left
  · rw [if_neg q93, if_neg q93]
    have z1 : rXX T kd vl rv pl (B - 5) σ0 (unf kd k) k (opn (stp κ (unf kd k) (pl k)) dp) := ⟨⟨nn2, RX_opn (RX_stp r5), by omega⟩, rfP_trans f6 (rfP_trans rfP_stp rfP_opn)⟩
    exact se_stop hT (by omega) (by omega) (by omega) (Or.inr rfl) z1 ⟨CX_cfl h2' (Or.inl rfl), cfP_trans f7 cfP_cfl⟩ rfl ha'
  have hkT := TKE_lt hT ha' (by omega) (by omega)
  rw [if_pos q93, if_pos q93]
  have r7 : RN T kd vl rv pl (opn (psd κ k) dp) (k + 1) dp nn2 := RN_opn (RN_psd r5 hkT) (by omega)
  have c3 := CN_cps hT h2' hkT
  rw [show F_X12_need 61 (opn (psd κ k) dp) = _ from r_need hT r7 (c := 61) (by decide), show F_X2_need 61 (cps kd (cop v2 dp) k) = _ from c_need hT c3 (c := 61) (by omega)]
  refine Ok2_lsome (Ok2_rsome ?_)
  dsimp only
  have f8 : rfP σ0 (opn (psd κ k) dp) := rfP_trans f6 (rfP_trans rfP_psd rfP_opn)
  have f9 : cfP Γ0 (cps kd (cop v2 dp) k) := cfP_trans f7 cfP_cps
  by_cases q61 : kd (k + 1) = 61
  rotate_left
  · rw [if_neg q61, if_neg q61]
    exact sv_stop hT (by omega) (by omega) (by omega) (Or.inr rfl) ⟨⟨nn2, RX_stp r7, by omega⟩, rfP_trans f8 rfP_stp⟩ ⟨CX_cfl c3 (Or.inl rfl), cfP_trans f9 cfP_cfl⟩ rfl (by omega)
  have hkT1 := TKE_lt hT (show k + 1 ≤ T by omega) (by omega) (by omega)
  rw [if_pos q61, if_pos q61]
  have r8 := RN_psd r7 hkT1
  have c4 := CN_cps hT c3 hkT1
  refine Ok2_bind (Ok2_mono (sG_expr hT (B := B - 10) r8 c4 (by unfold preE; omega) h10) ?_)
  rintro ⟨w1, w2⟩ ⟨z1, z2⟩ hr2
  refine Ok2_lneg en (Ok2_lbnd ?_)
  dsimp only
  have f10 : rfP σ0 (psd (opn (psd κ k) dp) (k + 1)) := rfP_trans f8 rfP_psd
  have f11 : cfP Γ0 (cps kd (cps kd (cop v2 dp) k) (k + 1)) := cfP_trans f9 cfP_cps
  rcases hr2 with ⟨h'', j', ln3, nn3, y2, d1, d2, d3, d4, d5, d6, d7, d8, d9, d10, d11⟩ | hs
  · dsimp only at d1 d2 d3 d4 d5 d8 d9 d10 d11
    subst d1
    have rr := EXP_rng d5
    have hj' := d3.2.2.2.2.2.2.1
    rw [show (39 : Int32) = J 39 from rfl, c_add3 d4.2.2.2.2.2.1 (by omega) (by omega) (by omega), Option.bind_some]
    simp only [bnd]
    rw [mrg5 oth5_ca3, Option.bind_some]
    have x8 : rX nn2 κ w2 := rX_trans (rX_trans rX_psd rX_opn (Nat.le_refl nn2)) (rX_trans rX_psd d8 (Nat.le_refl nn2)) (Nat.le_refl nn2)
    have g : ∀ j, 17 ≤ j → j ≤ 22 → j ≠ 21 → (mA w2 21 (upd (w2.2 21) nn (J (y2 : Nat)))).2 j nn = κ.2 j nn := by
      intro j j1 j2 j3
      rw [mA_2, if_neg j3]
      exact x8 j (by omega) (by omega) nn (by omega)
    refine st_end hT (RN_mA d3 (by omega) (by omega) (by omega)) (CN_ca3 d4 (by omega)) ?_ ?_ ?_ (by omega) (by omega) (by omega) (by omega) (by omega) ?_ ?_ ?_ ?_ (by omega) (by omega)
    · refine Or.inr (Or.inr (Or.inr (Or.inl ⟨nn + 1, y, y2, k, nn2, ln2, ln3, hk, hk1, q93, q61, rfl, ?_, ?_, ?_, by omega, by omega, ?_, ?_, op3_ca3, by omega, ?_, ?_⟩)))
      · rw [g 17 (by omega) (by omega) (by omega)]; exact w17
      · rw [g 19 (by omega) (by omega) (by omega)]; exact w19
      · exact NMN_mA (NMN_rX wN x8 (by omega)) (by omega)
      · rw [g 20 (by omega) (by omega) (by omega)]; exact w20
      · show upd _ _ _ _ = _; rw [upd_s, if_pos rfl]
      · have hc : cXt ln2 k (cop v2 dp) z2 := cXt_trans cXt_cps (cXt_trans cXt_cps d9 (Nat.le_refl ln2) (Nat.le_succ _)) (Nat.le_refl ln2) (Nat.le_succ k)
        exact EX_c3 (EX_mA (EX_ext E1 x8 hc (Nat.le_refl nn2) (Nat.le_refl ln2) (Nat.le_refl k)) (Or.inr (Or.inr rfl)) (Or.inl (by omega))) (by omega)
      · exact EX_c3 (EX_mA (EX_of d5 (by omega)) (Or.inr (Or.inr rfl)) (Or.inl (by omega))) (Nat.le_refl _)
    · rw [g 22 (by omega) (by omega) (by omega)]; exact w22
    · rw [g 18 (by omega) (by omega) (by omega)]; exact w18
    · exact rX_trans x6 (rX_trans (rX_le x8 (by omega)) (rX_mA (Nat.le_refl nn)) (Nat.le_refl nn)) (Nat.le_refl nn)
    · have g1 : cXt ln2 k (cop v2 dp) (ca3 z2 ln3 39 (a : Nat)) := cXt_trans cXt_cps (cXt_trans cXt_cps (cXt_trans d9 (cXt_ca3 (show ln2 ≤ ln3 by omega)) (Nat.le_refl ln2) (Nat.le_refl (k + 1 + 1))) (Nat.le_refl ln2) (Nat.le_succ _)) (Nat.le_refl ln2) (Nat.le_succ k)
      exact cXt_trans x7 g1 (by omega) (by omega)
    · exact rfP_trans f10 (rfP_trans d10 (rfP_mA (by omega)))
    · exact cfP_trans f11 (cfP_trans d11 cfP_ca3)
  · obtain ⟨f, f', w', x1, x2, x3, x4, -⟩ := of_SRes (SRes_mono hs f10 f11)
    have x1' := xx_mA (k := 21) (g := upd (w2.2 21) nn w1) x1 (by omega)
    refine Ok2_mono (stop2 (B := B) (st_stop hT (nn := nn) (xx_B x1' (by omega)) x2).1 (f' := f') ?_ x3 x4 ⟨by omega, by omega⟩) (fun _ _ h => Or.inr h)
    exact yy_add3 x2 39 (J (a : Nat)) (g := fun _ σ => (some ((0 : Int32), σ)).bind fun u_49 => (F_X2_need 59 u_49.2).bind fun u_21 => some ((0 : Int32), u_21.2)) (fun _ Θ _ _ hΘ => Ok_bind (Ok_some ((st_stop hT (nn := nn) x1' hΘ).2)))
