/-! verbs are read alike -/
variable {T N : Nat} {kd vl rv : Nat → Int} {pl : Nat → Nat}
theorem ve3_stop (hT : TKE T N kd vl rv pl) {Γ0 v : HS} {f' : Int} {w : Nat} (x2 : yXX N kd vl pl Γ0 f' w v) : Ok ((F_X2_names v).bind fun u_3 => Ve2 u_3.2) fun u => yXX N kd vl pl Γ0 f' w u.2 := Ok_bind (Ok_mono (yy_names hT x2) (fun u hu => ve2_stop hT hu.1))
theorem itP_stop {I : MS → Nat → Nat → Nat → Nat → Prop} {B a dp ln nn : Nat} {σ0 : MS} {Γ0 : HS} {f f' : Int} {w : Nat} {m : MR} {n : HR} (h1 : Ok m fun u => rXX T kd vl rv pl B σ0 f w u.2 ∧ u.1 = J (nn : Nat)) (h2 : Ok n fun u => yXX N kd vl pl Γ0 f' w u.2) (x3 : f = fxO kd f' w) (x4 : w ≤ T) : Ok2 m n (ItP T N kd vl rv pl I B σ0 Γ0 a dp ln nn) := Ok2_sep h1 h2 (fun u v b c => ⟨b.2, Or.inr ⟨f, f', w, b.1, c, x3, x4⟩⟩)
theorem nmN_hd {σ : MS} {n a : Nat} {v : Int32} (j y : Nat) (hy : y ≠ n) : (mA (nmN kd rv pl σ n a) 19 (upd ((nmN kd rv pl σ n a).2 19) y v)).2 22 y = σ.2 22 y := by
  show (nmN kd rv pl σ n a).2 22 y = _
  unfold nmN
  split
  · show (nod σ n 41 (pl a)).2 22 y = _; rw [nod_A]; simp [upd_s, hy]
  · show (nod σ n 41 (pl a)).2 22 y = _; rw [nod_A]; simp [upd_s, hy]
theorem sVerb (hT : TKE T N kd vl rv pl) {B a dp ln nn : Nat} {σ : MS} {Γ : HS} (hk : kd a = 232) (h1 : RN T kd vl rv pl σ (a + 1) dp nn) (h2 : CN T N kd vl pl Γ (a + 1) dp ln) (hp : preS T B a dp ln nn) (hdp : dp ≤ 30) : Ok2 (F_X12_verb (J (pl a : Nat)) σ) (F_X2_verbItem Γ) (ItP T N kd vl rv pl (VRB kd rv pl) B σ Γ a dp ln nn) := by
  have hp' := hp
  unfold preS at hp'
  have en := g_en (n := nn) (by omega)
  rw [(ng (n := nn) (by omega)).2] at en
  have ha := h1.2.2.2.2.2.2.1
  refine verb_eq h1.2.2.2.2.2.1 (by omega) ?_
  have r1 := RN_nod h1 3 (pl a)
  refine Ok2_le (r_name hT r1 (by omega)) (Ok2_lneg en (Ok2_lbnd ?_))
  rw [show F_X2_verbItem Γ = (F_X2_need 2 Γ).bind fun u_1 => (F_X2_names u_1.2).bind fun u_3 => Ve2 u_3.2 from rfl]
  refine Ok2_re (show F_X2_need 2 Γ = _ from c_need hT h2 (c := 2) (by omega)) ?_
  dsimp only
  have u1 : rX (nn + 1) (nod σ nn 3 (pl a)) (nmN kd rv pl (nod σ nn 3 (pl a)) (nn + 1) (a + 1)) := nmN_rX
  have f1 : rfP σ (mA (nmN kd rv pl (nod σ nn 3 (pl a)) (nn + 1) (a + 1)) 19 (upd ((nmN kd rv pl (nod σ nn 3 (pl a)) (nn + 1) (a + 1)).2 19) nn (J (nn + 1 : Nat)))) := rfP_trans rfP_nod (rfP_trans nmN_rfP (rfP_mA (by omega)))
  by_cases q1 : kd (a + 1) = 2
  rotate_left
  · rw [if_neg q1]
    refine itP_stop (Ok_bind (Ok_mono (xx_row hT (B := B - 20) ⟨⟨nn + 2, RX_mA (nmN_RX r1 q1) (by omega) (by omega) (by omega), by omega⟩, f1⟩ (by omega)) (fun u hu => Ok_mono (vt2_stop hT (B := B - 19) (by omega) (by omega) (by obtain ⟨hu, -⟩ := hu; rw [show B - 20 + 1 = B - 19 by omega] at hu; exact hu)) (fun v hv => ⟨xx_B hv.1 (by omega), hv.2⟩)))) (ve3_stop hT ⟨CX_cfl h2 (Or.inl rfl), cfP_cfl⟩) rfl ha
  rw [if_pos q1]
  have haT := TKE_lt hT ha (by omega) (by omega)
  have c2 := CN_cps hT h2 haT
  have x1 : rX nn σ (mA (nmN kd rv pl (nod σ nn 3 (pl a)) (nn + 1) (a + 1)) 19 (upd ((nmN kd rv pl (nod σ nn 3 (pl a)) (nn + 1) (a + 1)).2 19) nn (J (nn + 1 : Nat)))) := rX_trans rX_nod (rX_trans (rX_le u1 (by omega)) (rX_mA (Nat.le_refl nn)) (Nat.le_refl nn)) (Nat.le_refl nn)
  have r2 : RN T kd vl rv pl (mA (nmN kd rv pl (nod σ nn 3 (pl a)) (nn + 1) (a + 1)) 19 (upd ((nmN kd rv pl (nod σ nn 3 (pl a)) (nn + 1) (a + 1)).2 19) nn (J (nn + 1 : Nat)))) (a + 2) dp (nn + 2) := RN_mA (nmN_RN hT r1 q1) (by omega) (by omega) (by omega)
  have w17 : (mA (nmN kd rv pl (nod σ nn 3 (pl a)) (nn + 1) (a + 1)) 19 (upd ((nmN kd rv pl (nod σ nn 3 (pl a)) (nn + 1) (a + 1)).2 19) nn (J (nn + 1 : Nat)))).2 17 nn = J 3 := (u1 17 (by omega) (by omega) nn (by omega)).trans (nod17 (σ := σ))
  have w18 : (mA (nmN kd rv pl (nod σ nn 3 (pl a)) (nn + 1) (a + 1)) 19 (upd ((nmN kd rv pl (nod σ nn 3 (pl a)) (nn + 1) (a + 1)).2 19) nn (J (nn + 1 : Nat)))).2 18 nn = J (pl a) := (u1 18 (by omega) (by omega) nn (by omega)).trans (nod18 (σ := σ))
  have w22 : (mA (nmN kd rv pl (nod σ nn 3 (pl a)) (nn + 1) (a + 1)) 19 (upd ((nmN kd rv pl (nod σ nn 3 (pl a)) (nn + 1) (a + 1)).2 19) nn (J (nn + 1 : Nat)))).2 22 nn = J (-1) := (u1 22 (by omega) (by omega) nn (by omega)).trans (nod22 (σ := σ) (k := 3) (p := (pl a : Nat)))
  have w19 : (mA (nmN kd rv pl (nod σ nn 3 (pl a)) (nn + 1) (a + 1)) 19 (upd ((nmN kd rv pl (nod σ nn 3 (pl a)) (nn + 1) (a + 1)).2 19) nn (J (nn + 1 : Nat)))).2 19 nn = J (nn + 1 : Nat) := by show upd _ _ _ _ = _; rw [upd_s, if_pos rfl]
  have wN : NMN rv pl (mA (nmN kd rv pl (nod σ nn 3 (pl a)) (nn + 1) (a + 1)) 19 (upd ((nmN kd rv pl (nod σ nn 3 (pl a)) (nn + 1) (a + 1)).2 19) nn (J (nn + 1 : Nat)))) (nn + 1) (a + 1) := NMN_mA (nmN_NMN (σ := nod σ nn 3 (pl a)) (n := nn + 1) q1) (by omega)
  revert f1 x1 r2 w17 w18 w22 w19 wN
  generalize mA (nmN kd rv pl (nod σ nn 3 (pl a)) (nn + 1) (a + 1)) 19 (upd ((nmN kd rv pl (nod σ nn 3 (pl a)) (nn + 1) (a + 1)).2 19) nn (J (nn + 1 : Nat))) = τ
  intro f1 x1 r2 w17 w18 w22 w19 wN
  refine Ok2_bind (Ok2_mono (sim_row hT (B := B - 4) r2 c2 (by unfold preS; omega)) ?_)
  rintro ⟨v1, ρ⟩ ⟨v2, Δ⟩ ⟨e1, hr⟩
  dsimp only at e1 hr ⊢
  subst e1
  rcases hr with ⟨c, t1, t2, t3, t4, t5, t6, t7, t8, t9, t10⟩ | ⟨f, f', w, i, y1, y2, y3, y4, -⟩
  rotate_left
  · refine itP_stop (Ok_mono (vt2_stop hT (B := B - 4) (by omega) (by omega) ?_) (fun v hv => ⟨xx_B hv.1 (by omega), hv.2⟩)) (ve2_stop hT ⟨y2.1, cfP_trans cfP_cps y2.2⟩) y3 y4
    exact ⟨y1.1, rfP_trans f1 y1.2⟩
  have hac := t3.2.2.2.2.2.2.1
  have hmono : nn + 2 ≤ nn + 2 + c := by omega
  -- the form's node
  have g17 : ρ.2 17 nn = J 3 := (t7 17 (by omega) (by omega) nn (by omega)).trans w17
  have g18 : ρ.2 18 nn = J (pl a) := (t7 18 (by omega) (by omega) nn (by omega)).trans w18
  have g19 : ρ.2 19 nn = J (nn + 1 : Nat) := (t7 19 (by omega) (by omega) nn (by omega)).trans w19
  have g22 : ρ.2 22 nn = J (-1) := (t7 22 (by omega) (by omega) nn (by omega)).trans w22
  have gN : NMN rv pl ρ (nn + 1) (a + 1) := NMN_rX wN t7 (by omega)
  have gx : rX nn σ ρ := rX_trans x1 (rX_le t7 (by omega)) (Nat.le_refl nn)
  have gf : rfP σ ρ := rfP_trans f1 t9
  unfold Vt2
  refine Ok2_lneg en (Ok2_lbnd ?_)
  have r3 : RN T kd vl rv pl (mA ρ 20 (upd (ρ.2 20) nn (J (nn + 2 : Nat)))) (a + 2 + 2 * c - 1) dp (nn + 2 + c) := RN_mA t3 (by omega) (by omega) (by omega)
  refine Ok2_le (show F_X12_node 14 (J (pl a : Nat)) _ = _ from r_node r3.2.2.2.2.2.1 (by omega) 14 (pl a)) (Ok2_lneg en (Ok2_lbnd ?_))
  dsimp only
  have en3 := g_en (n := nn + 2 + c) (by omega)
  have hen := (ng (n := nn + 2 + c) (by omega)).2
  have r4 : RN T kd vl rv pl (mA (nod (mA ρ 20 (upd (ρ.2 20) nn (J (nn + 2 : Nat)))) (nn + 2 + c) 14 (pl a)) 21 (upd ((nod (mA ρ 20 (upd (ρ.2 20) nn (J (nn + 2 : Nat)))) (nn + 2 + c) 14 (pl a)).2 21) nn (J (nn + 2 + c : Nat)))) (a + 2 + 2 * c - 1) dp (nn + 2 + c + 1) := RN_mA (RN_nod r3 14 (pl a)) (by omega) (by omega) (by omega)
  have hA : ∀ j y, y ≠ nn + 2 + c → (j = 20 ∨ j = 21 → y ≠ nn) → (mA (nod (mA ρ 20 (upd (ρ.2 20) nn (J (nn + 2 : Nat)))) (nn + 2 + c) 14 (pl a)) 21 (upd ((nod (mA ρ 20 (upd (ρ.2 20) nn (J (nn + 2 : Nat)))) (nn + 2 + c) 14 (pl a)).2 21) nn (J (nn + 2 + c : Nat)))).2 j y = ρ.2 j y := by
    intro j y hy hj
    have e1 : (nod (mA ρ 20 (upd (ρ.2 20) nn (J (nn + 2 : Nat)))) (nn + 2 + c) 14 (pl a)).2 j y = (mA ρ 20 (upd (ρ.2 20) nn (J (nn + 2 : Nat)))).2 j y := by
      rw [nod_A]; repeat' split
      all_goals (try subst_vars)
      all_goals (try rfl)
      all_goals (rw [upd_s, if_neg hy])
    have e2 : (mA ρ 20 (upd (ρ.2 20) nn (J (nn + 2 : Nat)))).2 j y = ρ.2 j y := by
      rw [mA_2]; split
      · rename_i q; rw [upd_s, if_neg (hj (Or.inl q))]; subst q; rfl
      · rfl
    rw [mA_2]; split
    · rename_i q; rw [upd_s, if_neg (hj (Or.inr q))]; subst q; rw [e1, e2]
    · rw [e1, e2]
  have k20 : (mA (nod (mA ρ 20 (upd (ρ.2 20) nn (J (nn + 2 : Nat)))) (nn + 2 + c) 14 (pl a)) 21 (upd ((nod (mA ρ 20 (upd (ρ.2 20) nn (J (nn + 2 : Nat)))) (nn + 2 + c) 14 (pl a)).2 21) nn (J (nn + 2 + c : Nat)))).2 20 nn = J (nn + 2 : Nat) := by
    show (nod (mA ρ 20 (upd (ρ.2 20) nn (J (nn + 2 : Nat)))) (nn + 2 + c) 14 (pl a)).2 20 nn = _
    rw [(rX_nod (σ := mA ρ 20 (upd (ρ.2 20) nn (J (nn + 2 : Nat)))) (n := nn + 2 + c) (k := 14) (p := (pl a : Nat))) 20 (by omega) (by omega) nn (by omega)]
    show upd _ _ _ _ = _; rw [upd_s, if_pos rfl]
  have k21 : (mA (nod (mA ρ 20 (upd (ρ.2 20) nn (J (nn + 2 : Nat)))) (nn + 2 + c) 14 (pl a)) 21 (upd ((nod (mA ρ 20 (upd (ρ.2 20) nn (J (nn + 2 : Nat)))) (nn + 2 + c) 14 (pl a)).2 21) nn (J (nn + 2 + c : Nat)))).2 21 nn = J (nn + 2 + c : Nat) := by show upd _ _ _ _ = _; rw [upd_s, if_pos rfl]
  have kd20 : (mA (nod (mA ρ 20 (upd (ρ.2 20) nn (J (nn + 2 : Nat)))) (nn + 2 + c) 14 (pl a)) 21 (upd ((nod (mA ρ 20 (upd (ρ.2 20) nn (J (nn + 2 : Nat)))) (nn + 2 + c) 14 (pl a)).2 21) nn (J (nn + 2 + c : Nat)))).2 20 (nn + 2 + c) = J (-1) := nod20 (σ := mA ρ 20 (upd (ρ.2 20) nn (J (nn + 2 : Nat)))) (k := 14) (p := (pl a : Nat))
  have kd17 : (mA (nod (mA ρ 20 (upd (ρ.2 20) nn (J (nn + 2 : Nat)))) (nn + 2 + c) 14 (pl a)) 21 (upd ((nod (mA ρ 20 (upd (ρ.2 20) nn (J (nn + 2 : Nat)))) (nn + 2 + c) 14 (pl a)).2 21) nn (J (nn + 2 + c : Nat)))).2 17 (nn + 2 + c) = J 14 := nod17 (σ := mA ρ 20 (upd (ρ.2 20) nn (J (nn + 2 : Nat)))) (k := 14) (p := (pl a : Nat))
  have kf : rfP σ (mA (nod (mA ρ 20 (upd (ρ.2 20) nn (J (nn + 2 : Nat)))) (nn + 2 + c) 14 (pl a)) 21 (upd ((nod (mA ρ 20 (upd (ρ.2 20) nn (J (nn + 2 : Nat)))) (nn + 2 + c) 14 (pl a)).2 21) nn (J (nn + 2 + c : Nat)))) := rfP_trans gf (rfP_trans (rfP_mA (by omega)) (rfP_trans rfP_nod (rfP_mA (by omega))))
  revert r4 hA k20 k21 kd20 kd17 kf
  generalize mA (nod (mA ρ 20 (upd (ρ.2 20) nn (J (nn + 2 : Nat)))) (nn + 2 + c) 14 (pl a)) 21 (upd ((nod (mA ρ 20 (upd (ρ.2 20) nn (J (nn + 2 : Nat)))) (nn + 2 + c) 14 (pl a)).2 21) nn (J (nn + 2 + c : Nat))) = κ
  intro r4 hA k20 k21 kd20 kd17 kf
  have kx : rX nn σ κ := fun j j1 j2 y hy => by rw [hA j y (by omega) (by omega)]; exact gx j j1 j2 y hy
  have kN : NMN rv pl κ (nn + 1) (a + 1) := ⟨by rw [hA 17 _ (by omega) (by omega)]; exact gN.1, by rw [hA 18 _ (by omega) (by omega)]; exact gN.2.1, by rw [hA 19 _ (by omega) (by omega)]; exact gN.2.2⟩
  have kS : NMS kd rv pl κ (nn + 2) c (a + 2) := fun k hk => by
    obtain ⟨s1, s2, s3, s4⟩ := t5 k hk
    exact ⟨⟨by rw [hA 17 _ (by omega) (by omega)]; exact s1.1, by rw [hA 18 _ (by omega) (by omega)]; exact s1.2.1, by rw [hA 19 _ (by omega) (by omega)]; exact s1.2.2⟩, s2, by rw [hA 22 _ (by omega) (by omega)]; exact s3, s4⟩
  have k17 : κ.2 17 nn = J 3 := by rw [hA 17 _ (by omega) (by omega)]; exact g17
  have k18 : κ.2 18 nn = J (pl a) := by rw [hA 18 _ (by omega) (by omega)]; exact g18
  have k19 : κ.2 19 nn = J (nn + 1 : Nat) := by rw [hA 19 _ (by omega) (by omega)]; exact g19
  have k22 : κ.2 22 nn = J (-1) := by rw [hA 22 _ (by omega) (by omega)]; exact g22
  clear hA gx gf gN g17 g18 g19 g22 r3
  have cX : cXt ln 5000 Γ Δ := cXt_trans cXt_cps t8 (Nat.le_refl ln) (Nat.le_refl 5000)
  have cF : cfP Γ Δ := cfP_trans cfP_cps t10
  have hkr := kdOk_rng (TKE_ok hT hac)
  rw [show a + 2 + 2 * c - 1 = a + 1 + 2 * c by omega] at r4 t4 hac hkr
  unfold Vt3 Ve2
  refine Ok2_le (show F_X12_tookKey 0 κ = _ from r_tookKey hT r4 (k := 0) (c := 13) (by omega) rfl) (Ok2_lbnd ?_)
  refine Ok2_re (show F_X2_accept 215 Δ = _ from c_accept hT t4 (c := 215) (by omega)) (Ok2_rbnd ?_)
  -- what a key of alone, one leaves
  have fin : ∀ (o : Int) (O : Int32), O = J o → kd (a + 1 + 2 * c) = 213 + o → o = 0 ∨ o = 1 → Ok2 (if J (nn : Nat) < 0 ∨ 40000 ≤ nn then none else if ((psd κ (a + 1 + 2 * c)).2 21 nn) < 0 ∨ 40000 ≤ ((psd κ (a + 1 + 2 * c)).2 21 nn).toNatClampNeg then none else bnd (mA (psd κ (a + 1 + 2 * c)) 19 (upd ((psd κ (a + 1 + 2 * c)).2 19) ((psd κ (a + 1 + 2 * c)).2 21 nn).toNatClampNeg O)) fun σ_63 => (F_X12_need 59 σ_63).bind fun u_27 => some (J (nn : Nat), u_27.2)) ((F_X2_needFrom 213 214 Δ).bind fun u_15 => (F_X2_need 59 u_15.2).bind fun u_11 => some ((0 : Int32), u_11.2)) (ItP T N kd vl rv pl (VRB kd rv pl) B σ Γ a dp ln nn) := by
    intro o O hO ho ho2
    have hacT := TKE_lt hT hac (by omega) (by omega)
    rw [show (psd κ (a + 1 + 2 * c)).2 21 nn = J (nn + 2 + c : Nat) from k21]
    refine Ok2_lneg en (Ok2_lneg en3 (Ok2_lbnd ?_))
    rw [hen, hO]
    refine Ok2_re (show F_X2_needFrom 213 214 Δ = _ from c_needFrom hT t4 (l := 213) (u := 214) (by omega) (by omega)) ?_
    rw [if_pos (by omega)]
    refine it_end hT (ac := a + 1 + 2 * c + 1) (nn' := nn + 2 + c + 1) (RN_mA (RN_psd r4 hacT) (by omega) (by omega) (by omega)) (CN_cps hT t4 hacT) (fun q5 => ⟨hk, q1, by rw [show a + 1 + 2 * c + 1 + 1 - 1 = a + 1 + 2 * c + 1 by omega]; exact q5, k17, k18, ?_, ⟨kN.1, kN.2.1, ?_⟩, c, t1, k20, ?_, k21, kd17, Or.inl ⟨by omega, by omega, by omega, by omega, ?_, kd20⟩⟩) k22 (by omega) (rX_trans kx (rX_trans (rX_psd (a := a + 1 + 2 * c)) (rX_mA (by omega)) (Nat.le_refl nn)) (Nat.le_refl nn)) (cXt_trans cX cXt_cps (Nat.le_refl ln) (Nat.le_refl 5000)) (rfP_trans kf (rfP_trans (rfP_psd (a := a + 1 + 2 * c)) (rfP_mA (by omega)))) (cfP_trans cF cfP_cps) (by omega)
    · show upd _ _ _ _ = _; rw [upd_s, if_neg (by omega)]; exact k19
    · show upd _ _ _ _ = _; rw [upd_s, if_neg (by omega)]; exact kN.2.2
    · intro k hk
      obtain ⟨s1, s2, s3, s4⟩ := kS k hk
      exact ⟨⟨s1.1, s1.2.1, by show upd _ _ _ _ = _; rw [upd_s, if_neg (by omega)]; exact s1.2.2⟩, s2, s3, s4⟩
    · show upd _ _ _ _ = _; rw [upd_s, if_pos rfl, ho]; exact congrArg J (by omega)
  by_cases qa : kd (a + 1 + 2 * c) = 213
  · rw [if_pos (show kd (a + 1 + 2 * c) = 200 + (13 : Nat) by omega), if_neg (show ¬ kd (a + 1 + 2 * c) = 215 by omega)]
    exact Ok2_lneg J1_ne (Ok2_rpos J0_eq (fin 0 0 rfl (by omega) (by omega)))
  rw [if_neg (show ¬ kd (a + 1 + 2 * c) = 200 + (13 : Nat) by omega)]
  refine Ok2_lpos J0_eq ?_
  dsimp only
  refine Ok2_le (show F_X12_tookKey 28 κ = _ from r_tookKey hT r4 (k := 28) (c := 14) (by omega) rfl) ?_
  by_cases qb : kd (a + 1 + 2 * c) = 214
  · rw [if_pos (show kd (a + 1 + 2 * c) = 200 + (14 : Nat) by omega), if_neg (show ¬ kd (a + 1 + 2 * c) = 215 by omega)]
    exact Ok2_lneg J1_ne (Ok2_rpos J0_eq (fin 1 1 rfl (by omega) (by omega)))
  rw [if_neg (show ¬ kd (a + 1 + 2 * c) = 200 + (14 : Nat) by omega)]
  refine Ok2_lpos J0_eq ?_
  dsimp only
  refine Ok2_le (show F_X12_needKey 43 κ = _ from r_needKey hT r4 (k := 43) (c := 15) (by omega) rfl) ?_
  by_cases qc : kd (a + 1 + 2 * c) = 215
  · have hacT := TKE_lt hT hac (by omega) (by omega)
    rw [if_pos (show kd (a + 1 + 2 * c) = 200 + (15 : Nat) by omega), if_pos qc]
    refine Ok2_rneg J1_ne ?_
    dsimp only
    rw [show (psd κ (a + 1 + 2 * c)).2 21 nn = J (nn + 2 + c : Nat) from k21]
    refine Ok2_lneg en (Ok2_lneg en3 (Ok2_lbnd (Ok2_lneg en ?_)))
    rw [hen]
    have r5 : RN T kd vl rv pl (mA (psd κ (a + 1 + 2 * c)) 19 (upd ((psd κ (a + 1 + 2 * c)).2 19) (nn + 2 + c) 2)) (a + 1 + 2 * c + 1) dp (nn + 2 + c + 1) := RN_mA (RN_psd r4 hacT) (by omega) (by omega) (by omega)
    rw [show ∀ g : Nat → Int32, (mA (psd κ (a + 1 + 2 * c)) 19 g).2 21 nn = J (nn + 2 + c : Nat) from fun g => k21]
    refine Ok2_le (r_name hT r5 (by omega)) (Ok2_lneg en3 (Ok2_lbnd ?_))
    rw [hen]
    have c5 := CN_cps hT t4 hacT
    refine Ok2_re (show F_X2_need 2 _ = _ from c_need hT c5 (c := 2) (by omega)) ?_
    dsimp only
    have v1 : rX (nn + 2 + c + 1) (mA (psd κ (a + 1 + 2 * c)) 19 (upd ((psd κ (a + 1 + 2 * c)).2 19) (nn + 2 + c) 2)) (nmN kd rv pl (mA (psd κ (a + 1 + 2 * c)) 19 (upd ((psd κ (a + 1 + 2 * c)).2 19) (nn + 2 + c) 2)) (nn + 2 + c + 1) (a + 1 + 2 * c + 1)) := nmN_rX
    have zf : rfP σ (mA (nmN kd rv pl (mA (psd κ (a + 1 + 2 * c)) 19 (upd ((psd κ (a + 1 + 2 * c)).2 19) (nn + 2 + c) 2)) (nn + 2 + c + 1) (a + 1 + 2 * c + 1)) 20 (upd ((nmN kd rv pl (mA (psd κ (a + 1 + 2 * c)) 19 (upd ((psd κ (a + 1 + 2 * c)).2 19) (nn + 2 + c) 2)) (nn + 2 + c + 1) (a + 1 + 2 * c + 1)).2 20) (nn + 2 + c) (J (nn + 2 + c + 1 : Nat)))) := rfP_trans kf (rfP_trans (rfP_psd (a := a + 1 + 2 * c)) (rfP_trans (rfP_mA (by omega)) (rfP_trans nmN_rfP (rfP_mA (by omega)))))
    by_cases q2 : kd (a + 1 + 2 * c + 1) = 2
    rotate_left
    · rw [if_neg q2]
      exact it_stop hT ⟨⟨nn + 2 + c + 2, RX_mA (nmN_RX r5 q2) (by omega) (by omega) (by omega), by omega⟩, zf⟩ ⟨CX_cfl c5 (Or.inl rfl), cfP_trans cF (cfP_trans cfP_cps cfP_cfl)⟩ rfl c5.2.2.2.2.2.2.1
    rw [if_pos q2]
    have hacT2 := TKE_lt hT c5.2.2.2.2.2.2.1 (by omega) (by omega)
    have zz : ∀ j, 17 ≤ j → j ≤ 22 → ∀ y, y < nn + 2 + c → (mA (nmN kd rv pl (mA (psd κ (a + 1 + 2 * c)) 19 (upd ((psd κ (a + 1 + 2 * c)).2 19) (nn + 2 + c) 2)) (nn + 2 + c + 1) (a + 1 + 2 * c + 1)) 20 (upd ((nmN kd rv pl (mA (psd κ (a + 1 + 2 * c)) 19 (upd ((psd κ (a + 1 + 2 * c)).2 19) (nn + 2 + c) 2)) (nn + 2 + c + 1) (a + 1 + 2 * c + 1)).2 20) (nn + 2 + c) (J (nn + 2 + c + 1 : Nat)))).2 j y = κ.2 j y := fun j j1 j2 y hy => (rX_trans (rX_trans (rX_psd (a := a + 1 + 2 * c)) (rX_mA (Nat.le_refl (nn + 2 + c))) (Nat.le_refl (nn + 2 + c))) (rX_trans (rX_le v1 (by omega)) (rX_mA (Nat.le_refl (nn + 2 + c))) (Nat.le_refl (nn + 2 + c))) (Nat.le_refl (nn + 2 + c))) j j1 j2 y hy
    refine it_end hT (ac := a + 1 + 2 * c + 2) (nn' := nn + 2 + c + 2) (RN_mA (nmN_RN hT r5 q2) (by omega) (by omega) (by omega)) (CN_cps hT c5 hacT2) (fun q5 => ⟨hk, q1, by rw [show a + 1 + 2 * c + 2 + 1 - 1 = a + 1 + 2 * c + 2 by omega]; exact q5, ?_, ?_, ?_, ⟨?_, ?_, ?_⟩, c, t1, ?_, ?_, ?_, (v1 17 (by omega) (by omega) (nn + 2 + c) (by omega)).trans kd17, Or.inr ⟨qc, by rw [show a + 2 + 2 * c = a + 1 + 2 * c + 1 by omega]; exact q2, by omega, by omega, ?_, ?_, ?_⟩⟩) ?_ (by omega) (rX_trans kx (fun j j1 j2 y hy => zz j j1 j2 y (by omega)) (Nat.le_refl nn)) (cXt_trans cX (cXt_trans cXt_cps cXt_cps (Nat.le_refl ln) (Nat.le_refl 5000)) (Nat.le_refl ln) (Nat.le_refl 5000)) zf (cfP_trans cF (cfP_trans cfP_cps cfP_cps)) (by omega)
    · exact (zz 17 (by omega) (by omega) nn (by omega)).trans k17
    · exact (zz 18 (by omega) (by omega) nn (by omega)).trans k18
    · exact (zz 19 (by omega) (by omega) nn (by omega)).trans k19
    · exact (zz 17 (by omega) (by omega) (nn + 1) (by omega)).trans kN.1
    · exact (zz 18 (by omega) (by omega) (nn + 1) (by omega)).trans kN.2.1
    · exact (zz 19 (by omega) (by omega) (nn + 1) (by omega)).trans kN.2.2
    · exact (zz 20 (by omega) (by omega) nn (by omega)).trans k20
    · intro k hk
      obtain ⟨s1, s2, s3, s4⟩ := kS k hk
      exact ⟨⟨(zz 17 (by omega) (by omega) _ (by omega)).trans s1.1, (zz 18 (by omega) (by omega) _ (by omega)).trans s1.2.1, (zz 19 (by omega) (by omega) _ (by omega)).trans s1.2.2⟩, s2, (zz 22 (by omega) (by omega) _ (by omega)).trans s3, s4⟩
    · exact (zz 21 (by omega) (by omega) nn (by omega)).trans k21
    · show (nmN kd rv pl (mA (psd κ (a + 1 + 2 * c)) 19 (upd ((psd κ (a + 1 + 2 * c)).2 19) (nn + 2 + c) 2)) (nn + 2 + c + 1) (a + 1 + 2 * c + 1)).2 19 (nn + 2 + c) = _
      rw [v1 19 (by omega) (by omega) (nn + 2 + c) (by omega)]
      show upd _ _ _ _ = _; rw [upd_s, if_pos rfl]; rfl
    · show upd _ _ _ _ = _; rw [upd_s, if_pos rfl]; exact congrArg J (by omega)
    · rw [show nn + 3 + c = nn + 2 + c + 1 by omega, show a + 2 + 2 * c = a + 1 + 2 * c + 1 by omega]
      exact NMN_mA (rv := rv) (pl := pl) (j := 20) (v := J (nn + 2 + c + 1 : Nat)) (n := nn + 2 + c) (nmN_NMN (kd := kd) (σ := mA (psd κ (a + 1 + 2 * c)) 19 (upd ((psd κ (a + 1 + 2 * c)).2 19) (nn + 2 + c) 2)) (n := nn + 2 + c + 1) q2) (by omega)
    · exact (zz 22 (by omega) (by omega) nn (by omega)).trans k22
  · rw [if_neg (show ¬ kd (a + 1 + 2 * c) = 200 + (15 : Nat) by omega), if_neg qc]
    refine Ok2_rpos J0_eq ?_
    refine Ok2_re (show F_X2_needFrom 213 214 Δ = _ from c_needFrom hT t4 (l := 213) (u := 214) (by omega) (by omega)) ?_
    rw [if_neg (show ¬ (213 ≤ kd (a + 1 + 2 * c) ∧ kd (a + 1 + 2 * c) ≤ 214) by omega)]
    dsimp only
    have ex : Ok (if J (nn : Nat) < 0 ∨ 40000 ≤ nn then none else if ((stp κ (unf kd (a + 1 + 2 * c)) (pl (a + 1 + 2 * c))).2 21 nn) < 0 ∨ 40000 ≤ ((stp κ (unf kd (a + 1 + 2 * c)) (pl (a + 1 + 2 * c))).2 21 nn).toNatClampNeg then none else bnd (mA (stp κ (unf kd (a + 1 + 2 * c)) (pl (a + 1 + 2 * c))) 19 (upd ((stp κ (unf kd (a + 1 + 2 * c)) (pl (a + 1 + 2 * c))).2 19) ((stp κ (unf kd (a + 1 + 2 * c)) (pl (a + 1 + 2 * c))).2 21 nn).toNatClampNeg 2)) fun σ_41 => if J (nn : Nat) < 0 ∨ 40000 ≤ nn then none else (F_X12_name σ_41).bind fun u_45 => if (σ_41.2 21 nn) < 0 ∨ 40000 ≤ (σ_41.2 21 nn).toNatClampNeg then none else bnd (mA u_45.2 20 (upd (u_45.2.2 20) (σ_41.2 21 nn).toNatClampNeg u_45.1)) fun σ_49 => (F_X12_need 59 σ_49).bind fun u_27 => some (J (nn : Nat), u_27.2)) fun u => rXX T kd vl rv pl B σ (unf kd (a + 1 + 2 * c)) (a + 1 + 2 * c) u.2 ∧ u.1 = J (nn : Nat) := by
      rw [show (stp κ (unf kd (a + 1 + 2 * c)) (pl (a + 1 + 2 * c))).2 21 nn = J (nn + 2 + c : Nat) from k21]
      refine Ok_neg en (Ok_neg en3 (Ok_bnd (Ok_neg en ?_)))
      rw [show ∀ g : Nat → Int32, (mA (stp κ (unf kd (a + 1 + 2 * c)) (pl (a + 1 + 2 * c))) 19 g).2 21 nn = J (nn + 2 + c : Nat) from fun g => k21]
      refine Ok_bind (Ok_mono (xx_name hT (B := B - 1) (xx_mA (k := 19) ⟨⟨nn + 2 + c + 1, RX_stp r4, by omega⟩, rfP_trans kf rfP_stp⟩ (by omega)) (by omega)) (fun u hu => Ok_neg en3 (Ok_bnd ?_)))
      exact Ok_bind (Ok_mono (xx_need hT (xx_mA hu.1 (by omega)) 59) (fun u hu => Ok_some ⟨xx_B hu (by omega), rfl⟩))
    exact itP_stop ex (Ok_bind (Ok_mono (yy_need hT (Γ0 := Γ) ⟨CX_cfl t4 (Or.inl rfl), cfP_trans cF cfP_cfl⟩ (c := 59) (by omega)) (fun u hu => Ok_some hu))) rfl hac
