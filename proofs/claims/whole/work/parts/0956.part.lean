/-! the parts of a thing -/
variable {T N : Nat} {kd vl rv : Nat → Int} {pl : Nat → Nat}
theorem r_att (hT : TKE T N kd vl rv pl) {σ : MS} {a dp nn : Nat} (h : RN T kd vl rv pl σ a dp nn) : (206 ≤ kd a ∧ kd a ≤ 211 → σ.2 7 a = 1 ∧ ¬ (σ.2 9 a < 51) ∧ σ.2 9 a - 51 = J (kd a - 206)) ∧ (¬ (206 ≤ kd a ∧ kd a ≤ 211) → σ.2 7 a = 1 → σ.2 9 a < 51) := by
  obtain ⟨k1, k2, k3⟩ := RN_at hT h
  have hkr := kdOk_rng (TKE_ok hT h.2.2.2.2.2.2.1)
  have hkk := rkO_rng (kd a)
  have hv := rvO_rng hT h.2.2.2.2.2.2.1
  rw [k1, k3]
  have key : 200 ≤ kd a → rvO kd vl rv a = KRL.getD (kd a - 200).toNat 0 := fun h2 => by
    unfold rvO rvS
    rw [if_neg (by omega), if_neg (by omega), if_neg (by omega), if_pos h2]
  constructor
  · intro q
    have t := KRL_51 (kd a - 200).toNat (by omega)
    have hv2 := KRL_rng (kd a - 200).toNat (by omega)
    have g := t.1.mpr (by omega)
    refine ⟨?_, ?_, ?_⟩
    · unfold rkO
      rw [if_neg (by omega), if_neg (by omega), if_neg (by omega), if_neg (by omega), if_neg (by omega), if_pos (by omega)]; rfl
    · rw [key (by omega), show (51 : Int32) = J 51 from rfl, J_lt (by omega) (by omega) (by omega) (by omega)]; omega
    · rw [key (by omega), show (51 : Int32) = J 51 from rfl, J_sub, t.2 g]
      exact congrArg J (by omega)
  · intro q q1
    have q1' : rkO (kd a) = 1 := by
      rw [show (1 : Int32) = J 1 from rfl, J_eq (by omega) (by omega) (by omega) (by omega)] at q1; exact q1
    have h2 : 200 ≤ kd a := by
      unfold rkO at q1'
      repeat' split at q1'
      all_goals omega
    have t := KRL_51 (kd a - 200).toNat (by omega)
    have hv2 := KRL_rng (kd a - 200).toNat (by omega)
    rw [key h2, show (51 : Int32) = J 51 from rfl, J_lt (by omega) (by omega) (by omega) (by omega)]
    by_cases g : 51 ≤ KRL.getD (kd a - 200).toNat 0
    · have := t.1.mp g; omega
    · omega
theorem sThingP (hT : TKE T N kd vl rv pl) {B a dp ln nn : Nat} {σ : MS} {Γ : HS} {p0 : Int32} (hp0 : ¬ p0 = 0) (h1 : RN T kd vl rv pl σ a dp nn) (h2 : CN T N kd vl pl Γ a dp ln) (hp : preS T B a dp ln nn) (hdp : dp ≤ 31) : Ok2 (F_X12_part p0 σ) (cThingP Γ) (PtR T N kd vl rv pl 2 B σ Γ a dp ln nn) := by
  have hp' := hp
  unfold preS at hp'
  have en := g_en (n := nn) (by omega)
  have en2 := (ng (n := nn) (by omega)).2
  have ha := h1.2.2.2.2.2.2.1
  have hkr := kdOk_rng (TKE_ok hT ha)
  have r1 := RN_nod h1 10 (pl a)
  unfold cThingP
  refine Ok2_re (show F_X2_accept 238 Γ = _ from c_accept hT h2 (c := 238) (by omega)) ?_
  by_cases q38 : kd a = 238
  · rw [if_pos q38]
    exact Ok2_rneg J1_ne (pt_text hT h1 h2 (by omega) q38)
  rw [if_neg q38]
  refine Ok2_rpos J0_eq ?_
  refine Ok2_re (show F_X2_accept 219 Γ = _ from c_accept hT h2 (c := 219) (by omega)) ?_
  unfold F_X12_part
  refine Ok2_lbnd (Ok2_lneg (rg hT h1).1 (Ok2_lbnd (Ok2_le (pt_e hT h1 (by omega)) ?_)))
  refine Ok2_le (tk0 hT r1 (k := 40) (c := 38) (by omega) rfl (by omega)) (Ok2_lbnd (Ok2_lpos J0_eq (Ok2_lbnd (Ok2_lneg hp0 (Ok2_lbnd (Ok2_lneg hp0 (Ok2_lbnd (Ok2_lneg hp0 ?_))))))))
  -- what a taken key leaves
  have hX : ∀ (v : Int32), a < T → RN T kd vl rv pl (mA (psd (nod σ nn 10 (pl a)) a) 17 (upd ((psd (nod σ nn 10 (pl a)) a).2 17) nn v)) (a + 1) dp (nn + 1) ∧ rfP σ (mA (psd (nod σ nn 10 (pl a)) a) 17 (upd ((psd (nod σ nn 10 (pl a)) a).2 17) nn v)) ∧ rX nn σ (mA (psd (nod σ nn 10 (pl a)) a) 17 (upd ((psd (nod σ nn 10 (pl a)) a).2 17) nn v)) ∧ (mA (psd (nod σ nn 10 (pl a)) a) 17 (upd ((psd (nod σ nn 10 (pl a)) a).2 17) nn v)).2 17 nn = v ∧ (mA (psd (nod σ nn 10 (pl a)) a) 17 (upd ((psd (nod σ nn 10 (pl a)) a).2 17) nn v)).2 18 nn = J (pl a) ∧ (mA (psd (nod σ nn 10 (pl a)) a) 17 (upd ((psd (nod σ nn 10 (pl a)) a).2 17) nn v)).2 22 nn = J (-1) ∧ (mA (psd (nod σ nn 10 (pl a)) a) 17 (upd ((psd (nod σ nn 10 (pl a)) a).2 17) nn v)).2 20 nn = J (-1) ∧ (mA (psd (nod σ nn 10 (pl a)) a) 17 (upd ((psd (nod σ nn 10 (pl a)) a).2 17) nn v)).2 19 nn = J (-1) := by
    intro v haT
    refine ⟨RN_mA (RN_psd r1 haT) (by omega) (by omega) (by omega), rfP_trans rfP_nod (rfP_trans rfP_psd (rfP_mA (by omega))), rX_trans rX_nod (rX_trans rX_psd (rX_mA (σ := psd (nod σ nn 10 (pl a)) a) (Nat.le_refl nn)) (Nat.le_refl nn)) (Nat.le_refl nn), ?_, nod18 (σ := σ) (k := 10), nod22 (σ := σ) (k := 10) (p := (pl a : Nat)), nod20 (σ := σ) (k := 10) (p := (pl a : Nat)), nod19 (σ := σ) (k := 10) (p := (pl a : Nat))⟩
    show upd _ _ _ _ = _; rw [upd_s, if_pos rfl]
  by_cases q19 : kd a = 219
  · have haT := TKE_lt hT ha (by omega) (by omega)
    rw [if_pos q19]
    refine Ok2_rneg J1_ne ?_
    refine Ok2_le (tk1 hT r1 (k := 18) (c := 19) (by omega) rfl (by omega)) (Ok2_lneg J1_ne (Ok2_lneg en (Ok2_lbnd ?_)))
    dsimp only
    rw [en2]
    rw [en2] at en
    obtain ⟨r2, f2, x2, v17, v18, v22, v20, v19⟩ := hX 13 haT
    revert r2 f2 x2 v17 v18 v22 v20 v19
    generalize mA (psd (nod σ nn 10 (pl a)) a) 17 (upd ((psd (nod σ nn 10 (pl a)) a).2 17) nn 13) = τ
    intro r2 f2 x2 v17 v18 v22 v20 v19
    have c2 := CN_cps hT h2 haT
    rw [c2.2.2.1]
    by_cases q28 : kd (a + 1) = 228
    · have haT1 := TKE_lt hT (show a + 1 ≤ T by omega) (by omega) (by omega)
      rw [if_pos (show J (kd (a + 1)) = 228 by rw [q28]; rfl)]
      refine Ok2_re (a := (J 0, cps kd (cps kd Γ a) (a + 1))) (by rw [show F_X2_need 228 (cps kd Γ a) = _ from c_need hT c2 (c := 228) (by omega), if_pos q28]) ?_
      refine Ok2_le (tk1 hT r2 (k := 30) (c := 28) (by omega) rfl (by omega)) (Ok2_lneg J1_ne (Ok2_lneg en (Ok2_lbnd ?_)))
      refine pt_end hT (ac := a + 2) (nn' := nn + 1) (RN_mA (RN_psd r2 haT1) (by omega) (by omega) (by omega)) (CN_cps hT c2 haT1) (fun q5 => ⟨by omega, by omega, ?_, Or.inr (Or.inr (Or.inr (Or.inl ⟨⟨rfl, q19⟩, q28, rfl, rfl, v17, v18, ?_, v19⟩)))⟩) v22 (by omega) (rX_trans x2 (rX_trans rX_psd (rX_mA (Nat.le_refl nn)) (Nat.le_refl nn)) (Nat.le_refl nn)) (cXt_trans cXt_cps cXt_cps (Nat.le_refl ln) (Nat.le_refl 5000)) (rfP_trans f2 (rfP_trans rfP_psd (rfP_mA (by omega)))) (cfP_trans cfP_cps cfP_cps) (by omega)
      · rw [show a + 2 + 1 - 1 = a + 2 by omega]; exact q5
      · show upd _ _ _ _ = _; rw [upd_s, if_pos rfl]; rfl
    · have hkr1 := kdOk_rng (TKE_ok hT (show a + 1 ≤ T by omega))
      rw [if_neg (show ¬ J (kd (a + 1)) = 228 by rw [show (228 : Int32) = J 228 from rfl, J_eq (by omega) (by omega) (by omega) (by omega)]; exact q28)]
      refine Ok2_re (show F_X2_need 2 (cps kd Γ a) = _ from c_need hT c2 (c := 2) (by omega)) ?_
      refine Ok2_le (tk0 hT r2 (k := 30) (c := 28) (by omega) rfl (by omega)) (Ok2_lpos J0_eq (Ok2_le (r_name hT r2 (by omega)) (Ok2_lneg en (Ok2_lbnd ?_))))
      dsimp only
      have u1 : rX (nn + 1) τ (nmN kd rv pl τ (nn + 1) (a + 1)) := nmN_rX
      by_cases q2 : kd (a + 1) = 2
      · rw [if_pos q2]
        have haT1 := TKE_lt hT (show a + 1 ≤ T by omega) (by omega) (by omega)
        refine pt_end hT (ac := a + 2) (nn' := nn + 2) (RN_mA (nmN_RN hT r2 q2) (by omega) (by omega) (by omega)) (CN_cps hT c2 haT1) (fun q5 => ⟨by omega, by omega, ?_, Or.inr (Or.inr (Or.inr (Or.inr (Or.inl ⟨⟨rfl, q19⟩, q2, rfl, rfl, ?_, ?_, ?_, ?_, ?_⟩))))⟩) ?_ (by omega) (rX_trans x2 (rX_trans (rX_le u1 (by omega)) (rX_mA (Nat.le_refl nn)) (Nat.le_refl nn)) (Nat.le_refl nn)) (cXt_trans cXt_cps cXt_cps (Nat.le_refl ln) (Nat.le_refl 5000)) (rfP_trans f2 (rfP_trans nmN_rfP (rfP_mA (by omega)))) (cfP_trans cfP_cps cfP_cps) (by omega)
        · rw [show a + 2 + 1 - 1 = a + 2 by omega]; exact q5
        · exact (u1 17 (by omega) (by omega) nn (by omega)).trans v17
        · exact (u1 18 (by omega) (by omega) nn (by omega)).trans v18
        · exact (u1 20 (by omega) (by omega) nn (by omega)).trans v20
        · show upd _ _ _ _ = _; rw [upd_s, if_pos rfl]
        · exact NMN_mA (nmN_NMN (σ := τ) (n := nn + 1) q2) (by omega)
        · exact (u1 22 (by omega) (by omega) nn (by omega)).trans v22
      · rw [if_neg q2]
        exact pt_stop hT ⟨⟨nn + 2, RX_mA (nmN_RX r2 q2) (by omega) (by omega) (by omega), by omega⟩, rfP_trans f2 (rfP_trans nmN_rfP (rfP_mA (by omega)))⟩ ⟨CX_cfl c2 (Or.inl rfl), cfP_trans cfP_cps cfP_cfl⟩ rfl (by omega)
  rw [if_neg q19]
  refine Ok2_rpos J0_eq ?_
  refine Ok2_le (tk0 hT r1 (k := 18) (c := 19) (by omega) rfl (by omega)) (Ok2_lpos J0_eq (Ok2_lbnd (Ok2_lneg hp0 ?_)))
  refine Ok2_re (show F_X2_accept 240 Γ = _ from c_accept hT h2 (c := 240) (by omega)) ?_
  by_cases q40 : kd a = 240
  · have haT := TKE_lt hT ha (by omega) (by omega)
    rw [if_pos q40]
    refine Ok2_rneg J1_ne ?_
    refine Ok2_le (tk1 hT r1 (k := 50) (c := 40) (by omega) rfl (by omega)) (Ok2_lneg J1_ne (Ok2_lneg en (Ok2_lbnd ?_)))
    dsimp only
    rw [en2]
    rw [en2] at en
    obtain ⟨r2, f2, x2, v17, v18, v22, v20, v19⟩ := hX 14 haT
    revert r2 f2 x2 v17 v18 v22 v20 v19
    generalize mA (psd (nod σ nn 10 (pl a)) a) 17 (upd ((psd (nod σ nn 10 (pl a)) a).2 17) nn 14) = τ
    intro r2 f2 x2 v17 v18 v22 v20 v19
    have c2 := CN_cps hT h2 haT
    refine Ok2_bind (Ok2_mono (sim_row hT (B := B) r2 c2 (by unfold preS; omega)) ?_)
    rintro ⟨u1, u2⟩ ⟨v1, v2⟩ ⟨e1, hr⟩
    dsimp only at e1 hr ⊢
    subst e1
    refine Ok2_lneg en (Ok2_lbnd ?_)
    rcases hr with ⟨c, t1, t2, t3, t4, t5, t6, t7, t8, t9, t10⟩ | ⟨f, f', w, i, y1, y2, y3, y4, -⟩
    · have hac := t3.2.2.2.2.2.2.1
      refine pt_end hT (ac := a + 1 + 2 * c - 1) (nn' := nn + 1 + c) (RN_mA t3 (by omega) (by omega) (by omega)) t4 (fun q5 => ⟨by omega, by omega, ?_, Or.inr (Or.inr (Or.inr (Or.inr (Or.inr (Or.inl ⟨c, t1, ⟨rfl, q40⟩, by omega, rfl, ?_, ?_, ?_, ?_⟩)))))⟩) ?_ (by omega) (rX_trans x2 (rX_trans (rX_le t7 (by omega)) (rX_mA (Nat.le_refl nn)) (Nat.le_refl nn)) (Nat.le_refl nn)) (cXt_trans cXt_cps t8 (Nat.le_refl ln) (Nat.le_refl 5000)) (rfP_trans f2 (rfP_trans t9 (rfP_mA (by omega)))) (cfP_trans cfP_cps t10) (by omega)
      · rw [show a + 1 + 2 * c - 1 + 1 - 1 = a + 1 + 2 * c - 1 by omega]; exact q5
      · exact (t7 17 (by omega) (by omega) nn (by omega)).trans v17
      · exact (t7 18 (by omega) (by omega) nn (by omega)).trans v18
      · show upd _ _ _ _ = _; rw [upd_s, if_pos rfl]
      · intro k hk
        obtain ⟨s1, s2, s3, s4⟩ := t5 k hk
        exact ⟨NMN_mA s1 (by omega), s2, s3, s4⟩
      · exact (t7 22 (by omega) (by omega) nn (by omega)).trans v22
    · exact pt_stop hT ⟨by obtain ⟨⟨z, z1, z2⟩, z3⟩ := xx_mA (k := 19) (g := upd (u2.2 19) nn (J (nn + 1 : Nat))) y1 (by omega); exact ⟨z, z1, by omega⟩, rfP_trans f2 (rfP_trans y1.2 (rfP_mA (by omega)))⟩ ⟨y2.1, cfP_trans cfP_cps y2.2⟩ y3 y4
  rw [if_neg q40]
  refine Ok2_rpos J0_eq ?_
  refine Ok2_le (tk0 hT r1 (k := 50) (c := 40) (by omega) rfl (by omega)) (Ok2_lpos J0_eq (Ok2_lbnd (Ok2_lneg hp0 (Ok2_lbnd (Ok2_lneg (rg hT r1).1 ?_)))))
  refine Ok2_re (show F_X2_needFrom 206 211 Γ = _ from c_needFrom hT h2 (l := 206) (u := 211) (by omega) (by omega)) ?_
  obtain ⟨g1, g2⟩ := r_att hT r1
  dsimp only
  rw [(rg hT r1).2]
  by_cases qa : 206 ≤ kd a ∧ kd a ≤ 211
  · have haT := TKE_lt hT ha (by omega) (by omega)
    obtain ⟨s1, s2, s3⟩ := g1 qa
    rw [if_pos qa]
    refine Ok2_lpos s1 (Ok2_lbnd (Ok2_lneg (rg hT r1).1 ?_))
    rw [(rg hT r1).2]
    refine Ok2_lneg s2 (Ok2_lneg en (Ok2_lbnd (Ok2_lbnd (Ok2_lbnd (Ok2_lneg (rg hT (RN_mA (m := 17) r1 (by omega) (by omega) (by omega))).1 (Ok2_lbnd (Ok2_lneg en (Ok2_lbnd ?_))))))))
    rw [en2]
    have r0 : RN T kd vl rv pl (mA (nod σ nn 10 (pl a)) 17 (upd ((nod σ nn 10 (pl a)).2 17) nn 15)) a dp (nn + 1) := RN_mA r1 (by omega) (by omega) (by omega)
    rw [(rg hT r0).2, r0.2.1, show J (a : Nat) + 1 = J (a + 1 : Nat) by rw [J_lit, J_add]; rfl]
    rw [show (mI (mA (nod σ nn 10 (pl a)) 17 (upd ((nod σ nn 10 (pl a)).2 17) nn 15)) 25 (J (a + 1 : Nat))).2 9 a - 51 = J (kd a - 206) from s3]
    refine pt_end hT (ac := a + 1) (nn' := nn + 1) (RN_mA (RN_psd r0 haT) (by omega) (by omega) (by omega)) (CN_cps hT h2 haT) (fun q5 => ⟨by omega, by omega, ?_, Or.inr (Or.inr (Or.inr (Or.inr (Or.inr (Or.inr ⟨⟨rfl, qa.1⟩, qa.2, rfl, rfl, ?_, ?_, ?_⟩)))))⟩) ?_ (by omega) (rX_trans rX_nod (rX_trans (rX_mA (Nat.le_refl nn)) (rX_trans (rX_psd (a := a)) (rX_mA (σ := psd (mA (nod σ nn 10 (pl a)) 17 (upd ((nod σ nn 10 (pl a)).2 17) nn 15)) a) (Nat.le_refl nn)) (Nat.le_refl nn)) (Nat.le_refl nn)) (Nat.le_refl nn)) cXt_cps (rfP_trans rfP_nod (rfP_trans (rfP_mA (by omega)) (rfP_trans (rfP_psd (a := a)) (rfP_mA (by omega))))) cfP_cps (by omega)
    · rw [show a + 1 + 1 - 1 = a + 1 by omega]; exact q5
    · show upd _ _ _ _ = _; rw [upd_s, if_pos rfl]; rfl
    · exact nod18 (σ := σ) (k := 10)
    · show upd _ _ _ _ = _; rw [upd_s, if_pos rfl]
    · exact nod22 (σ := σ) (k := 10) (p := (pl a : Nat))
  · rw [if_neg qa]
    have fin : Ok2 ((F_X12_unfit (nod σ nn 10 (pl a))).bind fun u_39 => (F_X12_need 59 u_39.2).bind fun u_15 => some (J (nn : Nat), u_15.2)) (Ec (J 0, cfl N Γ 2 a).2) (PtR T N kd vl rv pl 2 B σ Γ a dp ln nn) := Ok2_le (r_unfit hT r1) (pt_stop hT ⟨⟨nn + 1, RX_stp r1, by omega⟩, rfP_trans rfP_nod rfP_stp⟩ ⟨CX_cfl h2 (Or.inl rfl), cfP_cfl⟩ rfl ha)
    by_cases s1 : (nod σ nn 10 (pl a)).2 7 a = 1
    · refine Ok2_lpos s1 (Ok2_lbnd (Ok2_lneg (rg hT r1).1 ?_))
      rw [(rg hT r1).2]
      exact Ok2_lpos (g2 qa s1) fin
    · exact Ok2_lneg s1 fin
