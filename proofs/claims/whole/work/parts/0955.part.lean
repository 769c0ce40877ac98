/-! the parts of a room -/
variable {T N : Nat} {kd vl rv : Nat → Int} {pl : Nat → Nat}
theorem nod19 {σ : MS} {n : Nat} {k p : Int} : (nod σ n k p).2 19 n = J (-1) := by rw [nod_A, if_neg (by omega), if_neg (by omega), if_neg (by omega), if_pos rfl, upd_s, if_pos rfl]
theorem nod20 {σ : MS} {n : Nat} {k p : Int} : (nod σ n k p).2 20 n = J (-1) := by rw [nod_A, if_neg (by omega), if_neg (by omega), if_pos rfl, upd_s, if_pos rfl]
theorem pt_e (hT : TKE T N kd vl rv pl) {a dp nn : Nat} {σ : MS} (h1 : RN T kd vl rv pl σ a dp nn) (hn : nn < 39990) : F_X12_node 10 (σ.2 8 (σ.1 25).toNatClampNeg) σ = some (J (nn : Nat), nod σ nn 10 (pl a)) := by rw [(rg hT h1).2, (RN_at hT h1).2.1]; exact r_node h1.2.2.2.2.2.1 (by omega) 10 (pl a)
theorem sRoomP (hT : TKE T N kd vl rv pl) {B a dp ln nn : Nat} {σ : MS} {Γ : HS} (h1 : RN T kd vl rv pl σ a dp nn) (h2 : CN T N kd vl pl Γ a dp ln) (hp : nn + 9 ≤ B ∧ B ≤ 38000) : Ok2 (F_X12_part 0 σ) (cRoomP Γ) (PtR T N kd vl rv pl 1 B σ Γ a dp ln nn) := by
  have en := g_en (n := nn) (by omega)
  have en2 := (ng (n := nn) (by omega)).2
  have ha := h1.2.2.2.2.2.2.1
  have r1 := RN_nod h1 10 (pl a)
  unfold cRoomP
  refine Ok2_re (show F_X2_accept 238 Γ = _ from c_accept hT h2 (c := 238) (by omega)) ?_
  by_cases q38 : kd a = 238
  · rw [if_pos q38]
    exact Ok2_rneg J1_ne (pt_text hT h1 h2 (by omega) q38)
  rw [if_neg q38]
  refine Ok2_rpos J0_eq ?_
  refine Ok2_re (show F_X2_accept 239 Γ = _ from c_accept hT h2 (c := 239) (by omega)) ?_
  unfold F_X12_part
  refine Ok2_lbnd (Ok2_lneg (rg hT h1).1 (Ok2_lbnd (Ok2_le (pt_e hT h1 (by omega)) ?_)))
  refine Ok2_le (tk0 hT r1 (k := 40) (c := 38) (by omega) rfl (by omega)) (Ok2_lbnd (Ok2_lpos J0_eq (Ok2_lbnd (Ok2_lpos rfl ?_))))
  by_cases q12 : kd a = 212
  · have haT := TKE_lt hT ha (by omega) (by omega)
    rw [if_neg (show ¬ kd a = 239 by omega)]
    refine Ok2_rpos J0_eq ?_
    refine Ok2_re (a := (J 0, cps kd Γ a)) (by rw [show F_X2_need 212 Γ = _ from c_need hT h2 (c := 212) (by omega), if_pos q12]) ?_
    refine Ok2_le (tk1 hT r1 (k := 5) (c := 12) (by omega) rfl (by omega)) (Ok2_lneg J1_ne (Ok2_lneg en (Ok2_lbnd ?_)))
    dsimp only
    rw [en2]
    refine pt_end hT (ac := a + 1) (nn' := nn + 1) (RN_mA (RN_psd r1 haT) (by omega) (by omega) (by omega)) (CN_cps hT h2 haT) (fun q2 => ⟨by omega, by omega, ?_, Or.inr (Or.inl ⟨⟨rfl, q12⟩, rfl, rfl, ?_, ?_⟩)⟩) ?_ (by omega) (rX_trans rX_nod (rX_trans rX_psd (rX_mA (σ := psd (nod σ nn 10 (pl a)) a) (Nat.le_refl nn)) (Nat.le_refl nn)) (Nat.le_refl nn)) cXt_cps (rfP_trans rfP_nod (rfP_trans rfP_psd (rfP_mA (by omega)))) cfP_cps (by omega)
    · rw [show a + 1 + 1 - 1 = a + 1 by omega]; exact q2
    · show upd _ _ _ _ = _; rw [upd_s, if_pos rfl]; rfl
    · exact nod18 (σ := σ) (k := 10)
    · exact nod22 (σ := σ) (k := 10) (p := (pl a : Nat))
  refine Ok2_le (tk0 hT r1 (k := 5) (c := 12) (by omega) rfl (by omega)) (Ok2_lpos J0_eq (Ok2_lbnd (Ok2_lpos rfl ?_)))
  by_cases q39 : kd a = 239
  rotate_left
  · rw [if_neg q39]
    refine Ok2_rpos J0_eq ?_
    refine Ok2_re (a := (J 0, cfl N Γ 2 a)) (by rw [show F_X2_need 212 Γ = _ from c_need hT h2 (c := 212) (by omega), if_neg q12]) ?_
    refine Ok2_le (tk0 hT r1 (k := 12) (c := 39) (by omega) rfl (by omega)) (Ok2_lpos J0_eq (Ok2_lbnd (Ok2_lpos rfl (Ok2_lbnd (Ok2_lpos rfl (Ok2_lbnd (Ok2_lpos rfl (Ok2_le (r_unfit hT r1) ?_))))))))
    exact pt_stop hT ⟨⟨nn + 1, RX_stp r1, by omega⟩, rfP_trans rfP_nod rfP_stp⟩ ⟨CX_cfl h2 (Or.inl rfl), cfP_cfl⟩ rfl ha
  rw [if_pos q39]
  have haT := TKE_lt hT ha (by omega) (by omega)
  refine Ok2_rneg J1_ne ?_
  refine Ok2_le (tk1 hT r1 (k := 12) (c := 39) (by omega) rfl (by omega)) (Ok2_lneg J1_ne (Ok2_lneg en (Ok2_lbnd ?_)))
  dsimp only
  rw [en2]
  rw [en2] at en
  have r2 : RN T kd vl rv pl (mA (psd (nod σ nn 10 (pl a)) a) 17 (upd ((psd (nod σ nn 10 (pl a)) a).2 17) nn 12)) (a + 1) dp (nn + 1) := RN_mA (RN_psd r1 haT) (by omega) (by omega) (by omega)
  have f2 : rfP σ (mA (psd (nod σ nn 10 (pl a)) a) 17 (upd ((psd (nod σ nn 10 (pl a)) a).2 17) nn 12)) := rfP_trans rfP_nod (rfP_trans rfP_psd (rfP_mA (by omega)))
  have x2 : rX nn σ (mA (psd (nod σ nn 10 (pl a)) a) 17 (upd ((psd (nod σ nn 10 (pl a)) a).2 17) nn 12)) := rX_trans rX_nod (rX_trans rX_psd (rX_mA (σ := psd (nod σ nn 10 (pl a)) a) (Nat.le_refl nn)) (Nat.le_refl nn)) (Nat.le_refl nn)
  have v17 : (mA (psd (nod σ nn 10 (pl a)) a) 17 (upd ((psd (nod σ nn 10 (pl a)) a).2 17) nn 12)).2 17 nn = J 12 := by show upd _ _ _ _ = _; rw [upd_s, if_pos rfl]; rfl
  have v18 : (mA (psd (nod σ nn 10 (pl a)) a) 17 (upd ((psd (nod σ nn 10 (pl a)) a).2 17) nn 12)).2 18 nn = J (pl a) := nod18 (σ := σ) (k := 10)
  have v22 : (mA (psd (nod σ nn 10 (pl a)) a) 17 (upd ((psd (nod σ nn 10 (pl a)) a).2 17) nn 12)).2 22 nn = J (-1) := nod22 (σ := σ) (k := 10) (p := (pl a : Nat))
  revert r2 f2 x2 v17 v18 v22
  generalize mA (psd (nod σ nn 10 (pl a)) a) 17 (upd ((psd (nod σ nn 10 (pl a)) a).2 17) nn 12) = τ
  intro r2 f2 x2 v17 v18 v22
  have c2 := CN_cps hT h2 haT
  refine Ok2_le (r_direction hT r2) (Ok2_lneg en (Ok2_lbnd (Ok2_lneg en (Ok2_lbnd ?_))))
  refine Ok2_re (show F_X2_needFrom 200 205 (cps kd Γ a) = _ from c_needFrom hT c2 (l := 200) (u := 205) (by omega) (by omega)) ?_
  -- behind a fault, at the name
  have hs : ∀ (f f' : Int) (w : Nat) (κ : MS) (v : HS), rXX T kd vl rv pl (B - 3) σ f w κ → yXX N kd vl pl Γ f' w v → f = fxO kd f' w → w ≤ T → Ok2 ((F_X12_name κ).bind fun u_142 => if J (nn : Nat) < 0 ∨ 40000 ≤ nn then none else bnd (mA u_142.2 19 (upd (u_142.2.2 19) nn u_142.1)) fun σ_146 => (F_X12_need 59 σ_146).bind fun u_15 => some (J (nn : Nat), u_15.2)) ((F_X2_need 2 v).bind fun u_47 => Ec u_47.2) (PtR T N kd vl rv pl 1 B σ Γ a dp ln nn) := by
    intro f f' w κ v y1 y2 y3 y4
    refine Ok2_bind (Ok2_sep (xx_name hT y1 (by omega)) (yy_need hT y2 (c := 2) (by omega)) (fun u v z1 z2 => Ok2_lneg en (Ok2_lbnd ?_)))
    exact pt_stop hT (xx_B (xx_mA z1.1 (by omega)) (by omega)) z2 y3 y4
  by_cases qd : 200 ≤ kd (a + 1) ∧ kd (a + 1) ≤ 205
  · rw [if_pos qd, if_pos qd]
    dsimp only
    have haT1 := TKE_lt hT (show a + 1 ≤ T by omega) (by omega) (by omega)
    have c3 := CN_cps hT c2 haT1
    have r3 : RN T kd vl rv pl (mA (psd τ (a + 1)) 20 (upd ((psd τ (a + 1)).2 20) nn (J (kd (a + 1) - 199)))) (a + 2) dp (nn + 1) := RN_mA (RN_psd r2 haT1) (by omega) (by omega) (by omega)
    refine Ok2_lneg (by
      show ¬ (upd _ _ _ _ = 0)
      rw [upd_s, if_pos rfl, show (0 : Int32) = J 0 from rfl, J_eq (by omega) (by omega) (by omega) (by omega)]; omega) ?_
    refine Ok2_le (r_name hT r3 (by omega)) (Ok2_lneg en (Ok2_lbnd ?_))
    refine Ok2_re (show F_X2_need 2 (cps kd (cps kd Γ a) (a + 1)) = _ from c_need hT c3 (c := 2) (by omega)) ?_
    dsimp only
    have f3 : rfP σ (mA (psd τ (a + 1)) 20 (upd ((psd τ (a + 1)).2 20) nn (J (kd (a + 1) - 199)))) := rfP_trans f2 (rfP_trans rfP_psd (rfP_mA (by omega)))
    have x3 : rX nn σ (mA (psd τ (a + 1)) 20 (upd ((psd τ (a + 1)).2 20) nn (J (kd (a + 1) - 199)))) := rX_trans x2 (rX_trans rX_psd (rX_mA (Nat.le_refl nn)) (Nat.le_refl nn)) (Nat.le_refl nn)
    have w20 : (mA (psd τ (a + 1)) 20 (upd ((psd τ (a + 1)).2 20) nn (J (kd (a + 1) - 199)))).2 20 nn = J (kd (a + 1) - 199) := by show upd _ _ _ _ = _; rw [upd_s, if_pos rfl]
    have w17 : (mA (psd τ (a + 1)) 20 (upd ((psd τ (a + 1)).2 20) nn (J (kd (a + 1) - 199)))).2 17 nn = J 12 := v17
    have w18 : (mA (psd τ (a + 1)) 20 (upd ((psd τ (a + 1)).2 20) nn (J (kd (a + 1) - 199)))).2 18 nn = J (pl a) := v18
    have w22 : (mA (psd τ (a + 1)) 20 (upd ((psd τ (a + 1)).2 20) nn (J (kd (a + 1) - 199)))).2 22 nn = J (-1) := v22
    revert r3 f3 x3 w20 w17 w18 w22
    generalize mA (psd τ (a + 1)) 20 (upd ((psd τ (a + 1)).2 20) nn (J (kd (a + 1) - 199))) = κ
    intro r3 f3 x3 w20 w17 w18 w22
    have u1 : rX (nn + 1) κ (nmN kd rv pl κ (nn + 1) (a + 2)) := nmN_rX
    by_cases q2 : kd (a + 2) = 2
    · rw [if_pos q2]
      have haT2 := TKE_lt hT (show a + 2 ≤ T by omega) (by omega) (by omega)
      refine pt_end hT (ac := a + 3) (nn' := nn + 2) (RN_mA (nmN_RN hT r3 q2) (by omega) (by omega) (by omega)) (CN_cps hT c3 haT2) (fun q5 => ⟨by omega, by omega, ?_, Or.inr (Or.inr (Or.inl ⟨⟨rfl, q39⟩, qd.1, qd.2, q2, rfl, rfl, ?_, ?_, ?_, ?_, ?_⟩))⟩) ?_ (by omega) (rX_trans x3 (rX_trans (rX_le u1 (by omega)) (rX_mA (Nat.le_refl nn)) (Nat.le_refl nn)) (Nat.le_refl nn)) (cXt_trans cXt_cps (cXt_trans cXt_cps cXt_cps (Nat.le_refl ln) (Nat.le_refl 5000)) (Nat.le_refl ln) (Nat.le_refl 5000)) (rfP_trans f3 (rfP_trans nmN_rfP (rfP_mA (by omega)))) (cfP_trans cfP_cps (cfP_trans cfP_cps cfP_cps)) (by omega)
      · rw [show a + 3 + 1 - 1 = a + 3 by omega]; exact q5
      · exact (u1 17 (by omega) (by omega) nn (by omega)).trans w17
      · exact (u1 18 (by omega) (by omega) nn (by omega)).trans w18
      · show upd _ _ _ _ = _; rw [upd_s, if_pos rfl]
      · exact NMN_mA (nmN_NMN (σ := κ) (n := nn + 1) q2) (by omega)
      · exact (u1 20 (by omega) (by omega) nn (by omega)).trans w20
      · exact (u1 22 (by omega) (by omega) nn (by omega)).trans w22
    · rw [if_neg q2]
      exact pt_stop hT ⟨⟨nn + 2, RX_mA (nmN_RX r3 q2) (by omega) (by omega) (by omega), by omega⟩, rfP_trans f3 (rfP_trans nmN_rfP (rfP_mA (by omega)))⟩ ⟨CX_cfl c3 (Or.inl rfl), cfP_trans cfP_cps (cfP_trans cfP_cps cfP_cfl)⟩ rfl (by omega)
  · rw [if_neg qd, if_neg qd]
    dsimp only
    have r3 : RN T kd vl rv pl (mA τ 20 (upd (τ.2 20) nn (J 0))) (a + 1) dp (nn + 1) := RN_mA r2 (by omega) (by omega) (by omega)
    refine Ok2_lpos (by
      show upd _ _ _ _ = 0
      rw [upd_s, if_pos rfl]; rfl) (Ok2_le (r_unfit hT r3) ?_)
    exact hs _ 2 (a + 1) _ _ ⟨⟨nn + 1, RX_stp r3, by omega⟩, rfP_trans f2 (rfP_trans (rfP_mA (by omega)) rfP_stp)⟩ ⟨CX_cfl c2 (Or.inl rfl), cfP_trans cfP_cps cfP_cfl⟩ rfl (by omega)
