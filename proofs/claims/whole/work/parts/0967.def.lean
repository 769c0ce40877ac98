/-! defs and eachs -/
variable {T N : Nat} {kd vl rv : Nat → Int} {pl : Nat → Nat}
def Df3 (X t_132 : Int32) (σ_133 : MS) : MR := if X < 0 ∨ 40000 ≤ X.toNatClampNeg then none else bnd (mA σ_133 20 (upd (σ_133.2 20) X.toNatClampNeg t_132)) fun σ_139 => (F_X12_shut 41 σ_139).bind fun u_141 => Rt1 X u_141.2
def Df2 (X : Int32) (σ_126 : MS) : MR := (F_X12_open 40 σ_126).bind fun u_128 => (F_X12_isSign 41 u_128.2).bind fun u_130 => if u_130.1 = 0 then (F_X12_row u_130.2).bind fun u_153 => Df3 X u_153.1 u_153.2 else Df3 X (-1) u_130.2
def DfR (p : Int32) (σ : MS) : MR := (F_X12_node 6 p σ).bind fun u_1 => (F_X12_name u_1.2).bind fun u_2 => if u_1.1 < 0 ∨ 40000 ≤ u_1.1.toNatClampNeg then none else bnd (mA u_2.2 19 (upd (u_2.2.2 19) u_1.1.toNatClampNeg u_2.1)) fun σ_3 => Df2 u_1.1 σ_3
def Dc3 (A t_5 : Int32) (σ_6 : HS) : HR := ((F_X2_shut 41 σ_6).bind fun u_10 => (F_X0_openDef t_5 u_10.2).bind fun u_12 => bnd (mrg (fun j => j == 5) u_10.2 u_12.2) fun σ_14 => some ((0 : Int32), σ_14)).bind fun u => Rt2 A u.2
def Dc2 (A : Int32) (σ : HS) : HR := (F_X2_open 40 σ).bind fun u_3 => if ((u_3.2 2).1 3) = 41 then Dc3 A 0 u_3.2 else (F_X2_names u_3.2).bind fun u_19 => Dc3 A u_19.1 u_19.2
theorem dc_eq (A : Int32) (Γ : HS) : ((F_X2_defHead Γ).bind fun u => Rt2 A u.2) = (F_X2_need 2 Γ).bind fun u_1 => Dc2 A u_1.2 := by
  unfold F_X2_defHead Dc2 Dc3
  rw [Option.bind_assoc]
  refine congrArg _ (funext fun u_1 => ?_)
  rw [Option.bind_assoc]
  refine congrArg _ (funext fun u_3 => ?_)
  simp only [bnd]
  split
  · rfl
  · rw [Option.bind_assoc]
theorem rt1_stop (hT : TKE T N kd vl rv pl) {B x : Nat} (hB : B ≤ 38700) (hx : x < 39000) {σ0 σ : MS} {f : Int} {w : Nat} (h : rXX T kd vl rv pl B σ0 f w σ) : Ok (Rt1 (J (x : Nat)) σ) fun u => rXX T kd vl rv pl (B + 2) σ0 f w u.2 ∧ u.1 = J (x : Nat) := by
  unfold Rt1
  refine Ok_bind (Ok_mono (show Ok (G_X12_block σ) _ from xx_block hT h (by omega) (d := 100) (by omega)) (fun u hu => ?_))
  exact Ok_neg (g_en (by omega)) (Ok_bnd (Ok_bind (Ok_mono (xx_ended hT (B := B + 1) (by omega) hx (xx_mA hu.1 (by omega))) (fun v hv => Ok_some hv))))
theorem y_cfQ {Γ0 Γ Δ : HS} {f : Int} {w : Nat} (h : CX N kd vl pl Δ f w ∧ cfP Γ Δ) (i : cfQ Γ0 Γ) : CX N kd vl pl Δ f w ∧ cfQ Γ0 Δ := ⟨h.1, cfQ_trans i (cfQ_of h.2)⟩
theorem rt2_stop (hT : TKE T N kd vl rv pl) {Γ0 Γ : HS} {f : Int} {w : Nat} (h : CX N kd vl pl Γ f w ∧ cfQ Γ0 Γ) (A : Int32) : Ok (Rt2 A Γ) fun u => CX N kd vl pl u.2 f w ∧ cfQ Γ0 u.2 := by
  unfold Rt2
  refine Ok_bind (Ok_mono (show Ok (G_X2_block Γ) _ from yy_block hT (Γ0 := Γ) ⟨h.1, cfP_rfl⟩ (d := 100) (by omega)) (fun u hu => ?_))
  exact Ok_bind (Ok_mono (y_endR hT hu.1 A) (fun v hv => Ok_some ⟨hv.1, cfQ_trans (cfQ_trans h.2 (cfQ_of hu.2)) hv.2⟩))
theorem df3_stop (hT : TKE T N kd vl rv pl) {B x : Nat} (hB : B ≤ 38700) (hx : x < 39000) {σ0 σ : MS} {f : Int} {w : Nat} (h : rXX T kd vl rv pl B σ0 f w σ) (t : Int32) : Ok (Df3 (J (x : Nat)) t σ) fun u => rXX T kd vl rv pl (B + 2) σ0 f w u.2 ∧ u.1 = J (x : Nat) := by
  unfold Df3
  exact Ok_neg (g_en (by omega)) (Ok_bnd (Ok_bind (Ok_mono (xx_shut hT (xx_mA h (by omega)) 41) (fun u hu => rt1_stop hT hB hx hu))))
theorem df2_stop (hT : TKE T N kd vl rv pl) {B x : Nat} (hB : B ≤ 38600) (hx : x < 39000) {σ0 σ : MS} {f : Int} {w : Nat} (h : rXX T kd vl rv pl B σ0 f w σ) : Ok (Df2 (J (x : Nat)) σ) fun u => rXX T kd vl rv pl (B + 3) σ0 f w u.2 ∧ u.1 = J (x : Nat) := by
  unfold Df2
  rw [xx_open hT h, Option.bind_some]
  obtain ⟨⟨n0, a1, b1⟩, d1⟩ := h
  rw [x_isSign a1, Option.bind_some]
  refine Ok_pos J0_eq (Ok_bind (Ok_mono (xx_row hT ⟨⟨n0, a1, b1⟩, d1⟩ (by omega)) (fun u hu => Ok_mono (df3_stop hT (by omega) hx hu.1 _) (fun v hv => ⟨xx_B hv.1 (by omega), hv.2⟩))))
theorem dc3_stop (hT : TKE T N kd vl rv pl) {Γ0 Γ : HS} {f : Int} {w : Nat} (h : CX N kd vl pl Γ f w ∧ cfQ Γ0 Γ) (A t : Int32) : Ok (Dc3 A t Γ) fun u => CX N kd vl pl u.2 f w ∧ cfQ Γ0 u.2 := by
  unfold Dc3
  rw [Option.bind_assoc]
  refine Ok_bind (Ok_mono (y_shut hT h.1 (c := 41) (by omega)) (fun u hu => ?_))
  rw [Option.bind_assoc]
  refine Ok_bind (Ok_mono (y_openDef hu.1 t) (fun v hv => ?_))
  rw [mrg5' hv.2]
  exact rt2_stop hT ⟨hv.1, cfQ_trans (cfQ_trans h.2 (cfQ_of hu.2)) (cfQ_5 hv.2)⟩ A
theorem dc2_stop (hT : TKE T N kd vl rv pl) {Γ0 Γ : HS} {f : Int} {w : Nat} (h : CX N kd vl pl Γ f w ∧ cfQ Γ0 Γ) (A : Int32) : Ok (Dc2 A Γ) fun u => CX N kd vl pl u.2 f w ∧ cfQ Γ0 u.2 := by
  unfold Dc2
  refine Ok_bind (Ok_mono (y_open hT h.1 (c := 40) (by omega)) (fun u hu => Ok_ite (fun _ => dc3_stop hT (y_cfQ hu h.2) A 0) (fun _ => ?_)))
  exact Ok_bind (Ok_mono (yy_names hT (Γ0 := Γ) hu) (fun v hv => dc3_stop hT (y_cfQ hv.1 h.2) A v.1))
/-- behind the list -/
theorem def_fin (hT : TKE T N kd vl rv pl) {B a dp ln nn nd no ne c b : Nat} {σ0 σ : MS} {Γ0 Γ : HS} {t1 : Int} (hk : kd a = 235) (hq1 : kd (a + 1) = 2) (hq2 : kd (a + 2) = 40) (hp : preS T (B - 9) a dp ln nn) (hB : B ≤ 38000) (hB9 : 9 ≤ B) (hdp : dp < 30) (hnd : nd ≤ 5000) (h1 : RN T kd vl rv pl σ (b - 1) (dp + 1) (nn + 2 + c)) (h2 : CN T N kd vl pl Γ (b - 1) (dp + 1) ln) (x1 : rX nn σ0 σ) (x2 : rfP σ0 σ) (x3 : cXt ln 5000 Γ0 Γ) (x4 : cfP Γ0 Γ) (x5 : CNT Γ0 nd no ne) (w17 : σ.2 17 nn = J 6) (w18 : σ.2 18 nn = J (pl a)) (w19 : σ.2 19 nn = J (nn + 1 : Nat)) (w22 : σ.2 22 nn = J (-1)) (wN : NMN rv pl σ (nn + 1) (a + 1)) (hc : (c = 0 ∧ b = a + 4 ∧ t1 = -1) ∨ (1 ≤ c ∧ b = a + 3 + 2 * c ∧ t1 = (nn + 2 : Nat) ∧ NMS kd rv pl σ (nn + 2) c (a + 3))) : Ok2 (Df3 (J (nn : Nat)) (J t1) σ) (Dc3 (J (a : Nat)) (J (c : Nat)) Γ) (ItR T N kd vl rv pl B σ0 Γ0 a dp ln nn nd no ne) := by
  unfold preS at hp
  have en := g_en (n := nn) (by omega)
  have hb4 : a + 4 ≤ b ∧ b ≤ a + 4 + 2 * c ∧ nn + 2 + c ≤ nn + 3 * (b - a) - 1 := by omega
  have hb := h1.2.2.2.2.2.2.1
  unfold Df3 Dc3
  refine Ok2_lneg en (Ok2_lbnd ?_)
  rw [(ng (n := nn) (by omega)).2, Option.bind_assoc]
  have r1 : RN T kd vl rv pl (mA σ 20 (upd (σ.2 20) nn (J t1))) (b - 1) (dp + 1) (nn + 2 + c) := RN_mA h1 (by omega) (by omega) (by omega)
  unfold F_X2_shut
  have h2' : CN T N kd vl pl (cop Γ dp) (b - 1) dp ln := CN_cop h2 (by omega)
  rw [h2.2.2.2.1, show J ((dp + 1 : Nat) : Int) - 1 = J (dp : Nat) by rw [J_lit, J_sub]; exact congrArg J (by show ((dp + 1 : Nat) : Int) - 1 = _; omega)]
  rw [show (bnd (cI' Γ 2 4 (J (dp : Nat))) fun σ_1 => (F_X2_need 41 σ_1).bind fun u_3 => some ((0 : Int32), u_3.2)) = (F_X2_need 41 (cop Γ dp)).bind fun u_3 => some ((0 : Int32), u_3.2) from rfl, Option.bind_assoc]
  refine Ok2_le (show F_X12_shut 41 _ = _ from r_shut hT r1 (c := 41) (by decide) (by omega)) ?_
  refine Ok2_re (show F_X2_need 41 (cop Γ dp) = _ from c_need hT h2' (c := 41) (by omega)) ?_
  refine Ok2_rsome ?_
  rw [show dp + 1 - 1 = dp by omega]
  dsimp only
  have f1 : rfP σ0 (mA σ 20 (upd (σ.2 20) nn (J t1))) := rfP_trans x2 (rfP_mA (by omega))
  by_cases q : kd (b - 1) = 41
  rotate_left
  · rw [if_neg q, if_neg q]
    refine itR_stop (f := unf kd (b - 1)) (f' := 2) (w := b - 1) (Ok_mono (rt1_stop hT (B := B - 2) (by omega) (by omega) ⟨⟨nn + 2 + c, RX_opn (RX_stp r1), by omega⟩, rfP_trans f1 (rfP_trans rfP_stp rfP_opn)⟩) (fun u hu => ⟨xx_B hu.1 (by omega), hu.2⟩)) ?_ rfl hb
    have c2 : CX N kd vl pl (cfl N (cop Γ dp) 2 (b - 1)) 2 (b - 1) := CX_cfl h2' (Or.inl rfl)
    rw [Option.bind_assoc]
    refine Ok_bind (Ok_mono (y_openDef c2 _) (fun v hv => ?_))
    rw [mrg5' hv.2]
    exact rt2_stop hT ⟨hv.1, cfQ_trans (cfQ_of (cfP_trans x4 (cfP_trans cfP_cop cfP_cfl))) (cfQ_5 hv.2)⟩ _
  rw [if_pos q, if_pos q]
  have hbT := TKE_lt hT hb (by omega) (by omega)
  have r2 : RN T kd vl rv pl (opn (psd (mA σ 20 (upd (σ.2 20) nn (J t1))) (b - 1)) dp) b dp (nn + 2 + c) := by
    have := RN_opn (d := dp) (RN_psd r1 hbT) (by omega)
    rwa [show b - 1 + 1 = b by omega] at this
  have c2 : CN T N kd vl pl (cps kd (cop Γ dp) (b - 1)) b dp ln := by
    have := CN_cps hT h2' hbT
    rwa [show b - 1 + 1 = b by omega] at this
  have y4 : cfP Γ0 (cps kd (cop Γ dp) (b - 1)) := cfP_trans x4 (cfP_trans cfP_cop cfP_cps)
  have n2 := CNT_fr x5 y4.2.2.2.2
  rw [c_openDef n2 hnd, Option.bind_some]
  dsimp only [bnd]
  rw [opR_mrg (fun r hr => by rw [cA_r, if_neg hr]), Option.bind_some]
  have hr5 : ∀ r, r ≠ 5 → cA' (cps kd (cop Γ dp) (b - 1)) 5 4 (g_put 100 (((cps kd (cop Γ dp) (b - 1)) 5).2.1 4) (J (nd : Nat)) (J (c : Nat))) r = (cps kd (cop Γ dp) (b - 1)) r := fun r hr => by rw [cA_r, if_neg hr]
  have c3 : CN T N kd vl pl (cA' (cps kd (cop Γ dp) (b - 1)) 5 4 (g_put 100 (((cps kd (cop Γ dp) (b - 1)) 5).2.1 4) (J (nd : Nat)) (J (c : Nat)))) b dp ln := ⟨⟨c2.1.1, c2.1.2⟩, c2.2⟩
  have c4 := opR_CN (R := rtj 235 nd no ne) (k := 5) (n := (nd + 1 : Nat)) c3 (by omega)
  have hj := rtj_rng 235 nd no ne
  refine Ok2_mono (sRout hT (B := B - 4) (x := nn) (a := a) (m := nn + 2 + c) r2 c4 (by unfold preS; omega) (by omega) (by omega) (by omega) (by omega) (cu := rtj 235 nd no ne) (by rw [opR_i, if_neg (by omega), if_pos rfl])) ?_
  intro u v huv
  refine (fun (h : ItR T N kd vl rv pl (B - 4) σ0 Γ0 a dp ln nn nd no ne u v) => ⟨h.1, h.2.imp id (fun ⟨f, f', w, y1, y2⟩ => ⟨f, f', w, xx_B y1 (by omega), y2⟩)⟩) ?_
  have e4 : (opR (cA' (cps kd (cop Γ dp) (b - 1)) 5 4 (g_put 100 (((cps kd (cop Γ dp) (b - 1)) 5).2.1 4) (J (nd : Nat)) (J (c : Nat)))) (rtj 235 nd no ne) 5 (nd + 1 : Nat) 5).2.1 4 = g_put 100 ((Γ0 5).2.1 4) (J (nd : Nat)) (J (c : Nat)) := by
    rw [opR_a (by omega)]
    show g_put 100 (((cps kd (cop Γ dp) (b - 1)) 5).2.1 4) (J (nd : Nat)) (J (c : Nat)) = _
    rw [y4.2.2.2.2.2.1 4 (by omega)]
  have e2 : (opR (cA' (cps kd (cop Γ dp) (b - 1)) 5 4 (g_put 100 (((cps kd (cop Γ dp) (b - 1)) 5).2.1 4) (J (nd : Nat)) (J (c : Nat)))) (rtj 235 nd no ne) 5 (nd + 1 : Nat) 5).2.1 2 = g_put 320 ((Γ0 5).2.1 2) (J (rtj 235 nd no ne)) (J (ln : Nat)) := by
    rw [opR_2]
    show g_put 320 (((cps kd (cop Γ dp) (b - 1)) 5).2.1 2) _ (((cps kd (cop Γ dp) (b - 1)) 5).1 1) = _
    rw [y4.2.2.2.2.2.1 2 (by omega), c2.2.2.2.2.2.1]
  have hrl := rti_lt 235 nd no ne
  have hrt : rti 235 nd no ne = if nd < 100 then nd else 400 := by unfold rti; rw [if_pos rfl]
  refine rt_fin (k := 0) (by omega) (by omega) (by omega) (by omega) (τ := opn (psd (mA σ 20 (upd (σ.2 20) nn (J t1))) (b - 1)) dp) w22 (rX_trans x1 (rX_trans (rX_mA (Nat.le_refl nn)) (rX_trans rX_psd rX_opn (Nat.le_refl nn)) (Nat.le_refl nn)) (Nat.le_refl nn)) (cXt_trans (⟨x3.1, fun t ht => x3.2 t (by have := hT.1; omega)⟩ : cXt ln a Γ0 Γ) (cXt_trans cXt_cop (cXt_trans cXt_cps (cXt_trans (⟨fun _ _ => rfl, fun _ _ => rfl⟩ : cXt ln a (cps kd (cop Γ dp) (b - 1)) (cA' (cps kd (cop Γ dp) (b - 1)) 5 4 (g_put 100 (((cps kd (cop Γ dp) (b - 1)) 5).2.1 4) (J (nd : Nat)) (J (c : Nat))))) opR_cXt (Nat.le_refl _) (Nat.le_refl _)) (Nat.le_refl _) (Nat.le_refl _)) (Nat.le_refl _) (Nat.le_refl _)) (Nat.le_refl _) (Nat.le_refl _)) (rfP_trans f1 (rfP_trans rfP_psd rfP_opn)) (cfQ_trans (cfQ_of y4) (cfQ_trans (cfQ_5 hr5) opR_cfQ)) ⟨?_, ?_, ?_⟩ (fun j hj' => ?_) (by rw [hk]) e2 (fun u2 v2 a' m' ln' g1 g2 g3 g4 => ?_) huv
  · rw [if_pos hk]; rfl
  · rw [if_neg (by omega)]; exact n2.2.1
  · rw [if_neg (by omega)]; exact n2.2.2
  · rw [hk, hrt] at hj'
    refine ⟨?_, ?_, ?_⟩
    · rw [e2, rtj_d]
      by_cases q5 : nd < 100
      · rw [if_pos q5] at hj' ⊢
        rw [q_g_put_in (by omega) (by omega) (by omega), upd_s, if_neg (by omega)]
      · rw [if_neg q5, q_g_put_out (by omega) (by omega) (by omega)]
    · rw [opR_a (by omega)]
      show ((cps kd (cop Γ dp) (b - 1)) 5).2.1 3 j = _
      rw [y4.2.2.2.2.2.1 3 (by omega)]
    · rw [e4]
      by_cases q5 : nd < 100
      · rw [if_pos q5] at hj'
        rw [q_g_put_in (by omega) (by omega) (by omega), upd_s, if_neg (by omega)]
      · rw [q_g_put_out (by omega) (by omega) (by omega)]
  · have gσ : ∀ k, 17 ≤ k → k ≤ 22 → ∀ y, y < nn + 2 + c → (y ≠ nn ∨ (k ≠ 21 ∧ k ≠ 20)) → u2.2 k y = σ.2 k y := fun k k1 k2 y hy hk => by
      rw [g1 k k1 k2 y hy (by omega)]
      show (mA σ 20 (upd (σ.2 20) nn (J t1))).2 k y = _
      rw [mA_2]; split
      · subst_vars; rw [upd_s, if_neg (by omega)]
      · rfl
    have g20 : u2.2 20 nn = J t1 := by
      rw [g1 20 (by omega) (by omega) nn (by omega) (by omega)]
      show upd _ _ _ _ = _; rw [upd_s, if_pos rfl]
    refine Or.inr (Or.inr (Or.inr (Or.inr (Or.inr (Or.inl ⟨hk, hq1, hq2, ?_, ?_, ?_, ⟨?_, ?_, ?_⟩, c, b, q, ?_, g2, ?_, fun h => ?_⟩)))))
    · rw [gσ 17 (by omega) (by omega) nn (by omega) (by omega)]; exact w17
    · rw [gσ 18 (by omega) (by omega) nn (by omega) (by omega)]; exact w18
    · rw [gσ 19 (by omega) (by omega) nn (by omega) (by omega)]; exact w19
    · rw [gσ 17 (by omega) (by omega) (nn + 1) (by omega) (by omega)]; exact wN.1
    · rw [gσ 18 (by omega) (by omega) (nn + 1) (by omega) (by omega)]; exact wN.2.1
    · rw [gσ 19 (by omega) (by omega) (nn + 1) (by omega) (by omega)]; exact wN.2.2
    · rcases hc with ⟨z1, z2, z3⟩ | ⟨z1, z2, z3, z4⟩
      · exact Or.inl ⟨z1, z2, by rw [g20, z3]⟩
      · refine Or.inr ⟨z1, z2, by rw [g20, z3], fun k hk => ?_⟩
        obtain ⟨s1, s2, s3, s4⟩ := z4 k hk
        exact ⟨⟨by rw [gσ 17 (by omega) (by omega) _ (by omega) (by omega)]; exact s1.1, by rw [gσ 18 (by omega) (by omega) _ (by omega) (by omega)]; exact s1.2.1, by rw [gσ 19 (by omega) (by omega) _ (by omega) (by omega)]; exact s1.2.2⟩, s2, by rw [gσ 22 (by omega) (by omega) _ (by omega) (by omega)]; exact s3, s4⟩
    · rw [hk] at g3
      rw [show rti 235 nd 0 0 = rti 235 nd no ne by unfold rti; rw [if_pos rfl, if_pos rfl]]; exact g3
    · rw [g4, e4, q_g_put_in (by omega) (by omega) (by omega), upd_s, if_pos (by omega)]
theorem rti_e (nd no ne : Nat) : rti 237 nd no ne = if ne < 20 then 300 + ne else 400 := by unfold rti; rw [if_neg (by omega), if_neg (by omega), if_pos rfl]
theorem rti_o (nd no ne : Nat) : rti 236 nd no ne = if no < 200 then 100 + no else 400 := by unfold rti; rw [if_neg (by omega), if_pos rfl]
theorem sDef (hT : TKE T N kd vl rv pl) {B a dp ln nn nd no ne : Nat} {σ : MS} {Γ : HS} (hk : kd a = 235) (h1 : RN T kd vl rv pl σ (a + 1) dp nn) (h2 : CN T N kd vl pl Γ (a + 1) dp ln) (hp : preS T (B - 9) a dp ln nn) (hB : B ≤ 38000) (hB9 : 9 ≤ B) (hdp : dp < 30) (hnd : nd ≤ 5000) (hC : CNT Γ nd no ne) : Ok2 (DfR (J (pl a : Nat)) σ) ((F_X2_defHead Γ).bind fun u => Rt2 (J (a : Nat)) u.2) (ItR T N kd vl rv pl B σ Γ a dp ln nn nd no ne) := by
  have hp' := hp
  unfold preS at hp'
  have en := g_en (n := nn) (by omega)
  have ha := h1.2.2.2.2.2.2.1
  refine hd_eq hT (w := 6) rfl h1 (by omega) ?_
  rw [dc_eq]
  refine Ok2_re (show F_X2_need 2 Γ = _ from c_need hT h2 (c := 2) (by omega)) ?_
  dsimp only
  by_cases q1 : kd (a + 1) = 2
  rotate_left
  · rw [if_neg q1]
    exact itR_stop (f := unf kd (a + 1)) (f' := 2) (w := a + 1) (Ok_mono (df2_stop hT (B := B - 3) (by omega) (by omega) (hd_no h1 q1 (by omega))) (fun u hu => ⟨xx_B hu.1 (by omega), hu.2⟩)) (dc2_stop hT ⟨CX_cfl h2 (Or.inl rfl), cfQ_of cfP_cfl⟩ _) rfl ha
  rw [if_pos q1]
  obtain ⟨τ, eτ, r2, x2, f2, w17, w18, w19, w20, -, w22, wN⟩ := hd_yes hT (w := 6) h1 q1
  rw [eτ]
  have haT := TKE_lt hT ha (by omega) (by omega)
  have c2 := CN_cps hT h2 haT
  have hkr := kdOk_rng (TKE_ok hT (show a + 2 ≤ T from haT))
  unfold Df2 Dc2 F_X2_open
  by_cases q2 : kd (a + 2) = 40
  rotate_left
  · refine Ok2_le (show F_X12_open 40 τ = _ from r_open_n hT r2 (c := 40) (by decide) q2) ?_
    rw [c2.2.2.1, if_neg (show ¬ J (kd (a + 2)) = 40 by rw [show (40 : Int32) = J 40 from rfl, J_eq (by omega) (by omega) (by omega) (by omega)]; exact q2), show F_X2_fail 2 (cps kd Γ (a + 1)) = _ from c_fail hT c2 2]
    refine Ok2_rsome ?_
    have xs : rXX T kd vl rv pl (B - 3) σ (unf kd (a + 2)) (a + 2) (stp τ (unf kd (a + 2)) (pl (a + 2))) := ⟨⟨nn + 2, RX_stp r2, by omega⟩, rfP_trans f2 rfP_stp⟩
    have cs : CX N kd vl pl (cfl N (cps kd Γ (a + 1)) 2 (a + 2)) 2 (a + 2) ∧ cfQ Γ (cfl N (cps kd Γ (a + 1)) 2 (a + 2)) := ⟨CX_cfl c2 (Or.inl rfl), cfQ_of (cfP_trans cfP_cps cfP_cfl)⟩
    refine itR_stop (f := unf kd (a + 2)) (f' := 2) (w := a + 2) ?_ ?_ rfl haT
    · have xs' := xs
      obtain ⟨⟨n0, a1, b1⟩, d1⟩ := xs'
      rw [show F_X12_isSign 41 (stp τ (unf kd (a + 2)) (pl (a + 2))) = _ from x_isSign a1 41, Option.bind_some]
      exact Ok_pos J0_eq (Ok_bind (Ok_mono (xx_row hT xs (by omega)) (fun u hu => Ok_mono (df3_stop hT (B := B - 2) (by omega) (by omega) (xx_B hu.1 (by omega)) _) (fun v hv => ⟨xx_B hv.1 (by omega), hv.2⟩))))
    · refine Ok_ite (fun _ => dc3_stop hT cs _ 0) (fun _ => ?_)
      exact Ok_bind (Ok_mono (yy_names hT (Γ0 := cfl N (cps kd Γ (a + 1)) 2 (a + 2)) ⟨cs.1, cfP_rfl⟩) (fun v hv => dc3_stop hT (y_cfQ hv.1 cs.2) _ v.1))
  have haT2 := TKE_lt hT r2.2.2.2.2.2.2.1 (by omega) (by omega)
  refine Ok2_le (show F_X12_open 40 τ = _ from r_open_y hT r2 (c := 40) (by decide) q2 hdp) ?_
  rw [c2.2.2.1, if_pos (show J (kd (a + 1 + 1)) = 40 by rw [show kd (a + 1 + 1) = 40 from q2]; rfl), c_deepen hT c2 haT2, if_pos hdp]
  refine Ok2_rsome ?_
  have r3 := RN_psd (RN_opn (d := dp + 1) r2 (by omega)) haT2
  have c3 := CN_cps hT (CN_cop (d := dp + 1) c2 (by omega)) haT2
  refine Ok2_le (show F_X12_isSign 41 _ = _ from r_isSign hT r3 (c := 41) (by decide)) ?_
  dsimp only
  rw [c3.2.2.1]
  have f3 : rfP σ (psd (opn τ (dp + 1 : Nat)) (a + 2)) := rfP_trans f2 (rfP_trans rfP_opn rfP_psd)
  have g3 : cfP Γ (cps kd (cop (cps kd Γ (a + 1)) (dp + 1 : Nat)) (a + 1 + 1)) := cfP_trans cfP_cps (cfP_trans cfP_cop cfP_cps)
  have k3 : cXt ln 5000 Γ (cps kd (cop (cps kd Γ (a + 1)) (dp + 1 : Nat)) (a + 1 + 1)) := cXt_trans cXt_cps (cXt_trans cXt_cop cXt_cps (Nat.le_refl ln) (Nat.le_refl 5000)) (Nat.le_refl ln) (Nat.le_refl 5000)
  have y3 : rX nn σ (psd (opn τ (dp + 1 : Nat)) (a + 2)) := rX_trans x2 (rX_trans rX_opn rX_psd (Nat.le_refl nn)) (Nat.le_refl nn)
  have hkr3 := kdOk_rng (TKE_ok hT (show a + 3 ≤ T from haT2))
  by_cases q3 : kd (a + 3) = 41
  · rw [if_pos (show kd (a + 2 + 1) = 41 from q3), if_pos (show J (kd (a + 1 + 1 + 1)) = 41 by rw [show kd (a + 1 + 1 + 1) = 41 from q3]; rfl)]
    refine Ok2_lneg J1_ne ?_
    rw [show (-1 : Int32) = J (-1) from rfl, show (0 : Int32) = J ((0 : Nat) : Int) from rfl]
    exact def_fin hT (c := 0) (b := a + 4) (t1 := -1) hk q1 q2 hp hB hB9 hdp hnd r3 c3 y3 f3 k3 g3 hC w17 w18 w19 w22 wN (Or.inl ⟨rfl, rfl, rfl⟩)
  rw [if_neg (show ¬ kd (a + 2 + 1) = 41 from q3), if_neg (show ¬ J (kd (a + 3)) = 41 by rw [show (41 : Int32) = J 41 from rfl, J_eq (by omega) (by omega) (by omega) (by omega)]; exact q3)]
  refine Ok2_lpos J0_eq ?_
  refine Ok2_bind (Ok2_mono (sim_row hT (B := B - 9) r3 c3 (by unfold preS; omega)) ?_)
  rintro ⟨v1, ρ⟩ ⟨v2, Δ⟩ ⟨e1, hr⟩
  dsimp only at e1 hr ⊢
  subst e1
  rcases hr with ⟨c, t1, t2, t3, t4, t5, t6, t7, t8, t9, t10⟩ | ⟨f, f', w, i, z1, z2, z3, z4, -⟩
  rotate_left
  · exact itR_stop (Ok_mono (df3_stop hT (B := B - 9) (by omega) (by omega) (⟨z1.1, rfP_trans f3 z1.2⟩) _) (fun u hu => ⟨xx_B hu.1 (by omega), hu.2⟩)) (dc3_stop hT ⟨z2.1, cfQ_of (cfP_trans g3 z2.2)⟩ _ _) z3 z4
  subst t2
  have e3 : a + 2 + 1 + 2 * c - 1 = a + 3 + 2 * c - 1 := by omega
  rw [e3] at t3
  have e4 : a + 1 + 1 + 1 + 2 * c - 1 = a + 3 + 2 * c - 1 := by omega
  rw [e4] at t4
  exact def_fin hT (c := c) (b := a + 3 + 2 * c) (t1 := (nn + 2 : Nat)) hk q1 q2 hp hB hB9 hdp hnd t3 t4 (rX_trans y3 (rX_le t7 (by omega)) (Nat.le_refl nn)) (rfP_trans f3 t9) (cXt_trans k3 t8 (Nat.le_refl ln) (Nat.le_refl 5000)) (cfP_trans g3 t10) hC ((t7 17 (by omega) (by omega) nn (by omega)).trans w17) ((t7 18 (by omega) (by omega) nn (by omega)).trans w18) ((t7 19 (by omega) (by omega) nn (by omega)).trans w19) ((t7 22 (by omega) (by omega) nn (by omega)).trans w22) (NMN_rX wN t7 (by omega)) (Or.inr ⟨t1, rfl, rfl, t5⟩)
def EaR (p : Int32) (σ : MS) : MR := (F_X12_node 8 p σ).bind fun u_54 => Rt1 u_54.1 u_54.2
def Ec1 (A : Int32) (Γ : HS) : HR := (F_X0_openEach Γ).bind fun u_58 => bnd (mrg (fun j => j == 5) Γ u_58.2) fun σ_60 => Rt2 A σ_60
theorem sEach (hT : TKE T N kd vl rv pl) {B a dp ln nn nd no ne : Nat} {σ : MS} {Γ : HS} (hk : kd a = 237) (h1 : RN T kd vl rv pl σ (a + 1) dp nn) (h2 : CN T N kd vl pl Γ (a + 1) dp ln) (hp : preS T (B - 9) a dp ln nn) (hB : B ≤ 38000) (hB9 : 9 ≤ B) (hdp : dp < 30) (hne : ne ≤ 5000) (hC : CNT Γ nd no ne) : Ok2 (EaR (J (pl a : Nat)) σ) (Ec1 (J (a : Nat)) Γ) (ItR T N kd vl rv pl B σ Γ a dp ln nn nd no ne) := by
  have hp' := hp
  unfold preS at hp'
  have ha := h1.2.2.2.2.2.2.1
  unfold EaR Ec1
  refine Ok2_le (show F_X12_node 8 (J (pl a : Nat)) σ = _ from r_node h1.2.2.2.2.2.1 (by omega) 8 (pl a)) ?_
  have r1 := RN_nod h1 8 (pl a)
  refine Ok2_re (c_openEach hC hne) (Ok2_rbnd ?_)
  dsimp only
  rw [opR_mrg (fun _ _ => rfl)]
  have c4 := opR_CN (R := rtj 237 nd no ne) (k := 7) (n := (ne + 1 : Nat)) h2 (by omega)
  have hj := rtj_rng 237 nd no ne
  refine Ok2_mono (sRout hT (B := B - 4) (x := nn) (a := a) (m := nn + 1) r1 c4 (by unfold preS; omega) (by omega) (by omega) (by omega) (by omega) (cu := rtj 237 nd no ne) (by rw [opR_i, if_neg (by omega), if_pos rfl])) ?_
  intro u v huv
  refine (fun (h : ItR T N kd vl rv pl (B - 4) σ Γ a dp ln nn nd no ne u v) => ⟨h.1, h.2.imp id (fun ⟨f, f', w, y1, y2⟩ => ⟨f, f', w, xx_B y1 (by omega), y2⟩)⟩) ?_
  have e2 : (opR Γ (rtj 237 nd no ne) 7 (ne + 1 : Nat) 5).2.1 2 = g_put 320 ((Γ 5).2.1 2) (J (rtj 237 nd no ne)) (J (ln : Nat)) := by
    rw [opR_2, h2.2.2.2.2.2.1]
  refine rt_fin (k := 0) (by omega) (by omega) (by omega) (by omega) (τ := nod σ nn 8 (pl a)) (nod22 (σ := σ) (k := 8) (p := (pl a : Nat))) rX_nod opR_cXt rfP_nod opR_cfQ ⟨?_, ?_, ?_⟩ (opR_tbQ hj ?_) (by rw [hk]) e2 (fun u2 v2 a' m' ln' g1 g2 g3 g4 => ?_) huv
  · rw [if_neg (by omega)]; exact hC.1
  · rw [if_neg (by omega)]; exact hC.2.1
  · rw [if_pos hk]; rfl
  · rw [hk]; unfold rtj; split
    · exact Or.inr rfl
    · exact Or.inl rfl
  · refine Or.inr (Or.inr (Or.inr (Or.inr (Or.inr (Or.inr (Or.inr ⟨hk, ?_, ?_, g2, ?_, ?_⟩))))))
    · rw [g1 17 (by omega) (by omega) nn (by omega) (by omega)]; exact nod17 (σ := σ)
    · rw [g1 18 (by omega) (by omega) nn (by omega) (by omega)]; exact nod18 (σ := σ)
    · rw [hk] at g3
      rw [rti_e 0 0] ; rw [rti_e] at g3; exact g3
    · rw [g1 19 (by omega) (by omega) nn (by omega) (by omega)]; exact nod19 (σ := σ)
