/-! what is behind if -/
variable {T N : Nat} {kd vl rv : Nat → Int} {pl : Nat → Nat}
theorem IfX {B : Nat} {σ0 : MS} {Γ0 : HS} {a dp ln nn x : Nat} {f f' : Int} {w : Nat} {u : Int32 × MS} {v : Int32 × HS} (x1 : rXX T kd vl rv pl B σ0 f w u.2) (x2 : yXX N kd vl pl Γ0 f' w v.2) (x3 : f = fxO kd f' w) (x4 : w ≤ T) : IfR T N kd vl rv pl B σ0 Γ0 a dp ln nn x u v := Or.inr ⟨f, f', w, x1, x2, x3, x4⟩
theorem if_stop2 {B : Nat} {σ0 : MS} {Γ0 : HS} {a dp ln nn x : Nat} (hx : x < 39990) {f f' : Int} {w : Nat} {u : Int32 × MS} {v : HS} {K : Int32 × MS → MR} {L : Int32 × HS → HR} {z : Int} (z1 : -2 ≤ z) (z2 : z ≤ 40000) (x1 : rXX T kd vl rv pl B σ0 f w u.2) (x2 : yXX N kd vl pl Γ0 f' w v) (x3 : f = fxO kd f' w) (x4 : w ≤ T) : Ok2 (if J (x : Nat) < 0 ∨ 40000 ≤ x then none else bnd (mA u.2 20 (upd (u.2.2 20) x u.1)) fun σ_11 => (F_X12_tookKey 11 σ_11).bind fun u_13 => if u_13.1 = 0 then some ((0 : Int32), u_13.2) else K u_13) ((F_X2_accept 249 v).bind fun u_9 => if u_9.1 = 0 then ((F_X0_aim (J z) u_9.2).bind fun u_13 => bnd (mrg (fun j => j == 5) u_9.2 u_13.2) fun σ_15 => some ((0 : Int32), σ_15)) else L u_9) (IfR T N kd vl rv pl B σ0 Γ0 a dp ln nn x) := by
  have en := g_en (n := x) (by omega)
  rw [(ng (n := x) (by omega)).2] at en
  refine Ok2_lneg en (Ok2_lbnd ?_)
  obtain ⟨⟨n0, a1, b1⟩, d1⟩ := xx_mA (k := 20) (g := upd (u.2.2 20) x u.1) x1 (by omega)
  refine Ok2_le (x_tookKey a1 11) (Ok2_lpos J0_eq ?_)
  refine Ok2_re (show F_X2_accept 249 v = _ from y_accept x2.1 (c := 249) (by omega)) (Ok2_rpos J0_eq ?_)
  obtain ⟨xx, Θ, e3, e4, hΘ⟩ := yy_aim_e x2 z1 z2
  refine Ok2_re e3 (Ok2_rbnd (Ok2_some ?_))
  dsimp only
  rw [e4]
  exact IfX ⟨⟨n0, a1, b1⟩, d1⟩ hΘ x3 x4
theorem if_stop3 {B : Nat} {σ0 : MS} {Γ0 : HS} {a dp ln nn x : Nat} (hx : x < 39990) {f f' : Int} {w : Nat} {σ : MS} {V : Int32} {v : HS} {z : Int} (z1 : -2 ≤ z) (z2 : z ≤ 40000) (x1 : rXX T kd vl rv pl B σ0 f w σ) (x2 : yXX N kd vl pl Γ0 f' w v) (x3 : f = fxO kd f' w) (x4 : w ≤ T) : Ok2 (if J (x : Nat) < 0 ∨ 40000 ≤ x then none else bnd (mA σ 21 (upd (σ.2 21) x V)) fun σ_26 => some ((0 : Int32), σ_26)) ((F_X0_aim (J z) v).bind fun u_30 => bnd (mrg (fun j => j == 5) v u_30.2) fun σ_32 => some ((0 : Int32), σ_32)) (IfR T N kd vl rv pl B σ0 Γ0 a dp ln nn x) := by
  have en := g_en (n := x) (by omega)
  rw [(ng (n := x) (by omega)).2] at en
  refine Ok2_lneg en (Ok2_lbnd ?_)
  obtain ⟨xx, Θ, e3, e4, hΘ⟩ := yy_aim_e x2 z1 z2
  refine Ok2_re e3 (Ok2_rbnd (Ok2_some ?_))
  rw [e4]
  exact IfX (xx_mA x1 (by omega)) hΘ x3 x4
theorem sIff (hT : TKE T N kd vl rv pl) {dp : Nat} (hdp : dp ≤ 30) (hB : simB T N kd vl rv pl dp) (hF : dp < 30 → simF T N kd vl rv pl (dp + 1)) : simF T N kd vl rv pl dp := by
  intro B a ln nn x d1 d2 σ Γ h1 h2 hp hx v17 v21 hd1 hd2
  have hp' := hp
  unfold preS at hp'
  have ha := h1.2.2.2.2.2.2.1
  obtain ⟨d1, rfl⟩ : ∃ e, d1 = e + 1 := ⟨d1 - 1, by omega⟩
  obtain ⟨d2, rfl⟩ : ∃ e, d2 = e + 1 := ⟨d2 - 1, by omega⟩
  rw [q_gS_2, q_gB_2]
  have en := g_en (n := x) (by omega)
  have en2 := (ng (n := x) (by omega)).2
  unfold F_X12_iff F_X2_ifStatement
  rw [en2] at en
  rw [en2]
  refine Ok2_bind (Ok2_mono (sG_expr hT (B := B - 10) h1 h2 (by unfold preE; omega) hdp) ?_)
  rintro ⟨u1, u2⟩ ⟨v1, v2⟩ hr
  refine Ok2_lneg en (Ok2_lbnd ?_)
  dsimp only
  rcases hr with ⟨h', k, ln2, nn2, y, e1, e2, e3, e4, e5, e6, e7, e8, e9, e10, e11⟩ | hs
  rotate_left
  · obtain ⟨f, f', w', x1, x2, x3, x4, -⟩ := of_SRes hs
    have x1' := xx_mA (k := 19) (g := upd (u2.2 19) x u1) x1 (by omega)
    obtain ⟨z, Θ, f1, z1, z2, f2, hΘ⟩ := yy_add3_e x2 42 0
    refine Ok2_re f1 (Ok2_rbnd ?_)
    rw [f2]
    refine Ok2_bind (Ok2_sep (xx_block hT x1' (by omega) (by omega)) (yy_block hT hΘ (by omega)) (fun u v y1 y2 => ?_))
    exact if_stop2 (x := x) (by omega) z1 z2 (xx_B y1.1 (by omega)) y2 x3 x4
  dsimp only at e1 e2 e3 e4 e5 e8 e9 e10 e11
  subst e1
  have r := EXP_rng e5
  have ha' := e3.2.2.2.2.2.2.1
  refine Ok2_re (show F_X0_add_ 42 0 v2 = _ from c_add3 (o := 42) (v := 0) e4.2.2.2.2.2.1 (by omega) (by omega) (by omega)) (Ok2_rbnd ?_)
  rw [mrg5 oth5_ca3]
  have c1 : CN T N kd vl pl (ca3 v2 ln2 42 0) k dp (ln2 + 3) := CN_ca3 e4 (by omega)
  have r1 : RN T kd vl rv pl (mA u2 19 (upd (u2.2 19) x (J (y : Nat)))) k dp nn2 := RN_mA e3 (by omega) (by omega) (by omega)
  have g8 : rfP σ (mA u2 19 (upd (u2.2 19) x (J (y : Nat)))) := rfP_trans e10 (rfP_mA (by omega))
  have g9 : cfP Γ (ca3 v2 ln2 42 0) := cfP_trans e11 cfP_ca3
  have E1 : EX kd vl rv pl (mA u2 19 (upd (u2.2 19) x (J (y : Nat)))) (ca3 v2 ln2 42 0) nn nn2 y a k ln ln2 := EX_c3 (EX_mA (EX_of e5 (by omega)) (Or.inl rfl) (Or.inl (by omega))) (Nat.le_refl _)
  have I1 : rI x nn σ (mA u2 19 (upd (u2.2 19) x (J (y : Nat)))) := by
    intro j j1 j2 z hz hzx
    rw [mA_2]
    by_cases q : j = 19
    · rw [if_pos q, q, upd_s, if_neg (by omega)]; exact e8 19 (by omega) (by omega) z hz
    · rw [if_neg q]; exact e8 j j1 j2 z hz
  have w19 : (mA u2 19 (upd (u2.2 19) x (J (y : Nat)))).2 19 x = J y := by show upd _ _ _ _ = _; rw [upd_s, if_pos rfl]
  have w21 : (mA u2 19 (upd (u2.2 19) x (J (y : Nat)))).2 21 x = J (-1) := (e8 21 (by omega) (by omega) x (by omega)).trans v21
  revert r1 g8 E1 I1 w19 w21
  generalize mA u2 19 (upd (u2.2 19) x (J (y : Nat))) = κ
  intro r1 g8 E1 I1 w19 w21
  refine Ok2_bind (Ok2_mono (hB B k (ln2 + 3) nn2 d1 d2 _ _ r1 c1 (by unfold preS; omega) (by omega) (by omega)) ?_)
  rintro ⟨w1, w2⟩ ⟨z1, z2⟩ hr2
  rcases hr2 with ⟨hh, k2, r2, nn3, b, ⟨t1, th⟩, t2, t3, t4, t5, t6, t7, t8, t9, t10, t11⟩ | hs
  rotate_left
  · obtain ⟨f, f', w', x1, x2, x3, x4, -⟩ := of_SRes (SRes_mono hs g8 g9)
    exact if_stop2 (x := x) (by omega) (z := (ln2 + 1 : Nat)) (by omega) (by omega) x1 x2 x3 x4
  dsimp only at t1 t2 t3 t4 t5 t8 t9 t10 t11
  subst t1
  have rr := STX_rng t5
  have hk2 := t3.2.2.2.2.2.2.1
  refine Ok2_lneg en (Ok2_lbnd ?_)
  dsimp only
  have r2' : RN T kd vl rv pl (mA w2 20 (upd (w2.2 20) x (J (b : Nat)))) k2 dp nn3 := RN_mA t3 (by omega) (by omega) (by omega)
  have G8 : rfP σ (mA w2 20 (upd (w2.2 20) x (J (b : Nat)))) := rfP_trans g8 (rfP_trans t10 (rfP_mA (by omega)))
  have G9 : cfP Γ z2 := cfP_trans g9 t11
  have I2 : rI x nn σ (mA w2 20 (upd (w2.2 20) x (J (b : Nat)))) := by
    intro j j1 j2 z hz hzx
    rw [mA_2]
    by_cases q : j = 20
    · rw [if_pos q, q, upd_s, if_neg (by omega)]; exact (t8 20 (by omega) (by omega) z (by omega)).trans (I1 20 (by omega) (by omega) z hz (by omega))
    · rw [if_neg q]; exact (t8 j j1 j2 z (by omega)).trans (I1 j j1 j2 z hz hzx)
  have W19 : (mA w2 20 (upd (w2.2 20) x (J (b : Nat)))).2 19 x = J y := (t8 19 (by omega) (by omega) x (by omega)).trans w19
  have W20 : (mA w2 20 (upd (w2.2 20) x (J (b : Nat)))).2 20 x = J b := by show upd _ _ _ _ = _; rw [upd_s, if_pos rfl]
  have W21 : (mA w2 20 (upd (w2.2 20) x (J (b : Nat)))).2 21 x = J (-1) := (t8 21 (by omega) (by omega) x (by omega)).trans w21
  have W17 : (mA w2 20 (upd (w2.2 20) x (J (b : Nat)))).2 17 x = J 27 := (I2 17 (by omega) (by omega) x hx (Or.inr (Or.inl rfl))).trans v17
  have E2 : EX kd vl rv pl (mA w2 20 (upd (w2.2 20) x (J (b : Nat)))) z2 nn nn2 y a k ln ln2 := EX_mA (EX_ext E1 t8 t9 (Nat.le_refl _) (by omega) (Nat.le_refl _)) (Or.inr (Or.inl rfl)) (Or.inl (by omega))
  have S2 : STX kd vl rv pl (mA w2 20 (upd (w2.2 20) x (J (b : Nat)))) z2 hh 1 nn2 nn3 b k k2 (ln2 + 3) r2 := STX_ag _ _ _ _ _ _ _ _ _ (agN_mA19 (Or.inr (Or.inl rfl)) (Or.inl (by omega))) agC_rfl t5
  have C2 : cXt ln a Γ z2 := cXt_trans e9 (cXt_trans (cXt_ca3 (show ln ≤ ln2 by omega)) t9 (by omega) (by omega)) (Nat.le_refl ln) (Nat.le_refl a)
  have O2 : (z2 5).2.1 0 ln2 = J 42 := by rw [t9.1 ln2 (by omega)]; exact op3_ca3.1
  revert r2' G8 I2 W17 W19 W20 W21 E2 S2
  generalize mA w2 20 (upd (w2.2 20) x (J (b : Nat))) = μ
  intro r2' G8 I2 W19 W20 W21 W17 E2 S2
  by_cases q9 : kd k2 = 249
  rotate_left
  · -- no else
    refine Ok2_le (tk0 hT r2' (k := 11) (c := 49) (by omega) rfl (by omega)) (Ok2_lpos J0_eq ?_)
    refine Ok2_re (a := (J 0, z2)) (by rw [show F_X2_accept 249 z2 = _ from c_accept hT t4 (c := 249) (by omega), if_neg q9]) (Ok2_rpos J0_eq ?_)
    refine Ok2_re (show F_X0_aim (J (ln2 + 1 : Nat)) z2 = _ from c_aim t4.2.2.2.2.2.1 (by omega)) (Ok2_rbnd ?_)
    rw [mrg5 oth5_csp]
    refine Ok2_some (Or.inl ⟨hh + 1, k2, r2, nn3, ⟨r2', by unfold fuB at th; omega⟩, CN_csp t4, ?_, by omega, by omega, by omega, by omega, I2, cXt_trans C2 (cXt_csp (show ln ≤ ln2 + 1 by omega)) (Nat.le_refl ln) (Nat.le_refl a), G8, cfP_trans G9 cfP_csp⟩)
    refine ⟨Nat.le_refl _, by omega, by omega, by omega, Or.inr (Or.inr (Or.inl ⟨rfl, W17, y, b, k, k2, nn2, nn3, ln2, r2, r2, W19, W20, op3_csp O2, by omega, by omega, Nat.le_refl _, ⟨nn, hx, EX_sp E2 (Or.inl (by omega))⟩, ?_, Or.inl ⟨q9, rfl, rfl, rfl, W21⟩⟩))⟩
    exact STX_ag _ _ _ _ _ _ _ _ _ agN_rfl (agC_sp (Or.inr (by omega))) S2
  have hk2T := TKE_lt hT hk2 (by omega) (by omega)
  refine Ok2_le (tk1 hT r2' (k := 11) (c := 49) (by omega) rfl (by omega)) (Ok2_lneg J1_ne ?_)
  refine Ok2_re (a := (J 1, cps kd z2 k2)) (by rw [show F_X2_accept 249 z2 = _ from c_accept hT t4 (c := 249) (by omega), if_pos q9]) (Ok2_rneg J1_ne ?_)
  dsimp only
  have r3 := RN_psd r2' hk2T
  have c3 := CN_cps hT t4 hk2T
  refine Ok2_re (show F_X0_add_ 41 0 (cps kd z2 k2) = _ from c_add3 (o := 41) (v := 0) c3.2.2.2.2.2.1 (by omega) (by omega) (by omega)) (Ok2_rbnd ?_)
  rw [mrg5 oth5_ca3]
  have c4 : CN T N kd vl pl (ca3 (cps kd z2 k2) r2 41 0) (k2 + 1) dp (r2 + 3) := CN_ca3 c3 (by omega)
  refine Ok2_re (show F_X0_aim (J (ln2 + 1 : Nat)) (ca3 (cps kd z2 k2) r2 41 0) = _ from c_aim c4.2.2.2.2.2.1 (by omega)) (Ok2_rbnd ?_)
  rw [mrg5 oth5_csp]
  have c5 : CN T N kd vl pl (csp (ca3 (cps kd z2 k2) r2 41 0) (ln2 + 1) ((r2 + 3 : Nat) : Int)) (k2 + 1) dp (r2 + 3) := CN_csp c4
  have hC5 : cXt ln a Γ (csp (ca3 (cps kd z2 k2) r2 41 0) (ln2 + 1) ((r2 + 3 : Nat) : Int)) := cXt_trans C2 (cXt_trans cXt_cps (cXt_trans (cXt_ca3 (show ln ≤ r2 by omega)) (cXt_csp (show ln ≤ ln2 + 1 by omega)) (Nat.le_refl ln) (Nat.le_refl a)) (Nat.le_refl ln) (Nat.le_refl a)) (Nat.le_refl ln) (Nat.le_refl a)
  have hF5 : cfP Γ (csp (ca3 (cps kd z2 k2) r2 41 0) (ln2 + 1) ((r2 + 3 : Nat) : Int)) := cfP_trans G9 (cfP_trans cfP_cps (cfP_trans cfP_ca3 cfP_csp))
  have O5 : op3 (csp (ca3 (cps kd z2 k2) r2 41 0) (ln2 + 1) ((r2 + 3 : Nat) : Int)) ln2 42 (r2 + 3 : Nat) := op3_csp (by
    rw [(cXt_ca3 (a := 0) (show ln2 + 1 ≤ r2 by omega)).1 ln2 (by omega)]; exact O2)
  have P5 : ((csp (ca3 (cps kd z2 k2) r2 41 0) (ln2 + 1) ((r2 + 3 : Nat) : Int)) 5).2.1 0 r2 = J 41 := by
    rw [csp_n (by omega) (by omega)]; exact op3_ca3.1
  have E5 : EX kd vl rv pl (psd μ k2) (csp (ca3 (cps kd z2 k2) r2 41 0) (ln2 + 1) ((r2 + 3 : Nat) : Int)) nn nn2 y a k ln ln2 := EX_sp (EX_c3 (EX_ag (σ := μ) (Γ := z2) (fun _ _ _ => ⟨rfl, rfl, rfl, fun _ => rfl, fun _ _ _ _ => rfl, fun _ => rfl⟩) ⟨fun _ _ _ => rfl, fun _ _ _ => rfl⟩ E2) (by omega)) (Or.inl (by omega))
  have S5 : STX kd vl rv pl (psd μ k2) (csp (ca3 (cps kd z2 k2) r2 41 0) (ln2 + 1) ((r2 + 3 : Nat) : Int)) hh 1 nn2 nn3 b k k2 (ln2 + 3) r2 := STX_ag _ _ _ _ _ _ _ _ _ agN_rfl (agC_sp (Or.inr (by omega))) (STX_ag _ _ _ _ _ _ _ _ _ agN_rfl (agC_ca3 (Nat.le_refl r2)) (STX_ag (σ := μ) (Γ := z2) _ _ _ _ _ _ _ _ _ (fun _ _ _ => ⟨rfl, rfl, rfl, fun _ => rfl, fun _ _ _ _ => rfl, fun _ => rfl⟩) ⟨fun _ _ _ => rfl, fun _ _ _ => rfl⟩ S2))
  have F5 : rfP σ (psd μ k2) := rfP_trans G8 rfP_psd
  have I5 : rI x nn σ (psd μ k2) := I2
  have X17 : (psd μ k2).2 17 x = J 27 := W17
  have X19 : (psd μ k2).2 19 x = J y := W19
  have X20 : (psd μ k2).2 20 x = J b := W20
  clear E2 S2 W17 W19 W20 W21 I2 G8 r2' O2 c3 c4
  revert r3 c5 hC5 hF5 O5 P5 E5 S5 F5 I5 X17 X19 X20
  generalize csp (ca3 (cps kd z2 k2) r2 41 0) (ln2 + 1) ((r2 + 3 : Nat) : Int) = Ω
  generalize psd μ k2 = ν
  intro r3 c5 hC5 hF5 O5 P5 E5 S5 F5 I5 X17 X19 X20
  have hkr := kdOk_rng (TKE_ok hT (show k2 + 1 ≤ T by omega))
  rw [c5.2.2.1]
  -- what is read behind else, put in
  have fin : ∀ (h2 kk q n4 yb g : Nat) (τ : MS) (Ψ : HS), h2 ≤ 3 * (31 - dp) → RN T kd vl rv pl τ kk dp n4 → CN T N kd vl pl Ψ kk dp q → (kd (k2 + 1) = 248 ∧ τ.2 18 yb = J (pl (k2 + 1)) ∧ STX kd vl rv pl τ Ψ h2 4 nn3 n4 yb (k2 + 2) kk (r2 + 3) q ∨ kd (k2 + 1) ≠ 248 ∧ STX kd vl rv pl τ Ψ h2 1 nn3 n4 yb (k2 + 1) kk (r2 + 3) q) → nn3 ≤ n4 → n4 ≤ nn3 + 3 * (kk - (k2 + 1)) + 3 → q ≤ (r2 + 3) + 7 * (kk - (k2 + 1)) → r2 + 3 ≤ q → k2 + 1 < kk → q < 39900 → yb < 39990 → rX nn3 ν τ → cXt (r2 + 3) (k2 + 1) Ω Ψ → rfP ν τ → cfP Ω Ψ → Ok2 (if J (x : Nat) < 0 ∨ 40000 ≤ x then none else bnd (mA τ 21 (upd (τ.2 21) x (J (yb : Nat)))) fun σ_26 => some ((0 : Int32), σ_26)) ((F_X0_aim (J (r2 + 1 : Nat)) Ψ).bind fun u_30 => bnd (mrg (fun j => j == 5) Ψ u_30.2) fun σ_32 => some ((0 : Int32), σ_32)) (IfR T N kd vl rv pl B σ Γ a dp ln nn x) := by
    intro h2 kk q n4 yb g τ Ψ f0 f1 f2 f3 f4 f5 f6 f7 f8 f9 f10 f11 f12 f13 f14
    refine Ok2_lneg en (Ok2_lbnd ?_)
    refine Ok2_re (show F_X0_aim (J (r2 + 1 : Nat)) Ψ = _ from c_aim f2.2.2.2.2.2.1 (by omega)) (Ok2_rbnd ?_)
    rw [mrg5 oth5_csp]
    have A1 : ∀ lo hi z, x < lo → agN lo hi z τ (mA τ 21 (upd (τ.2 21) x (J (yb : Nat)))) := fun lo hi z hz => agN_mA19 (Or.inr (Or.inr rfl)) (Or.inl hz)
    refine Ok2_some (Or.inl ⟨max hh h2 + 1, kk, q, n4, ⟨RN_mA f1 (by omega) (by omega) (by omega), by unfold fuB at th; omega⟩, CN_csp f2, ?_, by omega, by omega, by omega, by omega, ?_, ?_, ?_, ?_⟩)
    · refine ⟨Nat.le_refl _, by omega, by omega, by omega, Or.inr (Or.inr (Or.inl ⟨rfl, ?_, y, b, k, k2, nn2, nn3, ln2, r2, r2 + 3, ?_, ?_, ?_, by omega, by omega, f4, ⟨nn, hx, ?_⟩, ?_, Or.inr ⟨q9, rfl, op3_csp ?_, yb, ?_, ?_⟩⟩))⟩
      · exact (f11 17 (by omega) (by omega) x (by omega)).trans X17
      · exact (f11 19 (by omega) (by omega) x (by omega)).trans X19
      · exact (f11 20 (by omega) (by omega) x (by omega)).trans X20
      · have o1 : op3 Ψ ln2 42 (r2 + 3 : Nat) := ⟨(f12.1 _ (by omega)).trans O5.1, (f12.1 _ (by omega)).trans O5.2.1, (f12.1 _ (by omega)).trans O5.2.2⟩
        exact op3_ag (i := 0) (j := 0) (p := ln2) (q := ln2 + 3) o1 (agC_sp (Or.inl (by omega))) (Nat.le_refl _) (by omega)
      · exact EX_ag (A1 _ _ _ hx) (agC_sp (Or.inl (by omega))) (EX_ext E5 f11 f12 (by omega) (by omega) (by omega))
      · refine STX_mono hh _ (by omega) _ _ _ _ _ _ _ _ (STX_ag _ _ _ _ _ _ _ _ _ (A1 _ _ _ (by omega)) (agC_sp (Or.inl (by omega))) ?_)
        refine STX_ag (σ := ν) (Γ := Ω) _ _ _ _ _ _ _ _ _ (fun z z1 z2 => ?_) ⟨fun r r1 r2 => f12.1 r (by omega), fun t _ t2 => f12.2 t (by omega)⟩ S5
        have e : ∀ j, 17 ≤ j → j ≤ 22 → τ.2 j z = ν.2 j z := fun j j1 j2 => f11 j j1 j2 z (by omega)
        exact ⟨e 17 (by omega) (by omega), e 18 (by omega) (by omega), e 19 (by omega) (by omega), fun _ => e 20 (by omega) (by omega), fun _ _ _ _ => e 21 (by omega) (by omega), fun _ => e 22 (by omega) (by omega)⟩
      · rw [f12.1 r2 (by omega)]; exact P5
      · show upd _ _ _ _ = _; rw [upd_s, if_pos rfl]
      · rcases f3 with ⟨s1, s2, s3⟩ | ⟨s1, s3⟩
        · exact Or.inl ⟨s1, s2, STX_mono h2 _ (by omega) _ _ _ _ _ _ _ _ (STX_ag _ _ _ _ _ _ _ _ _ (A1 _ _ _ (by omega)) (agC_sp (Or.inr (by omega))) s3)⟩
        · exact Or.inr ⟨s1, STX_mono h2 _ (by omega) _ _ _ _ _ _ _ _ (STX_ag _ _ _ _ _ _ _ _ _ (A1 _ _ _ (by omega)) (agC_sp (Or.inr (by omega))) s3)⟩
    · intro j j1 j2 z hz hzx
      rw [mA_2]
      by_cases qq : j = 21
      · rw [if_pos qq, qq, upd_s, if_neg (by omega)]; exact (f11 21 (by omega) (by omega) z (by omega)).trans (I5 21 (by omega) (by omega) z hz (by omega))
      · rw [if_neg qq]; exact (f11 j j1 j2 z (by omega)).trans (I5 j j1 j2 z hz hzx)
    · exact cXt_trans (cXt_trans hC5 f12 (by omega) (by omega)) (cXt_csp (show ln ≤ r2 + 1 by omega)) (Nat.le_refl ln) (Nat.le_refl a)
    · exact rfP_trans F5 (rfP_trans f13 (rfP_mA (by omega)))
    · exact cfP_trans hF5 (cfP_trans f14 cfP_csp)
  by_cases q8 : kd (k2 + 1) = 248
  rotate_left
  · -- else and a block
    refine Ok2_le (ik0 hT r3 (k := 17) (c := 48) (by omega) rfl (by omega)) (Ok2_lpos J0_eq (Ok2_rbnd (Ok2_rneg (by rw [show (248 : Int32) = J 248 from rfl, J_eq (by omega) (by omega) (by omega) (by omega)]; exact q8) ?_)))
    refine Ok2_bind (Ok2_mono (hB B (k2 + 1) (r2 + 3) nn3 d1 d2 _ _ r3 c5 (by unfold preS; omega) (by omega) (by omega)) ?_)
    rintro ⟨m1, m2⟩ ⟨n1, n2⟩ hr3
    rcases hr3 with ⟨h2, kk, q, n4, yb, ⟨s1, sh⟩, s2, s3, s4, s5, s6, s7, s8, s9, s10, s11⟩ | hs
    · dsimp only at s1 s2 s3 s4 s5 s8 s9 s10 s11
      subst s1
      have sr := STX_rng s5
      have := s3.2.2.2.2.2.2.1
      exact fin h2 kk q n4 yb 0 m2 n2 (by unfold fuB at sh; omega) s3 s4 (Or.inr ⟨q8, s5⟩) (by omega) (by omega) (by omega) (by omega) (by omega) (by omega) (by omega) s8 s9 s10 s11
    · obtain ⟨f, f', w', x1, x2, x3, x4, -⟩ := of_SRes (SRes_mono hs F5 hF5)
      exact if_stop3 (x := x) (by omega) (z := (r2 + 1 : Nat)) (by omega) (by omega) x1 x2 x3 x4
  -- else if
  have hk1T := TKE_lt hT (show k2 + 1 ≤ T by omega) (by omega) (by omega)
  refine Ok2_le (ik1 hT r3 (k := 17) (c := 48) (by omega) rfl (by omega)) (Ok2_lneg J1_ne (Ok2_lbnd (Ok2_lneg (rg hT r3).1 ?_)))
  refine Ok2_rbnd (Ok2_rpos (by rw [q8]; rfl) ?_)
  dsimp only
  rw [(rg hT r3).2, (RN_at hT r3).2.1]
  refine Ok2_le (show F_X12_node 27 (J (pl (k2 + 1) : Nat)) ν = _ from r_node r3.2.2.2.2.2.1 (by omega) 27 (pl (k2 + 1))) ?_
  have r4 := RN_nod r3 27 (pl (k2 + 1))
  refine Ok2_le (show F_X12_opens (nod ν nn3 27 (pl (k2 + 1))) = _ from r_opens hT r4) (Ok2_lbnd ?_)
  refine Ok2_re (c_deepen hT c5 hk1T) ?_
  dsimp only
  by_cases hd30 : dp = 30
  · rw [if_pos hd30, if_neg (by omega)]
    have y1 : RX T kd vl rv pl (opn (stp (nod ν nn3 27 (pl (k2 + 1))) 5 (pl (k2 + 1))) ((dp : Int) + 1)) 5 (pl (k2 + 1)) (nn3 + 1) := RX_opn (RX_stp r4)
    have y2 : CX N kd vl pl (cfl N (cop Ω (dp + 1 : Nat)) 5 (k2 + 1)) 5 (k2 + 1) := CX_cfl' c5 (Or.inr rfl)
    have y3 : RX T kd vl rv pl (mI (opn (stp (nod ν nn3 27 (pl (k2 + 1))) 5 (pl (k2 + 1))) ((dp : Int) + 1)) 25 (J (k2 + 1 + 1 : Nat))) 5 (pl (k2 + 1)) (nn3 + 1) := ⟨y1.1, y1.2.1, y1.2.2.1, y1.2.2.2.1, y1.2.2.2.2.1, k2 + 1 + 1, by omega, rfl⟩
    rw [show (opn (stp (nod ν nn3 27 (pl (k2 + 1))) 5 (pl (k2 + 1))) ((dp : Int) + 1)).1 25 = J (k2 + 1 : Nat) from r3.2.1, show J (k2 + 1 : Nat) + 1 = J (k2 + 1 + 1 : Nat) by rw [J_lit, J_add]; rfl]
    have z1 : rXX T kd vl rv pl (B - 6) σ 5 (k2 + 1) (mI (opn (stp (nod ν nn3 27 (pl (k2 + 1))) 5 (pl (k2 + 1))) ((dp : Int) + 1)) 25 (J (k2 + 1 + 1 : Nat))) := ⟨⟨nn3 + 1, y3, by omega⟩, rfP_trans F5 (rfP_trans rfP_nod (rfP_trans rfP_stp (rfP_trans rfP_opn (rfP_mI (by omega)))))⟩
    have z2 : yXX N kd vl pl Γ 5 (k2 + 1) (cfl N (cop Ω (dp + 1 : Nat)) 5 (k2 + 1)) := ⟨y2, cfP_trans hF5 (cfP_trans cfP_cop cfP_cfl)⟩
    refine Ok2_bind (Ok2_sep (xx_iff hT z1 (by omega) (by omega) (by omega)) (yy_if hT z2 (by omega)) (fun u v b1 b2 => Ok2_lbnd (Ok2_rbnd ?_)))
    have b1' : rXX T kd vl rv pl B σ 5 (k2 + 1) (mI u.2 26 (u.2.1 26 - 1)) := by
      obtain ⟨⟨n0, a1, a2⟩, a3⟩ := b1
      exact ⟨⟨n0, RX_opn a1, by omega⟩, rfP_trans a3 (rfP_mI (by omega))⟩
    exact if_stop3 (x := x) (by omega) (z := (r2 + 1 : Nat)) (by omega) (by omega) b1' ⟨CX_cop b2.1, cfP_trans b2.2 cfP_I2⟩ (by unfold fxO; rw [if_neg (by omega)]) (by omega)
  have hd30' : dp < 30 := by omega
  rw [if_neg hd30, if_pos hd30']
  have r5 : RN T kd vl rv pl (opn (nod ν nn3 27 (pl (k2 + 1))) (dp + 1 : Nat)) (k2 + 1) (dp + 1) (nn3 + 1) := RN_opn r4 (by omega)
  rw [show (opn (nod ν nn3 27 (pl (k2 + 1))) ((dp : Int) + 1)).1 25 = J (k2 + 1 : Nat) from r3.2.1, show J (k2 + 1 : Nat) + 1 = J (k2 + 1 + 1 : Nat) by rw [J_lit, J_add]; rfl]
  have r6 := RN_psd r5 hk1T
  have c6 := CN_cps hT (CN_cop (d := dp + 1) c5 (by omega)) hk1T
  refine Ok2_bind (Ok2_mono (hF hd30' (B - 10) (k2 + 1 + 1) (r2 + 3) (nn3 + 1) nn3 d1 d2 _ _ r6 c6 (by unfold preS; omega) (by omega) ?_ ?_ (by omega) (by omega)) ?_)
  · show upd _ _ _ _ = _; rw [upd_s, if_pos rfl]
  · show (nod ν nn3 27 (pl (k2 + 1))).2 21 nn3 = _
    rw [nod_A, if_neg (by omega), if_pos rfl, upd_s, if_pos rfl]
  rintro ⟨m1, m2⟩ ⟨n1, n2⟩ hr3
  refine Ok2_lbnd (Ok2_rbnd ?_)
  have f6 : rfP σ (psd (opn (nod ν nn3 27 (pl (k2 + 1))) (dp + 1 : Nat)) (k2 + 1)) := rfP_trans F5 (rfP_trans rfP_nod (rfP_trans rfP_opn rfP_psd))
  have f7 : cfP Γ (cps kd (cop Ω (dp + 1 : Nat)) (k2 + 1)) := cfP_trans hF5 (cfP_trans cfP_cop cfP_cps)
  rcases hr3 with ⟨h2, kk, q, n4, ⟨s3, sh⟩, s4, s5, s6, s7, s8, s9, s10, s11, s12, s13⟩ | ⟨f, f', w, x1, x2, x3, x4⟩
  · dsimp only at s3 s4 s5 s10 s11 s12 s13
    have sr := STX_rng s5
    have := s3.2.2.2.2.2.2.1
    have hnn : rX nn3 ν (psd (opn (nod ν nn3 27 (pl (k2 + 1))) (dp + 1 : Nat)) (k2 + 1)) := rX_trans rX_nod (rX_trans rX_opn rX_psd (Nat.le_refl nn3)) (Nat.le_refl nn3)
    dsimp only
    rw [s3.2.2.1, s4.2.2.2.1, show J ((dp + 1 : Nat) : Int) - 1 = J (dp : Nat) by rw [J_lit, J_sub]; exact congrArg J (by show ((dp + 1 : Nat) : Int) - 1 = _; omega)]
    refine fin (h2 + 2) kk q n4 nn3 0 (opn m2 dp) (cop n2 dp) (by omega) (RN_opn s3 (by omega)) (CN_cop s4 (by omega)) (Or.inl ⟨q8, ?_, ?_⟩) (by omega) (by omega) (by omega) (by omega) (by omega) (by omega) (by omega) ?_ ?_ ?_ ?_
    · refine (s10 18 (by omega) (by omega) nn3 (by omega) (by omega)).trans ?_
      exact nod18 (σ := ν) (k := 27)
    · exact STX_w4 (STX_ag (σ := m2) (Γ := n2) _ _ _ _ _ _ _ _ _ (fun _ _ _ => ⟨rfl, rfl, rfl, fun _ => rfl, fun _ _ _ _ => rfl, fun _ => rfl⟩) ⟨fun _ _ _ => rfl, fun _ _ _ => rfl⟩ s5)
    · intro j j1 j2 z hz
      exact (s10 j j1 j2 z (by omega) (by omega)).trans (hnn j j1 j2 z hz)
    · exact cXt_trans cXt_cop (cXt_trans (cXt_cps (kd := kd) (b := k2 + 1)) (cXt_trans s11 cXt_cop (Nat.le_refl _) (Nat.le_refl _)) (Nat.le_refl _) (Nat.le_succ _)) (Nat.le_refl _) (Nat.le_refl _)
    · exact rfP_trans rfP_nod (rfP_trans rfP_opn (rfP_trans rfP_psd (rfP_trans s12 rfP_opn)))
    · exact cfP_trans cfP_cop (cfP_trans cfP_cps (cfP_trans s13 cfP_cop))
  · have b1' : rXX T kd vl rv pl B σ f w (mI m2 26 (m2.1 26 - 1)) := by
      obtain ⟨⟨n0, a1, a2⟩, a3⟩ := x1
      exact ⟨⟨n0, RX_opn a1, by omega⟩, rfP_trans f6 (rfP_trans a3 (rfP_mI (by omega)))⟩
    exact if_stop3 (x := x) (by omega) (z := (r2 + 1 : Nat)) (by omega) (by omega) b1' ⟨CX_cop x2.1, cfP_trans f7 (cfP_trans x2.2 cfP_I2)⟩ x3 x4
