/-! and, or: an expression -/
variable {T N : Nat} {kd vl rv : Nat → Int} {pl : Nat → Nat}
theorem log_ok (hT : TKE T N kd vl rv pl) {B a dp ln nn ri ci lvl d1 d2 : Nat} {σ τ : MS} {Γ Δ : HS} (hI : simE T N kd vl rv pl ri ci lvl dp) (hp : preE T B a dp ln nn (lvl + 1)) (hd1 : 9 * (31 - dp) + lvl ≤ d1) (hd2 : 9 * (31 - dp) + lvl ≤ d2) {h ac ln' nn' x n : Nat} {w o : Int} {O : Int32} (hO : O = J o) (hwo : 0 ≤ o ∧ o < 128) (p4 : n ≤ ac - a) (p5 : τ.2 22 x = J (-1)) (p6 : RN T kd vl rv pl τ ac dp nn') (p7 : CN T N kd vl pl Δ ac dp ln') (p8 : EXP kd vl rv pl τ Δ h nn nn' x a ac ln ln') (p9 : nn' ≤ nn + 3 * (ac - a) ∧ h ≤ 84000 * (31 - dp) + 10000 * min 3 (lvl + 1 - 2) + 2000 * (lvl + 1 - 6) + (ac - a)) (hlvl : 6 ≤ lvl) (p10 : ln' ≤ ln + 4 * (ac - a)) (p11 : rX nn σ τ) (p12 : cXt ln a Γ Δ) (p13 : rfP σ τ) (p14 : cfP Γ Δ) (hb : lTb (kd ac) w o) (hac : ac < T) (W P : Int32) (hW : W = J w) (hP : P = J (pl ac)) {Q : Int32 × MS → Int32 × HS → Prop} {f : Int32 × MS → MR} {g : HS → HR} (hgo : ∀ (u : Int32 × MS) (v : HS) (k : Nat), k < T + 2 - ac → LPn T N kd vl rv pl B σ Γ a dp ln nn (lvl + 1) u (J (n + 1 : Nat), v) k → Ok2 (f u) (g v) Q) : Ok2 ((gE d1 ri 0 0 0 (psd τ ac)).bind fun u_20 => (F_X12_two W P (J (x : Nat)) u_20.1 0 u_20.2).bind fun u_22 => f (u_22.1, u_22.2)) ((F_X0_add_ O 0 (cps kd Δ ac)).bind fun u_15 => bnd (mrg (fun j => j == 5) (cps kd Δ ac) u_15.2) fun σ_17 => (gG d2 ci 0 0 0 σ_17).bind fun u_19 => (F_X0_add 7 u_19.2).bind fun u_21 => bnd (mrg (fun j => j == 5) u_19.2 u_21.2) fun σ_23 => (F_X0_aim u_15.1 σ_23).bind fun u_25 => bnd (mrg (fun j => j == 5) σ_23 u_25.2) fun σ_27 => g σ_27) Q := by
  obtain ⟨n1, n2, n3, n4⟩ := TKE_N hT
  unfold preE at hp
  have hr8 := EXP_rng p8
  have c1 := CN_cps hT p7 hac
  rw [hO, show (0 : Int32) = J 0 from rfl, c_add3 c1.2.2.2.2.2.1 (by omega) (by omega) (by omega)]
  refine Ok2_rsome (Ok2_rbnd ?_)
  rw [mrg5 oth5_ca3]
  have c2 : CN T N kd vl pl (ca3 (cps kd Δ ac) ln' o 0) (ac + 1) dp (ln' + 3) := CN_ca3 c1 (by omega)
  refine Ok2_bind (Ok2_mono (hI (B - 1) (ac + 1) (ln' + 3) nn' d1 d2 (psd τ ac) (ca3 (cps kd Δ ac) ln' o 0) (RN_psd p6 hac) c2 (by unfold preE; omega) hd1 hd2) ?_)
  rintro u v hres
  rcases hres with ⟨h', a', ln2, nn2, y, e1, e2, e3, e4, e5, e6, e7, e8, e9, e10, e11⟩ | ⟨ff, f', w', nn2, a1, a2, a3, a4, a5, a6, a7, z, a8, a9, a10⟩
  · have hr5 := EXP_rng e5
    have ha' := e3.2.2.2.2.2.2.1
    rw [two_eq e3.2.2.2.2.2.1 (by omega) W P _ _ (J 0) w (pl ac) x y 0 hW hP rfl e1 rfl, show (7 : Int32) = J 7 from rfl, c_add1 e4.2.2.2.2.2.1 (by omega) (by omega) (by omega)]
    refine Ok2_lsome (Ok2_rsome (Ok2_rbnd ?_))
    rw [mrg5 oth5_ca1]
    have c3 := CN_ca1 (o := 7) e4 (by omega)
    dsimp only
    rw [c_aim c3.2.2.2.2.2.1 (by omega)]
    refine Ok2_rsome (Ok2_rbnd ?_)
    rw [mrg5 oth5_csp]
    have g22 : (nd2 u.2 nn2 w (pl ac) x y 0).2 22 nn2 = J (-1) := nd2_22
    have gRN : RN T kd vl rv pl (nd2 u.2 nn2 w (pl ac) x y 0) a' dp (nn2 + 1) := RN_nd2 e3
    have gCN : CN T N kd vl pl (csp (ca1 v.2 ln2 7) (ln' + 1) ((ln2 + 1 : Nat) : Int)) a' dp (ln2 + 1) := CN_5 c3 oth5_csp c3.2.2.2.2.2.1 (by omega)
    have gE : EXP kd vl rv pl (nd2 u.2 nn2 w (pl ac) x y 0) (csp (ca1 v.2 ln2 7) (ln' + 1) ((ln2 + 1 : Nat) : Int)) (max h (h' + 2000) + 1) nn (nn2 + 1) nn2 a a' ln (ln2 + 1) := log_step p8 e5 (rX_trans rX_psd e8 (Nat.le_refl nn')) e9 hb
    refine hgo _ _ (T + 2 - a') (by omega) (Or.inl ⟨max h (h' + 2000) + 1, a', ln2 + 1, nn2 + 1, nn2, n + 1, rfl, rfl, Nat.le_refl _, by omega, g22, gRN, gCN, gE, by omega, by omega, ?_, ?_, ?_, ?_⟩)
    · exact rX_trans p11 (rX_trans rX_psd (rX_trans (rX_le e8 (by omega)) (rX_nd2 (by omega)) (Nat.le_refl nn)) (Nat.le_refl nn)) (Nat.le_refl nn)
    · have q1 : cXt ln' ac Δ (ca3 (cps kd Δ ac) ln' o 0) := cXt_trans cXt_cps (cXt_ca3 (Nat.le_refl ln')) (Nat.le_refl ln') (Nat.le_refl ac)
      have q2 : cXt (ln' + 3) (ac + 1) v.2 (ca1 v.2 ln2 7) := cXt_ca1 (by omega)
      have q3 : cXt (ln' + 1) (ac + 1) (ca1 v.2 ln2 7) (csp (ca1 v.2 ln2 7) (ln' + 1) ((ln2 + 1 : Nat) : Int)) := ⟨fun r hr => csp_n (by omega) (by omega), fun _ _ => rfl⟩
      have q4 : cXt ln' ac (ca3 (cps kd Δ ac) ln' o 0) (csp (ca1 v.2 ln2 7) (ln' + 1) ((ln2 + 1 : Nat) : Int)) := ⟨fun r hr => by rw [q3.1 r (by omega), q2.1 r (by omega), e9.1 r (by omega)], fun t ht => by rw [q3.2 t (by omega), q2.2 t (by omega), e9.2 t (by omega)]⟩
      exact cXt_trans p12 (cXt_trans q1 q4 (Nat.le_refl ln') (Nat.le_refl ac)) (by omega) (by omega)
    · exact rfP_trans p13 (rfP_trans rfP_psd (rfP_trans e10 rfP_nd2))
    · exact cfP_trans p14 (cfP_trans (cfP_trans cfP_cps cfP_ca3) (cfP_trans e11 (cfP_trans cfP_ca1 (cfP_5 oth5_csp))))
  · rw [two_eq a1.2.2.2.2.1 (by omega) W P _ _ (J 0) w (pl ac) x z 0 hW hP rfl a8 rfl]
    refine Ok2_lsome ?_
    obtain ⟨r, hr1, hr2⟩ := y_add 7 (CX_len a2)
    rw [hr1]
    refine Ok2_rsome (Ok2_rbnd ?_)
    rw [mrg5 hr2.1]
    have x2 := CX_5 a2 hr2.1 hr2.2
    dsimp only
    obtain ⟨r2, hs1, hs2⟩ := y_aim (Γ := r.2) (z := ((ln' + 1 : Nat) : Int)) (by omega) (by omega)
    rw [hs1]
    refine Ok2_rsome (Ok2_rbnd ?_)
    rw [mrg5 hs2.1]
    obtain ⟨l, l1, l2⟩ := CX_len x2
    exact hgo _ _ 0 (by omega) (Or.inr ⟨ff, f', w', nn2 + 1, RX_nd2 a1, CX_5 x2 hs2.1 ⟨l, l1, by rw [hs2.2]; exact l2⟩, a3, a4, by omega, rfP_trans p13 (rfP_trans rfP_psd (rfP_trans a6 rfP_nd2)), cfP_trans p14 (cfP_trans (cfP_trans cfP_cps cfP_ca3) (cfP_trans a7 (cfP_trans (cfP_5 hr2.1) (cfP_5 hs2.1)))), nn2, rfl, by omega, by omega⟩)
theorem sBoth (hT : TKE T N kd vl rv pl) {dp : Nat} (hI : simE T N kd vl rv pl 2 2 6 dp) (hdp : dp ≤ 30) : simE T N kd vl rv pl 1 1 7 dp := by
  intro B a ln nn d1 d2 σ Γ h1 h2 hp hd1 hd2
  obtain ⟨n1, n2, n3, n4⟩ := TKE_N hT
  obtain ⟨d1, rfl⟩ : ∃ e, d1 = e + 1 := ⟨d1 - 1, by omega⟩
  obtain ⟨d2, rfl⟩ : ∃ e, d2 = e + 1 := ⟨d2 - 1, by omega⟩
  rw [q_gE_1, q_gG_1]
  unfold F_X12_both F_X2_both
  have hB : B ≤ 38000 := by unfold preE at hp; omega
  refine Ok2_bind (Ok2_mono (hI (B - 1) a ln nn d1 d2 σ Γ h1 h2 (by unfold preE at hp ⊢; omega) (by omega) (by omega)) ?_)
  rintro u v hr
  have hr' : ERes T N kd vl rv pl B σ Γ a dp ln nn 7 u v := ERes_B hr (by omega) (by omega)
  refine Ok2_loop (P := LPn T N kd vl rv pl B σ Γ a dp ln nn 7) ?_ FU FU _ _ (T + 2) (FU_gt (by omega)) (FU_gt (by omega)) (LPn_of hr')
  rintro b1 b2 ⟨s1, s2⟩ ⟨t1, t2⟩ k hP ih
  have hdone := LPn_done (y := 0) hP
  rcases hP with ⟨h, ac, ln', nn', x, n, p1, p2, p3, p4, p5, p6, p7, p8, p9, p10, p11, p12, p13, p14⟩ | ⟨ff, f', w', nn2, a1, a2, -⟩
  · dsimp only at p1 p2 p5 p6 p7 p8 p11 p12 p13 p14
    subst p1 p2
    have hac := p6.2.2.2.2.2.2.1
    obtain ⟨k1, k2, k3⟩ := RN_at hT p6
    have hr8 := EXP_rng p8
    refine Ok2_rneg (CN_lt hT p7 (by omega)) ?_
    dsimp only
    rw [show F_X12_isKey 2 s2 = some (J (if kd ac = 200 + (16 : Nat) then 1 else 0), s2) from r_isKey hT p6 (k := 2) (c := 16) (by omega) rfl, show F_X2_accept 216 t2 = some (if kd ac = 216 then (J 1, cps kd t2 ac) else (J 0, t2)) from c_accept hT p7 (c := 216) (by omega)]
    refine Ok2_lsome (Ok2_rsome ?_)
    by_cases q : kd ac = 216
    · rw [if_pos (show kd ac = 200 + ((16 : Nat) : Int) by omega), if_pos q]
      have hacT := TKE_lt hT hac (by omega) (by omega)
      refine Ok2_lneg J1_ne (Ok2_rneg J1_ne (Ok2_lbnd (Ok2_lbnd (Ok2_lneg (rg hT p6).1 (Ok2_lbnd ?_)))))
      rw [(rg hT p6).2, p6.2.1, show J (ac : Nat) + 1 = J (ac + 1 : Nat) by rw [J_lit, J_add]; rfl]
      exact log_ok hT hI hp (by omega) (by omega) (o := 43) (w := 54) rfl (by omega) p4 p5 p6 p7 p8 p9 (by omega) p10 p11 p12 p13 p14 (by unfold lTb; rw [q]; decide) hacT 54 _ rfl k2 (f := b1) (g := fun σ_25 => bnd (J (n : Nat) + 1) fun (x_27 : Int32) => b2 (x_27, σ_25)) (fun u v k' hk' hL => by
        refine Ok2_rbnd ?_
        rw [show J (n : Nat) + 1 = J (n + 1 : Nat) by rw [J_lit, J_add]; rfl]
        exact ih _ _ k' (by omega) hL)
    · rw [if_neg (show ¬ kd ac = 200 + ((16 : Nat) : Int) by omega), if_neg q]
      exact Ok2_lpos J0_eq (Ok2_rpos J0_eq (Ok2_some hdone))
  · dsimp only at a1 a2
    dsimp only
    rw [x_isKey a1]
    refine Ok2_lsome (Ok2_lpos J0_eq ?_)
    by_cases qq : (t2 1).1 2 ≤ t1
    · exact Ok2_rpos qq (Ok2_some hdone)
    · refine Ok2_rneg qq ?_
      rw [show (216 : Int32) = J 216 from rfl, y_accept a2 (by omega)]
      exact Ok2_rsome (Ok2_rpos J0_eq (Ok2_some hdone))
theorem sExpr (hT : TKE T N kd vl rv pl) {dp : Nat} (hI : simE T N kd vl rv pl 1 1 7 dp) (hdp : dp ≤ 30) : simE T N kd vl rv pl 0 0 8 dp := by
  intro B a ln nn d1 d2 σ Γ h1 h2 hp hd1 hd2
  obtain ⟨n1, n2, n3, n4⟩ := TKE_N hT
  obtain ⟨d1, rfl⟩ : ∃ e, d1 = e + 1 := ⟨d1 - 1, by omega⟩
  obtain ⟨d2, rfl⟩ : ∃ e, d2 = e + 1 := ⟨d2 - 1, by omega⟩
  rw [q_gE_0, q_gG_0]
  unfold F_X12_expression F_X2_expression
  have hB : B ≤ 38000 := by unfold preE at hp; omega
  refine Ok2_bind (Ok2_mono (hI (B - 1) a ln nn d1 d2 σ Γ h1 h2 (by unfold preE at hp ⊢; omega) (by omega) (by omega)) ?_)
  rintro u v hr
  have hr' : ERes T N kd vl rv pl B σ Γ a dp ln nn 8 u v := ERes_B hr (by omega) (by omega)
  refine Ok2_loop (P := LPn T N kd vl rv pl B σ Γ a dp ln nn 8) ?_ FU FU _ _ (T + 2) (FU_gt (by omega)) (FU_gt (by omega)) (LPn_of hr')
  rintro b1 b2 ⟨s1, s2⟩ ⟨t1, t2⟩ k hP ih
  have hdone := LPn_done (y := 0) hP
  rcases hP with ⟨h, ac, ln', nn', x, n, p1, p2, p3, p4, p5, p6, p7, p8, p9, p10, p11, p12, p13, p14⟩ | ⟨ff, f', w', nn2, a1, a2, -⟩
  · dsimp only at p1 p2 p5 p6 p7 p8 p11 p12 p13 p14
    subst p1 p2
    have hac := p6.2.2.2.2.2.2.1
    obtain ⟨k1, k2, k3⟩ := RN_at hT p6
    have hr8 := EXP_rng p8
    refine Ok2_rneg (CN_lt hT p7 (by omega)) ?_
    dsimp only
    rw [show F_X12_isKey 29 s2 = some (J (if kd ac = 200 + (17 : Nat) then 1 else 0), s2) from r_isKey hT p6 (k := 29) (c := 17) (by omega) rfl, show F_X2_accept 217 t2 = some (if kd ac = 217 then (J 1, cps kd t2 ac) else (J 0, t2)) from c_accept hT p7 (c := 217) (by omega)]
    refine Ok2_lsome (Ok2_rsome ?_)
    by_cases q : kd ac = 217
    · rw [if_pos (show kd ac = 200 + ((17 : Nat) : Int) by omega), if_pos q]
      have hacT := TKE_lt hT hac (by omega) (by omega)
      refine Ok2_lneg J1_ne (Ok2_rneg J1_ne (Ok2_lbnd (Ok2_lbnd (Ok2_lneg (rg hT p6).1 (Ok2_lbnd ?_)))))
      rw [(rg hT p6).2, p6.2.1, show J (ac : Nat) + 1 = J (ac + 1 : Nat) by rw [J_lit, J_add]; rfl]
      exact log_ok hT hI hp (by omega) (by omega) (o := 44) (w := 55) rfl (by omega) p4 p5 p6 p7 p8 p9 (by omega) p10 p11 p12 p13 p14 (by unfold lTb; rw [q]; decide) hacT 55 _ rfl k2 (f := b1) (g := fun σ_25 => bnd (J (n : Nat) + 1) fun (x_27 : Int32) => b2 (x_27, σ_25)) (fun u v k' hk' hL => by
        refine Ok2_rbnd ?_
        rw [show J (n : Nat) + 1 = J (n + 1 : Nat) by rw [J_lit, J_add]; rfl]
        exact ih _ _ k' (by omega) hL)
    · rw [if_neg (show ¬ kd ac = 200 + ((17 : Nat) : Int) by omega), if_neg q]
      exact Ok2_lpos J0_eq (Ok2_rpos J0_eq (Ok2_some hdone))
  · dsimp only at a1 a2
    dsimp only
    rw [x_isKey a1]
    refine Ok2_lsome (Ok2_lpos J0_eq ?_)
    by_cases qq : (t2 1).1 2 ≤ t1
    · exact Ok2_rpos qq (Ok2_some hdone)
    · refine Ok2_rneg qq ?_
      rw [show (217 : Int32) = J 217 from rfl, y_accept a2 (by omega)]
      exact Ok2_rsome (Ok2_rpos J0_eq (Ok2_some hdone))
/-- both read every expression alike -/
theorem simAll (hT : TKE T N kd vl rv pl) : ∀ m dp : Nat, dp + m = 30 → simE T N kd vl rv pl 0 0 8 dp ∧ simE T N kd vl rv pl 7 6 1 dp ∧ simE T N kd vl rv pl 6 5 2 dp ∧ simE T N kd vl rv pl 2 2 6 dp := by
  intro m
  induction m with
  | zero =>
    intro dp hdp
    have hP := sPrim hT (dp := dp) (fun h => by omega) (fun h => by omega) (by omega)
    have hF := sFactor hT (dp := dp) (fun h => by omega) hP (by omega)
    have hS := sStep hT (dp := dp) (fun h => by omega) (sSum hT (sTerm hT hF (by omega)) (by omega)) (by omega)
    exact ⟨sExpr hT (sBoth hT hS (by omega)) (by omega), hP, hF, hS⟩
  | succ m ih =>
    intro dp hdp
    obtain ⟨i1, i2, i3, i4⟩ := ih (dp + 1) (by omega)
    have hP := sPrim hT (dp := dp) (fun _ => i1) (fun _ => i2) (by omega)
    have hF := sFactor hT (dp := dp) (fun _ => i3) hP (by omega)
    have hS := sStep hT (dp := dp) (fun _ => i4) (sSum hT (sTerm hT hF (by omega)) (by omega)) (by omega)
    exact ⟨sExpr hT (sBoth hT hS (by omega)) (by omega), hP, hF, hS⟩
theorem sim_expr (hT : TKE T N kd vl rv pl) {dp : Nat} (hdp : dp ≤ 30) : simE T N kd vl rv pl 0 0 8 dp := (simAll hT (30 - dp) dp (by omega)).1
theorem sim_prim (hT : TKE T N kd vl rv pl) {dp : Nat} (hdp : dp ≤ 30) : simE T N kd vl rv pl 7 6 1 dp := (simAll hT (30 - dp) dp (by omega)).2.1
