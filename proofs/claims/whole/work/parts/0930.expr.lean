/-! from a factor to an expression -/
variable {T N : Nat} {kd vl rv : Nat → Int} {pl : Nat → Nat}
theorem un_step {u : MS} {v : HS} {h' nn nn2 y a a' ln ln2 : Nat} {w o p z1 z2 : Int} (e : EXP kd vl rv pl u v h' nn nn2 y (a + 1) a' ln ln2) (hb : uTb (kd a) w o) : EXP kd vl rv pl (nd2 u nn2 w p y z1 z2) (ca1 v ln2 o) (h' + 2000) nn (nn2 + 1) nn2 a a' ln (ln2 + 1) := by
  have r := EXP_rng e
  unfold EXP
  refine ⟨by omega, by omega, by omega, by omega, by omega, Or.inr (Or.inr (Or.inr (Or.inr (Or.inr (Or.inr (Or.inr (Or.inl ⟨h', by omega, w, o, y, ln2, nn, nn2, hb, rfl, nd2_17, nd2_19, op1_ca1, Nat.le_refl _, by omega, by omega, ?_⟩)))))))⟩
  exact EXP_c1 (EXP_nd2 e (Nat.le_refl _)) (Nat.le_refl _)
theorem two_eq {σ : MS} {n : Nat} (h : σ.1 23 = J n) (hn : n < 40000) (K P X Y Z : Int32) (k p x y z : Int) (hk : K = J k) (hp : P = J p) (hx : X = J x) (hy : Y = J y) (hz : Z = J z) : F_X12_two K P X Y Z σ = some (J n, nd2 σ n k p x y z) := by
  rw [hk, hp, hx, hy, hz]; exact r_two h hn k p x y z
/-- a sign or key that opens, and what is behind it -/
theorem sOpn (hT : TKE T N kd vl rv pl) {dp : Nat} {ri ci lvl : Nat} {k w o : Int} (K : Int32) (hK : K = J w) (O : Int32) (hO : O = J o) (hk : k = 45 ∧ ri = 6 ∧ ci = 5 ∧ lvl = 2 ∨ k = 218 ∧ ri = 2 ∧ ci = 2 ∧ lvl = 6) (hu : uTb k w o) (hwo : 0 ≤ o ∧ o < 128) (hI : dp < 30 → simE T N kd vl rv pl ri ci lvl (dp + 1)) (hdp : dp ≤ 30) {B a ln nn d1 d2 : Nat} {σ : MS} {Γ : HS} (h1 : RN T kd vl rv pl σ a dp nn) (h2 : CN T N kd vl pl Γ a dp ln) (hka : kd a = k) (hp : preE T B a dp ln nn lvl) (hd1 : 9 * (31 - dp) ≤ d1) (hd2 : 9 * (31 - dp) ≤ d2) : Ok2 (bnd (σ.1 25) fun (x_8 : Int32) => if x_8 < 0 ∨ 16010 ≤ x_8.toNatClampNeg then none else bnd (σ.2 8 x_8.toNatClampNeg) fun (x_12 : Int32) => (F_X12_opens σ).bind fun u_14 => bnd (mI u_14.2 25 ((u_14.2.1 25) + 1)) fun σ_16 => (gE d1 ri 0 0 0 σ_16).bind fun u_18 => (F_X12_two K x_12 u_18.1 (-1) 0 u_18.2).bind fun u_20 => bnd (mI u_20.2 26 ((u_20.2.1 26) - 1)) fun σ_22 => some (u_20.1, σ_22)) ((F_X2_deepen Γ).bind fun u_3 => (gG d2 ci 0 0 0 u_3.2).bind fun u_5 => bnd (cI' u_5.2 2 4 (((u_5.2 2).1 4) - 1)) fun σ_7 => (F_X0_add O σ_7).bind fun u_9 => bnd (mrg (fun j => j == 5) σ_7 u_9.2) fun σ_11 => some ((0 : Int32), σ_11)) (ERes T N kd vl rv pl B σ Γ a dp ln nn lvl) := by
  obtain ⟨n1, n2, n3, n4⟩ := TKE_N hT
  have ha := h1.2.2.2.2.2.2.1
  have haT := TKE_lt hT ha (by omega) (by omega)
  unfold preE at hp
  refine Ok2_lbnd (Ok2_lneg (rg hT h1).1 (Ok2_lbnd ?_))
  rw [(rg hT h1).2, (RN_at hT h1).2.1, r_opens hT h1, c_deepen hT h2 haT]
  refine Ok2_lsome (Ok2_lbnd (Ok2_rsome ?_))
  have hstop : ∀ (u : Int32 × MS) (v : Int32 × HS), SRes T N kd vl rv pl (B - 1) σ Γ u v → Ok2 ((F_X12_two K (J (pl a : Int)) u.1 (-1) 0 u.2).bind fun u_20 => bnd (mI u_20.2 26 ((u_20.2.1 26) - 1)) fun σ_22 => some (u_20.1, σ_22)) (bnd (cI' v.2 2 4 (((v.2 2).1 4) - 1)) fun σ_7 => (F_X0_add O σ_7).bind fun u_9 => bnd (mrg (fun j => j == 5) σ_7 u_9.2) fun σ_11 => some ((0 : Int32), σ_11)) (ERes T N kd vl rv pl B σ Γ a dp ln nn lvl) := by
    rintro u v ⟨f, f', w', nn', a1, a2, a3, a4, a5, a6, a7, x, a8, a9, a10⟩
    rw [two_eq a1.2.2.2.2.1 (by omega) K _ _ (-1) 0 w (pl a) x (-1) 0 hK rfl a8 rfl rfl]
    refine Ok2_mono (Ok2_sep (Q := fun u' => RX T kd vl rv pl u'.2 f (pl w') (nn' + 1) ∧ rfP σ u'.2 ∧ u'.1 = J (nn' : Nat)) (R := fun v' => CX N kd vl pl v'.2 f' w' ∧ cfP Γ v'.2) ?_ ?_ (fun u' v' b c => (⟨b, c⟩ : _ ∧ _))) ?_
    · exact Ok_bind (Ok_some (Ok_bnd (Ok_some ⟨RX_opn (RX_nd2 a1), rfP_trans a6 (rfP_trans rfP_nd2 (rfP_mI (by omega))), rfl⟩)))
    · refine Ok_bnd ?_
      exact y_add' (CX_cop a2) O (g := fun σ_62 => some ((0 : Int32), σ_62)) (fun Θ hΘ hc2 => Ok_some ⟨hΘ, cfP_trans a7 (cfP_trans cfP_I2 hc2)⟩)
    · rintro u' v' ⟨⟨b1, b2, b3⟩, b4, b5⟩
      exact Or.inr ⟨f, f', w', nn' + 1, b1, b4, a3, a4, by omega, b2, b5, nn', b3, by omega, by omega⟩
  by_cases hd30 : dp = 30
  · rw [if_pos hd30, if_neg (by omega)]
    dsimp only
    have y0 : RX T kd vl rv pl (opn (stp σ 5 (pl a)) (dp + 1)) 5 (pl a) nn := RX_opn (RX_stp h1)
    have e25 : (opn (stp σ 5 (pl a)) (dp + 1)).1 25 = J a := h1.2.1
    rw [e25, show J (a : Nat) + 1 = J (a + 1 : Nat) by rw [J_lit, J_add]; rfl]
    have y1 : RX T kd vl rv pl (mI (opn (stp σ 5 (pl a)) (dp + 1)) 25 (J (a + 1 : Nat))) 5 (pl a) nn := ⟨y0.1, y0.2.1, y0.2.2.1, y0.2.2.2.1, y0.2.2.2.2.1, a + 1, by omega, rfl⟩
    have y2 : CX N kd vl pl (cfl N (cop Γ (dp + 1 : Nat)) 5 a) 5 a := CX_cfl' h2 (Or.inr rfl)
    have hs := fun kk => (sE hT (B := B - 1) y1 y2 (by omega) (by omega) (by unfold fxO; rw [if_neg (by omega)]) (by omega) (rfP_trans rfP_stp (rfP_trans rfP_opn (rfP_mI (by omega))) : rfP σ _) (cfP_trans cfP_cop cfP_cfl : cfP Γ _) (d1 := d1) (d2 := d2) (by omega) (by omega) kk)
    rcases hk with ⟨k1, rfl, rfl, k2⟩ | ⟨k1, rfl, rfl, k2⟩
    · exact Ok2_bind (Ok2_mono ((hs 6).2.2.2.2.2.1 rfl) hstop)
    · exact Ok2_bind (Ok2_mono ((hs 2).2.2.1 rfl) hstop)
  · have hd30' : dp < 30 := by omega
    rw [if_neg hd30, if_pos hd30']
    dsimp only
    rw [show (opn σ ((dp : Int) + 1)).1 25 = J a from h1.2.1, show J (a : Nat) + 1 = J (a + 1 : Nat) by rw [J_lit, J_add]; rfl]
    have r0 : RN T kd vl rv pl (opn σ ((dp : Int) + 1)) a (dp + 1) nn := RN_opn (d := dp + 1) h1 (by omega)
    have r4 : RN T kd vl rv pl (mI (opn σ ((dp : Int) + 1)) 25 (J (a + 1 : Nat))) (a + 1) (dp + 1) nn := RN_psd r0 haT
    have c2 := CN_cps hT (CN_cop (d := dp + 1) h2 (by omega)) haT
    have f4 : rfP σ (mI (opn σ ((dp : Int) + 1)) 25 (J (a + 1 : Nat))) := rfP_trans rfP_opn (rfP_mI (by omega))
    have f5 : cfP Γ (cps kd (cop Γ (dp + 1 : Nat)) a) := cfP_trans cfP_cop cfP_cps
    refine Ok2_bind (Ok2_mono (hI hd30' (B - 2) (a + 1) ln nn d1 d2 _ _ r4 c2 (by unfold preE; omega) (by omega) (by omega)) ?_)
    rintro u v hres
    rcases hres with ⟨h', a', ln2, nn2, y, e1, e2, e3, e4, e5, e6, e7, e8, e9, e10, e11⟩ | hs
    · have hr5 := EXP_rng e5
      have ha' := e3.2.2.2.2.2.2.1
      rw [two_eq e3.2.2.2.2.2.1 (by omega) K _ _ (-1) 0 w (pl a) y (-1) 0 hK rfl e1 rfl rfl]
      refine Ok2_lsome (Ok2_lbnd (Ok2_rbnd ?_))
      rw [e4.2.2.2.1, show J ((dp + 1 : Nat) : Int) - 1 = J (dp : Nat) by rw [J_lit, J_sub]; exact congrArg J (by show ((dp + 1 : Nat) : Int) - 1 = _; omega)]
      dsimp only
      rw [show (nd2 u.2 nn2 w (pl a) y (-1) 0).1 26 = J ((dp + 1 : Nat) : Int) from e3.2.2.1, show J ((dp + 1 : Nat) : Int) - 1 = J (dp : Nat) by rw [J_lit, J_sub]; exact congrArg J (by show ((dp + 1 : Nat) : Int) - 1 = _; omega)]
      have h2' : CN T N kd vl pl (cop v.2 dp) a' dp ln2 := CN_cop e4 (by omega)
      rw [show cI' v.2 2 4 (J (dp : Nat)) = cop v.2 dp from rfl, hO, c_add1 h2'.2.2.2.2.2.1 (by omega) (by omega) (by omega)]
      refine Ok2_rsome (Ok2_rbnd ?_)
      rw [mrg5 oth5_ca1]
      have e5' : EXP kd vl rv pl u.2 (cop v.2 dp) h' nn nn2 y (a + 1) a' ln ln2 := EXP_ag (σ := u.2) (Γ := v.2) _ _ _ _ _ _ _ _ (fun _ _ _ => ⟨rfl, rfl, rfl, fun _ => rfl, fun _ _ _ _ => rfl, fun _ => rfl⟩) ⟨fun _ _ _ => rfl, fun _ _ _ => rfl⟩ e5
      have g22 : (nd2 u.2 nn2 w (pl a) y (-1) 0).2 22 nn2 = J (-1) := nd2_22
      have gRN : RN T kd vl rv pl (nd2 u.2 nn2 w (pl a) y (-1) 0) a' (dp + 1) (nn2 + 1) := RN_nd2 e3
      have gE : EXP kd vl rv pl (nd2 u.2 nn2 w (pl a) y (-1) 0) (ca1 (cop v.2 dp) ln2 o) (h' + 2000) nn (nn2 + 1) nn2 a a' ln (ln2 + 1) := un_step e5' (by rw [hka]; exact hu)
      refine Ok2_some (Or.inl ⟨h' + 2000, a', ln2 + 1, nn2 + 1, nn2, rfl, g22, RN_opn gRN (by omega), CN_ca1 h2' (by omega), EXP_I gE, by omega, by omega, ?_, ?_, ?_, ?_⟩)
      · exact rX_trans (fun _ _ _ _ _ => rfl : rX nn σ (mI (opn σ ((dp : Int) + 1)) 25 (J (a + 1 : Nat)))) (rX_trans e8 (rX_trans (rX_nd2 (by omega)) (rX_mI : rX nn _ (mI (nd2 u.2 nn2 w (pl a) y (-1) 0) 26 (J (dp : Nat)))) (Nat.le_refl nn)) (Nat.le_refl nn)) (Nat.le_refl nn)
      · exact cXt_trans (cXt_trans (cXt_cop (d := ((dp + 1 : Nat) : Int))) (cXt_cps (kd := kd) (b := a)) (Nat.le_refl ln) (Nat.le_refl a)) (cXt_trans e9 (cXt_trans (cXt_cop (d := (dp : Int))) (cXt_ca1 (by omega)) (Nat.le_refl ln) (Nat.le_refl (a + 1))) (Nat.le_refl ln) (Nat.le_refl (a + 1))) (Nat.le_refl ln) (by omega)
      · exact rfP_trans f4 (rfP_trans e10 (rfP_trans rfP_nd2 (rfP_mI (by omega))))
      · exact cfP_trans f5 (cfP_trans e11 (cfP_trans cfP_cop cfP_ca1))
    · exact hstop u v (SRes_B (SRes_mono hs f4 f5) (by omega))
theorem sFactor (hT : TKE T N kd vl rv pl) {dp : Nat} (hI : dp < 30 → simE T N kd vl rv pl 6 5 2 (dp + 1)) (hP : simE T N kd vl rv pl 7 6 1 dp) (hdp : dp ≤ 30) : simE T N kd vl rv pl 6 5 2 dp := by
  intro B a ln nn d1 d2 σ Γ h1 h2 hp hd1 hd2
  have hkr := kdOk_rng (TKE_ok hT h1.2.2.2.2.2.2.1)
  obtain ⟨d1, rfl⟩ : ∃ e, d1 = e + 1 := ⟨d1 - 1, by omega⟩
  obtain ⟨d2, rfl⟩ : ∃ e, d2 = e + 1 := ⟨d2 - 1, by omega⟩
  rw [q_gE_6, q_gG_5]
  unfold F_X12_factor F_X2_factor
  rw [show F_X12_isSign 45 σ = _ from r_isSign hT h1 (c := 45) (by decide), h2.2.2.1]
  refine Ok2_lsome ?_
  by_cases q : kd a = 45
  · rw [if_pos q, q]
    refine Ok2_lneg J1_ne (Ok2_rpos rfl ?_)
    exact sOpn hT (w := 52) (o := 9) 52 rfl 9 rfl (Or.inl ⟨rfl, rfl, rfl, rfl⟩) (by unfold uTb; omega) (by omega) hI hdp h1 h2 q hp (by omega) (by omega)
  · rw [if_neg q]
    refine Ok2_lpos J0_eq (Ok2_rneg (by rw [show (45 : Int32) = J 45 from rfl, J_eq (by omega) (by omega) (by omega) (by omega)]; exact q) ?_)
    refine Ok2_bind (Ok2_mono (hP (B - 1) a ln nn d1 d2 σ Γ h1 h2 (by unfold preE at hp ⊢; omega) (by omega) (by omega)) ?_)
    rintro u v hr
    exact Ok2_some (ERes_B (u := (u.1, u.2)) hr (by omega) (by omega))
/-- one more operand, in sums and terms -/
theorem bin_ok (hT : TKE T N kd vl rv pl) {B a dp ln nn ri ci lvl d1 d2 : Nat} {σ τ : MS} {Γ Δ : HS} (hI : simE T N kd vl rv pl ri ci lvl dp) (hp : preE T B a dp ln nn (lvl + 1)) (hd1 : 9 * (31 - dp) + lvl ≤ d1) (hd2 : 9 * (31 - dp) + lvl ≤ d2) {h ac ln' nn' x n : Nat} {w d o : Int} {O : Int32} (hO : O = J o) (hw : w = 56 ∨ w = 57) (hwo : 0 ≤ o ∧ o < 128) (p4 : n ≤ ac - a) (p5 : τ.2 22 x = J (-1)) (p6 : RN T kd vl rv pl τ ac dp nn') (p7 : CN T N kd vl pl Δ ac dp ln') (p8 : EXP kd vl rv pl τ Δ h nn nn' x a ac ln ln') (p9 : nn' ≤ nn + 3 * (ac - a) ∧ h ≤ 84000 * (31 - dp) + 10000 * min 3 (lvl + 1 - 2) + 2000 * (lvl + 1 - 6) + (ac - a)) (hlvl : 2 ≤ lvl ∧ lvl ≤ 4) (p10 : ln' ≤ ln + 4 * (ac - a)) (p11 : rX nn σ τ) (p12 : cXt ln a Γ Δ) (p13 : rfP σ τ) (p14 : cfP Γ Δ) (hb : bTb (kd ac) w d o) (hac : ac < T) (W P D : Int32) (hW : W = J w) (hP : P = J (pl ac)) (hD : D = J d) {Q : Int32 × MS → Int32 × HS → Prop} {f : Int32 × MS → MR} {g : HS → HR} (hgo : ∀ (u : Int32 × MS) (v : HS) (k : Nat), k < T + 2 - ac → LPn T N kd vl rv pl B σ Γ a dp ln nn (lvl + 1) u (J (n + 1 : Nat), v) k → Ok2 (f u) (g v) Q) : Ok2 ((gE d1 ri 0 0 0 (psd τ ac)).bind fun u_27 => (F_X12_two W P (J (x : Nat)) u_27.1 D u_27.2).bind fun u_29 => f (u_29.1, u_29.2)) ((F_X2_pass Δ).bind fun u_19 => (gG d2 ci 0 0 0 u_19.2).bind fun u_21 => (F_X0_add O u_21.2).bind fun u_23 => bnd (mrg (fun j => j == 5) u_21.2 u_23.2) fun σ_25 => g σ_25) Q := by
  obtain ⟨n1, n2, n3, n4⟩ := TKE_N hT
  unfold preE at hp
  have hr8 := EXP_rng p8
  rw [c_pass hT p7 hac]
  refine Ok2_rsome ?_
  refine Ok2_bind (Ok2_mono (hI (B - 1) (ac) ln' nn' d1 d2 τ Δ p6 p7 (by unfold preE; omega) hd1 hd2 |> fun _ => hI (B - 1) (ac + 1) ln' nn' d1 d2 (psd τ ac) (cps kd Δ ac) (RN_psd p6 hac) (CN_cps hT p7 hac) (by unfold preE; omega) hd1 hd2) ?_)
  rintro u v hres
  rcases hres with ⟨h', a', ln2, nn2, y, e1, e2, e3, e4, e5, e6, e7, e8, e9, e10, e11⟩ | ⟨ff, f', w', nn2, a1, a2, a3, a4, a5, a6, a7, z, a8, a9, a10⟩
  · have hr5 := EXP_rng e5
    have ha' := e3.2.2.2.2.2.2.1
    rw [two_eq e3.2.2.2.2.2.1 (by omega) W P _ _ D w (pl ac) x y d hW hP rfl e1 hD, hO, c_add1 e4.2.2.2.2.2.1 (by omega) (by omega) (by omega)]
    refine Ok2_lsome (Ok2_rsome (Ok2_rbnd ?_))
    rw [mrg5 oth5_ca1]
    refine hgo _ _ (T + 2 - a') (by omega) (Or.inl ⟨max h (h' + 10000) + 1, a', ln2 + 1, nn2 + 1, nn2, n + 1, rfl, rfl, Nat.le_refl _, by omega, nd2_22, RN_nd2 e3, CN_ca1 e4 (by omega), ?_, by omega, by omega, ?_, ?_, ?_, ?_⟩)
    · exact bin_step p8 e5 (rX_trans rX_psd e8 (Nat.le_refl nn')) (cXt_trans cXt_cps e9 (Nat.le_refl ln') (by omega)) hb
    · exact rX_trans p11 (rX_trans rX_psd (rX_trans (rX_le e8 (by omega)) (rX_nd2 (by omega)) (Nat.le_refl nn)) (Nat.le_refl nn)) (Nat.le_refl nn)
    · have g1 : cXt ln' (ac + 1) (cps kd Δ ac) (ca1 v.2 ln2 o) := cXt_trans e9 (cXt_ca1 (show ln' ≤ ln2 by omega)) (Nat.le_refl ln') (Nat.le_refl (ac + 1))
      have g2 : cXt ln' ac Δ (ca1 v.2 ln2 o) := cXt_trans cXt_cps g1 (Nat.le_refl ln') (Nat.le_succ ac)
      exact cXt_trans p12 g2 (by omega) (by omega)
    · exact rfP_trans p13 (rfP_trans rfP_psd (rfP_trans e10 rfP_nd2))
    · exact cfP_trans p14 (cfP_trans cfP_cps (cfP_trans e11 cfP_ca1))
  · rw [two_eq a1.2.2.2.2.1 (by omega) W P _ _ D w (pl ac) x z d hW hP rfl a8 hD]
    refine Ok2_lsome ?_
    obtain ⟨r, hr1, hr2⟩ := y_add O (CX_len a2)
    rw [hr1]
    refine Ok2_rsome (Ok2_rbnd ?_)
    rw [mrg5 hr2.1]
    exact hgo _ _ 0 (by omega) (Or.inr ⟨ff, f', w', nn2 + 1, RX_nd2 a1, CX_5 a2 hr2.1 hr2.2, a3, a4, by omega, rfP_trans p13 (rfP_trans rfP_psd (rfP_trans a6 rfP_nd2)), cfP_trans p14 (cfP_trans cfP_cps (cfP_trans a7 (cfP_5 hr2.1))), nn2, rfl, by omega, by omega⟩)
theorem sTerm (hT : TKE T N kd vl rv pl) {dp : Nat} (hI : simE T N kd vl rv pl 6 5 2 dp) (hdp : dp ≤ 30) : simE T N kd vl rv pl 5 4 3 dp := by
  intro B a ln nn d1 d2 σ Γ h1 h2 hp hd1 hd2
  obtain ⟨n1, n2, n3, n4⟩ := TKE_N hT
  obtain ⟨d1, rfl⟩ : ∃ e, d1 = e + 1 := ⟨d1 - 1, by omega⟩
  obtain ⟨d2, rfl⟩ : ∃ e, d2 = e + 1 := ⟨d2 - 1, by omega⟩
  rw [q_gE_5, q_gG_4]
  unfold F_X12_term F_X2_term
  have hB : B ≤ 38000 := by unfold preE at hp; omega
  refine Ok2_bind (Ok2_mono (hI (B - 1) a ln nn d1 d2 σ Γ h1 h2 (by unfold preE at hp ⊢; omega) (by omega) (by omega)) ?_)
  rintro u v hr
  have hr' : ERes T N kd vl rv pl B σ Γ a dp ln nn 3 u v := ERes_B hr (by omega) (by omega)
  refine Ok2_loop (P := LPn T N kd vl rv pl B σ Γ a dp ln nn 3) ?_ FU FU _ _ (T + 2) (FU_gt (by omega)) (FU_gt (by omega)) (LPn_of hr')
  rintro b1 b2 ⟨s1, s2⟩ ⟨t1, t2⟩ k hP ih
  have hdone := LPn_done (y := 0) hP
  rcases hP with ⟨h, ac, ln', nn', x, n, p1, p2, p3, p4, p5, p6, p7, p8, p9, p10, p11, p12, p13, p14⟩ | ⟨ff, f', w', nn2, a1, a2, -⟩
  · dsimp only at p1 p2 p5 p6 p7 p8 p11 p12 p13 p14
    subst p1 p2
    have hac := p6.2.2.2.2.2.2.1
    have hkr := kdOk_rng (TKE_ok hT hac)
    have hne : ∀ c : Int, 0 ≤ c → c ≤ 256 → kd ac ≠ c → ¬ J (kd ac) = J c := fun c a1 a2 a3 h => by rw [J_eq (by omega) (by omega) (by omega) (by omega)] at h; exact a3 h
    obtain ⟨k1, k2, k3⟩ := RN_at hT p6
    have hr8 := EXP_rng p8
    have hcl : ∀ (o d : Int) (O : Int32), O = J o → 0 ≤ o → o < 128 → bTb (kd ac) 56 d o → rvO kd vl rv ac = d → ac < T → Ok2 (bnd (s2.1 25) fun (x_13 : Int32) => if x_13 < 0 ∨ 16010 ≤ x_13.toNatClampNeg then none else bnd (s2.2 8 x_13.toNatClampNeg) fun (x_17 : Int32) => bnd (mI s2 25 ((s2.1 25) + 1)) fun σ_19 => bnd (s2.1 25) fun (x_21 : Int32) => if x_21 < 0 ∨ 16010 ≤ x_21.toNatClampNeg then none else bnd (σ_19.2 9 x_21.toNatClampNeg) fun (x_25 : Int32) => (gE d1 6 0 0 0 σ_19).bind fun u_27 => (F_X12_two 56 x_17 (J (x : Nat)) u_27.1 x_25 u_27.2).bind fun u_29 => b1 (u_29.1, u_29.2)) ((F_X2_pass t2).bind fun u_19 => (gG d2 5 0 0 0 u_19.2).bind fun u_21 => (F_X0_add O u_21.2).bind fun u_23 => bnd (mrg (fun j => j == 5) u_21.2 u_23.2) fun σ_25 => bnd (J (n : Nat) + 1) fun (x_27 : Int32) => b2 (x_27, σ_25)) (ERes T N kd vl rv pl B σ Γ a dp ln nn 3) := by
      intro o d O hO ho1 ho2 hb hd hacT
      refine Ok2_lbnd (Ok2_lneg (rg hT p6).1 (Ok2_lbnd (Ok2_lbnd (Ok2_lbnd (Ok2_lneg (rg hT p6).1 (Ok2_lbnd ?_))))))
      rw [(rg hT p6).2, k2, p6.2.1, show J (ac : Nat) + 1 = J (ac + 1 : Nat) by rw [J_lit, J_add]; rfl]
      exact bin_ok hT hI hp (by omega) (by omega) hO (Or.inl rfl) ⟨ho1, ho2⟩ p4 p5 p6 p7 p8 p9 ⟨by omega, by omega⟩ p10 p11 p12 p13 p14 hb hacT 56 (J (pl ac)) (s2.2 9 ac) rfl rfl (by rw [k3, hd]) (f := b1) (g := fun σ_25 => bnd (J (n : Nat) + 1) fun (x_27 : Int32) => b2 (x_27, σ_25)) (fun u v k' hk' hL => by
        refine Ok2_rbnd ?_
        rw [show J (n : Nat) + 1 = J (n + 1 : Nat) by rw [J_lit, J_add]; rfl]
        exact ih _ _ k' (by omega) hL)
    refine Ok2_rneg (CN_lt hT p7 (by omega)) ?_
    dsimp only
    rw [show F_X12_isSign 42 s2 = _ from r_isSign hT p6 (c := 42) (by decide)]
    refine Ok2_lsome (Ok2_lbnd (Ok2_rbnd ?_))
    rw [p7.2.2.1]
    by_cases q42 : kd ac = 42
    · rw [if_pos q42]
      have hacT := TKE_lt hT hac (by omega) (by omega)
      refine Ok2_lneg J1_ne (Ok2_rpos (by rw [q42]; rfl) (Ok2_rbnd (Ok2_rpos (by rw [p7.2.2.1, q42]; rfl) ?_)))
      exact hcl 12 42 12 rfl (by omega) (by omega) (by unfold bTb; rw [q42]; decide) (rvO_plain q42 (by omega) (by omega)) hacT
    rw [if_neg q42]
    refine Ok2_lpos J0_eq (Ok2_rneg (hne 42 (by omega) (by omega) q42) ?_)
    dsimp only
    rw [show F_X12_isSign 47 s2 = _ from r_isSign hT p6 (c := 47) (by decide)]
    refine Ok2_lsome ?_
    by_cases q47 : kd ac = 47
    · rw [if_pos q47]
      have hacT := TKE_lt hT hac (by omega) (by omega)
      refine Ok2_lneg J1_ne (Ok2_rpos (by rw [q47]; rfl) (Ok2_rbnd (Ok2_rneg (by rw [p7.2.2.1]; exact hne 42 (by omega) (by omega) q42) (Ok2_rpos (by rw [p7.2.2.1, q47]; rfl) ?_))))
      exact hcl 13 47 13 rfl (by omega) (by omega) (by unfold bTb; rw [q47]; decide) (rvO_plain q47 (by omega) (by omega)) hacT
    rw [if_neg q47]
    refine Ok2_lpos J0_eq (Ok2_rneg (hne 47 (by omega) (by omega) q47) ?_)
    dsimp only
    rw [show F_X12_isSign 37 s2 = _ from r_isSign hT p6 (c := 37) (by decide)]
    refine Ok2_lsome ?_
    by_cases q37 : kd ac = 37
    · rw [if_pos q37]
      have hacT := TKE_lt hT hac (by omega) (by omega)
      refine Ok2_lneg J1_ne (Ok2_rpos (by rw [q37]; rfl) (Ok2_rbnd (Ok2_rneg (by rw [p7.2.2.1]; exact hne 42 (by omega) (by omega) q42) (Ok2_rneg (by rw [p7.2.2.1]; exact hne 47 (by omega) (by omega) q47) ?_))))
      exact hcl 14 37 14 rfl (by omega) (by omega) (by unfold bTb; rw [q37]; decide) (rvO_plain q37 (by omega) (by omega)) hacT
    rw [if_neg q37]
    exact Ok2_lpos J0_eq (Ok2_rneg (hne 37 (by omega) (by omega) q37) (Ok2_some hdone))
  · dsimp only at a1 a2
    simp only [bnd]
    rw [x_isSign a1, Option.bind_some, if_pos J0_eq, x_isSign a1, Option.bind_some, if_pos J0_eq, x_isSign a1, Option.bind_some, if_pos J0_eq]
    by_cases qq : (t2 1).1 2 ≤ t1
    · exact Ok2_rpos qq (Ok2_some hdone)
    · refine Ok2_rneg qq ?_
      rw [a2.2.2.1]
      exact Ok2_rneg (by decide) (Ok2_rneg (by decide) (Ok2_rneg (by decide) (Ok2_some hdone)))
