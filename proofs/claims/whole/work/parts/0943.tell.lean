/-! what is told -/
variable {T N : Nat} {kd vl rv : Nat → Int} {pl : Nat → Nat}
theorem r_tel4 (hT : TKE T N kd vl rv pl) {σ : MS} {a dp nn : Nat} (h : RN T kd vl rv pl σ a dp nn) (hn : nn < 39990) (hk : kd a = 4) : F_X12_telling σ = some (J (nn : Nat), mA (psd (nod σ nn 35 (pl a)) a) 20 (upd ((nod σ nn 35 (pl a)).2 20) nn (J (rv a)))) := by
  obtain ⟨k1, k2, k3⟩ := RN_at hT h
  have en := g_en (n := nn) (by omega)
  have en2 := (ng (n := nn) (by omega)).2
  rw [en2] at en
  unfold F_X12_telling
  simp only [bnd]
  rw [if_neg (rg hT h).1, if_pos (show σ.1 27 = 0 by rw [h.2.2.2.1]; rfl), if_neg (rg hT h).1, (rg hT h).2, k1, if_pos (show J (rkO (kd a)) = 4 by rw [hk]; rfl), k2, show F_X12_node 35 (J (pl a : Nat)) σ = _ from r_node h.2.2.2.2.2.1 (by omega) 35 (pl a), Option.bind_some]
  have r1 := RN_nod h 35 (pl a)
  dsimp only
  rw [if_neg (rg hT r1).1, (rg hT r1).2, if_neg (g_en (by omega)), (ng (n := nn) (by omega)).2, r1.2.1, show J (a : Nat) + 1 = J (a + 1 : Nat) by rw [J_lit, J_add]; rfl]
  rw [show (mI (nod σ nn 35 (pl a)) 25 (J (a + 1 : Nat))).2 9 a = σ.2 9 a from rfl, k3, show rvO kd vl rv a = rv a by unfold rvO; rw [if_neg (by omega), if_neg (by omega), if_pos hk]]
  rfl
theorem r_tel1 (hT : TKE T N kd vl rv pl) {σ : MS} {a dp nn : Nat} (h : RN T kd vl rv pl σ a dp nn) (hn : nn < 39990) (hk : kd a = 229) : F_X12_telling σ = (G_X12_primary (nod (psd σ a) nn 37 (pl a))).bind fun u => some (J (nn : Nat), mA u.2 19 (upd (u.2.2 19) nn u.1)) := by
  obtain ⟨k1, k2, k3⟩ := RN_at hT h
  have en := g_en (n := nn) (by omega)
  have en2 := (ng (n := nn) (by omega)).2
  rw [en2] at en
  unfold F_X12_telling
  simp only [bnd]
  rw [if_neg (rg hT h).1, if_pos (show σ.1 27 = 0 by rw [h.2.2.2.1]; rfl), if_neg (rg hT h).1, (rg hT h).2, k1, if_neg (show ¬ J (rkO (kd a)) = 4 by rw [hk]; decide), k2, show F_X12_tookKey 22 σ = _ from r_tookKey hT h (k := 22) (c := 29) (by omega) rfl, if_pos (show kd a = 200 + ((29 : Nat) : Int) by omega), Option.bind_some, if_neg J1_ne]
  have r1 := RN_psd h (TKE_lt hT h.2.2.2.2.2.2.1 (by omega) (by omega))
  dsimp only
  rw [show F_X12_node 37 (J (pl a : Nat)) (psd σ a) = _ from r_node r1.2.2.2.2.2.1 (by omega) 37 (pl a), Option.bind_some]
  simp only [if_neg J1_ne, if_neg en, en2]
theorem r_tel0 (hT : TKE T N kd vl rv pl) {σ : MS} {a dp nn : Nat} (h : RN T kd vl rv pl σ a dp nn) (hn : nn < 39990) (hk : kd a ≠ 4) (hk2 : kd a ≠ 229) : F_X12_telling σ = (G_X12_expression (nod σ nn 36 (pl a))).bind fun u => some (J (nn : Nat), mA u.2 19 (upd (u.2.2 19) nn u.1)) := by
  obtain ⟨k1, k2, k3⟩ := RN_at hT h
  have en := g_en (n := nn) (by omega)
  have en2 := (ng (n := nn) (by omega)).2
  rw [en2] at en
  have hkk := rkO_rng (kd a)
  unfold F_X12_telling
  simp only [bnd]
  rw [if_neg (rg hT h).1, if_pos (show σ.1 27 = 0 by rw [h.2.2.2.1]; rfl), if_neg (rg hT h).1, (rg hT h).2, k1, if_neg (show ¬ J (rkO (kd a)) = 4 by rw [show (4 : Int32) = J 4 from rfl, J_eq (by omega) (by omega) (by omega) (by omega)]; exact fun e => hk ((tk_kind hT h.2.2.2.2.2.2.1 (Or.inr (Or.inr rfl))).mp e)), k2, show F_X12_tookKey 22 σ = _ from r_tookKey hT h (k := 22) (c := 29) (by omega) rfl, if_neg (show ¬ kd a = 200 + ((29 : Nat) : Int) by omega), Option.bind_some, if_pos J0_eq]
  dsimp only
  rw [show F_X12_node 36 (J (pl a : Nat)) σ = _ from r_node h.2.2.2.2.2.1 (by omega) 36 (pl a), Option.bind_some]
  simp only [if_pos J0_eq, if_neg en, en2]
theorem xx_prim (hT : TKE T N kd vl rv pl) {B : Nat} {σ0 σ : MS} {f : Int} {w : Nat} (h : rXX T kd vl rv pl B σ0 f w σ) (hB : B ≤ 38900) : Ok (G_X12_primary σ) fun u => rXX T kd vl rv pl (B + 1) σ0 f w u.2 := by
  obtain ⟨⟨nn, a, b⟩, d⟩ := h
  exact Ok_mono (xE7 hT a (by omega) (d := 300) (by omega)) (fun u hu => ⟨⟨nn + 1, hu.1, by omega⟩, rfP_trans d hu.2.1⟩)
theorem yy_prim (hT : TKE T N kd vl rv pl) {Γ0 Γ : HS} {f' : Int} {w : Nat} (h : yXX N kd vl pl Γ0 f' w Γ) : Ok (G_X2_primary Γ) fun u => yXX N kd vl pl Γ0 f' w u.2 := Ok_mono (yG6 hT h.1 (d := 300) (by omega)) (fun _ hu => ⟨hu.1, cfP_trans h.2 hu.2⟩)
theorem xx_tel (hT : TKE T N kd vl rv pl) {B : Nat} {σ0 σ : MS} {f : Int} {w : Nat} (h : rXX T kd vl rv pl B σ0 f w σ) (hB : B ≤ 38800) : Ok (F_X12_telling σ) fun u => rXX T kd vl rv pl (B + 2) σ0 f w u.2 ∧ ∃ y : Nat, u.1 = J y ∧ y ≤ B := by
  obtain ⟨⟨nn, a, b⟩, d⟩ := h
  have e := x_at hT a
  unfold F_X12_telling
  simp only [bnd]
  rw [if_neg e, if_neg (show ¬ σ.1 27 = 0 by rw [a.2.1]; exact J1_ne), x_tookKey a, Option.bind_some, if_pos J0_eq]
  dsimp only
  rw [← J_of (σ.2 8 (σ.1 25).toNatClampNeg), show F_X12_node 36 (J (σ.2 8 (σ.1 25).toNatClampNeg).toInt) σ = _ from r_node a.2.2.2.2.1 (by omega) 36 _, Option.bind_some, if_pos J0_eq]
  have b1 : rXX T kd vl rv pl (B + 1) σ0 f w (nod σ nn 36 (σ.2 8 (σ.1 25).toNatClampNeg).toInt) := ⟨⟨nn + 1, RX_nod a 36 _, by omega⟩, rfP_trans d rfP_nod⟩
  refine Ok_bind (Ok_mono (xx_expr hT b1 (by omega)) (fun u hu => ?_))
  rw [if_neg (g_en (by omega)), (ng (n := nn) (by omega)).2]
  exact Ok_some ⟨xx_mA hu (by omega), nn, rfl, b⟩
/-- the class's turn of the loop, up to the comma -/
def cTel (j : HS → HR) (σ : HS) : HR := if ((σ 2).1 3) = 4 then (F_X10_worthOf ((σ 2).1 2) σ).bind fun u_21 => bnd (mrg (fun j => j == 1) σ u_21.2) fun σ_23 => (F_X0_add_ 45 u_21.1 σ_23).bind fun u_25 => bnd (mrg (fun j => j == 5) σ_23 u_25.2) fun σ_27 => (F_X2_pass σ_27).bind fun u_29 => j u_29.2 else (F_X2_accept 229 σ).bind fun u_32 => if u_32.1 = 0 then (G_X2_expression u_32.2).bind fun u_36 => (F_X0_add 31 u_36.2).bind fun u_38 => bnd (mrg (fun j => j == 5) u_36.2 u_38.2) fun σ_40 => j σ_40 else (G_X2_primary u_32.2).bind fun u_43 => (F_X0_add 21 u_43.2).bind fun u_45 => bnd (mrg (fun j => j == 5) u_43.2 u_45.2) fun σ_47 => j σ_47
/-- what one told thing gives -/
def TRes (T N : Nat) (kd vl rv : Nat → Int) (pl : Nat → Nat) (σ : MS) (Γ : HS) (a dp ln nn a' ln' nn' x : Nat) (τ : MS) (Δ : HS) : Prop := τ.2 22 x = J (-1) ∧ RN T kd vl rv pl τ a' dp nn' ∧ CN T N kd vl pl Δ a' dp ln' ∧ TEL kd vl rv pl τ Δ nn nn' x a a' ln ln' ∧ nn' ≤ nn + 3 * (a' - a) + 1 ∧ ln' ≤ ln + 4 * (a' - a) + 1 ∧ rX nn σ τ ∧ cXt ln a Γ Δ ∧ rfP σ τ ∧ cfP Γ Δ
theorem sTel (hT : TKE T N kd vl rv pl) {B a dp ln nn : Nat} {σ : MS} {Γ : HS} {K : Int32 × MS → MR} {j : HS → HR} {P : Int32 × MS → Int32 × HS → Prop} (h1 : RN T kd vl rv pl σ a dp nn) (h2 : CN T N kd vl pl Γ a dp ln) (hp : nn + 3 * (T + 1 - a) + 20 * (32 - dp) + 30 ≤ B ∧ B ≤ 38000 ∧ ln + 4 * (T + 1 - a) ≤ 39000) (hdp : dp ≤ 30) (hN : ∀ a' ln' nn' x τ Δ, TRes T N kd vl rv pl σ Γ a dp ln nn a' ln' nn' x τ Δ → Ok2 (K (J (x : Nat), τ)) (j Δ) P) (hX : ∀ f f' w (x : Nat) τ Δ, rXX T kd vl rv pl B σ f w τ → yXX N kd vl pl Γ f' w Δ → f = fxO kd f' w → w ≤ T → x ≤ nn → Ok2 (K (J (x : Nat), τ)) (j Δ) P) : Ok2 ((F_X12_telling σ).bind K) (cTel j Γ) P := by
  obtain ⟨n1, n2, n3, n4⟩ := TKE_N hT
  have ha := h1.2.2.2.2.2.2.1
  have hkr := kdOk_rng (TKE_ok hT ha)
  unfold cTel
  rw [h2.2.2.1, h2.2.1]
  by_cases q4 : kd a = 4
  · have haT := TKE_lt hT ha (by omega) (by omega)
    rw [r_tel4 hT h1 (by omega) q4, q4]
    refine Ok2_rpos rfl ?_
    rw [c_worthOf hT h2.1 (by omega)]
    refine Ok2_lsome (Ok2_rsome (Ok2_rbnd ?_))
    rw [mrg1' (fun _ _ => rfl), show (45 : Int32) = J 45 from rfl, c_add3 h2.2.2.2.2.2.1 (by omega) (by omega) (by omega)]
    refine Ok2_rsome (Ok2_rbnd ?_)
    rw [mrg5 oth5_ca3, c_pass hT (CN_ca3 h2 (by omega)) haT]
    refine Ok2_rsome (hN (a + 1) (ln + 3) (nn + 1) nn _ _ ⟨?_, RN_mA (RN_psd (RN_nod h1 35 (pl a)) haT) (by omega) (by omega) (by omega), CN_cps hT (CN_ca3 h2 (by omega)) haT, ⟨Nat.le_refl _, by omega, by omega, by omega, Or.inl ⟨q4, rfl, rfl, ?_, ?_, ?_, op3_ca3⟩⟩, by omega, by omega, ?_, ?_, ?_, ?_⟩)
    · show (nod σ nn 35 (pl a)).2 22 nn = _; rw [nod_A, if_pos rfl, upd_s, if_pos rfl]
    · show upd _ _ _ _ = _; rw [upd_s, if_pos rfl]
    · show upd _ _ _ _ = _; rw [upd_s, if_pos rfl]
    · show upd _ _ _ _ = _; rw [upd_s, if_pos rfl]
    · exact rX_trans rX_nod (rX_trans rX_psd (rX_mA (Nat.le_refl nn)) (Nat.le_refl nn)) (Nat.le_refl nn)
    · exact cXt_trans (cXt_ca3 (Nat.le_refl ln)) cXt_cps (Nat.le_refl ln) (Nat.le_refl a)
    · exact rfP_trans rfP_nod (rfP_trans rfP_psd (rfP_mA (by omega)))
    · exact cfP_trans cfP_ca3 cfP_cps
  refine Ok2_rneg (by rw [show (4 : Int32) = J 4 from rfl, J_eq (by omega) (by omega) (by omega) (by omega)]; exact q4) ?_
  rw [show F_X2_accept 229 Γ = _ from c_accept hT h2 (c := 229) (by omega)]
  refine Ok2_rsome ?_
  by_cases q1 : kd a = 229
  · have haT := TKE_lt hT ha (by omega) (by omega)
    rw [if_pos q1]
    refine Ok2_rneg J1_ne ?_
    rw [r_tel1 hT h1 (by omega) q1, Option.bind_assoc]
    have r1 : RN T kd vl rv pl (nod (psd σ a) nn 37 (pl a)) (a + 1) dp (nn + 1) := RN_nod (RN_psd h1 haT) 37 (pl a)
    have c1 := CN_cps hT h2 haT
    have f1 : rfP σ (nod (psd σ a) nn 37 (pl a)) := rfP_trans rfP_psd rfP_nod
    refine Ok2_bind (Ok2_mono (sG_prim hT (B := B - 10) r1 c1 (by unfold preE; omega) hdp) ?_)
    rintro ⟨u1, u2⟩ ⟨v1, v2⟩ hr
    refine Ok2_lsome ?_
    dsimp only
    rcases hr with ⟨h', k, ln2, nn2, y, e1, e2, e3, e4, e5, e6, e7, e8, e9, e10, e11⟩ | hs
    · dsimp only at e1 e2 e3 e4 e5 e8 e9 e10 e11
      subst e1
      have r := EXP_rng e5
      have ha' := e3.2.2.2.2.2.2.1
      rw [show (21 : Int32) = J 21 from rfl, c_add1 e4.2.2.2.2.2.1 (by omega) (by omega) (by omega)]
      refine Ok2_rsome (Ok2_rbnd ?_)
      rw [mrg5 oth5_ca1]
      refine hN k (ln2 + 1) nn2 nn _ _ ⟨?_, RN_mA e3 (by omega) (by omega) (by omega), CN_ca1 e4 (by omega), ⟨Nat.le_refl _, by omega, by omega, by omega, Or.inr (Or.inl ⟨y, ln2, q1, rfl, ?_, ?_, op1_ca1, EX_c1 (EX_mA (EX_of e5 (by omega)) (Or.inl rfl) (Or.inl (by omega))) (Nat.le_refl _)⟩)⟩, by omega, by omega, ?_, ?_, ?_, ?_⟩
      · refine (e8 22 (by omega) (by omega) nn (by omega)).trans ?_
        rw [nod_A, if_pos rfl, upd_s, if_pos rfl]
      · refine (e8 17 (by omega) (by omega) nn (by omega)).trans ?_
        show upd _ _ _ _ = _; rw [upd_s, if_pos rfl]
      · show upd _ _ _ _ = _; rw [upd_s, if_pos rfl]
      · exact rX_trans (rX_trans rX_psd rX_nod (Nat.le_refl nn)) (rX_trans (rX_le e8 (by omega)) (rX_mA (Nat.le_refl nn)) (Nat.le_refl nn)) (Nat.le_refl nn)
      · exact cXt_trans cXt_cps (cXt_trans e9 (cXt_ca1 (show ln ≤ ln2 by omega)) (Nat.le_refl ln) (Nat.le_refl (a + 1))) (Nat.le_refl ln) (by omega)
      · exact rfP_trans f1 (rfP_trans e10 (rfP_mA (by omega)))
      · exact cfP_trans cfP_cps (cfP_trans e11 cfP_ca1)
    · obtain ⟨f, f', w', x1, x2, x3, x4, -⟩ := of_SRes (SRes_mono hs f1 cfP_cps)
      have x1' := xx_B (xx_mA (k := 19) (g := upd (u2.2 19) nn u1) x1 (by omega)) (show B - 10 ≤ B by omega)
      obtain ⟨r, er, hr⟩ := yy_add x2 21 (Q := fun u => yXX N kd vl pl Γ f' w' u.2) (g := fun σ => some ((0 : Int32), σ)) (fun Θ hΘ => Ok_some hΘ)
      refine Ok2_r ?_
      obtain ⟨m, em, hm⟩ := y_add 21 (CX_len x2.1)
      rw [em]
      refine ⟨m, rfl, Ok2_rbnd ?_⟩
      refine hX f f' w' nn _ _ x1' ⟨?_, ?_⟩ x3 x4 (Nat.le_refl nn)
      · rw [mrg5 hm.1]; exact CX_5 x2.1 hm.1 hm.2
      · rw [mrg5 hm.1]; exact cfP_trans x2.2 (cfP_5 hm.1)
  · rw [if_neg q1]
    refine Ok2_rpos J0_eq ?_
    rw [r_tel0 hT h1 (by omega) q4 q1, Option.bind_assoc]
    have r1 : RN T kd vl rv pl (nod σ nn 36 (pl a)) a dp (nn + 1) := RN_nod h1 36 (pl a)
    refine Ok2_bind (Ok2_mono (sG_expr hT (B := B - 10) r1 h2 (by unfold preE; omega) hdp) ?_)
    rintro ⟨u1, u2⟩ ⟨v1, v2⟩ hr
    refine Ok2_lsome ?_
    dsimp only
    rcases hr with ⟨h', k, ln2, nn2, y, e1, e2, e3, e4, e5, e6, e7, e8, e9, e10, e11⟩ | hs
    · dsimp only at e1 e2 e3 e4 e5 e8 e9 e10 e11
      subst e1
      have r := EXP_rng e5
      have ha' := e3.2.2.2.2.2.2.1
      rw [show (31 : Int32) = J 31 from rfl, c_add1 e4.2.2.2.2.2.1 (by omega) (by omega) (by omega)]
      refine Ok2_rsome (Ok2_rbnd ?_)
      rw [mrg5 oth5_ca1]
      refine hN k (ln2 + 1) nn2 nn _ _ ⟨?_, RN_mA e3 (by omega) (by omega) (by omega), CN_ca1 e4 (by omega), ⟨Nat.le_refl _, by omega, by omega, by omega, Or.inr (Or.inr ⟨y, ln2, q4, q1, rfl, ?_, ?_, op1_ca1, EX_c1 (EX_mA (EX_of e5 (by omega)) (Or.inl rfl) (Or.inl (by omega))) (Nat.le_refl _)⟩)⟩, by omega, by omega, ?_, ?_, ?_, ?_⟩
      · refine (e8 22 (by omega) (by omega) nn (by omega)).trans ?_
        rw [nod_A, if_pos rfl, upd_s, if_pos rfl]
      · refine (e8 17 (by omega) (by omega) nn (by omega)).trans ?_
        show upd _ _ _ _ = _; rw [upd_s, if_pos rfl]
      · show upd _ _ _ _ = _; rw [upd_s, if_pos rfl]
      · exact rX_trans rX_nod (rX_trans (rX_le e8 (by omega)) (rX_mA (Nat.le_refl nn)) (Nat.le_refl nn)) (Nat.le_refl nn)
      · exact cXt_trans e9 (cXt_ca1 (show ln ≤ ln2 by omega)) (Nat.le_refl ln) (Nat.le_refl a)
      · exact rfP_trans rfP_nod (rfP_trans e10 (rfP_mA (by omega)))
      · exact cfP_trans e11 cfP_ca1
    · obtain ⟨f, f', w', x1, x2, x3, x4, -⟩ := of_SRes (SRes_mono hs (rfP_nod (σ := σ)) cfP_rfl)
      have x1' := xx_B (xx_mA (k := 19) (g := upd (u2.2 19) nn u1) x1 (by omega)) (show B - 10 ≤ B by omega)
      refine Ok2_r ?_
      obtain ⟨m, em, hm⟩ := y_add 31 (CX_len x2.1)
      rw [em]
      refine ⟨m, rfl, Ok2_rbnd ?_⟩
      refine hX f f' w' nn _ _ x1' ⟨?_, ?_⟩ x3 x4 (Nat.le_refl nn)
      · rw [mrg5 hm.1]; exact CX_5 x2.1 hm.1 hm.2
      · rw [mrg5 hm.1]; exact cfP_trans x2.2 (cfP_5 hm.1)
