/-! a primary -/
variable {T N : Nat} {kd vl rv : Nat → Int} {pl : Nat → Nat}
theorem sA_A {σ : MS} {n : Nat} {v : Int} (j : Nat) : (sA σ n v).2 j = if j = 19 then upd (σ.2 19) n (J v) else σ.2 j := rfl
theorem RN_at (hT : TKE T N kd vl rv pl) {σ : MS} {a dp nn : Nat} (h : RN T kd vl rv pl σ a dp nn) : σ.2 7 a = J (rkO (kd a)) ∧ σ.2 8 a = J (pl a) ∧ σ.2 9 a = J (rvO kd vl rv a) := h.1 a h.2.2.2.2.2.2.1
/-- a fault at the word at hand, for both -/
theorem SRes_unf (hT : TKE T N kd vl rv pl) {σ0 σ : MS} {Γ0 Γ : HS} {a dp dp' ln nn B : Nat} (h1 : RN T kd vl rv pl σ a dp nn) (h2 : CN T N kd vl pl Γ a dp' ln) (hB : nn ≤ B) (h3 : rfP σ0 σ) (h4 : cfP Γ0 Γ) {x y : Int} (hx : -1 ≤ x ∧ x < 40000) : SRes T N kd vl rv pl B σ0 Γ0 (J x, stp σ (unf kd a) (pl a)) (J y, cfl N Γ 2 a) :=
  ⟨_, 2, a, nn, RX_stp h1, CX_cfl h2 (Or.inl rfl), rfl, h1.2.2.2.2.2.2.1, hB, rfP_trans h3 rfP_stp, cfP_trans h4 cfP_cfl, x, rfl, hx.1, hx.2⟩
/-- what is found where nothing stands open anew -/
theorem prim_done {σ0 σ : MS} {Γ0 Γ : HS} {B a a' dp ln ln' nn : Nat} (h1 : RN T kd vl rv pl σ a' dp (nn + 1)) (h2 : CN T N kd vl pl Γ a' dp ln') (h3 : EXP kd vl rv pl σ Γ 1 nn (nn + 1) nn a a' ln ln') (h4 : σ.2 22 nn = J (-1)) (h5 : a' = a + 1) (h6 : ln' ≤ ln + 4) (h7 : rX nn σ0 σ) (h8 : cXt ln a Γ0 Γ) (h9 : rfP σ0 σ) (h10 : cfP Γ0 Γ) {v : Int32} : ERes T N kd vl rv pl B σ0 Γ0 a dp ln nn 1 (J (nn : Nat), σ) (v, Γ) :=
  Or.inl ⟨1, a', ln', nn + 1, nn, rfl, h4, h1, h2, h3, by omega, by omega, h7, h8, h9, h10⟩
theorem op1_in {n lo hi x i j p q : Nat} {σ : MS} {Γ : HS} (h : EXP kd vl rv pl σ Γ n lo hi x i j p q) : lo ≤ x ∧ x < hi ∧ i < j ∧ p < q := EXP_rng h
theorem sPrim (hT : TKE T N kd vl rv pl) {dp : Nat} (hE : dp < 30 → simE T N kd vl rv pl 0 0 8 (dp + 1)) (hP : dp < 30 → simE T N kd vl rv pl 7 6 1 (dp + 1)) (hdp : dp ≤ 30) : simE T N kd vl rv pl 7 6 1 dp := by
  intro B a ln nn d1 d2 σ Γ h1 h2 hp hd1 hd2
  obtain ⟨n1, n2, n3, n4⟩ := TKE_N hT
  have ha := h1.2.2.2.2.2.2.1
  have hkr := kdOk_rng (TKE_ok hT ha)
  unfold preE at hp
  obtain ⟨d1, rfl⟩ : ∃ e, d1 = e + 1 := ⟨d1 - 1, by omega⟩
  obtain ⟨d2, rfl⟩ : ∃ e, d2 = e + 1 := ⟨d2 - 1, by omega⟩
  rw [q_gE_7, q_gG_6]
  unfold F_X12_primary F_X2_primary
  obtain ⟨k1, k2, k3⟩ := RN_at hT h1
  refine Ok2_lbnd (Ok2_lneg (rg hT h1).1 (Ok2_lbnd ?_))
  rw [(rg hT h1).2, k2, show (40 : Int32) = J 40 from rfl, r_node h1.2.2.2.2.2.1 (by omega)]
  refine Ok2_lsome ?_
  have r1 := RN_nod h1 40 (pl a)
  obtain ⟨m1, m2, m3⟩ := RN_at hT r1
  refine Ok2_lpos (by rw [r1.2.2.2.1]; rfl) (Ok2_lbnd (Ok2_lneg (rg hT r1).1 ?_))
  rw [(rg hT r1).2, m1]
  refine Ok2_rbnd (Ok2_rbnd ?_)
  rw [h2.2.2.1, h2.2.1]
  have hkk := rkO_rng (kd a)
  have x1 : rX nn σ (nod σ nn 40 (pl a)) := rX_nod
  have f1 : rfP σ (nod σ nn 40 (pl a)) := rfP_nod
  have en := (ng (n := nn) (by omega))
  have en' : ¬ (J (nn : Int) < 0 ∨ 40000 ≤ nn) := by rintro (h | h); exact J_nlt0 (by omega) (by omega) h; omega
  have t22 : (nod σ nn 40 (pl a)).2 22 nn = J (-1) := by rw [nod_A, if_pos rfl, upd_s, if_pos rfl]
  have t17 : (nod σ nn 40 (pl a)).2 17 = upd (σ.2 17) nn (J 40) := rfl
  have hne : ∀ k : Int, 0 ≤ k → k ≤ 256 → kd a ≠ k → ¬ J (kd a) = J k := fun k a1 a2 a3 h => by rw [J_eq (by omega) (by omega) (by omega) (by omega)] at h; exact a3 h
  by_cases q3 : kd a = 3
  · -- a NUMBER
    have haT := TKE_lt hT ha (by omega) (by omega)
    have e3 : rkO (kd a) = 3 := by rw [q3]; rfl
    have ev : rvO kd vl rv a = vl a := by unfold rvO; rw [if_neg (by omega), if_pos q3]
    have hv := (hT.2.2.2 a (by omega)).2.2.1 q3
    rw [e3]
    refine Ok2_lpos rfl (Ok2_lbnd (Ok2_lbnd ?_))
    rw [r1.2.1, show J (a : Nat) + 1 = J (a + 1 : Nat) by rw [J_lit, J_add]; rfl]
    refine Ok2_lneg (by rw [J_natN (by omega)]; rintro (h | h); exact J_nlt0 (by omega) (by omega) h; omega) (Ok2_lneg en.1 (Ok2_lbnd ?_))
    rw [en.2, J_natN (by omega)]
    rw [show (mI (nod σ nn 40 (pl a)) 25 (J (a + 1 : Nat))).2 9 a = (nod σ nn 40 (pl a)).2 9 a from rfl, m3, ev, q3]
    refine Ok2_rneg (by decide) (Ok2_rpos rfl ?_)
    rw [c_pass hT h2 haT]
    refine Ok2_rsome ?_
    have c1 := CN_cps hT h2 haT
    dsimp only
    rw [c_worthOf hT c1.1 (by omega)]
    refine Ok2_rsome (Ok2_rbnd ?_)
    rw [mrg1' (fun _ _ => rfl), show (33 : Int32) = J 33 from rfl, c_add3 c1.2.2.2.2.2.1 (by omega) (by omega) (by omega)]
    refine Ok2_rsome (Ok2_rbnd ?_)
    rw [mrg5 oth5_ca3]
    refine Ok2_some (prim_done (a' := a + 1) (ln' := ln + 3) (RN_mA (RN_psd r1 haT) (by omega) (by omega) (by omega)) (CN_ca3 c1 (by omega)) ?_ ?_ rfl (by omega) (rX_trans x1 (rX_mA (σ := mI (nod σ nn 40 (pl a)) 25 (J (a + 1 : Nat))) (Nat.le_refl nn)) (Nat.le_refl nn)) (cXt_trans (cXt_cps (kd := kd) (b := a)) (cXt_ca3 (Nat.le_refl ln)) (Nat.le_refl ln) (Nat.le_refl a)) (rfP_trans f1 (rfP_trans rfP_psd (rfP_mA (by omega)))) (cfP_trans cfP_cps cfP_ca3))
    · unfold EXP
      refine ⟨by omega, Nat.le_refl _, by omega, by omega, by omega, Or.inl ⟨q3, rfl, rfl, ?_, ?_, op3_ca3⟩⟩
      · show upd _ _ _ _ = _; rw [upd_s, if_pos rfl]
      · show upd _ _ _ _ = _; rw [upd_s, if_pos rfl]
    · exact t22
  have e3 : rkO (kd a) ≠ 3 := fun h => q3 ((tk_kind hT ha (Or.inr (Or.inl rfl))).mp h)
  refine Ok2_lneg (by rw [show (3 : Int32) = J 3 from rfl, J_eq (by omega) (by omega) (by omega) (by omega)]; exact e3) (Ok2_lbnd (Ok2_lneg (rg hT r1).1 ?_))
  rw [(rg hT r1).2, m1]
  by_cases q2 : kd a = 2
  · -- a NAME
    have haT := TKE_lt hT ha (by omega) (by omega)
    have e2 : rkO (kd a) = 2 := by rw [q2]; rfl
    have ev : rvO kd vl rv a = rv a := by unfold rvO; rw [if_pos q2]
    have hv := (hT.2.2.2 a (by omega)).2.1 q2
    rw [e2]
    refine Ok2_lpos rfl (Ok2_lneg en.1 (Ok2_lbnd (Ok2_lbnd (Ok2_lbnd ?_))))
    rw [en.2]
    -- the node as a NAME's
    have g0 : ∀ g : Nat → Int32, RN T kd vl rv pl (mA (nod σ nn 40 (pl a)) 17 g) a dp (nn + 1) := fun g => RN_mA r1 (by omega) (by omega) (by omega)
    rw [show (mA (nod σ nn 40 (pl a)) 17 (upd ((nod σ nn 40 (pl a)).2 17) nn 41)).1 25 = J (a : Nat) from r1.2.1, show J (a : Nat) + 1 = J (a + 1 : Nat) by rw [J_lit, J_add]; rfl]
    refine Ok2_lneg (by rw [J_natN (by omega)]; rintro (h | h); exact J_nlt0 (by omega) (by omega) h; omega) (Ok2_lneg en' (Ok2_lbnd ?_))
    dsimp only
    rw [J_natN (by omega), show ∀ g : Nat → Int32, (mI (mA (nod σ nn 40 (pl a)) 17 g) 25 (J (a + 1 : Nat))).2 9 a = (nod σ nn 40 (pl a)).2 9 a from fun g => rfl, m3, ev, q2]
    refine Ok2_rpos rfl ?_
    rw [c_pass hT h2 haT]
    refine Ok2_rsome ?_
    have c1 := CN_cps hT h2 haT
    have r2 : RN T kd vl rv pl (sA (mI (mA (nod σ nn 40 (pl a)) 17 (upd ((nod σ nn 40 (pl a)).2 17) nn 41)) 25 (J (a + 1 : Nat))) nn (rv a)) (a + 1) dp (nn + 1) := RN_mA (RN_psd (g0 _) haT) (by omega) (by omega) (by omega)
    have x2 : rX nn σ (sA (mI (mA (nod σ nn 40 (pl a)) 17 (upd ((nod σ nn 40 (pl a)).2 17) nn 41)) 25 (J (a + 1 : Nat))) nn (rv a)) := rX_trans (rX_trans x1 (rX_mA (k := 17) (x := 41) (Nat.le_refl nn)) (Nat.le_refl nn)) (rX_trans rX_mI (rX_mA (Nat.le_refl nn)) (Nat.le_refl nn)) (Nat.le_refl nn)
    have f2 : rfP σ (sA (mI (mA (nod σ nn 40 (pl a)) 17 (upd ((nod σ nn 40 (pl a)).2 17) nn 41)) 25 (J (a + 1 : Nat))) nn (rv a)) := rfP_trans f1 (rfP_trans (rfP_mA (by omega)) (rfP_trans (rfP_mI (by omega)) (rfP_mA (by omega))))
    have v17 : (sA (mI (mA (nod σ nn 40 (pl a)) 17 (upd ((nod σ nn 40 (pl a)).2 17) nn 41)) 25 (J (a + 1 : Nat))) nn (rv a)).2 17 nn = J 41 := by show upd _ _ _ _ = _; rw [upd_s, if_pos rfl]; rfl
    have v18 : (sA (mI (mA (nod σ nn 40 (pl a)) 17 (upd ((nod σ nn 40 (pl a)).2 17) nn 41)) 25 (J (a + 1 : Nat))) nn (rv a)).2 18 nn = J (pl a) := by show upd _ _ _ _ = _; rw [upd_s, if_pos rfl]
    have v19 : (sA (mI (mA (nod σ nn 40 (pl a)) 17 (upd ((nod σ nn 40 (pl a)).2 17) nn 41)) 25 (J (a + 1 : Nat))) nn (rv a)).2 19 nn = J (rv a) := by show upd _ _ _ _ = _; rw [upd_s, if_pos rfl]
    have v22 : (sA (mI (mA (nod σ nn 40 (pl a)) 17 (upd ((nod σ nn 40 (pl a)).2 17) nn 41)) 25 (J (a + 1 : Nat))) nn (rv a)).2 22 nn = J (-1) := t22
    change Ok2 ((F_X12_isSign (J 40) (sA (mI (mA (nod σ nn 40 (pl a)) 17 (upd ((nod σ nn 40 (pl a)).2 17) nn 41)) 25 (J (a + 1 : Nat))) nn (rv a))).bind _) _ _
    revert r2 x2 f2 v17 v18 v19 v22
    generalize sA (mI (mA (nod σ nn 40 (pl a)) 17 (upd ((nod σ nn 40 (pl a)).2 17) nn 41)) 25 (J (a + 1 : Nat))) nn (rv a) = τ
    intro r2 x2 f2 v17 v18 v19 v22
    have hkr1 := kdOk_rng (TKE_ok hT (show a + 1 ≤ T by omega))
    have hne1 : ∀ k : Int, 0 ≤ k → k ≤ 256 → kd (a + 1) ≠ k → ¬ J (kd (a + 1)) = J k := fun k a1 a2 a3 h => by rw [J_eq (by omega) (by omega) (by omega) (by omega)] at h; exact a3 h
    rw [r_isSign hT r2 (by decide)]
    refine Ok2_lsome ?_
    dsimp only
    rw [c1.2.2.1]
    by_cases q40 : kd (a + 1) = 40
    · rw [if_pos q40, q40]
      refine Ok2_lneg J1_ne (Ok2_lneg en' (Ok2_lbnd (Ok2_rpos rfl ?_)))
      have r3 : RN T kd vl rv pl (mA τ 17 (upd (τ.2 17) nn 42)) (a + 1) dp (nn + 1) := RN_mA r2 (by omega) (by omega) (by omega)
      refine Ok2_bind (Ok2_mono (sArgs hT hE (B := B) (d1 := d1) (d2 := d2) r3 c1 q40 rfl (by unfold preE; omega) (by omega) (by omega) hdp) ?_)
      rintro ⟨u1, u2⟩ v hres
      refine Ok2_lneg en' (Ok2_lbnd (Ok2_some ?_))
      dsimp only
      have x3 : rX nn σ (mA τ 17 (upd (τ.2 17) nn 42)) := rX_trans x2 (rX_mA (Nat.le_refl nn)) (Nat.le_refl nn)
      have f3 : rfP σ (mA τ 17 (upd (τ.2 17) nn 42)) := rfP_trans f2 (rfP_mA (by omega))
      rcases hres with ⟨h, c, a', q', nn', f, e1, e2, e3, e4, e5, e6, e7, e8, e9, e10, e11, e12, e13, e14, e15, e16⟩ | ⟨f, f', w, nn', a1, a2, a3, a4, a5, a6, a7, -⟩
      · dsimp only at e1 e2 e4 e13 e15
        subst e1
        have w17 : u2.2 17 nn = J 42 := by rw [e13 17 (by omega) (by omega) nn (by omega)]; show upd _ _ _ _ = _; rw [upd_s, if_pos rfl]; rfl
        have w18 : u2.2 18 nn = J (pl a) := by rw [e13 18 (by omega) (by omega) nn (by omega)]; exact v18
        have w19 : u2.2 19 nn = J (rv a) := by rw [e13 19 (by omega) (by omega) nn (by omega)]; exact v19
        have w22 : u2.2 22 nn = J (-1) := by rw [e13 22 (by omega) (by omega) nn (by omega)]; exact v22
        have hnn : nn + 1 ≤ nn' := by
          obtain ⟨xs, ls, is, js, ps, b1, b2, b3, b4, b5, b6, b7, b8, b9, b10, b11⟩ := e4
          have := (LST_rng b4 b9 b10 c 0 (by omega)).1
          rw [Nat.zero_add] at this; omega
        refine Or.inl ⟨h + 50000, a' + 1, q' + 3, nn', nn, rfl, w22, RN_mA e2 (by omega) (by omega) (by omega), e3, ?_, by omega, by omega, ?_, ?_, ?_, ?_⟩
        · unfold EXP
          refine ⟨by omega, Nat.le_refl _, by omega, by omega, by omega, Or.inr (Or.inr (Or.inl ⟨h, by omega, f, c, a', q', q2, q40, e5, rfl, rfl, w17, w18, w19, ?_, e8, e9, ?_⟩))⟩
          · show upd _ _ _ _ = _; rw [upd_s, if_pos rfl]
          · obtain ⟨xs, ls, is, js, ps, b1, b2, b3, b4, b5, b6, b7, b8, b9, b10, b11⟩ := e4
            have hr := LST_rng b4 b9 b10
            refine ⟨xs, ls, is, js, ps, ⟨b1.1, fun k hk => b1.2 k hk⟩, by omega, b3, fun k hk => ?_, b5, b6, b7, b8, b9, b10, b11⟩
            have r1 := hr k 0 (by omega)
            rw [Nat.zero_add] at r1
            have b := b4 k hk
            refine ⟨b.1, b.2.1, EXP_ag (σ := u2) (Γ := v.2) _ _ _ _ _ _ _ _ (fun y y1 y2 => ⟨rfl, rfl, rfl, fun _ => ?_, fun _ _ _ _ => rfl, fun _ => rfl⟩) ⟨fun _ _ _ => rfl, fun _ _ _ => rfl⟩ b.2.2⟩
            show upd _ _ _ _ = _
            rw [upd_s, if_neg (by omega)]
        · exact rX_trans x3 (rX_trans (rX_le e13 (Nat.le_succ nn)) (rX_mA (n := nn) (Nat.le_refl nn)) (Nat.le_refl nn)) (Nat.le_refl nn)
        · exact cXt_trans (cXt_cps (kd := kd) (b := a)) e14 (Nat.le_refl ln) (Nat.le_refl a)
        · exact rfP_trans f3 (rfP_trans e15 (rfP_mA (by omega)))
        · exact cfP_trans cfP_cps e16
      · exact Or.inr ⟨f, f', w, nn', RX_mA a1 (by omega) (by omega) (by omega), a2, a3, a4, a5, rfP_trans f3 (rfP_trans a6 (rfP_mA (by omega))), cfP_trans cfP_cps a7, nn, rfl, by omega, by omega⟩
    rw [if_neg q40]
    refine Ok2_lpos J0_eq (Ok2_rneg (hne1 40 (by omega) (by omega) q40) ?_)
    rw [show (91 : Int32) = J 91 from rfl, r_isSign hT r2 (by decide)]
    refine Ok2_lsome ?_
    by_cases q91 : kd (a + 1) = 91
    · rw [if_pos q91, q91]
      have haT1 := TKE_lt hT (show a + 1 ≤ T by omega) (by omega) (by omega)
      refine Ok2_lneg J1_ne (Ok2_lneg en' (Ok2_lbnd (Ok2_rpos rfl ?_)))
      have r3 : RN T kd vl rv pl (mA τ 17 (upd (τ.2 17) nn 43)) (a + 1) dp (nn + 1) := RN_mA r2 (by omega) (by omega) (by omega)
      have x3 : rX nn σ (mA τ 17 (upd (τ.2 17) nn 43)) := rX_trans x2 (rX_mA (Nat.le_refl nn)) (Nat.le_refl nn)
      have f3 : rfP σ (mA τ 17 (upd (τ.2 17) nn 43)) := rfP_trans f2 (rfP_mA (by omega))
      obtain ⟨d2, rfl⟩ : ∃ e, d2 = e + 1 := ⟨d2 - 1, by omega⟩
      rw [q_gG_8]
      unfold F_X2_index
      rw [c_deepen hT c1 haT1]
      -- behind a fault
      have hstop : ∀ (u : Int32 × MS) (v : Int32 × HS), SRes T N kd vl rv pl B σ Γ u v → Ok2 (if J (nn : Nat) < 0 ∨ 40000 ≤ nn then none else bnd (mA u.2 20 (upd (u.2.2 20) nn u.1)) fun σ_67 => (F_X12_shut 93 σ_67).bind fun u_69 => some (J (nn : Nat), u_69.2)) ((bnd (cI' v.2 2 4 (((v.2 2).1 4) - 1)) fun σ_5 => (F_X2_need 93 σ_5).bind fun u_7 => some ((0 : Int32), u_7.2)).bind fun u_16 => (F_X0_add_ 36 (J (a : Nat)) u_16.2).bind fun u_18 => bnd (mrg (fun j => j == 5) u_16.2 u_18.2) fun σ_20 => some ((0 : Int32), σ_20)) (ERes T N kd vl rv pl B σ Γ a dp ln nn 1) := by
        rintro u v ⟨f, f', w, nn', a1, a2, a3, a4, a5, a6, a7, x, a8, a9, a10⟩
        refine Ok2_mono (Ok2_sep (Q := fun u' => RX T kd vl rv pl u'.2 f (pl w) nn' ∧ rfP σ u'.2 ∧ u'.1 = J (nn : Nat)) (R := fun v' => CX N kd vl pl v'.2 f' w ∧ cfP Γ v'.2) ?_ ?_ (fun u' v' b c => (⟨b, c⟩ : _ ∧ _))) ?_
        · refine Ok_neg en' (Ok_bnd ?_)
          have y1 := RX_mA (m := 20) (g := upd (u.2.2 20) nn u.1) a1 (by omega) (by omega) (by omega)
          rw [x_shut hT y1, Option.bind_some]
          exact Ok_some ⟨RX_opn y1, rfP_trans a6 (rfP_trans (rfP_mA (by omega)) (rfP_mI (by omega))), rfl⟩
        · refine Ok_bind (Ok_bnd (Ok_bind (Ok_mono (y_need (c := 93) hT (CX_cop a2) (by omega)) (fun r2 hr2 => Ok_some ?_))))
          exact y_add3' hr2.1 36 _ (g := fun _ σ_20 => some ((0 : Int32), σ_20)) (fun z Θ _ _ hΘ hc2 => Ok_some ⟨hΘ, cfP_trans a7 (cfP_trans cfP_I2 (cfP_trans hr2.2 hc2))⟩)
        · rintro u' v' ⟨⟨b1, b2, b3⟩, b4, b5⟩
          exact Or.inr ⟨f, f', w, nn', b1, b4, a3, a4, a5, b2, b5, nn, b3, by omega, by omega⟩
      by_cases hd30 : dp = 30
      · rw [r_open_x hT r3 (by decide) q91 hd30, if_neg (by omega)]
        refine Ok2_lsome ?_
        rw [Option.bind_some]
        have y1 : RX T kd vl rv pl (opn (stp (mA τ 17 (upd (τ.2 17) nn 43)) 5 (pl (a + 1))) 31) 5 (pl (a + 1)) (nn + 1) := RX_opn (RX_stp r3)
        have y2 : CX N kd vl pl (cfl N (cop (cps kd Γ a) (dp + 1 : Nat)) 5 (a + 1)) 5 (a + 1) := CX_cfl' c1 (Or.inr rfl)
        have hs := (sE hT (B := B) y1 y2 (by omega) (by omega) (by unfold fxO; rw [if_neg (by omega)]) (by omega) (rfP_trans f3 (rfP_trans rfP_stp rfP_opn) : rfP σ _) (cfP_trans cfP_cps (cfP_trans cfP_cop cfP_cfl) : cfP Γ _) (d1 := d1) (d2 := d2) (by omega) (by omega) 0).1 rfl
        rw [Option.bind_assoc]
        exact Ok2_bind (Ok2_mono hs hstop)
      · have hd30' : dp < 30 := by omega
        rw [r_open_y hT r3 (by decide) q91 hd30', if_pos hd30']
        refine Ok2_lsome ?_
        rw [Option.bind_some, Option.bind_assoc]
        have r0 : RN T kd vl rv pl (opn (mA τ 17 (upd (τ.2 17) nn 43)) (dp + 1 : Nat)) (a + 1) (dp + 1) (nn + 1) := RN_opn r3 (by omega)
        have r4 := RN_psd r0 haT1
        have c2 := CN_cps hT (CN_cop (d := dp + 1) c1 (by omega)) haT1
        refine Ok2_bind (Ok2_mono (hE hd30' (B - 1) (a + 1 + 1) ln (nn + 1) d1 d2 _ _ r4 c2 (by unfold preE; omega) (by omega) (by omega)) ?_)
        have f4 : rfP σ (psd (opn (mA τ 17 (upd (τ.2 17) nn 43)) (dp + 1 : Nat)) (a + 1)) := rfP_trans f3 (rfP_trans rfP_opn rfP_psd)
        have f5 : cfP Γ (cps kd (cop (cps kd Γ a) (dp + 1 : Nat)) (a + 1)) := cfP_trans cfP_cps (cfP_trans cfP_cop cfP_cps)
        rintro u v hres
        rcases hres with ⟨h', a', ln2, nn2, y, e1, e2, e3, e4, e5, e6, e7, e8, e9, e10, e11⟩ | hs
        · have hr5 := EXP_rng e5
          have ha' := e3.2.2.2.2.2.2.1
          refine Ok2_lneg en' (Ok2_lbnd ?_)
          rw [e1]
          have r5 : RN T kd vl rv pl (mA u.2 20 (upd (u.2.2 20) nn (J (y : Nat)))) a' (dp + 1) nn2 := RN_mA e3 (by omega) (by omega) (by omega)
          rw [show (93 : Int32) = J 93 from rfl, r_shut hT r5 (by decide) (by omega), show dp + 1 - 1 = dp by omega]
          refine Ok2_lsome ?_
          simp only [bnd]
          rw [e4.2.2.2.1, show J ((dp + 1 : Nat) : Int) - 1 = J (dp : Nat) by rw [J_lit, J_sub]; exact congrArg J (by show ((dp + 1 : Nat) : Int) - 1 = _; omega)]
          have h2' : CN T N kd vl pl (cop v.2 dp) a' dp ln2 := CN_cop e4 (by omega)
          rw [show cI' v.2 2 4 (J (dp : Nat)) = cop v.2 dp from rfl, c_need hT h2' (by omega), Option.bind_some, Option.bind_some]
          dsimp only
          have w17 : u.2.2 17 nn = J 43 := by rw [e8 17 (by omega) (by omega) nn (by omega)]; show upd _ _ _ _ = _; rw [upd_s, if_pos rfl]; rfl
          have w18 : u.2.2 18 nn = J (pl a) := by rw [e8 18 (by omega) (by omega) nn (by omega)]; exact v18
          have w19 : u.2.2 19 nn = J (rv a) := by rw [e8 19 (by omega) (by omega) nn (by omega)]; exact v19
          have w22 : u.2.2 22 nn = J (-1) := by rw [e8 22 (by omega) (by omega) nn (by omega)]; exact v22
          by_cases q93 : kd a' = 93
          · have haT' := TKE_lt hT ha' (by omega) (by omega)
            rw [if_pos q93, if_pos q93]
            have c3 := CN_cps hT h2' haT'
            rw [show (36 : Int32) = J 36 from rfl, c_add3 c3.2.2.2.2.2.1 (by omega) (by omega) (by omega), Option.bind_some, mrg5 oth5_ca3]
            refine Ok2_some (Or.inl ⟨h' + 2000, a' + 1, ln2 + 3, nn2, nn, rfl, w22, RN_opn (RN_psd r5 haT') (by omega), CN_ca3 c3 (by omega), ?_, by omega, by omega, ?_, ?_, ?_, ?_⟩)
            · unfold EXP
              refine ⟨by omega, Nat.le_refl _, by omega, by omega, by omega, Or.inr (Or.inr (Or.inr (Or.inl ⟨h', by omega, y, a', ln2, q2, q91, q93, rfl, rfl, w17, w18, w19, ?_, op3_ca3, ?_⟩)))⟩
              · show upd _ _ _ _ = _; rw [upd_s, if_pos rfl]
              · refine EXP_ag (σ := u.2) (Γ := v.2) _ _ _ _ _ _ _ _ (fun z y1 y2 => ⟨rfl, rfl, rfl, fun _ => ?_, fun _ _ _ _ => rfl, fun _ => rfl⟩) ⟨fun r r1 r2 => ?_, fun _ _ _ => rfl⟩ e5
                · show upd _ _ _ _ = _
                  rw [upd_s, if_neg (by omega)]
                · exact (cXt_ca3 (Γ := cps kd (cop v.2 dp) a') (a := 0) (o := 36) (v := (a : Int)) (Nat.le_refl ln2)).1 r r2
            · exact rX_trans x3 (rX_trans (rX_trans rX_opn rX_psd (Nat.le_refl nn)) (rX_trans (rX_le e8 (Nat.le_succ nn)) (rX_trans (rX_mA (n := nn) (Nat.le_refl nn)) (rX_trans rX_psd rX_opn (Nat.le_refl nn)) (Nat.le_refl nn)) (Nat.le_refl nn)) (Nat.le_refl nn)) (Nat.le_refl nn)
            · exact cXt_trans (cXt_trans (cXt_cps (kd := kd) (b := a)) (cXt_trans (cXt_cop (d := ((dp + 1 : Nat) : Int))) (cXt_cps (kd := kd) (b := a + 1)) (Nat.le_refl ln) (Nat.le_refl a)) (Nat.le_refl ln) (Nat.le_refl a)) (cXt_trans e9 (cXt_trans (cXt_trans (cXt_cop (d := (dp : Int))) (cXt_cps (kd := kd) (b := a')) (Nat.le_refl ln) (Nat.le_refl (a + 1 + 1))) (cXt_ca3 (by omega)) (Nat.le_refl ln) (Nat.le_refl (a + 1 + 1))) (Nat.le_refl ln) (Nat.le_refl (a + 1 + 1))) (Nat.le_refl ln) (by omega)
            · exact rfP_trans f4 (rfP_trans e10 (rfP_trans (rfP_mA (by omega)) (rfP_trans rfP_psd rfP_opn)))
            · exact cfP_trans f5 (cfP_trans e11 (cfP_trans cfP_cop (cfP_trans cfP_cps cfP_ca3)))
          · rw [if_neg q93, if_neg q93]
            have y2 : CX N kd vl pl (cfl N (cop v.2 dp) 2 a') 2 a' := CX_cfl h2' (Or.inl rfl)
            refine Ok2_sep (Q := fun u' => u' = (J (nn : Nat), opn (stp (mA u.2 20 (upd (u.2.2 20) nn (J (y : Nat)))) (unf kd a') (pl a')) (dp : Nat))) (R := fun v' => CX N kd vl pl v'.2 2 a' ∧ cfP Γ v'.2) (Ok_some rfl) ?_ ?_
            · exact y_add3' y2 36 _ (g := fun _ σ_20 => some ((0 : Int32), σ_20)) (fun z Θ _ _ hΘ hc2 => Ok_some ⟨hΘ, cfP_trans f5 (cfP_trans e11 (cfP_trans (cfP_trans cfP_cop cfP_cfl) hc2))⟩)
            · rintro u' v' rfl ⟨b4, b5⟩
              exact Or.inr ⟨_, 2, a', nn2, RX_opn (RX_stp r5), b4, rfl, ha', by omega, rfP_trans f4 (rfP_trans e10 (rfP_trans (rfP_mA (by omega)) (rfP_trans rfP_stp rfP_opn))), b5, nn, rfl, by omega, by omega⟩
        · exact hstop u v (SRes_B (SRes_mono hs f4 f5) (by omega))
    · rw [if_neg q91]
      refine Ok2_lpos J0_eq (Ok2_rneg (hne1 91 (by omega) (by omega) q91) ?_)
      rw [show (49 : Int32) = J 49 from rfl, c_add3 c1.2.2.2.2.2.1 (by omega) (by omega) (by omega)]
      refine Ok2_rsome (Ok2_rbnd ?_)
      rw [mrg5 oth5_ca3]
      refine Ok2_some (prim_done (a' := a + 1) (ln' := ln + 3) r2 (CN_ca3 c1 (by omega)) ?_ v22 rfl (by omega) x2 (cXt_trans (cXt_cps (kd := kd) (b := a)) (cXt_ca3 (Nat.le_refl ln)) (Nat.le_refl ln) (Nat.le_refl a)) f2 (cfP_trans cfP_cps cfP_ca3))
      unfold EXP
      exact ⟨by omega, Nat.le_refl _, by omega, by omega, by omega, Or.inr (Or.inl ⟨q2, rfl, q40, q91, rfl, v17, v18, v19, op3_ca3⟩)⟩
  have e2 : rkO (kd a) ≠ 2 := fun h => q2 ((tk_kind hT ha (Or.inl rfl)).mp h)
  refine Ok2_lneg (by rw [show (2 : Int32) = J 2 from rfl, J_eq (by omega) (by omega) (by omega) (by omega)]; exact e2) ?_
  rw [r_isSign hT r1 (by decide)]
  refine Ok2_lsome (Ok2_rneg (hne 2 (by omega) (by omega) q2) (Ok2_rneg (hne 3 (by omega) (by omega) q3) ?_))
  by_cases q40 : kd a = 40
  · -- a bracket
    have haT := TKE_lt hT ha (by omega) (by omega)
    rw [if_pos q40, q40]
    refine Ok2_lneg J1_ne (Ok2_rpos rfl ?_)
    rw [c_deepen hT h2 haT]
    by_cases hd30 : dp = 30
    · rw [r_open_x hT r1 (by decide) q40 hd30, if_neg (by omega)]
      refine Ok2_lsome (Ok2_rsome ?_)
      have y1 : RX T kd vl rv pl (opn (stp (nod σ nn 40 (pl a)) 5 (pl a)) 31) 5 (pl a) (nn + 1) := RX_opn (RX_stp r1)
      have y2 : CX N kd vl pl (cfl N (cop Γ (dp + 1 : Nat)) 5 a) 5 a := CX_cfl' h2 (Or.inr rfl)
      have hs := (sE hT (B := B) y1 y2 (by omega) (by omega) (by unfold fxO; rw [if_neg (by omega)]) (by omega) (rfP_trans f1 (rfP_trans rfP_stp rfP_opn) : rfP σ _) (cfP_trans cfP_cop cfP_cfl : cfP Γ _) (d1 := d1) (d2 := d2) (by omega) (by omega) 0).1 rfl
      refine Ok2_bind (Ok2_mono hs ?_)
      rintro u v ⟨f, f', w, nn', a1, a2, a3, a4, a5, a6, a7, x, a8, a9, a10⟩
      refine Ok2_mono (Ok2_sep (Q := fun u' => u' = (J x, mI u.2 26 (u.2.1 26 - 1))) (R := fun v' => CX N kd vl pl v'.2 f' w ∧ cfP Γ v'.2) ?_ ?_ (fun u' v' b c => (⟨b, c⟩ : _ ∧ _))) ?_
      · rw [x_shut hT a1, Option.bind_some, a8]; exact Ok_some rfl
      · refine Ok_bnd (Ok_bind (Ok_mono (y_need (c := 41) hT (CX_cop a2) (by omega)) (fun r2 hr2 => Ok_some ⟨hr2.1, cfP_trans a7 (cfP_trans cfP_I2 hr2.2)⟩)))
      · rintro u' v' ⟨rfl, c1, c2⟩
        exact Or.inr ⟨f, f', w, nn', RX_opn a1, c1, a3, a4, a5, rfP_trans a6 (rfP_mI (by omega)), c2, x, rfl, a9, a10⟩
    · have hd30' : dp < 30 := by omega
      rw [r_open_y hT r1 (by decide) q40 hd30', if_pos hd30']
      refine Ok2_lsome (Ok2_rsome ?_)
      have r0 : RN T kd vl rv pl (opn (nod σ nn 40 (pl a)) (dp + 1 : Nat)) a (dp + 1) (nn + 1) := RN_opn r1 (by omega)
      have r2 := RN_psd r0 haT
      have c1 := CN_cps hT (CN_cop (d := dp + 1) h2 (by omega)) haT
      refine Ok2_bind (Ok2_mono (hE hd30' (B - 1) (a + 1) ln (nn + 1) d1 d2 _ _ r2 c1 (by unfold preE; omega) (by omega) (by omega)) ?_)
      rintro u v hres
      rcases hres with ⟨h', a', ln2, nn2, y, e1, e2, e3, e4, e5, e6, e7, e8, e9, e10, e11⟩ | ⟨f, f', w, nn', a1, a2, a3, a4, a5, a6, a7, x, a8, a9, a10⟩
      · have hr5 := EXP_rng e5
        have ha' := e3.2.2.2.2.2.2.1
        rw [show (41 : Int32) = J 41 from rfl, r_shut hT e3 (by decide) (by omega), show dp + 1 - 1 = dp by omega]
        refine Ok2_lsome (Ok2_rbnd ?_)
        rw [e4.2.2.2.1, show J ((dp + 1 : Nat) : Int) - 1 = J (dp : Nat) by rw [J_lit, J_sub]; exact congrArg J (by show ((dp + 1 : Nat) : Int) - 1 = _; omega)]
        have h2' : CN T N kd vl pl (cop v.2 dp) a' dp ln2 := CN_cop e4 (by omega)
        rw [show cI' v.2 2 4 (J (dp : Nat)) = cop v.2 dp from rfl, c_need hT h2' (by omega), e1]
        refine Ok2_rsome (Ok2_some ?_)
        dsimp only
        by_cases q41 : kd a' = 41
        · have haT' := TKE_lt hT ha' (by omega) (by omega)
          rw [if_pos q41, if_pos q41]
          refine Or.inl ⟨h' + 1, a' + 1, ln2, nn2, y, rfl, e2, RN_opn (RN_psd e3 haT') (by omega), CN_cps hT h2' haT', ?_, by omega, by omega, ?_, ?_, ?_, ?_⟩
          · unfold EXP
            refine ⟨by omega, by omega, by omega, by omega, by omega, Or.inr (Or.inr (Or.inr (Or.inr (Or.inl ⟨h', by omega, a', nn + 1, q40, q41, rfl, by omega, ?_⟩))))⟩
            exact EXP_ag (σ := u.2) (Γ := v.2) _ _ _ _ _ _ _ _ (fun y _ _ => ⟨rfl, rfl, rfl, fun _ => rfl, fun _ _ _ _ => rfl, fun _ => rfl⟩) ⟨fun _ _ _ => rfl, fun _ _ _ => rfl⟩ e5
          · exact rX_trans (rX_trans x1 (rX_mI : rX nn _ (opn _ _)) (Nat.le_refl nn)) (rX_trans (rX_mI : rX nn _ (psd _ a)) (rX_trans e8 (fun _ _ _ _ _ => rfl) (Nat.le_refl (nn + 1))) (by omega)) (Nat.le_refl nn)
          · exact cXt_trans (cXt_trans (cXt_cop (d := ((dp + 1 : Nat) : Int))) (cXt_cps (kd := kd) (b := a)) (Nat.le_refl ln) (Nat.le_refl a)) (cXt_trans e9 (cXt_trans (cXt_cop (d := (dp : Int))) (cXt_cps (kd := kd) (b := a')) (Nat.le_refl ln) (Nat.le_refl (a + 1))) (Nat.le_refl ln) (Nat.le_refl (a + 1))) (Nat.le_refl ln) (by omega)
          · exact rfP_trans f1 (rfP_trans (rfP_trans rfP_opn rfP_psd) (rfP_trans e10 (rfP_trans rfP_psd rfP_opn)))
          · exact cfP_trans (cfP_trans cfP_cop cfP_cps) (cfP_trans e11 (cfP_trans cfP_cop cfP_cps))
        · rw [if_neg q41, if_neg q41]
          refine Or.inr ⟨_, 2, a', nn2, RX_opn (RX_stp e3), CX_cfl h2' (Or.inl rfl), rfl, ha', by omega, ?_, ?_, y, rfl, by omega, by omega⟩
          · exact rfP_trans f1 (rfP_trans (rfP_trans rfP_opn rfP_psd) (rfP_trans e10 (rfP_trans rfP_stp rfP_opn)))
          · exact cfP_trans (cfP_trans cfP_cop cfP_cps) (cfP_trans e11 (cfP_trans cfP_cop cfP_cfl))
      · have f2 := rfP_trans f1 (rfP_trans (rfP_trans rfP_opn rfP_psd) a6)
        have f3 := cfP_trans (cfP_trans cfP_cop cfP_cps) a7
        refine Ok2_mono (Ok2_sep (Q := fun u' => u' = (J x, mI u.2 26 (u.2.1 26 - 1))) (R := fun v' => CX N kd vl pl v'.2 f' w ∧ cfP Γ v'.2) ?_ ?_ (fun u' v' b c => (⟨b, c⟩ : _ ∧ _))) ?_
        · rw [x_shut hT a1, Option.bind_some, a8]; exact Ok_some rfl
        · refine Ok_bnd (Ok_bind (Ok_mono (y_need (c := 41) hT (CX_cop a2) (by omega)) (fun r2 hr2 => Ok_some ⟨hr2.1, cfP_trans f3 (cfP_trans cfP_I2 hr2.2)⟩)))
        · rintro u' v' ⟨rfl, c1, c2⟩
          exact Or.inr ⟨f, f', w, nn', RX_opn a1, c1, a3, a4, by omega, rfP_trans f2 (rfP_mI (by omega)), c2, x, rfl, a9, a10⟩
  rw [if_neg q40]
  refine Ok2_lpos J0_eq (Ok2_rneg (hne 40 (by omega) (by omega) q40) ?_)
  -- keys without a side
  have hzero : ∀ (w o : Int) (W : Int32), W = J w → zTb (kd a) w o → Ok2 (if J (nn : Nat) < 0 ∨ 40000 ≤ (J (nn : Nat)).toNatClampNeg then none else bnd (mA (psd (nod σ nn 40 (pl a)) a) 17 (upd ((psd (nod σ nn 40 (pl a)) a).2 17) (J (nn : Nat)).toNatClampNeg W)) fun σ' => some (J (nn : Nat), σ')) ((F_X2_pass Γ).bind fun u_67 => (F_X0_add (28 + J (kd a) - 225) u_67.2).bind fun u_69 => bnd (mrg (fun j => j == 5) u_67.2 u_69.2) fun σ_71 => some ((0 : Int32), σ_71)) (ERes T N kd vl rv pl B σ Γ a dp ln nn 1) := by
    rintro w o W rfl hz
    have hz' : (kd a = 225 ∨ kd a = 226 ∨ kd a = 227) ∧ o = 28 + kd a - 225 := by unfold zTb at hz; omega
    have haT := TKE_lt hT ha (by omega) (by omega)
    have c1 := CN_cps hT h2 haT
    refine Ok2_lneg en.1 (Ok2_lbnd ?_)
    rw [en.2, c_pass hT h2 haT]
    refine Ok2_rsome ?_
    rw [show (28 : Int32) + J (kd a) - 225 = J o by rw [hz'.2, J_lit, J_add, J_lit, J_sub]]
    rw [c_add1 c1.2.2.2.2.2.1 (by omega) (by omega) (by omega)]
    refine Ok2_rsome (Ok2_rbnd ?_)
    rw [mrg5 oth5_ca1]
    refine Ok2_some (prim_done (a' := a + 1) (ln' := ln + 1) (RN_mA (RN_psd r1 haT) (by omega) (by omega) (by omega)) (CN_ca1 c1 (by omega)) ?_ ?_ rfl (by omega) (rX_trans x1 (rX_mA (σ := psd (nod σ nn 40 (pl a)) a) (Nat.le_refl nn)) (Nat.le_refl nn)) (cXt_trans (cXt_cps (kd := kd) (b := a)) (cXt_ca1 (Nat.le_refl ln)) (Nat.le_refl ln) (Nat.le_refl a)) (rfP_trans f1 (rfP_trans rfP_psd (rfP_mA (by omega)))) (cfP_trans cfP_cps cfP_ca1))
    · unfold EXP
      refine ⟨by omega, Nat.le_refl _, by omega, by omega, by omega, Or.inr (Or.inr (Or.inr (Or.inr (Or.inr (Or.inl ⟨w, o, hz, rfl, rfl, ?_, op1_ca1⟩)))))⟩
      show upd _ _ _ _ = _; rw [upd_s, if_pos rfl]
    · exact t22
  rw [show F_X12_tookKey 15 (nod σ nn 40 (pl a)) = some (if kd a = 200 + (25 : Nat) then (J 1, psd (nod σ nn 40 (pl a)) a) else (J 0, nod σ nn 40 (pl a))) from r_tookKey hT r1 (k := 15) (c := 25) (by omega) rfl]
  refine Ok2_lsome ?_
  by_cases q25 : kd a = 225
  · rw [if_pos (show kd a = 200 + ((25 : Nat) : Int) by omega)]
    refine Ok2_lneg J1_ne (Ok2_rneg (by rw [q25]; decide) (Ok2_rpos (by rw [q25]; decide) ?_))
    exact hzero 44 28 44 rfl (by unfold zTb; omega)
  rw [if_neg (show ¬ kd a = 200 + ((25 : Nat) : Int) by omega)]
  refine Ok2_lpos J0_eq ?_
  rw [show F_X12_tookKey 24 (nod σ nn 40 (pl a)) = some (if kd a = 200 + (26 : Nat) then (J 1, psd (nod σ nn 40 (pl a)) a) else (J 0, nod σ nn 40 (pl a))) from r_tookKey hT r1 (k := 24) (c := 26) (by omega) rfl]
  refine Ok2_lsome ?_
  by_cases q26 : kd a = 226
  · rw [if_pos (show kd a = 200 + ((26 : Nat) : Int) by omega)]
    refine Ok2_lneg J1_ne (Ok2_rneg (by rw [q26]; decide) (Ok2_rpos (by rw [q26]; decide) ?_))
    exact hzero 45 29 45 rfl (by unfold zTb; omega)
  rw [if_neg (show ¬ kd a = 200 + ((26 : Nat) : Int) by omega)]
  refine Ok2_lpos J0_eq ?_
  rw [show F_X12_tookKey 36 (nod σ nn 40 (pl a)) = some (if kd a = 200 + (27 : Nat) then (J 1, psd (nod σ nn 40 (pl a)) a) else (J 0, nod σ nn 40 (pl a))) from r_tookKey hT r1 (k := 36) (c := 27) (by omega) rfl]
  refine Ok2_lsome ?_
  by_cases q27 : kd a = 227
  · rw [if_pos (show kd a = 200 + ((27 : Nat) : Int) by omega)]
    refine Ok2_lneg J1_ne (Ok2_rneg (by rw [q27]; decide) (Ok2_rpos (by rw [q27]; decide) ?_))
    exact hzero 46 30 46 rfl (by unfold zTb; omega)
  rw [if_neg (show ¬ kd a = 200 + ((27 : Nat) : Int) by omega)]
  refine Ok2_lpos J0_eq ?_
  rw [show F_X12_tookKey 30 (nod σ nn 40 (pl a)) = some (if kd a = 200 + (28 : Nat) then (J 1, psd (nod σ nn 40 (pl a)) a) else (J 0, nod σ nn 40 (pl a))) from r_tookKey hT r1 (k := 30) (c := 28) (by omega) rfl]
  refine Ok2_lsome ?_
  by_cases q28 : kd a = 228
  · -- player
    rw [if_pos (show kd a = 200 + ((28 : Nat) : Int) by omega)]
    have haT := TKE_lt hT ha (by omega) (by omega)
    have c1 := CN_cps hT h2 haT
    refine Ok2_lneg J1_ne (Ok2_lneg en.1 (Ok2_lbnd (Ok2_rneg (by rw [q28]; decide) (Ok2_rneg (by rw [q28]; decide) (Ok2_rpos (by rw [q28]; rfl) ?_)))))
    rw [en.2, c_pass hT h2 haT]
    refine Ok2_rsome ?_
    rw [show (33 : Int32) = J 33 from rfl, show (1 : Int32) = J 1 from rfl, c_add3 c1.2.2.2.2.2.1 (by omega) (by omega) (by omega)]
    refine Ok2_rsome (Ok2_rbnd ?_)
    rw [mrg5 oth5_ca3]
    refine Ok2_some (prim_done (a' := a + 1) (ln' := ln + 3) (RN_mA (RN_psd r1 haT) (by omega) (by omega) (by omega)) (CN_ca3 c1 (by omega)) ?_ ?_ rfl (by omega) (rX_trans x1 (rX_mA (σ := psd (nod σ nn 40 (pl a)) a) (Nat.le_refl nn)) (Nat.le_refl nn)) (cXt_trans (cXt_cps (kd := kd) (b := a)) (cXt_ca3 (Nat.le_refl ln)) (Nat.le_refl ln) (Nat.le_refl a)) (rfP_trans f1 (rfP_trans rfP_psd (rfP_mA (by omega)))) (cfP_trans cfP_cps cfP_ca3))
    · unfold EXP
      refine ⟨by omega, Nat.le_refl _, by omega, by omega, by omega, Or.inr (Or.inr (Or.inr (Or.inr (Or.inr (Or.inr (Or.inl ⟨q28, rfl, rfl, ?_, op3_ca3⟩))))))⟩
      show upd _ _ _ _ = _; rw [upd_s, if_pos rfl]; rfl
    · exact t22
  rw [if_neg (show ¬ kd a = 200 + ((28 : Nat) : Int) by omega)]
  refine Ok2_lpos J0_eq ?_
  -- keys with a side
  have hone : ∀ (w o : Int) (W : Int32), W = J w → uTb (kd a) w o → 221 ≤ kd a → kd a ≤ 224 → Ok2 (if J (nn : Nat) < 0 ∨ 40000 ≤ (J (nn : Nat)).toNatClampNeg then none else bnd (mA (nod σ nn 40 (pl a)) 17 (upd ((nod σ nn 40 (pl a)).2 17) (J (nn : Nat)).toNatClampNeg W)) fun σ_122 => (F_X12_opens σ_122).bind fun u_124 => bnd (mI u_124.2 25 ((u_124.2.1 25) + 1)) fun σ_126 => (gE d1 7 0 0 0 σ_126).bind fun u_128 => if J (nn : Nat) < 0 ∨ 40000 ≤ (J (nn : Nat)).toNatClampNeg then none else bnd (mA u_128.2 19 (upd (u_128.2.2 19) (J (nn : Nat)).toNatClampNeg u_128.1)) fun σ_132 => bnd (mI σ_132 26 ((σ_132.1 26) - 1)) fun σ_134 => some (J (nn : Nat), σ_134)) ((F_X2_deepen Γ).bind fun u_54 => (gG d2 6 0 0 0 u_54.2).bind fun u_56 => bnd (cI' u_56.2 2 4 (((u_56.2 2).1 4) - 1)) fun σ_58 => (F_X0_add ((24 + J (kd a)) - 221) σ_58).bind fun u_60 => bnd (mrg (fun j => j == 5) σ_58 u_60.2) fun σ_62 => some ((0 : Int32), σ_62)) (ERes T N kd vl rv pl B σ Γ a dp ln nn 1) := by
    rintro w o W rfl hu hk1 hk2
    have hu' : o = 24 + kd a - 221 ∧ 48 ≤ w ∧ w ≤ 51 := by unfold uTb at hu; omega
    have haT := TKE_lt hT ha (by omega) (by omega)
    rw [c_deepen hT h2 haT, show (24 : Int32) + J (kd a) - 221 = J o by rw [hu'.1, J_lit, J_add, J_lit, J_sub]]
    refine Ok2_lneg en.1 (Ok2_lbnd ?_)
    rw [en.2]
    have r2 : RN T kd vl rv pl (mA (nod σ nn 40 (pl a)) 17 (upd ((nod σ nn 40 (pl a)).2 17) nn (J w))) a dp (nn + 1) := RN_mA r1 (by omega) (by omega) (by omega)
    have x2 : rX nn σ (mA (nod σ nn 40 (pl a)) 17 (upd ((nod σ nn 40 (pl a)).2 17) nn (J w))) := rX_trans x1 (rX_mA (Nat.le_refl nn)) (Nat.le_refl nn)
    have f2 : rfP σ (mA (nod σ nn 40 (pl a)) 17 (upd ((nod σ nn 40 (pl a)).2 17) nn (J w))) := rfP_trans f1 (rfP_mA (by omega))
    have v17 : (mA (nod σ nn 40 (pl a)) 17 (upd ((nod σ nn 40 (pl a)).2 17) nn (J w))).2 17 nn = J w := by show upd _ _ _ _ = _; rw [upd_s, if_pos rfl]
    have v22 : (mA (nod σ nn 40 (pl a)) 17 (upd ((nod σ nn 40 (pl a)).2 17) nn (J w))).2 22 nn = J (-1) := t22
    revert r2 x2 f2 v17 v22
    generalize mA (nod σ nn 40 (pl a)) 17 (upd ((nod σ nn 40 (pl a)).2 17) nn (J w)) = τ
    intro r2 x2 f2 v17 v22
    rw [r_opens hT r2]
    refine Ok2_lsome (Ok2_lbnd (Ok2_rsome ?_))
    have hstop : ∀ (u : Int32 × MS) (v : Int32 × HS), SRes T N kd vl rv pl B σ Γ u v → Ok2 (if J (nn : Nat) < 0 ∨ 40000 ≤ nn then none else bnd (mA u.2 19 (upd (u.2.2 19) nn u.1)) fun σ_132 => bnd (mI σ_132 26 ((σ_132.1 26) - 1)) fun σ_134 => some (J (nn : Nat), σ_134)) (bnd (cI' v.2 2 4 (((v.2 2).1 4) - 1)) fun σ_58 => (F_X0_add (J o) σ_58).bind fun u_60 => bnd (mrg (fun j => j == 5) σ_58 u_60.2) fun σ_62 => some ((0 : Int32), σ_62)) (ERes T N kd vl rv pl B σ Γ a dp ln nn 1) := by
      rintro u v ⟨f, f', w, nn', a1, a2, a3, a4, a5, a6, a7, x, a8, a9, a10⟩
      refine Ok2_mono (Ok2_sep (Q := fun u' => RX T kd vl rv pl u'.2 f (pl w) nn' ∧ rfP σ u'.2 ∧ u'.1 = J (nn : Nat)) (R := fun v' => CX N kd vl pl v'.2 f' w ∧ cfP Γ v'.2) ?_ ?_ (fun u' v' b c => (⟨b, c⟩ : _ ∧ _))) ?_
      · refine Ok_neg en' (Ok_bnd (Ok_bnd (Ok_some ⟨RX_opn (RX_mA a1 (by omega) (by omega) (by omega)), rfP_trans a6 (rfP_trans (rfP_mA (by omega)) (rfP_mI (by omega))), rfl⟩)))
      · refine Ok_bnd ?_
        exact y_add' (CX_cop a2) (J o) (g := fun σ_62 => some ((0 : Int32), σ_62)) (fun Θ hΘ hc2 => Ok_some ⟨hΘ, cfP_trans a7 (cfP_trans cfP_I2 hc2)⟩)
      · rintro u' v' ⟨⟨b1, b2, b3⟩, b4, b5⟩
        exact Or.inr ⟨f, f', w, nn', b1, b4, a3, a4, a5, b2, b5, nn, b3, by omega, by omega⟩
    by_cases hd30 : dp = 30
    · rw [if_pos hd30, if_neg (by omega)]
      dsimp only
      have y0 : RX T kd vl rv pl (opn (stp τ 5 (pl a)) (dp + 1)) 5 (pl a) (nn + 1) := RX_opn (RX_stp r2)
      have e25 : (opn (stp τ 5 (pl a)) (dp + 1)).1 25 = J a := r2.2.1
      rw [e25, show J (a : Nat) + 1 = J (a + 1 : Nat) by rw [J_lit, J_add]; rfl]
      have y1 : RX T kd vl rv pl (mI (opn (stp τ 5 (pl a)) (dp + 1)) 25 (J (a + 1 : Nat))) 5 (pl a) (nn + 1) := ⟨y0.1, y0.2.1, y0.2.2.1, y0.2.2.2.1, y0.2.2.2.2.1, a + 1, by omega, rfl⟩
      have y2 : CX N kd vl pl (cfl N (cop Γ (dp + 1 : Nat)) 5 a) 5 a := CX_cfl' h2 (Or.inr rfl)
      have hs := (sE hT (B := B) y1 y2 (by omega) (by omega) (by unfold fxO; rw [if_neg (by omega)]) (by omega) (rfP_trans f2 (rfP_trans rfP_stp (rfP_trans rfP_opn (rfP_mI (by omega)))) : rfP σ _) (cfP_trans cfP_cop cfP_cfl : cfP Γ _) (d1 := d1) (d2 := d2) (by omega) (by omega) 7).2.2.2.2.2.2.1 rfl
      exact Ok2_bind (Ok2_mono hs hstop)
    · have hd30' : dp < 30 := by omega
      rw [if_neg hd30, if_pos hd30']
      dsimp only
      rw [show (opn τ ((dp : Int) + 1)).1 25 = J a from r2.2.1, show J (a : Nat) + 1 = J (a + 1 : Nat) by rw [J_lit, J_add]; rfl]
      have r0 : RN T kd vl rv pl (opn τ ((dp : Int) + 1)) a (dp + 1) (nn + 1) := RN_opn (d := dp + 1) r2 (by omega)
      have r4 : RN T kd vl rv pl (mI (opn τ ((dp : Int) + 1)) 25 (J (a + 1 : Nat))) (a + 1) (dp + 1) (nn + 1) := RN_psd r0 haT
      have c2 := CN_cps hT (CN_cop (d := dp + 1) h2 (by omega)) haT
      refine Ok2_bind (Ok2_mono (hP hd30' (B - 1) (a + 1) ln (nn + 1) d1 d2 _ _ r4 c2 (by unfold preE; omega) (by omega) (by omega)) ?_)
      have f4 : rfP σ (mI (opn τ ((dp : Int) + 1)) 25 (J (a + 1 : Nat))) := rfP_trans f2 (rfP_trans rfP_opn (rfP_mI (by omega)))
      have f5 : cfP Γ (cps kd (cop Γ (dp + 1 : Nat)) a) := cfP_trans cfP_cop cfP_cps
      rintro u v hres
      rcases hres with ⟨h', a', ln2, nn2, y, e1, e2, e3, e4, e5, e6, e7, e8, e9, e10, e11⟩ | hs
      · have hr5 := EXP_rng e5
        have ha' := e3.2.2.2.2.2.2.1
        refine Ok2_lneg en' (Ok2_lbnd (Ok2_lbnd (Ok2_rbnd ?_)))
        rw [e1, e4.2.2.2.1, show J ((dp + 1 : Nat) : Int) - 1 = J (dp : Nat) by rw [J_lit, J_sub]; exact congrArg J (by show ((dp + 1 : Nat) : Int) - 1 = _; omega)]
        rw [show (mA u.2 19 (upd (u.2.2 19) nn (J (y : Nat)))).1 26 = J ((dp + 1 : Nat) : Int) from e3.2.2.1, show J ((dp + 1 : Nat) : Int) - 1 = J (dp : Nat) by rw [J_lit, J_sub]; exact congrArg J (by show ((dp + 1 : Nat) : Int) - 1 = _; omega)]
        have h2' : CN T N kd vl pl (cop v.2 dp) a' dp ln2 := CN_cop e4 (by omega)
        rw [show cI' v.2 2 4 (J (dp : Nat)) = cop v.2 dp from rfl, c_add1 h2'.2.2.2.2.2.1 (by omega) (by omega) (by omega)]
        refine Ok2_rsome (Ok2_rbnd ?_)
        rw [mrg5 oth5_ca1]
        have w17 : u.2.2 17 nn = J w := by rw [e8 17 (by omega) (by omega) nn (by omega)]; exact v17
        have w22 : u.2.2 22 nn = J (-1) := by rw [e8 22 (by omega) (by omega) nn (by omega)]; exact v22
        refine Ok2_some (Or.inl ⟨h' + 2000, a', ln2 + 1, nn2, nn, rfl, w22, RN_opn (RN_mA e3 (by omega) (by omega) (by omega)) (by omega), CN_ca1 h2' (by omega), ?_, by omega, by omega, ?_, ?_, ?_, ?_⟩)
        · unfold EXP
          refine ⟨by omega, Nat.le_refl _, by omega, by omega, by omega, Or.inr (Or.inr (Or.inr (Or.inr (Or.inr (Or.inr (Or.inr (Or.inl ⟨h', by omega, w, o, y, ln2, nn + 1, nn2, hu, rfl, w17, ?_, op1_ca1, by omega, Nat.le_refl _, by omega, ?_⟩)))))))⟩
          · show upd _ _ _ _ = _; rw [upd_s, if_pos rfl]
          · refine EXP_ag (σ := u.2) (Γ := v.2) _ _ _ _ _ _ _ _ (fun z y1 y2 => ⟨rfl, rfl, ?_, fun _ => rfl, fun _ _ _ _ => rfl, fun _ => rfl⟩) ⟨fun r r1 r2 => ?_, fun _ _ _ => rfl⟩ e5
            · show upd _ _ _ _ = _
              rw [upd_s, if_neg (by omega)]
            · exact (cXt_ca1 (Γ := cop v.2 dp) (a := 0) (o := o) (Nat.le_refl ln2)).1 r r2
        · exact rX_trans x2 (rX_trans (fun _ _ _ _ _ => rfl : rX nn _ (mI (opn τ ((dp : Int) + 1)) 25 (J (a + 1 : Nat)))) (rX_trans (rX_le e8 (Nat.le_succ nn)) (rX_trans (rX_mA (n := nn) (Nat.le_refl nn)) rX_opn (Nat.le_refl nn)) (Nat.le_refl nn)) (Nat.le_refl nn)) (Nat.le_refl nn)
        · exact cXt_trans (cXt_trans (cXt_cop (d := ((dp + 1 : Nat) : Int))) (cXt_cps (kd := kd) (b := a)) (Nat.le_refl ln) (Nat.le_refl a)) (cXt_trans e9 (cXt_trans (cXt_cop (d := (dp : Int))) (cXt_ca1 (by omega)) (Nat.le_refl ln) (Nat.le_refl (a + 1))) (Nat.le_refl ln) (Nat.le_refl (a + 1))) (Nat.le_refl ln) (by omega)
        · exact rfP_trans f4 (rfP_trans e10 (rfP_trans (rfP_mA (by omega)) rfP_opn))
        · exact cfP_trans f5 (cfP_trans e11 (cfP_trans cfP_cop cfP_ca1))
      · exact hstop u v (SRes_B (SRes_mono hs f4 f5) (by omega))
  have hrvk : ∀ c : Nat, c < 57 → kd a = 200 + c → rvO kd vl rv a = KRL.getD c 0 := by
    intro c hc hk
    unfold rvO rvS
    rw [if_neg (by omega), if_neg (by omega), if_neg (by omega), if_pos (by omega), show (kd a - 200).toNat = c by omega]
  have hj : 221 ≤ kd a → kd a ≤ 224 → Ok2 (bnd ((nod σ nn 40 (pl a)).1 25) fun (x_109 : Int32) => if x_109 < 0 ∨ 16010 ≤ x_109.toNatClampNeg then none else bnd ((nod σ nn 40 (pl a)).2 9 x_109.toNatClampNeg) fun (x_113 : Int32) => bnd (fun (t_115 : Int32) (σ_116 : MS) => (if J (nn : Nat) < 0 ∨ 40000 ≤ (J (nn : Nat)).toNatClampNeg then none else bnd (mA σ_116 17 (upd (σ_116.2 17) (J (nn : Nat)).toNatClampNeg t_115)) fun σ_122 => (F_X12_opens σ_122).bind fun u_124 => bnd (mI u_124.2 25 ((u_124.2.1 25) + 1)) fun σ_126 => (gE d1 7 0 0 0 σ_126).bind fun u_128 => if J (nn : Nat) < 0 ∨ 40000 ≤ (J (nn : Nat)).toNatClampNeg then none else bnd (mA u_128.2 19 (upd (u_128.2.2 19) (J (nn : Nat)).toNatClampNeg u_128.1)) fun σ_132 => bnd (mI σ_132 26 ((σ_132.1 26) - 1)) fun σ_134 => some (J (nn : Nat), σ_134) : MR)) fun j_117 => if x_113 = 16 then j_117 48 (nod σ nn 40 (pl a)) else if x_113 = 13 then j_117 49 (nod σ nn 40 (pl a)) else if x_113 = 23 then j_117 50 (nod σ nn 40 (pl a)) else j_117 51 (nod σ nn 40 (pl a))) ((F_X2_deepen Γ).bind fun u_54 => (gG d2 6 0 0 0 u_54.2).bind fun u_56 => bnd (cI' u_56.2 2 4 (((u_56.2 2).1 4) - 1)) fun σ_58 => (F_X0_add ((24 + J (kd a)) - 221) σ_58).bind fun u_60 => bnd (mrg (fun j => j == 5) σ_58 u_60.2) fun σ_62 => some ((0 : Int32), σ_62)) (ERes T N kd vl rv pl B σ Γ a dp ln nn 1) := by
    intro g1 g2
    refine Ok2_lbnd (Ok2_lneg (rg hT r1).1 (Ok2_lbnd (Ok2_lbnd ?_)))
    rw [(rg hT r1).2, m3]
    have hq : kd a = 221 ∨ kd a = 222 ∨ kd a = 223 ∨ kd a = 224 := by omega
    rcases hq with q | q | q | q
    · rw [hrvk 21 (by omega) (by omega)]
      exact Ok2_lpos rfl (hone 48 24 48 rfl (by unfold uTb; omega) g1 g2)
    · rw [hrvk 22 (by omega) (by omega)]
      exact Ok2_lneg (by decide) (Ok2_lpos rfl (hone 49 25 49 rfl (by unfold uTb; omega) g1 g2))
    · rw [hrvk 23 (by omega) (by omega)]
      exact Ok2_lneg (by decide) (Ok2_lneg (by decide) (Ok2_lpos rfl (hone 50 26 50 rfl (by unfold uTb; omega) g1 g2)))
    · rw [hrvk 24 (by omega) (by omega)]
      exact Ok2_lneg (by decide) (Ok2_lneg (by decide) (Ok2_lneg (by decide) (hone 51 27 51 rfl (by unfold uTb; omega) g1 g2)))
  rw [show F_X12_isKey 16 (nod σ nn 40 (pl a)) = some (J (if kd a = 200 + (21 : Nat) then 1 else 0), nod σ nn 40 (pl a)) from r_isKey hT r1 (k := 16) (c := 21) (by omega) rfl]
  refine Ok2_lsome (Ok2_lbnd ?_)
  have hcl : 221 ≤ kd a ∧ kd a ≤ 224 → (J (kd a) = 221 ∨ J (kd a) = 222 ∨ J (kd a) = 223 ∨ J (kd a) = 224) := by
    intro h
    have hq : kd a = 221 ∨ kd a = 222 ∨ kd a = 223 ∨ kd a = 224 := by omega
    rcases hq with q | q | q | q <;> (rw [q]; decide)
  by_cases q21 : kd a = 221
  · rw [if_pos (show kd a = 200 + ((21 : Nat) : Int) by omega)]
    exact Ok2_lneg J1_ne (Ok2_rpos (hcl (by omega)) (hj (by omega) (by omega)))
  rw [if_neg (show ¬ kd a = 200 + ((21 : Nat) : Int) by omega)]
  refine Ok2_lpos J0_eq ?_
  rw [show F_X12_isKey 13 (nod σ nn 40 (pl a)) = some (J (if kd a = 200 + (22 : Nat) then 1 else 0), nod σ nn 40 (pl a)) from r_isKey hT r1 (k := 13) (c := 22) (by omega) rfl]
  refine Ok2_lsome ?_
  by_cases q22 : kd a = 222
  · rw [if_pos (show kd a = 200 + ((22 : Nat) : Int) by omega)]
    exact Ok2_lneg J1_ne (Ok2_rpos (hcl (by omega)) (hj (by omega) (by omega)))
  rw [if_neg (show ¬ kd a = 200 + ((22 : Nat) : Int) by omega)]
  refine Ok2_lpos J0_eq ?_
  rw [show F_X12_isKey 23 (nod σ nn 40 (pl a)) = some (J (if kd a = 200 + (23 : Nat) then 1 else 0), nod σ nn 40 (pl a)) from r_isKey hT r1 (k := 23) (c := 23) (by omega) rfl]
  refine Ok2_lsome ?_
  by_cases q23 : kd a = 223
  · rw [if_pos (show kd a = 200 + ((23 : Nat) : Int) by omega)]
    exact Ok2_lneg J1_ne (Ok2_rpos (hcl (by omega)) (hj (by omega) (by omega)))
  rw [if_neg (show ¬ kd a = 200 + ((23 : Nat) : Int) by omega)]
  refine Ok2_lpos J0_eq ?_
  rw [show F_X12_isKey 31 (nod σ nn 40 (pl a)) = some (J (if kd a = 200 + (24 : Nat) then 1 else 0), nod σ nn 40 (pl a)) from r_isKey hT r1 (k := 31) (c := 24) (by omega) rfl]
  refine Ok2_lsome ?_
  by_cases q24 : kd a = 224
  · rw [if_pos (show kd a = 200 + ((24 : Nat) : Int) by omega)]
    exact Ok2_lneg J1_ne (Ok2_rpos (hcl (by omega)) (hj (by omega) (by omega)))
  rw [if_neg (show ¬ kd a = 200 + ((24 : Nat) : Int) by omega)]
  refine Ok2_lpos J0_eq ?_
  -- nothing that fits
  dsimp only
  rw [r_unfit hT r1]
  refine Ok2_lsome (Ok2_rneg ?_ (Ok2_rneg ?_ (Ok2_rneg (hne 228 (by omega) (by omega) q28) ?_)))
  · rintro (h | h | h | h)
    · exact hne 221 (by omega) (by omega) q21 h
    · exact hne 222 (by omega) (by omega) q22 h
    · exact hne 223 (by omega) (by omega) q23 h
    · exact hne 224 (by omega) (by omega) q24 h
  · rintro (h | h | h)
    · exact hne 225 (by omega) (by omega) q25 h
    · exact hne 226 (by omega) (by omega) q26 h
    · exact hne 227 (by omega) (by omega) q27 h
  rw [show (2 : Int32) = J 2 from rfl, c_fail hT h2]
  refine Ok2_rsome (Ok2_some (Or.inr ?_))
  exact SRes_unf hT (x := nn) (y := 0) r1 h2 (by omega) f1 cfP_rfl ⟨by omega, by omega⟩
