/-! from a sum to an expression -/
variable {T N : Nat} {kd vl rv : Nat → Int} {pl : Nat → Nat}
theorem sSum (hT : TKE T N kd vl rv pl) {dp : Nat} (hI : simE T N kd vl rv pl 5 4 3 dp) (hdp : dp ≤ 30) : simE T N kd vl rv pl 4 3 4 dp := by
  intro B a ln nn d1 d2 σ Γ h1 h2 hp hd1 hd2
  obtain ⟨n1, n2, n3, n4⟩ := TKE_N hT
  obtain ⟨d1, rfl⟩ : ∃ e, d1 = e + 1 := ⟨d1 - 1, by omega⟩
  obtain ⟨d2, rfl⟩ : ∃ e, d2 = e + 1 := ⟨d2 - 1, by omega⟩
  rw [q_gE_4, q_gG_3]
  unfold F_X12_sum F_X2_sum
  have hB : B ≤ 38000 := by unfold preE at hp; omega
  refine Ok2_bind (Ok2_mono (hI (B - 1) a ln nn d1 d2 σ Γ h1 h2 (by unfold preE at hp ⊢; omega) (by omega) (by omega)) ?_)
  rintro u v hr
  have hr' : ERes T N kd vl rv pl B σ Γ a dp ln nn 4 u v := ERes_B hr (by omega) (by omega)
  refine Ok2_loop (P := LPn T N kd vl rv pl B σ Γ a dp ln nn 4) ?_ FU FU _ _ (T + 2) (FU_gt (by omega)) (FU_gt (by omega)) (LPn_of hr')
  rintro b1 b2 ⟨s1, s2⟩ ⟨t1, t2⟩ k hP ih
  have hdone := LPn_done (y := 0) hP
  rcases hP with ⟨h, ac, ln', nn', x, n, p1, p2, p3, p4, p5, p6, p7, p8, p9, p10, p11, p12, p13, p14⟩ | ⟨ff, f', w', nn2, a1, a2, -⟩
  · dsimp only at p1 p2 p5 p6 p7 p8 p11 p12 p13 p14
    subst p1 p2
    have hac := p6.2.2.2.2.2.2.1
    have hkr := kdOk_rng (TKE_ok hT hac)
    have hne : ∀ c : Int, 0 ≤ c → c ≤ 256 → kd ac ≠ c → ¬ J (kd ac) = J c := fun c a1 a2 a3 h => by rw [J_eq (by omega) (by omega) (by omega) (by omega)] at h; exact a3 h
    obtain ⟨k1, k2, k3⟩ := RN_at hT p6
    have hr8 := EXP_rng p8
    have hcl : ∀ (o d : Int) (O : Int32), O = J o → 0 ≤ o → o < 128 → bTb (kd ac) 56 d o → rvO kd vl rv ac = d → ac < T → Ok2 (bnd (s2.1 25) fun (x_13 : Int32) => if x_13 < 0 ∨ 16010 ≤ x_13.toNatClampNeg then none else bnd (s2.2 8 x_13.toNatClampNeg) fun (x_17 : Int32) => bnd (mI s2 25 ((s2.1 25) + 1)) fun σ_19 => bnd (s2.1 25) fun (x_21 : Int32) => if x_21 < 0 ∨ 16010 ≤ x_21.toNatClampNeg then none else bnd (σ_19.2 9 x_21.toNatClampNeg) fun (x_25 : Int32) => (gE d1 5 0 0 0 σ_19).bind fun u_27 => (F_X12_two 56 x_17 (J (x : Nat)) u_27.1 x_25 u_27.2).bind fun u_29 => b1 (u_29.1, u_29.2)) ((F_X2_pass t2).bind fun u_19 => (gG d2 4 0 0 0 u_19.2).bind fun u_21 => (F_X0_add O u_21.2).bind fun u_23 => bnd (mrg (fun j => j == 5) u_21.2 u_23.2) fun σ_25 => bnd (J (n : Nat) + 1) fun (x_27 : Int32) => b2 (x_27, σ_25)) (ERes T N kd vl rv pl B σ Γ a dp ln nn 4) := by
      intro o d O hO ho1 ho2 hb hd hacT
      refine Ok2_lbnd (Ok2_lneg (rg hT p6).1 (Ok2_lbnd (Ok2_lbnd (Ok2_lbnd (Ok2_lneg (rg hT p6).1 (Ok2_lbnd ?_))))))
      rw [(rg hT p6).2, k2, p6.2.1, show J (ac : Nat) + 1 = J (ac + 1 : Nat) by rw [J_lit, J_add]; rfl]
      exact bin_ok hT hI hp (by omega) (by omega) hO (Or.inl rfl) ⟨ho1, ho2⟩ p4 p5 p6 p7 p8 p9 ⟨by omega, by omega⟩ p10 p11 p12 p13 p14 hb hacT 56 (J (pl ac)) (s2.2 9 ac) rfl rfl (by rw [k3, hd]) (f := b1) (g := fun σ_25 => bnd (J (n : Nat) + 1) fun (x_27 : Int32) => b2 (x_27, σ_25)) (fun u v k' hk' hL => by
        refine Ok2_rbnd ?_
        rw [show J (n : Nat) + 1 = J (n + 1 : Nat) by rw [J_lit, J_add]; rfl]
        exact ih _ _ k' (by omega) hL)
    refine Ok2_rneg (CN_lt hT p7 (by omega)) ?_
    dsimp only
    rw [show F_X12_isSign 43 s2 = _ from r_isSign hT p6 (c := 43) (by decide)]
    refine Ok2_lsome (Ok2_lbnd (Ok2_rbnd ?_))
    rw [p7.2.2.1]
    by_cases q43 : kd ac = 43
    · rw [if_pos q43]
      have hacT := TKE_lt hT hac (by omega) (by omega)
      refine Ok2_lneg J1_ne (Ok2_rpos (by rw [q43]; rfl) (Ok2_rbnd (Ok2_rpos (by rw [p7.2.2.1, q43]; rfl) ?_)))
      exact hcl 10 43 10 rfl (by omega) (by omega) (by unfold bTb; rw [q43]; decide) (rvO_plain q43 (by omega) (by omega)) hacT
    rw [if_neg q43]
    refine Ok2_lpos J0_eq (Ok2_rneg (hne 43 (by omega) (by omega) q43) ?_)
    dsimp only
    rw [show F_X12_isSign 45 s2 = _ from r_isSign hT p6 (c := 45) (by decide)]
    refine Ok2_lsome ?_
    by_cases q45 : kd ac = 45
    · rw [if_pos q45]
      have hacT := TKE_lt hT hac (by omega) (by omega)
      refine Ok2_lneg J1_ne (Ok2_rpos (by rw [q45]; rfl) (Ok2_rbnd (Ok2_rneg (by rw [p7.2.2.1]; exact hne 43 (by omega) (by omega) q43) ?_)))
      exact hcl 11 45 11 rfl (by omega) (by omega) (by unfold bTb; rw [q45]; decide) (rvO_plain q45 (by omega) (by omega)) hacT
    rw [if_neg q45]
    exact Ok2_lpos J0_eq (Ok2_rneg (hne 45 (by omega) (by omega) q45) (Ok2_some hdone))
  · dsimp only at a1 a2
    simp only [bnd]
    rw [x_isSign a1, Option.bind_some, if_pos J0_eq, x_isSign a1, Option.bind_some, if_pos J0_eq]
    by_cases qq : (t2 1).1 2 ≤ t1
    · exact Ok2_rpos qq (Ok2_some hdone)
    · refine Ok2_rneg qq ?_
      rw [a2.2.2.1]
      exact Ok2_rneg (by decide) (Ok2_rneg (by decide) (Ok2_some hdone))
theorem cmp_eq {k : Int} (Γ : HS) (h : 0 ≤ k) (h2 : k ≤ 256) : F_X2_comparing (J k) Γ = some (J (if k = 5 then 15 else if k = 6 then 16 else if k = 7 then 18 else if k = 8 then 20 else if k = 60 then 17 else if k = 62 then 19 else if k = 219 then 23 else if k = 220 then 46 else -1), Γ) := by
  unfold F_X2_comparing
  have e : ∀ c : Int, 0 ≤ c → c ≤ 256 → k ≠ c → ¬ (J k = J c) := fun c a b g h => by rw [J_eq (by omega) (by omega) (by omega) (by omega)] at h; exact g h
  by_cases q5 : k = 5
  · rw [q5]; rfl
  rw [if_neg (show ¬ (J k = 5) from e 5 (by omega) (by omega) q5), if_neg q5]
  by_cases q6 : k = 6
  · rw [q6]; rfl
  rw [if_neg (show ¬ (J k = 6) from e 6 (by omega) (by omega) q6), if_neg q6]
  by_cases q7 : k = 7
  · rw [q7]; rfl
  rw [if_neg (show ¬ (J k = 7) from e 7 (by omega) (by omega) q7), if_neg q7]
  by_cases q8 : k = 8
  · rw [q8]; rfl
  rw [if_neg (show ¬ (J k = 8) from e 8 (by omega) (by omega) q8), if_neg q8]
  by_cases q60 : k = 60
  · rw [q60]; rfl
  rw [if_neg (show ¬ (J k = 60) from e 60 (by omega) (by omega) q60), if_neg q60]
  by_cases q62 : k = 62
  · rw [q62]; rfl
  rw [if_neg (show ¬ (J k = 62) from e 62 (by omega) (by omega) q62), if_neg q62]
  by_cases q219 : k = 219
  · rw [q219]; rfl
  rw [if_neg (show ¬ (J k = 219) from e 219 (by omega) (by omega) q219), if_neg q219]
  by_cases q220 : k = 220
  · rw [q220]; rfl
  rw [if_neg (show ¬ (J k = 220) from e 220 (by omega) (by omega) q220), if_neg q220]
  rfl
theorem exact_hL {B : Nat} {σ : MS} {Γ : HS} {a dp ln nn k : Nat} {u : Int32 × MS} {v : HS} {y z : Int32} (h : LPn T N kd vl rv pl B σ Γ a dp ln nn 5 u (y, v) k) : ERes T N kd vl rv pl B σ Γ a dp ln nn 6 (u.1, u.2) (z, v) := ERes_B (LPn_done (t := (y, v)) h) (Nat.le_refl B) (by omega)
theorem Ok2_eta {α β γ : Type} {m : Option (α × β)} {n : Option γ} {Q : α × β → γ → Prop} (h : Ok2 m n Q) : Ok2 (m.bind fun u => some (u.1, u.2)) n Q := by
  obtain ⟨r, s, e1, e2, q⟩ := h
  exact ⟨r, s, by rw [e1]; rfl, e2, q⟩
/-- what is behind a sum, and makes a comparison of it -/
theorem sStep (hT : TKE T N kd vl rv pl) {dp : Nat} (hI : dp < 30 → simE T N kd vl rv pl 2 2 6 (dp + 1)) (hS : simE T N kd vl rv pl 4 3 4 dp) (hdp : dp ≤ 30) : simE T N kd vl rv pl 2 2 6 dp := by
  intro B a ln nn d1 d2 σ Γ h1 h2 hp hd1 hd2
  obtain ⟨n1, n2, n3, n4⟩ := TKE_N hT
  have hkr0 := kdOk_rng (TKE_ok hT h1.2.2.2.2.2.2.1)
  obtain ⟨d1, rfl⟩ : ∃ e, d1 = e + 1 := ⟨d1 - 1, by omega⟩
  obtain ⟨d2, rfl⟩ : ∃ e, d2 = e + 1 := ⟨d2 - 1, by omega⟩
  rw [q_gE_2, q_gG_2]
  unfold F_X12_step F_X2_step
  have hB : B ≤ 38000 := by unfold preE at hp; omega
  rw [show F_X12_isKey 26 σ = some (J (if kd a = 200 + (18 : Nat) then 1 else 0), σ) from r_isKey hT h1 (k := 26) (c := 18) (by omega) rfl, h2.2.2.1]
  refine Ok2_lsome ?_
  by_cases q : kd a = 218
  · rw [if_pos (show kd a = 200 + ((18 : Nat) : Int) by omega), q]
    refine Ok2_lneg J1_ne (Ok2_rpos rfl ?_)
    exact sOpn hT (w := 53) (o := 8) 53 rfl 8 rfl (Or.inr ⟨rfl, rfl, rfl, rfl⟩) (by unfold uTb; decide) (by omega) hI hdp h1 h2 q hp (by omega) (by omega)
  rw [if_neg (show ¬ kd a = 200 + ((18 : Nat) : Int) by omega)]
  refine Ok2_lpos J0_eq (Ok2_rneg (by rw [show (218 : Int32) = J 218 from rfl, J_eq (by omega) (by omega) (by omega) (by omega)]; exact q) ?_)
  obtain ⟨d1, rfl⟩ : ∃ e, d1 = e + 1 := ⟨d1 - 1, by omega⟩
  dsimp only
  rw [q_gE_3]
  unfold F_X12_comparison
  refine Ok2_eta ?_
  have hpre : preE T (B - 1) a dp ln nn 4 := by unfold preE at hp ⊢; omega
  refine Ok2_bind (Ok2_mono (hS (B - 1) a ln nn d1 d2 σ Γ h1 h2 hpre (by omega) (by omega)) ?_)
  rintro ⟨u1, u2⟩ ⟨v1, v2⟩ hr
  dsimp only
  rcases hr with ⟨h, ac, ln', nn', x, p1, p5, p6, p7, p8, p9, p10, p11, p12, p13, p14⟩ | hs
  · dsimp only at p1 p5 p6 p7 p8 p11 p12 p13 p14
    subst p1
    have hac := p6.2.2.2.2.2.2.1
    have hkr := kdOk_rng (TKE_ok hT hac)
    obtain ⟨k1, k2, k3⟩ := RN_at hT p6
    have hr8 := EXP_rng p8
    have hvr := rvO_rng hT hac
    have hkk := rkO_rng (kd ac)
    unfold preE at hp
    rw [p7.2.2.1, cmp_eq v2 hkr.1 hkr.2]
    rw [if_pos (by rw [p6.2.2.2.1]; rfl)]
    simp only [bnd]
    rw [if_neg (rg hT p6).1, if_neg (rg hT p6).1, (rg hT p6).2, k1, k2]
    refine Ok2_rsome ?_
    -- a sign or in between two sums
    have hbin : ∀ (w d o : Int) (W O D : Int32), W = J w → O = J o → D = J d → (w = 56 ∨ w = 57) → 0 ≤ o → o < 128 → bTb (kd ac) w d o → ac < T → Ok2 ((gE d1 4 0 0 0 (psd u2 ac)).bind fun u_27 => (F_X12_two W (J (pl ac : Int)) (J (x : Nat)) u_27.1 D u_27.2).bind fun u_29 => some (u_29.1, u_29.2)) ((F_X2_pass v2).bind fun u_19 => (gG d2 3 0 0 0 u_19.2).bind fun u_21 => (F_X0_add O u_21.2).bind fun u_23 => bnd (mrg (fun j => j == 5) u_21.2 u_23.2) fun σ_25 => some ((0 : Int32), σ_25)) (ERes T N kd vl rv pl B σ Γ a dp ln nn 6) := by
      intro w d o W O D hW hO hD hw ho1 ho2 hb hacT
      exact bin_ok hT hS (n := 0) (by unfold preE; omega) (by omega) (by omega) hO hw ⟨ho1, ho2⟩ (by omega) p5 p6 p7 p8 (by omega) ⟨by omega, by omega⟩ p10 p11 p12 p13 p14 hb hacT W _ D hW rfl hD (f := fun w => some w) (g := fun v => some (0, v)) (fun u v k _ hL => Ok2_some (exact_hL hL))
    have hone : Ok2 (some (J (x : Nat), u2)) (some ((0 : Int32), v2)) (ERes T N kd vl rv pl B σ Γ a dp ln nn 6) := Ok2_some (Or.inl ⟨h, ac, ln', nn', x, rfl, p5, p6, p7, p8, by omega, p10, p11, p12, p13, p14⟩)
    have g2 : ¬ (u2.1 25 < 0 ∨ 16010 ≤ ac) := by have := (rg hT p6).1; rwa [(rg hT p6).2] at this
    have e25 : mI u2 25 (u2.1 25 + 1) = psd u2 ac := by
      unfold psd; rw [p6.2.1, show J (ac : Nat) + 1 = J (ac + 1 : Nat) by rw [J_lit, J_add]; rfl]
    have e9 : (psd u2 ac).2 9 ac = u2.2 9 ac := rfl
    rw [e25, e9]
    simp only [if_neg g2]
    generalize hcc : (if kd ac = 5 then (15 : Int) else if kd ac = 6 then 16 else if kd ac = 7 then 18 else if kd ac = 8 then 20 else if kd ac = 60 then 17 else if kd ac = 62 then 19 else if kd ac = 219 then 23 else if kd ac = 220 then 46 else -1) = co
    -- in, has, or nothing more
    have htail : kd ac ≠ 5 → kd ac ≠ 6 → kd ac ≠ 7 → kd ac ≠ 8 → kd ac ≠ 60 → kd ac ≠ 62 → Ok2 ((F_X12_tookKey 18 u2).bind fun u_19 => if u_19.1 = 0 then (F_X12_tookKey 14 u_19.2).bind fun u_23 => if u_23.1 = 0 then some (J (x : Nat), u_23.2) else (F_X12_attribute u_23.2).bind fun u_28 => (F_X12_two 58 (J (pl ac : Int)) (J (x : Nat)) (-1) u_28.1 u_28.2).bind fun u_30 => some (u_30.1, u_30.2) else (gE d1 4 0 0 0 u_19.2).bind fun u_33 => (F_X12_two 57 (J (pl ac : Int)) (J (x : Nat)) u_33.1 0 u_33.2).bind fun u_35 => some (u_35.1, u_35.2)) (if J co = 46 then (F_X2_pass v2).bind fun u_20 => (F_X2_attribute (J co) u_20.2).bind fun u_22 => some ((0 : Int32), u_22.2) else if J co = -1 then some (0, v2) else (F_X2_pass v2).bind fun u_28 => (gG d2 3 0 0 0 u_28.2).bind fun u_30 => (F_X0_add (J co) u_30.2).bind fun u_32 => bnd (mrg (fun j => j == 5) u_30.2 u_32.2) fun σ_34 => some (0, σ_34)) (ERes T N kd vl rv pl B σ Γ a dp ln nn 6) := by
      intro z1 z2 z3 z4 z5 z6
      rw [if_neg z1, if_neg z2, if_neg z3, if_neg z4, if_neg z5, if_neg z6] at hcc
      rw [show F_X12_tookKey 18 u2 = some (if kd ac = 200 + (19 : Nat) then (J 1, psd u2 ac) else (J 0, u2)) from r_tookKey hT p6 (k := 18) (c := 19) (by omega) rfl]
      refine Ok2_lsome ?_
      by_cases q19 : kd ac = 219
      · rw [if_pos (show kd ac = 200 + ((19 : Nat) : Int) by omega)]
        rw [if_pos q19] at hcc
        subst hcc
        have hacT := TKE_lt hT hac (by omega) (by omega)
        refine Ok2_lneg J1_ne (Ok2_rneg (by decide) (Ok2_rneg (by decide) ?_))
        exact hbin 57 0 23 57 (J 23) 0 rfl rfl rfl (Or.inr rfl) (by omega) (by omega) (by unfold bTb; rw [q19]; decide) hacT
      rw [if_neg (show ¬ kd ac = 200 + ((19 : Nat) : Int) by omega)]
      rw [if_neg q19] at hcc
      refine Ok2_lpos J0_eq ?_
      dsimp only
      rw [show F_X12_tookKey 14 u2 = some (if kd ac = 200 + (20 : Nat) then (J 1, psd u2 ac) else (J 0, u2)) from r_tookKey hT p6 (k := 14) (c := 20) (by omega) rfl]
      refine Ok2_lsome ?_
      by_cases q20 : kd ac = 220
      · rw [if_pos (show kd ac = 200 + ((20 : Nat) : Int) by omega)]
        rw [if_pos q20] at hcc
        subst hcc
        have hacT := TKE_lt hT hac (by omega) (by omega)
        refine Ok2_lneg J1_ne (Ok2_rpos rfl ?_)
        rw [c_pass hT p7 hacT]
        refine Ok2_rsome ?_
        have r1 := RN_psd p6 hacT
        have c1 := CN_cps hT p7 hacT
        have hkr1 := kdOk_rng (TKE_ok hT (show ac + 1 ≤ T by omega))
        dsimp only
        rw [r_attribute hT r1]
        unfold F_X2_attribute
        rw [c1.2.2.1, show J (kd (ac + 1)) - 206 = J (kd (ac + 1) - 206) by rw [J_lit, J_sub], c_add3 c1.2.2.2.2.2.1 (by omega) (by omega) (by omega)]
        simp only [bnd, Option.bind_some]
        rw [mrg5 oth5_ca3]
        have c2 : CN T N kd vl pl (ca3 (cps kd v2 ac) ln' 46 (kd (ac + 1) - 206)) (ac + 1) dp (ln' + 3) := CN_ca3 c1 (by omega)
        have eF : F_X2_isFrom 206 211 (ca3 (cps kd v2 ac) ln' 46 (kd (ac + 1) - 206)) = some (J (if 206 ≤ kd (ac + 1) ∧ kd (ac + 1) ≤ 211 then 1 else 0), ca3 (cps kd v2 ac) ln' 46 (kd (ac + 1) - 206)) := by
          unfold F_X2_isFrom
          rw [c2.2.2.1]
          by_cases w1 : kd (ac + 1) < 206
          · rw [if_pos (by rw [show (206 : Int32) = J 206 from rfl, J_lt (by omega) (by omega) (by omega) (by omega)]; exact w1), if_neg (by omega)]; rfl
          · rw [if_neg (by rw [show (206 : Int32) = J 206 from rfl, J_lt (by omega) (by omega) (by omega) (by omega)]; exact w1)]
            by_cases w2 : 211 < kd (ac + 1)
            · rw [if_pos (by rw [show (211 : Int32) = J 211 from rfl, J_lt (by omega) (by omega) (by omega) (by omega)]; exact w2), if_neg (by omega)]; rfl
            · rw [if_neg (by rw [show (211 : Int32) = J 211 from rfl, J_lt (by omega) (by omega) (by omega) (by omega)]; exact w2), if_pos (by omega)]; rfl
        rw [eF, Option.bind_some]
        by_cases qa : 206 ≤ kd (ac + 1) ∧ kd (ac + 1) ≤ 211
        · have hacT1 := TKE_lt hT (show ac + 1 ≤ T by omega) (by omega) (by omega)
          rw [if_pos qa, if_pos qa, if_neg J1_ne, c_pass hT c2 hacT1, Option.bind_some, Option.bind_some]
          have r2 := RN_psd r1 hacT1
          dsimp only
          rw [two_eq r2.2.2.2.2.2.1 (by omega) 58 _ _ (-1) _ 58 (pl ac) x (-1) (kd (ac + 1) - 206) rfl rfl rfl rfl rfl]
          have gRN : RN T kd vl rv pl (nd2 (psd (psd u2 ac) (ac + 1)) nn' 58 (pl ac) x (-1) (kd (ac + 1) - 206)) (ac + 1 + 1) dp (nn' + 1) := RN_nd2 r2
          have gCN : CN T N kd vl pl (cps kd (ca3 (cps kd v2 ac) ln' 46 (kd (ac + 1) - 206)) (ac + 1)) (ac + 1 + 1) dp (ln' + 3) := CN_cps hT c2 hacT1
          have g22 : (nd2 (psd (psd u2 ac) (ac + 1)) nn' 58 (pl ac) x (-1) (kd (ac + 1) - 206)).2 22 nn' = J (-1) := nd2_22
          have gO : op3 (cps kd (ca3 (cps kd v2 ac) ln' 46 (kd (ac + 1) - 206)) (ac + 1)) ln' 46 (kd (ac + 1) - 206) := op3_ca3
          have gE : EXP kd vl rv pl (nd2 (psd (psd u2 ac) (ac + 1)) nn' 58 (pl ac) x (-1) (kd (ac + 1) - 206)) (cps kd (ca3 (cps kd v2 ac) ln' 46 (kd (ac + 1) - 206)) (ac + 1)) (h + 2000) nn (nn' + 1) nn' a (ac + 1 + 1) ln (ln' + 3) := by
            unfold EXP
            refine ⟨by omega, by omega, by omega, by omega, by omega, Or.inr (Or.inr (Or.inr (Or.inr (Or.inr (Or.inr (Or.inr (Or.inr (Or.inr (Or.inr ⟨h, by omega, x, ac, ln', q20, qa.1, qa.2, rfl, rfl, nd2_17, nd2_19, nd2_21, gO, ?_⟩)))))))))⟩
            refine EXP_nd2 (EXP_ag (σ := u2) (Γ := v2) _ _ _ _ _ _ _ _ (fun _ _ _ => ⟨rfl, rfl, rfl, fun _ => rfl, fun _ _ _ _ => rfl, fun _ => rfl⟩) ⟨fun r _ r2 => ?_, fun _ _ _ => rfl⟩ p8) (Nat.le_refl _)
            exact (cXt_ca3 (Γ := cps kd v2 ac) (a := 0) (o := 46) (v := kd (ac + 1) - 206) (Nat.le_refl ln')).1 r r2
          refine Ok2_lsome (Ok2_some (Or.inl ⟨h + 2000, ac + 1 + 1, ln' + 3, nn' + 1, nn', rfl, g22, gRN, gCN, gE, by omega, by omega, ?_, ?_, ?_, ?_⟩))
          · exact rX_trans p11 (rX_trans (rX_trans rX_psd rX_psd (Nat.le_refl nn)) (rX_nd2 (by omega)) (Nat.le_refl nn)) (Nat.le_refl nn)
          · have g1 : cXt ln' ac v2 (cps kd (ca3 (cps kd v2 ac) ln' 46 (kd (ac + 1) - 206)) (ac + 1)) := cXt_trans (cXt_trans (cXt_cps (kd := kd) (b := ac)) (cXt_ca3 (Nat.le_refl ln')) (Nat.le_refl ln') (Nat.le_refl ac)) cXt_cps (Nat.le_refl ln') (Nat.le_refl ac)
            exact cXt_trans p12 g1 (by omega) (by omega)
          · exact rfP_trans p13 (rfP_trans rfP_psd (rfP_trans rfP_psd rfP_nd2))
          · exact cfP_trans p14 (cfP_trans cfP_cps (cfP_trans cfP_ca3 cfP_cps))
        · rw [if_neg qa, if_neg qa, if_pos J0_eq, show (2 : Int32) = J 2 from rfl, c_fail hT c2, Option.bind_some, Option.bind_some]
          have x1 : RX T kd vl rv pl (stp (psd u2 ac) (unf kd (ac + 1)) (pl (ac + 1))) (unf kd (ac + 1)) (pl (ac + 1)) nn' := RX_stp r1
          dsimp only
          rw [two_eq x1.2.2.2.2.1 (by omega) 58 _ _ (-1) _ 58 (pl ac) x (-1) 0 rfl rfl rfl rfl rfl]
          refine Ok2_lsome (Ok2_some (Or.inr ⟨_, 2, ac + 1, nn' + 1, RX_nd2 x1, CX_cfl c2 (Or.inl rfl), rfl, by omega, by omega, ?_, ?_, nn', rfl, by omega, by omega⟩))
          · exact rfP_trans p13 (rfP_trans rfP_psd (rfP_trans rfP_stp rfP_nd2))
          · exact cfP_trans p14 (cfP_trans cfP_cps (cfP_trans cfP_ca3 cfP_cfl))
      rw [if_neg (show ¬ kd ac = 200 + ((20 : Nat) : Int) by omega)]
      rw [if_neg q20] at hcc
      subst hcc
      exact Ok2_lpos J0_eq (Ok2_rneg (by decide) (Ok2_rpos rfl hone))
    have hdbl : ∀ (c d o : Int), kd ac = c → co = o → (c = 5 ∧ d = 317 ∧ o = 15 ∨ c = 6 ∧ d = 289 ∧ o = 16 ∨ c = 7 ∧ d = 316 ∧ o = 18 ∨ c = 8 ∧ d = 318 ∧ o = 20 ∨ c = 60 ∧ d = 60 ∧ o = 17 ∨ c = 62 ∧ d = 62 ∧ o = 19) → Ok2 ((gE d1 4 0 0 0 (psd u2 ac)).bind fun u_27 => (F_X12_two 56 (J (pl ac : Int)) (J (x : Nat)) u_27.1 (u2.2 9 ac) u_27.2).bind fun u_29 => some (u_29.1, u_29.2)) (if J co = 46 then (F_X2_pass v2).bind fun u_20 => (F_X2_attribute (J co) u_20.2).bind fun u_22 => some ((0 : Int32), u_22.2) else if J co = -1 then some (0, v2) else (F_X2_pass v2).bind fun u_28 => (gG d2 3 0 0 0 u_28.2).bind fun u_30 => (F_X0_add (J co) u_30.2).bind fun u_32 => bnd (mrg (fun j => j == 5) u_30.2 u_32.2) fun σ_34 => some (0, σ_34)) (ERes T N kd vl rv pl B σ Γ a dp ln nn 6) := by
      intro c d o hk hco hcd
      have hacT := TKE_lt hT hac (by omega) (by omega)
      have hd : rvO kd vl rv ac = d := by
        rcases hcd with h | h | h | h | h | h
        · exact rvO_dbl hk (by omega)
        · exact rvO_dbl hk (by omega)
        · exact rvO_dbl hk (by omega)
        · exact rvO_dbl hk (by omega)
        · rw [h.2.1, ← h.1]; exact rvO_plain hk (by omega) (by omega)
        · rw [h.2.1, ← h.1]; exact rvO_plain hk (by omega) (by omega)
      have hb : bTb (kd ac) 56 d o := by
        unfold bTb; rw [hk]
        rcases hcd with ⟨rfl, rfl, rfl⟩ | ⟨rfl, rfl, rfl⟩ | ⟨rfl, rfl, rfl⟩ | ⟨rfl, rfl, rfl⟩ | ⟨rfl, rfl, rfl⟩ | ⟨rfl, rfl, rfl⟩ <;> decide
      rw [k3, hd, hco]
      refine Ok2_rneg ?_ (Ok2_rneg ?_ ?_)
      · rw [show (46 : Int32) = J 46 from rfl, J_eq (by omega) (by omega) (by omega) (by omega)]; omega
      · rw [show (-1 : Int32) = J (-1) from rfl, J_eq (by omega) (by omega) (by omega) (by omega)]; omega
      · exact hbin 56 d o 56 (J o) (J d) rfl rfl rfl (Or.inl rfl) (by omega) (by omega) hb hacT
    clear hbin hone
    have hv5 : ∀ c : Int, kd ac = c → (c = 5 ∨ c = 6 ∨ c = 7 ∨ c = 8 ∨ c = 60 ∨ c = 62) → J (rkO (kd ac)) = 5 := by
      intro c hc h
      rw [hc]
      rcases h with rfl | rfl | rfl | rfl | rfl | rfl <;> decide
    by_cases q5 : kd ac = 5
    · refine Ok2_lpos (hv5 5 q5 (by omega)) (Ok2_lpos (by rw [k3, rvO_dbl (d := 317) q5 (by omega)]; rfl) ?_)
      exact hdbl 5 317 15 q5 (by rw [← hcc, if_pos q5]) (by omega)
    by_cases q6 : kd ac = 6
    · refine Ok2_lpos (hv5 6 q6 (by omega)) (Ok2_lneg (by rw [k3, rvO_dbl (d := 289) q6 (by omega)]; decide) (Ok2_lpos (by rw [k3, rvO_dbl (d := 289) q6 (by omega)]; rfl) ?_))
      exact hdbl 6 289 16 q6 (by rw [← hcc, if_neg q5, if_pos q6]) (by omega)
    by_cases q7 : kd ac = 7
    · refine Ok2_lpos (hv5 7 q7 (by omega)) (Ok2_lneg (by rw [k3, rvO_dbl (d := 316) q7 (by omega)]; decide) (Ok2_lneg (by rw [k3, rvO_dbl (d := 316) q7 (by omega)]; decide) (Ok2_lpos (by rw [k3, rvO_dbl (d := 316) q7 (by omega)]; rfl) ?_)))
      exact hdbl 7 316 18 q7 (by rw [← hcc, if_neg q5, if_neg q6, if_pos q7]) (by omega)
    by_cases q8 : kd ac = 8
    · refine Ok2_lpos (hv5 8 q8 (by omega)) (Ok2_lneg (by rw [k3, rvO_dbl (d := 318) q8 (by omega)]; decide) (Ok2_lneg (by rw [k3, rvO_dbl (d := 318) q8 (by omega)]; decide) (Ok2_lneg (by rw [k3, rvO_dbl (d := 318) q8 (by omega)]; decide) (Ok2_lpos (by rw [k3, rvO_dbl (d := 318) q8 (by omega)]; rfl) ?_))))
      exact hdbl 8 318 20 q8 (by rw [← hcc, if_neg q5, if_neg q6, if_neg q7, if_pos q8]) (by omega)
    by_cases q60 : kd ac = 60
    · have e : u2.2 9 ac = J 60 := by rw [k3, rvO_plain q60 (by omega) (by omega)]
      refine Ok2_lpos (hv5 60 q60 (by omega)) (Ok2_lneg (by rw [e]; decide) (Ok2_lneg (by rw [e]; decide) (Ok2_lneg (by rw [e]; decide) (Ok2_lneg (by rw [e]; decide) (Ok2_lpos (by rw [e]; rfl) ?_)))))
      exact hdbl 60 60 17 q60 (by rw [← hcc, if_neg q5, if_neg q6, if_neg q7, if_neg q8, if_pos q60]) (by omega)
    by_cases q62 : kd ac = 62
    · have e : u2.2 9 ac = J 62 := by rw [k3, rvO_plain q62 (by omega) (by omega)]
      refine Ok2_lpos (hv5 62 q62 (by omega)) (Ok2_lneg (by rw [e]; decide) (Ok2_lneg (by rw [e]; decide) (Ok2_lneg (by rw [e]; decide) (Ok2_lneg (by rw [e]; decide) (Ok2_lneg (by rw [e]; decide) (Ok2_lpos (by rw [e]; rfl) ?_))))))
      exact hdbl 62 62 19 q62 (by rw [← hcc, if_neg q5, if_neg q6, if_neg q7, if_neg q8, if_neg q60, if_pos q62]) (by omega)
    have ht := htail q5 q6 q7 q8 q60 q62
    by_cases qs : J (rkO (kd ac)) = 5
    · have qs' : rkO (kd ac) = 5 := by rw [show (5 : Int32) = J 5 from rfl, J_eq (by omega) (by omega) (by omega) (by omega)] at qs; exact qs
      have hv9 : rvO kd vl rv ac = kd ac ∧ kd ac ≤ 125 := by
        have hok := TKE_ok hT hac
        unfold kdOk at hok
        unfold rkO at qs'
        have : 8 < kd ac ∧ kd ac < 200 := by
          repeat' split at qs'
          all_goals omega
        exact ⟨rvO_plain rfl this.1 this.2, by omega⟩
      have hvn : ∀ c : Int, 0 ≤ c → c < 1000 → kd ac ≠ c → ¬ (u2.2 9 ac = J c) := by
        intro c c1 c2 c3 h
        rw [k3, hv9.1, J_eq (by omega) (by omega) (by omega) (by omega)] at h; exact c3 h
      refine Ok2_lpos qs (Ok2_lneg (hvn 317 (by omega) (by omega) (by omega)) (Ok2_lneg (hvn 289 (by omega) (by omega) (by omega)) (Ok2_lneg (hvn 316 (by omega) (by omega) (by omega)) (Ok2_lneg (hvn 318 (by omega) (by omega) (by omega)) (Ok2_lneg (hvn 60 (by omega) (by omega) q60) (Ok2_lneg (hvn 62 (by omega) (by omega) q62) ht))))))
    · exact Ok2_lneg qs ht
  · obtain ⟨f, f', w, nn', a1, a2, a3⟩ := id hs
    dsimp only at a1 a2
    rw [if_neg (by rw [a1.2.1]; exact J1_ne), a2.2.2.1, show F_X2_comparing (J 0) v2 = some (-1, v2) from rfl]
    exact Ok2_rsome (Ok2_rneg (show ¬ ((-1 : Int32) = 46) by decide) (Ok2_rpos rfl (Ok2_some (Or.inr (SRes_B hs (by omega))))))
