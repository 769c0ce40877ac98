/-! move, set, clear, let -/
variable {T N : Nat} {kd vl rv : Nat → Int} {pl : Nat → Nat}
theorem EX_mA {σ : MS} {Γ : HS} {lo hi x i j p q n k : Nat} {v : Int32} (h : EX kd vl rv pl σ Γ lo hi x i j p q) (hk : k = 19 ∨ k = 20 ∨ k = 21) (hn : n < lo ∨ hi ≤ n) : EX kd vl rv pl (mA σ k (upd (σ.2 k) n v)) Γ lo hi x i j p q := EX_ag (agN_mA19 hk hn) agC_rfl h
theorem EX_ext {σ τ : MS} {Γ Δ : HS} {lo hi x i j p q m ln a : Nat} (h : EX kd vl rv pl σ Γ lo hi x i j p q) (hr : rX m σ τ) (hc : cXt ln a Γ Δ) (h1 : hi ≤ m) (h2 : q ≤ ln) (h3 : j ≤ a) : EX kd vl rv pl τ Δ lo hi x i j p q := by
  obtain ⟨n, h, hb⟩ := h; exact ⟨n, EXP_ext h hr hc h1 h2 h3, hb⟩
theorem EX_c1 {σ : MS} {Γ : HS} {lo hi x i j p q l : Nat} {o : Int} (h : EX kd vl rv pl σ Γ lo hi x i j p q) (hl : q ≤ l) : EX kd vl rv pl σ (ca1 Γ l o) lo hi x i j p q := by
  obtain ⟨n, h, hb⟩ := h; exact ⟨n, EXP_c1 h hl, hb⟩
theorem EX_c3 {σ : MS} {Γ : HS} {lo hi x i j p q l : Nat} {o v : Int} (h : EX kd vl rv pl σ Γ lo hi x i j p q) (hl : q ≤ l) : EX kd vl rv pl σ (ca3 Γ l o v) lo hi x i j p q := by
  obtain ⟨n, h, hb⟩ := h; exact ⟨n, EXP_c3 h hl, hb⟩
theorem st_m (hT : TKE T N kd vl rv pl) {B a dp ln nn : Nat} {σ0 ρ : MS} {Γ0 Δ : HS} (h : St0 T N kd vl rv pl B σ0 Γ0 a dp ln nn 24 ρ Δ) (hk : kd a = 243) : Ok2 ((G_X12_expression ρ).bind fun u_169 => if J (nn : Nat) < 0 ∨ 40000 ≤ (J (nn : Nat)).toNatClampNeg then none else bnd (mA u_169.2 19 (upd (u_169.2.2 19) (J (nn : Nat)).toNatClampNeg u_169.1)) fun σ_173 => (F_X12_needKey 42 σ_173).bind fun u_175 => (G_X12_expression u_175.2).bind fun u_177 => if J (nn : Nat) < 0 ∨ 40000 ≤ (J (nn : Nat)).toNatClampNeg then none else bnd (mA u_177.2 20 (upd (u_177.2.2 20) (J (nn : Nat)).toNatClampNeg u_177.1)) fun σ_181 => (F_X12_need 59 σ_181).bind fun u_15 => some (J (nn : Nat), u_15.2)) ((F_X2_plainStatement 32 Δ).bind fun u_49 => (F_X2_need 59 u_49.2).bind fun u_21 => some ((0 : Int32), u_21.2)) (StR T N kd vl rv pl 0 B σ0 Γ0 a dp ln nn) := by
  obtain ⟨h1, h2, h3, h4, h5, h6, h7, h8, h9, h10, h11, h12⟩ := h
  unfold preS at h10
  rw [ps_m]
  simp only [Option.bind_assoc]
  have en := g_en (n := nn) (by omega)
  have en2 := (ng (n := nn) (by omega)).2
  rw [en2] at en
  simp only [en2]
  -- behind a fault in the second
  have hs2 : ∀ (f f' : Int) (w : Nat) (u : Int32 × MS) (v : Int32 × HS), rXX T kd vl rv pl (B - 3) σ0 f w u.2 → yXX N kd vl pl Γ0 f' w v.2 → f = fxO kd f' w → w ≤ T → Ok2 (if J (nn : Nat) < 0 ∨ 40000 ≤ nn then none else bnd (mA u.2 20 (upd (u.2.2 20) nn u.1)) fun σ_181 => (F_X12_need 59 σ_181).bind fun u_15 => some (J (nn : Nat), u_15.2)) ((F_X0_add 32 v.2).bind fun x => (bnd (mrg (fun j => j == 5) v.2 x.2) fun σ => some ((0 : Int32), σ)).bind fun u_49 => (F_X2_need 59 u_49.2).bind fun u_21 => some ((0 : Int32), u_21.2)) (StR T N kd vl rv pl 0 B σ0 Γ0 a dp ln nn) := by
    intro f f' w u v x1 x2 x3 x4
    have x1' := xx_mA (k := 20) (g := upd (u.2.2 20) nn u.1) x1 (by omega)
    refine Ok2_lneg en (Ok2_lbnd ?_)
    refine Ok2_mono (stop2 (B := B) (st_stop hT (nn := nn) (xx_B x1' (by omega)) x2).1 (f' := f') ?_ x3 x4 ⟨by omega, by omega⟩) (fun _ _ h => Or.inr h)
    exact yy_add x2 32 (g := fun σ => (some ((0 : Int32), σ)).bind fun u_49 => (F_X2_need 59 u_49.2).bind fun u_21 => some ((0 : Int32), u_21.2)) (fun Θ hΘ => Ok_bind (Ok_some ((st_stop hT (nn := nn) x1' hΘ).2)))
  refine Ok2_bind (Ok2_mono (sG_expr hT (B := B - 10) h1 h2 (by unfold preE; omega) h11) ?_)
  rintro ⟨u1, u2⟩ ⟨v1, v2⟩ hr
  refine Ok2_lneg en (Ok2_lbnd ?_)
  dsimp only
  -- behind a fault in the first
  have hs1 : ∀ (f f' : Int) (w : Nat) (ρ' : MS) (v : HS), rXX T kd vl rv pl (B - 5) σ0 f w ρ' → yXX N kd vl pl Γ0 f' w v → f = fxO kd f' w → w ≤ T → Ok2 ((G_X12_expression ρ').bind fun u_177 => if J (nn : Nat) < 0 ∨ 40000 ≤ nn then none else bnd (mA u_177.2 20 (upd (u_177.2.2 20) nn u_177.1)) fun σ_181 => (F_X12_need 59 σ_181).bind fun u_15 => some (J (nn : Nat), u_15.2)) ((G_X2_expression v).bind fun u_29 => (F_X0_add 32 u_29.2).bind fun x => (bnd (mrg (fun j => j == 5) u_29.2 x.2) fun σ => some ((0 : Int32), σ)).bind fun u_49 => (F_X2_need 59 u_49.2).bind fun u_21 => some ((0 : Int32), u_21.2)) (StR T N kd vl rv pl 0 B σ0 Γ0 a dp ln nn) := by
    intro f f' w ρ' v x1 x2 x3 x4
    exact Ok2_bind (Ok2_sep (xx_expr hT x1 (by omega)) (yy_expr hT x2) (fun u v y1 y2 => hs2 f f' w u v (xx_B y1 (by omega)) y2 x3 x4))
  rcases hr with ⟨h', k, ln2, nn2, y, e1, e2, e3, e4, e5, e6, e7, e8, e9, e10, e11⟩ | hs
  · dsimp only at e1 e2 e3 e4 e5 e8 e9 e10 e11
    subst e1
    have r := EXP_rng e5
    have ha' := e3.2.2.2.2.2.2.1
    have r1 : RN T kd vl rv pl (mA u2 19 (upd (u2.2 19) nn (J (y : Nat)))) k dp nn2 := RN_mA e3 (by omega) (by omega) (by omega)
    rw [show F_X12_needKey 42 (mA u2 19 (upd (u2.2 19) nn (J (y : Nat)))) = some (J 0, if kd k = 200 + (44 : Nat) then psd (mA u2 19 (upd (u2.2 19) nn (J (y : Nat)))) k else stp (mA u2 19 (upd (u2.2 19) nn (J (y : Nat)))) (unf kd k) (pl k)) from r_needKey hT r1 (k := 42) (c := 44) (by omega) rfl, show F_X2_need 244 v2 = _ from c_need hT e4 (c := 244) (by omega)]
    refine Ok2_lsome (Ok2_rsome ?_)
    have g8 : rfP σ0 (mA u2 19 (upd (u2.2 19) nn (J (y : Nat)))) := rfP_trans h8 (rfP_trans e10 (rfP_mA (by omega)))
    have g9 := cfP_trans h9 e11
    by_cases q : kd k = 244
    · rw [if_pos (show kd k = 200 + ((44 : Nat) : Int) by omega), if_pos q]
      have hkT := TKE_lt hT ha' (by omega) (by omega)
      dsimp only
      refine Ok2_bind (Ok2_mono (sG_expr hT (B := B - 10) (RN_psd r1 hkT) (CN_cps hT e4 hkT) (by unfold preE; omega) h11) ?_)
      rintro ⟨w1, w2⟩ ⟨z1, z2⟩ hr2
      rcases hr2 with ⟨h'', j', ln3, nn3, y2, d1, d2, d3, d4, d5, d6, d7, d8, d9, d10, d11⟩ | hs
      · dsimp only at d1 d2 d3 d4 d5 d8 d9 d10 d11
        subst d1
        have rr := EXP_rng d5
        have hj' := d3.2.2.2.2.2.2.1
        refine Ok2_lneg en (Ok2_lbnd ?_)
        dsimp only
        rw [show (32 : Int32) = J 32 from rfl, c_add1 d4.2.2.2.2.2.1 (by omega) (by omega) (by omega), Option.bind_some]
        simp only [bnd]
        rw [mrg5 oth5_ca1, Option.bind_some]
        refine st_end hT (RN_mA d3 (by omega) (by omega) (by omega)) (CN_ca1 d4 (by omega)) ?_ ?_ ?_ (by omega) (by omega) (by omega) (by omega) (by omega) ?_ ?_ ?_ ?_ (by omega) (by omega)
        · refine Or.inr (Or.inr (Or.inr (Or.inr (Or.inl ⟨y, y2, k, nn2, ln2, ln3, hk, q, rfl, ?_, ?_, ?_, op1_ca1, by omega, ?_, ?_⟩))))
          · exact (d8 17 (by omega) (by omega) nn (by omega)).trans ((e8 17 (by omega) (by omega) nn (by omega)).trans h3)
          · refine (d8 19 (by omega) (by omega) nn (by omega)).trans ?_
            show upd _ _ _ _ = _; rw [upd_s, if_pos rfl]
          · show upd _ _ _ _ = _; rw [upd_s, if_pos rfl]
          · have g1 : EX kd vl rv pl (mA u2 19 (upd (u2.2 19) nn (J (y : Nat)))) v2 (nn + 1) nn2 y (a + 1) k ln ln2 := EX_mA (EX_of e5 (by omega)) (Or.inl rfl) (Or.inl (by omega))
            exact EX_c1 (EX_mA (EX_ext g1 (rX_trans rX_psd d8 (Nat.le_refl nn2)) (cXt_trans cXt_cps d9 (Nat.le_refl ln2) (Nat.le_succ k)) (Nat.le_refl _) (Nat.le_refl _) (Nat.le_refl _)) (Or.inr (Or.inl rfl)) (Or.inl (by omega))) (by omega)
          · exact EX_c1 (EX_mA (EX_of d5 (by omega)) (Or.inr (Or.inl rfl)) (Or.inl (by omega))) (Nat.le_refl _)
        · exact (d8 22 (by omega) (by omega) nn (by omega)).trans ((e8 22 (by omega) (by omega) nn (by omega)).trans h5)
        · exact (d8 18 (by omega) (by omega) nn (by omega)).trans ((e8 18 (by omega) (by omega) nn (by omega)).trans h4)
        · exact rX_trans h6 (rX_trans (rX_trans (rX_le e8 (by omega)) (rX_mA (Nat.le_refl nn)) (Nat.le_refl nn)) (rX_trans rX_psd (rX_trans (rX_le d8 (by omega)) (rX_mA (Nat.le_refl nn)) (Nat.le_refl nn)) (Nat.le_refl nn)) (Nat.le_refl nn)) (Nat.le_refl nn)
        · have g1 : cXt ln2 k v2 (ca1 z2 ln3 32) := cXt_trans cXt_cps (cXt_trans d9 (cXt_ca1 (show ln2 ≤ ln3 by omega)) (Nat.le_refl ln2) (Nat.le_refl (k + 1))) (Nat.le_refl ln2) (Nat.le_succ k)
          exact cXt_trans h7 (cXt_trans e9 g1 (by omega) (by omega)) (Nat.le_refl ln) (by omega)
        · exact rfP_trans g8 (rfP_trans rfP_psd (rfP_trans d10 (rfP_mA (by omega))))
        · exact cfP_trans g9 (cfP_trans cfP_cps (cfP_trans d11 cfP_ca1))
      · obtain ⟨f, f', w', x1, x2, x3, x4, -⟩ := of_SRes (SRes_mono hs (rfP_trans g8 rfP_psd) (cfP_trans g9 cfP_cps))
        exact hs2 f f' w' (w1, w2) (z1, z2) (xx_B x1 (by omega)) x2 x3 x4
    · rw [if_neg (show ¬ kd k = 200 + ((44 : Nat) : Int) by omega), if_neg q]
      dsimp only
      exact hs1 _ 2 k _ _ ⟨⟨nn2, RX_stp r1, by omega⟩, rfP_trans g8 rfP_stp⟩ ⟨CX_cfl e4 (Or.inl rfl), cfP_trans g9 cfP_cfl⟩ rfl ha'
  · obtain ⟨f, f', w', x1, x2, x3, x4, -⟩ := of_SRes (SRes_mono hs h8 h9)
    have x1' := xx_mA (k := 19) (g := upd (u2.2 19) nn u1) x1 (by omega)
    obtain ⟨r, hr1, hr2⟩ := xx_needKey hT x1' 42
    obtain ⟨r', hr1', hr2'⟩ := yy_need hT x2 (c := 244) (by omega)
    rw [hr1, show F_X2_need 244 v2 = _ from hr1']
    refine Ok2_lsome (Ok2_rsome ?_)
    exact hs1 f f' w' r.2 r'.2 (xx_B hr2 (by omega)) hr2' x3 x4
theorem st_g (hT : TKE T N kd vl rv pl) {B a dp ln nn : Nat} {σ0 ρ : MS} {Γ0 Δ : HS} {d o : Int} {O : Int32} (hO : O = J o) (h : St0 T N kd vl rv pl B σ0 Γ0 a dp ln nn 26 ρ Δ) (hd : ρ.2 21 nn = J d) (hk : gTb (kd a) d o) : Ok2 ((G_X12_expression ρ).bind fun u_54 => if J (nn : Nat) < 0 ∨ 40000 ≤ (J (nn : Nat)).toNatClampNeg then none else bnd (mA u_54.2 19 (upd (u_54.2.2 19) (J (nn : Nat)).toNatClampNeg u_54.1)) fun σ_58 => (F_X12_attribute σ_58).bind fun u_60 => if J (nn : Nat) < 0 ∨ 40000 ≤ (J (nn : Nat)).toNatClampNeg then none else bnd (mA u_60.2 20 (upd (u_60.2.2 20) (J (nn : Nat)).toNatClampNeg u_60.1)) fun σ_64 => (F_X12_need 59 σ_64).bind fun u_15 => some (J (nn : Nat), u_15.2)) ((F_X2_plainStatement O Δ).bind fun u_49 => (F_X2_need 59 u_49.2).bind fun u_21 => some ((0 : Int32), u_21.2)) (StR T N kd vl rv pl 0 B σ0 Γ0 a dp ln nn) := by
  obtain ⟨h1, h2, h3, h4, h5, h6, h7, h8, h9, h10, h11, h12⟩ := h
  unfold preS at h10
  have ho : o = 47 ∨ o = 48 := by unfold gTb at hk; omega
  rw [ps_g (by rcases ho with rfl | rfl; exact Or.inl hO; exact Or.inr hO)]
  simp only [Option.bind_assoc]
  have en := g_en (n := nn) (by omega)
  have en2 := (ng (n := nn) (by omega)).2
  rw [en2] at en
  simp only [en2]
  refine Ok2_bind (Ok2_mono (sG_expr hT (B := B - 10) h1 h2 (by unfold preE; omega) h11) ?_)
  rintro ⟨u1, u2⟩ ⟨v1, v2⟩ hr
  refine Ok2_lneg en (Ok2_lbnd ?_)
  dsimp only
  rcases hr with ⟨h', k, ln2, nn2, y, e1, e2, e3, e4, e5, e6, e7, e8, e9, e10, e11⟩ | hs
  · dsimp only at e1 e2 e3 e4 e5 e8 e9 e10 e11
    subst e1
    have r := EXP_rng e5
    have ha' := e3.2.2.2.2.2.2.1
    have hkr1 := kdOk_rng (TKE_ok hT ha')
    have r1 : RN T kd vl rv pl (mA u2 19 (upd (u2.2 19) nn (J (y : Nat)))) k dp nn2 := RN_mA e3 (by omega) (by omega) (by omega)
    have g8 : rfP σ0 (mA u2 19 (upd (u2.2 19) nn (J (y : Nat)))) := rfP_trans h8 (rfP_trans e10 (rfP_mA (by omega)))
    have g9 := cfP_trans h9 e11
    rw [r_attribute hT r1, Option.bind_some, hO]
    unfold F_X2_attribute
    rw [e4.2.2.1, show J (kd k) - 206 = J (kd k - 206) by rw [J_lit, J_sub], c_add3 e4.2.2.2.2.2.1 (by omega) (by omega) (by omega)]
    simp only [bnd, Option.bind_some]
    rw [mrg5 oth5_ca3]
    have c2 : CN T N kd vl pl (ca3 v2 ln2 o (kd k - 206)) k dp (ln2 + 3) := CN_ca3 e4 (by omega)
    have eF : F_X2_isFrom 206 211 (ca3 v2 ln2 o (kd k - 206)) = some (J (if 206 ≤ kd k ∧ kd k ≤ 211 then 1 else 0), ca3 v2 ln2 o (kd k - 206)) := by
      unfold F_X2_isFrom
      rw [c2.2.2.1]
      by_cases w1 : kd k < 206
      · rw [if_pos (by rw [show (206 : Int32) = J 206 from rfl, J_lt (by omega) (by omega) (by omega) (by omega)]; exact w1), if_neg (by omega)]; rfl
      · rw [if_neg (by rw [show (206 : Int32) = J 206 from rfl, J_lt (by omega) (by omega) (by omega) (by omega)]; exact w1)]
        by_cases w2 : 211 < kd k
        · rw [if_pos (by rw [show (211 : Int32) = J 211 from rfl, J_lt (by omega) (by omega) (by omega) (by omega)]; exact w2), if_neg (by omega)]; rfl
        · rw [if_neg (by rw [show (211 : Int32) = J 211 from rfl, J_lt (by omega) (by omega) (by omega) (by omega)]; exact w2), if_pos (by omega)]; rfl
    rw [eF, Option.bind_some, if_neg en]
    by_cases qa : 206 ≤ kd k ∧ kd k ≤ 211
    · have hkT := TKE_lt hT ha' (by omega) (by omega)
      rw [if_pos qa, if_pos qa, if_neg J1_ne, c_pass hT c2 hkT, Option.bind_some, Option.bind_some]
      have r2 := RN_psd r1 hkT
      refine st_end hT (RN_mA r2 (by omega) (by omega) (by omega)) (CN_cps hT c2 hkT) ?_ ?_ ?_ (by omega) (by omega) (by omega) (by omega) (by omega) ?_ ?_ ?_ ?_ (by omega) (by omega)
      · refine Or.inr (Or.inr (Or.inr (Or.inr (Or.inr (Or.inr (Or.inl ⟨d, o, y, k, ln2, hk, qa.1, qa.2, rfl, rfl, ?_, ?_, ?_, ?_, op3_ca3, ?_⟩))))))
        · exact (e8 17 (by omega) (by omega) nn (by omega)).trans h3
        · show upd _ _ _ _ = _; rw [upd_s, if_pos rfl]
        · show upd _ _ _ _ = _; rw [upd_s, if_pos rfl]
        · exact (e8 21 (by omega) (by omega) nn (by omega)).trans hd
        · have g1 : EX kd vl rv pl (mA u2 19 (upd (u2.2 19) nn (J (y : Nat)))) (ca3 v2 ln2 o (kd k - 206)) (nn + 1) nn2 y (a + 1) k ln ln2 := EX_c3 (EX_mA (EX_of e5 (by omega)) (Or.inl rfl) (Or.inl (by omega))) (Nat.le_refl _)
          have g2 : EX kd vl rv pl (psd (mA u2 19 (upd (u2.2 19) nn (J (y : Nat)))) k) (cps kd (ca3 v2 ln2 o (kd k - 206)) k) (nn + 1) nn2 y (a + 1) k ln ln2 := EX_ag (σ := mA u2 19 (upd (u2.2 19) nn (J (y : Nat)))) (Γ := ca3 v2 ln2 o (kd k - 206)) (fun _ _ _ => ⟨rfl, rfl, rfl, fun _ => rfl, fun _ _ _ _ => rfl, fun _ => rfl⟩) ⟨fun _ _ _ => rfl, fun _ _ _ => rfl⟩ g1
          exact EX_mA g2 (Or.inr (Or.inl rfl)) (Or.inl (by omega))
      · exact (e8 22 (by omega) (by omega) nn (by omega)).trans h5
      · exact (e8 18 (by omega) (by omega) nn (by omega)).trans h4
      · exact rX_trans h6 (rX_trans (rX_trans (rX_le e8 (by omega)) (rX_mA (Nat.le_refl nn)) (Nat.le_refl nn)) (rX_trans rX_psd (rX_mA (Nat.le_refl nn)) (Nat.le_refl nn)) (Nat.le_refl nn)) (Nat.le_refl nn)
      · have g1 : cXt ln2 k v2 (cps kd (ca3 v2 ln2 o (kd k - 206)) k) := cXt_trans (cXt_ca3 (Nat.le_refl ln2)) cXt_cps (Nat.le_refl ln2) (Nat.le_refl k)
        exact cXt_trans h7 (cXt_trans e9 g1 (by omega) (by omega)) (Nat.le_refl ln) (by omega)
      · exact rfP_trans g8 (rfP_trans rfP_psd (rfP_mA (by omega)))
      · exact cfP_trans g9 (cfP_trans cfP_ca3 cfP_cps)
    · rw [if_neg qa, if_neg qa, if_pos J0_eq, show (2 : Int32) = J 2 from rfl, c_fail hT c2, Option.bind_some, Option.bind_some]
      have x1 : rXX T kd vl rv pl (B - 5) σ0 (unf kd k) k (stp (mA u2 19 (upd (u2.2 19) nn (J (y : Nat)))) (unf kd k) (pl k)) := ⟨⟨nn2, RX_stp r1, by omega⟩, rfP_trans g8 rfP_stp⟩
      have x2 : yXX N kd vl pl Γ0 2 k (cfl N (ca3 v2 ln2 o (kd k - 206)) 2 k) := ⟨CX_cfl c2 (Or.inl rfl), cfP_trans g9 (cfP_trans cfP_ca3 cfP_cfl)⟩
      have x1' := xx_mA (k := 20) (g := upd ((stp (mA u2 19 (upd (u2.2 19) nn (J (y : Nat)))) (unf kd k) (pl k)).2 20) nn (J 0)) x1 (by omega)
      exact Ok2_mono (stop2 (B := B) (st_stop hT (nn := nn) (xx_B x1' (by omega)) x2).1 (f' := 2) (st_stop hT (nn := nn) x1' x2).2 rfl ha' ⟨by omega, by omega⟩) (fun _ _ h => Or.inr h)
  · obtain ⟨f, f', w', x1, x2, x3, x4, -⟩ := of_SRes (SRes_mono hs h8 h9)
    have x1' := xx_mA (k := 19) (g := upd (u2.2 19) nn u1) x1 (by omega)
    obtain ⟨r, hr1, hr2⟩ := xx_attribute hT x1'
    rw [hr1]
    refine Ok2_lsome (Ok2_lneg en (Ok2_lbnd ?_))
    have x3' := xx_mA (k := 20) (g := upd (r.2.2 20) nn r.1) hr2 (by omega)
    refine Ok2_mono (stop2 (B := B) (st_stop hT (nn := nn) (xx_B x3' (by omega)) x2).1 (f' := f') ?_ x3 x4 ⟨by omega, by omega⟩) (fun _ _ h => Or.inr h)
    exact Ok_bind (Ok_mono (yy_attribute hT x2 O) (fun z hz => (st_stop hT (nn := nn) x3' hz).2))
