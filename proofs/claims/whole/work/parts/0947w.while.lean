/-! while -/
variable {T N : Nat} {kd vl rv : Nat → Int} {pl : Nat → Nat}
theorem agC_sp {Γ : HS} {i j p q l : Nat} {v : Int} (h : q ≤ l ∨ l + 1 < p) : agC i j p q Γ (csp Γ l v) := ⟨fun r r1 r2 => csp_n (by omega) (by omega), fun _ _ _ => rfl⟩
theorem agN_rfl {σ : MS} {lo hi x : Nat} : agN lo hi x σ σ := fun _ _ _ => ⟨rfl, rfl, rfl, fun _ => rfl, fun _ _ _ _ => rfl, fun _ => rfl⟩
theorem op3_csp {Γ : HS} {r : Nat} {o v : Int} (h : (Γ 5).2.1 0 r = J o) : op3 (csp Γ (r + 1) v) r o v := by
  refine ⟨?_, ?_, ?_⟩
  · rw [csp_n (by omega) (by omega)]; exact h
  · show upd _ _ _ _ = _; rw [upd_s, if_neg (by omega), upd_s, if_pos rfl]
  · show upd _ _ _ _ = _; rw [upd_s, if_pos rfl]
theorem CN_csp {Γ : HS} {a dp ln p : Nat} {v : Int} (h : CN T N kd vl pl Γ a dp ln) : CN T N kd vl pl (csp Γ p v) a dp ln := CN_5 h oth5_csp h.2.2.2.2.2.1 h.2.2.2.2.2.2.2.2
theorem cfP_csp {Γ : HS} {p : Nat} {v : Int} : cfP Γ (csp Γ p v) := cfP_5 oth5_csp
theorem cXt_csp {Γ : HS} {ln a p : Nat} {v : Int} (h : ln ≤ p) : cXt ln a Γ (csp Γ p v) := ⟨fun r hr => csp_n (by omega) (by omega), fun _ _ => rfl⟩
theorem EX_sp {σ : MS} {Γ : HS} {lo hi x i j p q l : Nat} {v : Int} (h : EX kd vl rv pl σ Γ lo hi x i j p q) (hl : q ≤ l ∨ l + 1 < p) : EX kd vl rv pl σ (csp Γ l v) lo hi x i j p q := EX_ag agN_rfl (agC_sp hl) h
theorem Ok2_r0 {m : MR} {n : HR} {P : Int32 × MS → HS → Prop} (h : Ok2 m n (fun u v => P u v.2)) : Ok2 m (n.bind fun u_7 => some ((0 : Int32), u_7.2)) (fun u v => P u v.2) := by
  obtain ⟨r, s, e, e2, q⟩ := h
  exact ⟨r, (0, s.2), e, by rw [e2]; rfl, q⟩
theorem w_stop {Γ0 v : HS} {f' : Int} {w : Nat} (h : yXX N kd vl pl Γ0 f' w v) {z : Int} (z1 : -2 ≤ z) (z2 : z ≤ 40000) (x : Int32) : Ok ((F_X0_add_ 41 x v).bind fun u_15 => bnd (mrg (fun j => j == 5) v u_15.2) fun σ_17 => (F_X0_aim (J z) σ_17).bind fun u_19 => bnd (mrg (fun j => j == 5) σ_17 u_19.2) fun σ_21 => some ((0 : Int32), σ_21)) fun u => yXX N kd vl pl Γ0 f' w u.2 := by
  obtain ⟨z', Ξ, e5, -, -, e6, hΞ⟩ := yy_add3_e h 41 x
  rw [e5, Option.bind_some]
  refine Ok_bnd ?_
  rw [e6]
  obtain ⟨x2, Ψ, e7, e8, hΨ⟩ := yy_aim_e hΞ z1 z2
  rw [e7, Option.bind_some]
  refine Ok_bnd (Ok_some ?_)
  rw [e8]; exact hΨ
theorem st_w (hT : TKE T N kd vl rv pl) {B a dp ln nn d e : Nat} {σ0 ρ : MS} {Γ0 Δ : HS} (hB : simB T N kd vl rv pl dp) (hd : 3 * (31 - dp) ≤ d) (he : 3 * (31 - dp) + 1 ≤ e) (h : St0 T N kd vl rv pl B σ0 Γ0 a dp ln nn 28 ρ Δ) (hk : kd a = 250) : Ok2 ((G_X12_expression ρ).bind fun u_132 => if J (nn : Nat) < 0 ∨ 40000 ≤ nn then none else bnd (mA u_132.2 19 (upd (u_132.2.2 19) nn u_132.1)) fun σ_136 => (gS d 0 0 0 0 σ_136).bind fun u_138 => if J (nn : Nat) < 0 ∨ 40000 ≤ nn then none else bnd (mA u_138.2 20 (upd (u_138.2.2 20) nn u_138.1)) fun σ_142 => some (J (nn : Nat), σ_142)) ((gB e 3 0 0 0 Δ).bind fun u_7 => some ((0 : Int32), u_7.2)) (StR T N kd vl rv pl 0 B σ0 Γ0 a dp ln nn) := by
  obtain ⟨h1, h2, h3, h4, h5, h6, h7, h8, h9, h10, h11, h12⟩ := h
  unfold preS at h10
  have en := g_en (n := nn) (by omega)
  rw [(ng (n := nn) (by omega)).2] at en
  obtain ⟨e, rfl⟩ : ∃ m, e = m + 1 := ⟨e - 1, by omega⟩
  refine Ok2_r0 (P := fun u w => StR T N kd vl rv pl 0 B σ0 Γ0 a dp ln nn u ((0 : Int32), w)) ?_
  rw [q_gB_3]
  unfold F_X2_whileStatement
  rw [h2.2.2.2.2.2.1]
  refine Ok2_rbnd ?_
  -- behind a fault of the block
  have hs3 : ∀ (f f' : Int) (w : Nat) (u : Int32 × MS) (v' : HS) (z : Int), -2 ≤ z → z ≤ 40000 → rXX T kd vl rv pl B σ0 f w u.2 → yXX N kd vl pl Γ0 f' w v' → f = fxO kd f' w → w ≤ T → Ok2 (if J (nn : Nat) < 0 ∨ 40000 ≤ nn then none else bnd (mA u.2 20 (upd (u.2.2 20) nn u.1)) fun σ_142 => some (J (nn : Nat), σ_142)) ((F_X0_add_ 41 (J (ln : Nat)) v').bind fun u_15 => bnd (mrg (fun j => j == 5) v' u_15.2) fun σ_17 => (F_X0_aim (J z) σ_17).bind fun u_19 => bnd (mrg (fun j => j == 5) σ_17 u_19.2) fun σ_21 => some ((0 : Int32), σ_21)) (fun u v => StR T N kd vl rv pl 0 B σ0 Γ0 a dp ln nn u ((0 : Int32), v.2)) := by
    intro f f' w u v' z z1 z2 y1 y2 y3 y4
    refine Ok2_lneg en (Ok2_lbnd ?_)
    refine Ok2_sep (Q := fun u => rXX T kd vl rv pl B σ0 f w u.2 ∧ u.1 = J (nn : Nat)) (Ok_some ⟨xx_mA y1 (by omega), rfl⟩) (w_stop y2 z1 z2 (J (ln : Nat))) (fun u v a b => Or.inr ?_)
    exact SRes_of (v := ((0 : Int32), v.2)) a.1 b y3 y4 ⟨nn, a.2, by omega, by omega⟩
  refine Ok2_bind (Ok2_mono (sG_expr hT (B := B - 10) h1 h2 (by unfold preE; omega) h11) ?_)
  rintro ⟨u1, u2⟩ ⟨v1, v2⟩ hr
  refine Ok2_lneg en (Ok2_lbnd ?_)
  dsimp only
  rcases hr with ⟨h', k, ln2, nn2, y, e1, e2, e3, e4, e5, e6, e7, e8, e9, e10, e11⟩ | hs
  rotate_left
  · obtain ⟨f, f', w', x1, x2, x3, x4, -⟩ := of_SRes (SRes_mono hs h8 h9)
    have x1' := xx_mA (k := 19) (g := upd (u2.2 19) nn u1) x1 (by omega)
    obtain ⟨z, Θ, f1, z1, z2, f2, hΘ⟩ := yy_add3_e x2 42 0
    refine Ok2_re f1 (Ok2_rbnd ?_)
    rw [f2]
    obtain ⟨xx, Ξ, f3, f4, hΞ⟩ := yy_add_e hΘ 3
    refine Ok2_re f3 (Ok2_rbnd ?_)
    rw [f4]
    refine Ok2_bind (Ok2_sep (xx_block hT x1' (by omega) (by omega)) (yy_block hT hΞ (by omega)) (fun u v y1 y2 => ?_))
    exact hs3 f f' w' u v.2 z z1 z2 (xx_B y1.1 (by omega)) y2 x3 x4
  dsimp only at e1 e2 e3 e4 e5 e8 e9 e10 e11
  subst e1
  have r := EXP_rng e5
  have ha' := e3.2.2.2.2.2.2.1
  refine Ok2_re (show F_X0_add_ 42 0 v2 = _ from c_add3 (o := 42) (v := 0) e4.2.2.2.2.2.1 (by omega) (by omega) (by omega)) (Ok2_rbnd ?_)
  rw [mrg5 oth5_ca3]
  have c1 : CN T N kd vl pl (ca3 v2 ln2 42 0) k dp (ln2 + 3) := CN_ca3 e4 (by omega)
  refine Ok2_re (show F_X0_add 3 (ca3 v2 ln2 42 0) = _ from c_add1 (o := 3) c1.2.2.2.2.2.1 (by omega) (by omega) (by omega)) (Ok2_rbnd ?_)
  rw [mrg5 oth5_ca1]
  have c2 : CN T N kd vl pl (ca1 (ca3 v2 ln2 42 0) (ln2 + 3) 3) k dp (ln2 + 4) := CN_ca1 c1 (by omega)
  have r1 : RN T kd vl rv pl (mA u2 19 (upd (u2.2 19) nn (J (y : Nat)))) k dp nn2 := RN_mA e3 (by omega) (by omega) (by omega)
  have g8 : rfP σ0 (mA u2 19 (upd (u2.2 19) nn (J (y : Nat)))) := rfP_trans h8 (rfP_trans e10 (rfP_mA (by omega)))
  have g9 : cfP Γ0 (ca1 (ca3 v2 ln2 42 0) (ln2 + 3) 3) := cfP_trans h9 (cfP_trans e11 (cfP_trans cfP_ca3 cfP_ca1))
  have E1 : EX kd vl rv pl (mA u2 19 (upd (u2.2 19) nn (J (y : Nat)))) (ca1 (ca3 v2 ln2 42 0) (ln2 + 3) 3) (nn + 1) nn2 y (a + 1) k ln ln2 := EX_c1 (EX_c3 (EX_mA (EX_of e5 (by omega)) (Or.inl rfl) (Or.inl (by omega))) (Nat.le_refl _)) (by omega)
  refine Ok2_bind (Ok2_mono (hB B k (ln2 + 4) nn2 d e _ _ r1 c2 (by unfold preS; omega) (by omega) (by omega)) ?_)
  rintro ⟨w1, w2⟩ ⟨z1, z2⟩ hr2
  rcases hr2 with ⟨hh, k2, q', nn3, b, ⟨d1, dh⟩, d2, d3, d4, d5, d6, d7, d8, d9, d10, d11⟩ | hs
  rotate_left
  · obtain ⟨f, f', w', x1, x2, x3, x4, -⟩ := of_SRes (SRes_mono hs g8 g9)
    exact hs3 f f' w' (w1, w2) z2 (ln2 + 1 : Nat) (by omega) (by omega) x1 x2 x3 x4
  dsimp only at d1 d2 d3 d4 d5 d8 d9 d10 d11
  subst d1
  have rr := STX_rng d5
  have hk2 := d3.2.2.2.2.2.2.1
  refine Ok2_lneg en (Ok2_lbnd ?_)
  dsimp only
  refine Ok2_re (show F_X0_add_ 41 (J (ln : Nat)) z2 = _ from c_add3 (o := 41) (v := (ln : Nat)) d4.2.2.2.2.2.1 (by omega) (by omega) (by omega)) (Ok2_rbnd ?_)
  rw [mrg5 oth5_ca3]
  have c3 : CN T N kd vl pl (ca3 z2 q' 41 (ln : Nat)) k2 dp (q' + 3) := CN_ca3 d4 (by omega)
  refine Ok2_re (show F_X0_aim (J (ln2 + 1 : Nat)) (ca3 z2 q' 41 (ln : Nat)) = _ from c_aim c3.2.2.2.2.2.1 (by omega)) (Ok2_rbnd ?_)
  rw [mrg5 oth5_csp]
  have x2 : rX nn2 (mA u2 19 (upd (u2.2 19) nn (J (y : Nat)))) w2 := d8
  have x1 : rX (nn + 1) ρ u2 := e8
  refine Ok2_some (Or.inl ⟨hh + 2, k2, q' + 3, nn3, nn, ⟨rfl, by unfold fuB at dh ⊢; omega⟩, ?_, RN_mA d3 (by omega) (by omega) (by omega), CN_csp c3, ?_, by omega, by omega, ?_, ?_, ?_, ?_⟩)
  · exact (x2 22 (by omega) (by omega) nn (by omega)).trans ((x1 22 (by omega) (by omega) nn (by omega)).trans h5)
  · refine ⟨Nat.le_refl _, by omega, by omega, by omega, Or.inl ⟨rfl, by omega, ?_, Or.inr (Or.inr ⟨y, b, k, nn2, ln2, q', hk, rfl, ?_, ?_, ?_, ?_, ?_, ?_, by omega, ?_, ?_⟩)⟩⟩
    · exact (x2 18 (by omega) (by omega) nn (by omega)).trans ((x1 18 (by omega) (by omega) nn (by omega)).trans h4)
    · exact (x2 17 (by omega) (by omega) nn (by omega)).trans ((x1 17 (by omega) (by omega) nn (by omega)).trans h3)
    · refine (x2 19 (by omega) (by omega) nn (by omega)).trans ?_
      show upd _ _ _ _ = _; rw [upd_s, if_pos rfl]
    · show upd _ _ _ _ = _; rw [upd_s, if_pos rfl]
    · refine op3_csp ?_
      rw [(cXt_ca3 (a := 0) (show ln2 + 4 ≤ q' by omega)).1 ln2 (by omega), d9.1 ln2 (by omega), (cXt_ca1 (a := 0) (Nat.le_refl (ln2 + 3))).1 ln2 (by omega)]
      exact op3_ca3.1
    · show (csp _ _ _ 5).2.1 0 _ = _
      rw [csp_n (by omega) (by omega), (cXt_ca3 (a := 0) (show ln2 + 4 ≤ q' by omega)).1 (ln2 + 3) (by omega), d9.1 (ln2 + 3) (by omega)]
      exact op1_ca1
    · exact op3_ag (i := 0) (j := 0) (p := q') (q := q' + 3) op3_ca3 (agC_sp (Or.inr (by omega))) (Nat.le_refl _) (by omega)
    · exact EX_mA (EX_sp (EX_c3 (EX_ext E1 x2 d9 (Nat.le_refl _) (by omega) (Nat.le_refl _)) (by omega)) (Or.inl (by omega))) (Or.inr (Or.inl rfl)) (Or.inl (by omega))
    · refine STX_ag _ _ _ _ _ _ _ _ _ (agN_mA19 (Or.inr (Or.inl rfl)) (Or.inl (by omega))) (agC_sp (Or.inr (by omega))) ?_
      exact STX_ag _ _ _ _ _ _ _ _ _ agN_rfl (agC_ca3 (Nat.le_refl q')) (STX_w3 d5)
  · exact rX_trans h6 (rX_trans (rX_trans (rX_le x1 (by omega)) (rX_mA (Nat.le_refl nn)) (Nat.le_refl nn)) (rX_trans (rX_le x2 (by omega)) (rX_mA (Nat.le_refl nn)) (Nat.le_refl nn)) (Nat.le_refl nn)) (Nat.le_refl nn)
  · have g1 : cXt ln (a + 1) Δ (ca1 (ca3 v2 ln2 42 0) (ln2 + 3) 3) := cXt_trans e9 (cXt_trans (cXt_ca3 (Nat.le_refl ln2)) (cXt_ca1 (show ln2 ≤ ln2 + 3 by omega)) (Nat.le_refl ln2) (Nat.le_refl (a + 1))) (by omega) (Nat.le_refl (a + 1))
    have g3 : cXt ln (a + 1) Δ (ca3 z2 q' 41 (ln : Nat)) := cXt_trans g1 (cXt_trans d9 (cXt_ca3 (show ln2 + 4 ≤ q' by omega)) (Nat.le_refl _) (Nat.le_refl k)) (by omega) (by omega)
    have g2 : cXt ln (a + 1) Δ (csp (ca3 z2 q' 41 (ln : Nat)) (ln2 + 1) ((q' + 3 : Nat) : Int)) := cXt_trans g3 (cXt_csp (show ln ≤ ln2 + 1 by omega)) (Nat.le_refl ln) (Nat.le_refl (a + 1))
    exact cXt_trans h7 g2 (Nat.le_refl ln) (by omega)
  · exact rfP_trans g8 (rfP_trans d10 (rfP_mA (by omega)))
  · exact cfP_trans g9 (cfP_trans d11 (cfP_trans cfP_ca3 cfP_csp))
