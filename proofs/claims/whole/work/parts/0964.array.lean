/-! arrays -/
variable {T N : Nat} {kd vl rv : Nat → Int} {pl : Nat → Nat}
def ARD (kd vl rv : Nat → Int) (pl : Nat → Nat) (σ : MS) (x hi i j : Nat) : Prop := kd i = 234 ∧ kd (i + 1) = 2 ∧ kd (i + 2) = 91 ∧ kd (i + 3) = 3 ∧ kd (i + 4) = 93 ∧ kd (i + 5) = 59 ∧ j = i + 6 ∧ hi = x + 2 ∧ σ.2 17 x = J 5 ∧ σ.2 18 x = J (pl i) ∧ σ.2 19 x = J (x + 1 : Nat) ∧ NMN rv pl σ (x + 1) (i + 1) ∧ σ.2 20 x = J (vl (i + 3)) ∧ σ.2 21 x = J (pl (i + 3))
def Aa3 (N_ : Int32) (t_167 : Int32) (σ_168 : MS) : MR := if N_ < 0 ∨ 40000 ≤ N_.toNatClampNeg then none else bnd (mA σ_168 21 (upd (σ_168.2 21) N_.toNatClampNeg t_167)) fun σ_174 => (F_X12_needKind 3 σ_174).bind fun u_176 => if N_ < 0 ∨ 40000 ≤ N_.toNatClampNeg then none else bnd (mA u_176.2 20 (upd (u_176.2.2 20) N_.toNatClampNeg u_176.1)) fun σ_180 => (F_X12_shut 93 σ_180).bind fun u_182 => (F_X12_need 59 u_182.2).bind fun u_184 => some (N_, u_184.2)
def Aa2 (N_ : Int32) (σ_161 : MS) : MR := (F_X12_open 91 σ_161).bind fun u_165 => if (u_165.2.1 27) = 0 then (if (u_165.2.1 25) < 0 ∨ 16010 ≤ (u_165.2.1 25).toNatClampNeg then none else Aa3 N_ (u_165.2.2 8 (u_165.2.1 25).toNatClampNeg) u_165.2) else Aa3 N_ 0 u_165.2
def ArR (p : Int32) (σ : MS) : MR := (F_X12_node 5 p σ).bind fun u_1 => (F_X12_name u_1.2).bind fun u_2 => if u_1.1 < 0 ∨ 40000 ≤ u_1.1.toNatClampNeg then none else bnd (mA u_2.2 19 (upd (u_2.2.2 19) u_1.1.toNatClampNeg u_2.1)) fun σ_3 => Aa2 u_1.1 σ_3
theorem xx_open (hT : TKE T N kd vl rv pl) {B : Nat} {σ0 σ : MS} {f : Int} {w : Nat} (h : rXX T kd vl rv pl B σ0 f w σ) (c : Int32) : F_X12_open c σ = some (J 0, σ) := by
  obtain ⟨⟨n, a, b⟩, d⟩ := h
  exact x_open hT a c
theorem xx_27 {B : Nat} {σ0 σ : MS} {f : Int} {w : Nat} (h : rXX T kd vl rv pl B σ0 f w σ) : ¬ σ.1 27 = 0 := by
  obtain ⟨⟨n, a, b⟩, d⟩ := h
  rw [a.2.1]; exact J1_ne
theorem yy_open (hT : TKE T N kd vl rv pl) {Γ0 Γ : HS} {f' : Int} {w : Nat} (h : yXX N kd vl pl Γ0 f' w Γ) {c : Int} (hc : c ≠ 0 ∧ 0 ≤ c ∧ c < 1000) : Ok (F_X2_open (J c) Γ) fun u => yXX N kd vl pl Γ0 f' w u.2 := Ok_mono (y_open hT h.1 hc) (fun _ hu => ⟨hu.1, cfP_trans h.2 hu.2⟩)
theorem yy_shut (hT : TKE T N kd vl rv pl) {Γ0 Γ : HS} {f' : Int} {w : Nat} (h : yXX N kd vl pl Γ0 f' w Γ) {c : Int} (hc : c ≠ 0 ∧ 0 ≤ c ∧ c < 1000) : Ok (F_X2_shut (J c) Γ) fun u => yXX N kd vl pl Γ0 f' w u.2 := Ok_mono (y_shut hT h.1 hc) (fun _ hu => ⟨hu.1, cfP_trans h.2 hu.2⟩)
theorem aa4_stop (hT : TKE T N kd vl rv pl) {B nn : Nat} (hn : nn < 39000) {σ0 ρ : MS} {f : Int} {w : Nat} (x1 : rXX T kd vl rv pl B σ0 f w ρ) (t : Int32) : Ok (if J (nn : Nat) < 0 ∨ 40000 ≤ (J (nn : Nat)).toNatClampNeg then none else bnd (mA ρ 20 (upd (ρ.2 20) (J (nn : Nat)).toNatClampNeg t)) fun σ_180 => (F_X12_shut 93 σ_180).bind fun u_182 => (F_X12_need 59 u_182.2).bind fun u_184 => some (J (nn : Nat), u_184.2)) fun u => rXX T kd vl rv pl B σ0 f w u.2 ∧ u.1 = J (nn : Nat) :=
  Ok_neg (g_en (by omega)) (Ok_bnd (Ok_bind (Ok_mono (xx_shut hT (xx_mA x1 (by omega)) 93) (fun u hu => Ok_bind (Ok_mono (xx_need hT hu 59) (fun u hu => Ok_some ⟨hu, rfl⟩))))))
theorem aa3_stop (hT : TKE T N kd vl rv pl) {B nn : Nat} (hn : nn < 39000) {σ0 ρ : MS} {f : Int} {w : Nat} (x1 : rXX T kd vl rv pl B σ0 f w ρ) (t : Int32) : Ok (Aa3 (J (nn : Nat)) t ρ) fun u => rXX T kd vl rv pl B σ0 f w u.2 ∧ u.1 = J (nn : Nat) := by
  unfold Aa3
  refine Ok_neg (g_en (by omega)) (Ok_bnd ?_)
  have x2 : rXX T kd vl rv pl B σ0 f w (mA ρ 21 (upd (ρ.2 21) (J (nn : Nat)).toNatClampNeg t)) := xx_mA x1 (by omega)
  rw [xx_needKind hT x2, Option.bind_some]
  exact aa4_stop hT hn x2 _
theorem aa2_stop (hT : TKE T N kd vl rv pl) {B nn : Nat} (hn : nn < 39000) {σ0 ρ : MS} {f : Int} {w : Nat} (x1 : rXX T kd vl rv pl B σ0 f w ρ) : Ok (Aa2 (J (nn : Nat)) ρ) fun u => rXX T kd vl rv pl B σ0 f w u.2 ∧ u.1 = J (nn : Nat) := by
  unfold Aa2
  rw [xx_open hT x1, Option.bind_some]
  exact Ok_neg (xx_27 x1) (aa3_stop hT hn x1 _)
theorem ya3 (hT : TKE T N kd vl rv pl) {Γ0 v : HS} {f' : Int} {w : Nat} (x2 : yXX N kd vl pl Γ0 f' w v) : Ok ((F_X2_shut 93 v).bind fun u_7 => (F_X2_need 59 u_7.2).bind fun u_9 => some ((0 : Int32), u_9.2)) fun u => yXX N kd vl pl Γ0 f' w u.2 := Ok_bind (Ok_mono (yy_shut hT x2 (c := 93) (by omega)) (fun u hu => yy_need3 hT hu))
theorem ya2 (hT : TKE T N kd vl rv pl) {Γ0 v : HS} {f' : Int} {w : Nat} (x2 : yXX N kd vl pl Γ0 f' w v) : Ok ((F_X2_need 3 v).bind fun u_5 => (F_X2_shut 93 u_5.2).bind fun u_7 => (F_X2_need 59 u_7.2).bind fun u_9 => some ((0 : Int32), u_9.2)) fun u => yXX N kd vl pl Γ0 f' w u.2 := Ok_bind (Ok_mono (yy_need hT x2 (c := 3) (by omega)) (fun u hu => ya3 hT hu))
theorem sArray (hT : TKE T N kd vl rv pl) {B a dp ln nn : Nat} {σ : MS} {Γ : HS} (hk : kd a = 234) (h1 : RN T kd vl rv pl σ (a + 1) dp nn) (h2 : CN T N kd vl pl Γ (a + 1) dp ln) (hp : preS T B a dp ln nn) (hdp : dp < 30) : Ok2 (ArR (J (pl a : Nat)) σ) (F_X2_arrayItem Γ) (ItP T N kd vl rv pl (ARD kd vl rv pl) B σ Γ a dp ln nn) := by
  unfold preS at hp
  have en := g_en (n := nn) (by omega)
  have en2 := (ng (n := nn) (by omega)).2
  have ha := h1.2.2.2.2.2.2.1
  refine hd_eq hT (w := 5) rfl h1 (by omega) ?_
  unfold F_X2_arrayItem
  refine Ok2_re (show F_X2_need 2 Γ = _ from c_need hT h2 (c := 2) (by omega)) ?_
  dsimp only
  by_cases q1 : kd (a + 1) = 2
  rotate_left
  · rw [if_neg q1]
    exact itP_stop (aa2_stop hT (by omega) (hd_no h1 q1 (by omega))) (Ok_bind (Ok_mono (yy_open hT (Γ0 := Γ) ⟨CX_cfl h2 (Or.inl rfl), cfP_cfl⟩ (c := 91) (by omega)) (fun u hu => ya2 hT hu))) rfl ha
  rw [if_pos q1]
  obtain ⟨τ, eτ, r2, x2, f2, w17, w18, w19, -, -, w22, wN⟩ := hd_yes hT (w := 5) h1 q1
  rw [eτ]
  have haT := TKE_lt hT ha (by omega) (by omega)
  have c2 := CN_cps hT h2 haT
  have hkr := kdOk_rng (TKE_ok hT (show a + 2 ≤ T from haT))
  unfold Aa2 F_X2_open
  by_cases q2 : kd (a + 2) = 91
  rotate_left
  · refine Ok2_le (show F_X12_open 91 τ = _ from r_open_n hT r2 (c := 91) (by decide) q2) ?_
    rw [c2.2.2.1, if_neg (show ¬ J (kd (a + 2)) = 91 by rw [show (91 : Int32) = J 91 from rfl, J_eq (by omega) (by omega) (by omega) (by omega)]; exact q2), show F_X2_fail 2 (cps kd Γ (a + 1)) = _ from c_fail hT c2 2]
    refine Ok2_rsome (Ok2_rsome ?_)
    have xs : rXX T kd vl rv pl B σ (unf kd (a + 2)) (a + 2) (stp τ (unf kd (a + 2)) (pl (a + 2))) := ⟨⟨nn + 2, RX_stp r2, by omega⟩, rfP_trans f2 rfP_stp⟩
    exact itP_stop (Ok_neg (xx_27 xs) (aa3_stop hT (by omega) xs _)) (ya2 hT ⟨CX_cfl c2 (Or.inl rfl), cfP_trans cfP_cps cfP_cfl⟩) rfl haT
  have haT2 := TKE_lt hT r2.2.2.2.2.2.2.1 (by omega) (by omega)
  refine Ok2_le (show F_X12_open 91 τ = _ from r_open_y hT r2 (c := 91) (by decide) q2 hdp) ?_
  rw [c2.2.2.1, if_pos (show J (kd (a + 1 + 1)) = 91 by rw [show kd (a + 1 + 1) = 91 from q2]; rfl), c_deepen hT c2 haT2, if_pos hdp]
  refine Ok2_rsome (Ok2_rsome ?_)
  have r3 := RN_psd (RN_opn (d := dp + 1) r2 (by omega)) haT2
  have c3 := CN_cps hT (CN_cop (d := dp + 1) c2 (by omega)) haT2
  dsimp only
  refine Ok2_lpos (by rw [r3.2.2.2.1]; rfl) (Ok2_lneg (rg hT r3).1 ?_)
  rw [(rg hT r3).2, (RN_at hT r3).2.1]
  unfold Aa3
  refine Ok2_lneg en (Ok2_lbnd ?_)
  rw [en2]
  rw [en2] at en
  have r4 : RN T kd vl rv pl (mA (psd (opn τ (dp + 1 : Nat)) (a + 2)) 21 (upd ((psd (opn τ (dp + 1 : Nat)) (a + 2)).2 21) nn (J (pl (a + 2 + 1) : Nat)))) (a + 3) (dp + 1) (nn + 2) := RN_mA r3 (by omega) (by omega) (by omega)
  refine Ok2_le (show F_X12_needKind 3 _ = _ from r_needKind hT r4 (k := 3) (Or.inr (Or.inl rfl))) ?_
  refine Ok2_re (show F_X2_need 3 _ = _ from c_need hT c3 (c := 3) (by omega)) ?_
  have f4 : rfP σ (mA (psd (opn τ (dp + 1 : Nat)) (a + 2)) 21 (upd ((psd (opn τ (dp + 1 : Nat)) (a + 2)).2 21) nn (J (pl (a + 2 + 1) : Nat)))) := rfP_trans f2 (rfP_trans rfP_opn (rfP_trans rfP_psd (rfP_mA (by omega))))
  have g3 : cfP Γ (cps kd (cop (cps kd Γ (a + 1)) (dp + 1 : Nat)) (a + 2)) := cfP_trans cfP_cps (cfP_trans cfP_cop cfP_cps)
  by_cases q3 : kd (a + 3) = 3
  rotate_left
  · rw [if_neg q3, if_neg (show ¬ kd (a + 1 + 1 + 1) = 3 from q3)]
    have es := aa4_stop hT (B := B) (nn := nn) (by omega) (σ0 := σ) (f := unf kd (a + 3)) (w := a + 3) ⟨⟨nn + 2, RX_stp r4, by omega⟩, rfP_trans f4 rfP_stp⟩ (J 0)
    rw [en2] at es
    exact itP_stop (f := unf kd (a + 3)) (w := a + 3) es (ya3 hT ⟨CX_cfl c3 (Or.inl rfl), cfP_trans g3 cfP_cfl⟩) rfl (by omega)
  rw [if_pos q3, if_pos (show kd (a + 1 + 1 + 1) = 3 from q3)]
  have haT3 := TKE_lt hT r4.2.2.2.2.2.2.1 (by omega) (by omega)
  refine Ok2_lneg en (Ok2_lbnd ?_)
  dsimp only
  rw [show rvO kd vl rv (a + 3) = vl (a + 3) by unfold rvO; rw [if_neg (by omega), if_pos q3]]
  have r5 : RN T kd vl rv pl (mA (psd (mA (psd (opn τ (dp + 1 : Nat)) (a + 2)) 21 (upd ((psd (opn τ (dp + 1 : Nat)) (a + 2)).2 21) nn (J (pl (a + 2 + 1) : Nat)))) (a + 3)) 20 (upd ((psd (mA (psd (opn τ (dp + 1 : Nat)) (a + 2)) 21 (upd ((psd (opn τ (dp + 1 : Nat)) (a + 2)).2 21) nn (J (pl (a + 2 + 1) : Nat)))) (a + 3)).2 20) nn (J (vl (a + 3))))) (a + 4) (dp + 1) (nn + 2) := RN_mA (RN_psd r4 haT3) (by omega) (by omega) (by omega)
  have c5 := CN_cps hT c3 haT3
  have f5 : rfP σ (mA (psd (mA (psd (opn τ (dp + 1 : Nat)) (a + 2)) 21 (upd ((psd (opn τ (dp + 1 : Nat)) (a + 2)).2 21) nn (J (pl (a + 2 + 1) : Nat)))) (a + 3)) 20 (upd ((psd (mA (psd (opn τ (dp + 1 : Nat)) (a + 2)) 21 (upd ((psd (opn τ (dp + 1 : Nat)) (a + 2)).2 21) nn (J (pl (a + 2 + 1) : Nat)))) (a + 3)).2 20) nn (J (vl (a + 3))))) := rfP_trans f4 (rfP_trans rfP_psd (rfP_mA (by omega)))
  have x5 : rX nn σ (mA (psd (mA (psd (opn τ (dp + 1 : Nat)) (a + 2)) 21 (upd ((psd (opn τ (dp + 1 : Nat)) (a + 2)).2 21) nn (J (pl (a + 2 + 1) : Nat)))) (a + 3)) 20 (upd ((psd (mA (psd (opn τ (dp + 1 : Nat)) (a + 2)) 21 (upd ((psd (opn τ (dp + 1 : Nat)) (a + 2)).2 21) nn (J (pl (a + 2 + 1) : Nat)))) (a + 3)).2 20) nn (J (vl (a + 3))))) := rX_trans x2 (rX_trans (rX_trans rX_opn (rX_psd (a := a + 2)) (Nat.le_refl nn)) (rX_trans (rX_mA (Nat.le_refl nn)) (rX_trans (rX_psd (a := a + 3)) (rX_mA (Nat.le_refl nn)) (Nat.le_refl nn)) (Nat.le_refl nn)) (Nat.le_refl nn)) (Nat.le_refl nn)
  have e21 : (mA (psd (mA (psd (opn τ (dp + 1 : Nat)) (a + 2)) 21 (upd ((psd (opn τ (dp + 1 : Nat)) (a + 2)).2 21) nn (J (pl (a + 2 + 1) : Nat)))) (a + 3)) 20 (upd ((psd (mA (psd (opn τ (dp + 1 : Nat)) (a + 2)) 21 (upd ((psd (opn τ (dp + 1 : Nat)) (a + 2)).2 21) nn (J (pl (a + 2 + 1) : Nat)))) (a + 3)).2 20) nn (J (vl (a + 3))))).2 21 nn = J (pl (a + 3)) := by show upd _ _ _ _ = _; rw [upd_s, if_pos rfl]
  have e20 : (mA (psd (mA (psd (opn τ (dp + 1 : Nat)) (a + 2)) 21 (upd ((psd (opn τ (dp + 1 : Nat)) (a + 2)).2 21) nn (J (pl (a + 2 + 1) : Nat)))) (a + 3)) 20 (upd ((psd (mA (psd (opn τ (dp + 1 : Nat)) (a + 2)) 21 (upd ((psd (opn τ (dp + 1 : Nat)) (a + 2)).2 21) nn (J (pl (a + 2 + 1) : Nat)))) (a + 3)).2 20) nn (J (vl (a + 3))))).2 20 nn = J (vl (a + 3)) := by show upd _ _ _ _ = _; rw [upd_s, if_pos rfl]
  have eo : ∀ j, j ≠ 20 → j ≠ 21 → (mA (psd (mA (psd (opn τ (dp + 1 : Nat)) (a + 2)) 21 (upd ((psd (opn τ (dp + 1 : Nat)) (a + 2)).2 21) nn (J (pl (a + 2 + 1) : Nat)))) (a + 3)) 20 (upd ((psd (mA (psd (opn τ (dp + 1 : Nat)) (a + 2)) 21 (upd ((psd (opn τ (dp + 1 : Nat)) (a + 2)).2 21) nn (J (pl (a + 2 + 1) : Nat)))) (a + 3)).2 20) nn (J (vl (a + 3))))).2 j = τ.2 j := fun j j1 j2 => by
    rw [mA_2, if_neg j1]
    show (mA (psd (opn τ (dp + 1 : Nat)) (a + 2)) 21 _).2 j = _
    rw [mA_2, if_neg j2]; rfl
  revert r5 f5 x5 e21 e20 eo
  generalize mA (psd (mA (psd (opn τ (dp + 1 : Nat)) (a + 2)) 21 (upd ((psd (opn τ (dp + 1 : Nat)) (a + 2)).2 21) nn (J (pl (a + 2 + 1) : Nat)))) (a + 3)) 20 (upd ((psd (mA (psd (opn τ (dp + 1 : Nat)) (a + 2)) 21 (upd ((psd (opn τ (dp + 1 : Nat)) (a + 2)).2 21) nn (J (pl (a + 2 + 1) : Nat)))) (a + 3)).2 20) nn (J (vl (a + 3)))) = κ
  intro r5 f5 x5 e21 e20 eo
  have g5 := cfP_trans g3 (cfP_cps (kd := kd) (a := a + 3))
  have k5 : cXt ln 5000 Γ (cps kd (cps kd (cop (cps kd Γ (a + 1)) (dp + 1 : Nat)) (a + 2)) (a + 3)) := cXt_trans cXt_cps (cXt_trans cXt_cop (cXt_trans cXt_cps cXt_cps (Nat.le_refl ln) (Nat.le_refl 5000)) (Nat.le_refl ln) (Nat.le_refl 5000)) (Nat.le_refl ln) (Nat.le_refl 5000)
  unfold F_X2_shut
  refine Ok2_le (show F_X12_shut 93 κ = _ from r_shut hT r5 (c := 93) (by decide) (by omega)) ?_
  have c6 := CN_cop (d := dp) c5 (by omega)
  have ec : cI' (cps kd (cps kd (cop (cps kd Γ (a + 1)) (dp + 1 : Nat)) (a + 2)) (a + 3)) 2 4 ((((cps kd (cps kd (cop (cps kd Γ (a + 1)) (dp + 1 : Nat)) (a + 2)) (a + 3)) 2).1 4) - 1) = cop (cps kd (cps kd (cop (cps kd Γ (a + 1)) (dp + 1 : Nat)) (a + 2)) (a + 3)) dp := by
    unfold cop at c5 ⊢
    rw [c5.2.2.2.1, J_lit, J_sub]; exact congrArg _ (congrArg J (by show ((dp + 1 : Nat) : Int) - 1 = _; omega))
  refine Ok2_rbnd ?_
  show Ok2 _ ((((F_X2_need 93 (cI' (cps kd (cps kd (cop (cps kd Γ (a + 1)) (dp + 1 : Nat)) (a + 2)) (a + 3)) 2 4 ((((cps kd (cps kd (cop (cps kd Γ (a + 1)) (dp + 1 : Nat)) (a + 2)) (a + 3)) 2).1 4) - 1))).bind fun u_3 => some ((0 : Int32), u_3.2))).bind _) _
  rw [ec, show F_X2_need 93 _ = _ from c_need hT c6 (c := 93) (by omega)]
  refine Ok2_rsome (Ok2_rsome ?_)
  by_cases q4 : kd (a + 4) = 93
  rotate_left
  · rw [if_neg q4, if_neg (show ¬ kd (a + 1 + 1 + 1 + 1) = 93 from q4)]
    exact it_stop hT (f := unf kd (a + 4)) (w := a + 4) ⟨⟨nn + 2, RX_opn (RX_stp r5), by omega⟩, rfP_trans f5 (rfP_trans rfP_stp rfP_opn)⟩ ⟨CX_cfl c6 (Or.inl rfl), cfP_trans g5 (cfP_trans cfP_cop cfP_cfl)⟩ rfl (by omega)
  rw [if_pos q4, if_pos (show kd (a + 1 + 1 + 1 + 1) = 93 from q4)]
  have haT4 := TKE_lt hT r5.2.2.2.2.2.2.1 (by omega) (by omega)
  have r6 := RN_opn (d := dp) (RN_psd r5 haT4) (by omega)
  have c7 := CN_cps hT c6 haT4
  rw [show dp + 1 - 1 = dp by omega]
  refine it_end hT (ac := a + 5) (nn' := nn + 2) r6 c7 (fun q5 => ⟨hk, q1, q2, q3, q4, q5, rfl, rfl, ?_, ?_, ?_, ⟨?_, ?_, ?_⟩, ?_, ?_⟩) ?_ (by omega) (rX_trans x5 (rX_trans rX_psd rX_opn (Nat.le_refl nn)) (Nat.le_refl nn)) (cXt_trans k5 (cXt_trans cXt_cop cXt_cps (Nat.le_refl ln) (Nat.le_refl 5000)) (Nat.le_refl ln) (Nat.le_refl 5000)) (rfP_trans f5 (rfP_trans rfP_psd rfP_opn)) (cfP_trans g5 (cfP_trans cfP_cop cfP_cps)) (by omega)
  · show κ.2 17 nn = _; rw [eo 17 (by omega) (by omega)]; exact w17
  · show κ.2 18 nn = _; rw [eo 18 (by omega) (by omega)]; exact w18
  · show κ.2 19 nn = _; rw [eo 19 (by omega) (by omega)]; exact w19
  · show κ.2 17 _ = _; rw [eo 17 (by omega) (by omega)]; exact wN.1
  · show κ.2 18 _ = _; rw [eo 18 (by omega) (by omega)]; exact wN.2.1
  · show κ.2 19 _ = _; rw [eo 19 (by omega) (by omega)]; exact wN.2.2
  · exact e20
  · exact e21
  · show κ.2 22 nn = _; rw [eo 22 (by omega) (by omega)]; exact w22
