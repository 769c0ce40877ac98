/-! what is behind the head of a def, on, each -/
variable {T N : Nat} {kd vl rv : Nat → Int} {pl : Nat → Nat}
theorem agN_eq {lo hi x : Nat} {σ τ : MS} (h : ∀ k, 17 ≤ k → k ≤ 22 → ∀ y, lo ≤ y → y < hi → τ.2 k y = σ.2 k y) : agN lo hi x σ τ := fun y y1 y2 => ⟨h 17 (by omega) (by omega) y y1 y2, h 18 (by omega) (by omega) y y1 y2, h 19 (by omega) (by omega) y y1 y2, fun _ => h 20 (by omega) (by omega) y y1 y2, fun _ _ _ _ => h 21 (by omega) (by omega) y y1 y2, fun _ => h 22 (by omega) (by omega) y y1 y2⟩
def cfQ (Γ Δ : HS) : Prop := (∀ r, r ≠ 1 → r ≠ 2 → r ≠ 5 → Δ r = Γ r) ∧ (Δ 1).1 = (Γ 1).1 ∧ (∀ k, k ≠ 6 → (Δ 1).2.1 k = (Γ 1).2.1 k) ∧ (Δ 1).2.2 = (Γ 1).2.2
theorem cfQ_of {Γ Δ : HS} (h : cfP Γ Δ) : cfQ Γ Δ := ⟨h.1, h.2.1, h.2.2.1, h.2.2.2.1⟩
theorem cfQ_trans {Γ Δ Θ : HS} (h : cfQ Γ Δ) (i : cfQ Δ Θ) : cfQ Γ Θ := ⟨fun r a b c => by rw [i.1 r a b c, h.1 r a b c], by rw [i.2.1, h.2.1], fun k hk => by rw [i.2.2.1 k hk, h.2.2.1 k hk], by rw [i.2.2.2, h.2.2.2]⟩
theorem cfQ_5 {Γ Δ : HS} (h : ∀ r, r ≠ 5 → Δ r = Γ r) : cfQ Γ Δ := ⟨fun r _ _ h5 => h r h5, by rw [h 1 (by omega)], fun k _ => by rw [h 1 (by omega)], by rw [h 1 (by omega)]⟩
def rD (x m : Nat) (σ τ : MS) : Prop := ∀ k, 17 ≤ k → k ≤ 22 → ∀ y, y < m → (y ≠ x ∨ k ≠ 21) → τ.2 k y = σ.2 k y
/-- block and end of a routine that stands at word a: node x, the block from word b to word j -/
def RTN (kd vl rv : Nat → Int) (pl : Nat → Nat) (σ : MS) (Γ : HS) (a x lo hi b j p q : Nat) : Prop := ∃ h y m r : Nat, (hi = m + 1 ∧ h ≤ 93) ∧ q = r + 1 ∧ STX kd vl rv pl σ Γ h 1 lo m y b j p r ∧ σ.2 21 x = J (m : Nat) ∧ σ.2 17 m = J 34 ∧ σ.2 18 m = J (pl (j - 1) + 1 : Nat) ∧ σ.2 19 m = J (y : Nat) ∧ op1 Γ r 0 ∧ (Γ 1).2.1 6 a = J (j - 1 : Nat)
def RtR (T N : Nat) (kd vl rv : Nat → Int) (pl : Nat → Nat) (B : Nat) (τ : MS) (Δ : HS) (a x b dp ln m : Nat) (cu : Int) (u : Int32 × MS) (v : Int32 × HS) : Prop := u.1 = J (x : Nat) ∧ ((∃ a' m' ln', RN T kd vl rv pl u.2 a' dp m' ∧ CN T N kd vl pl v.2 a' dp ln' ∧ RTN kd vl rv pl u.2 v.2 a x m m' b a' ln ln' ∧ m' ≤ m + 3 * (a' - b) + 1 ∧ ln' ≤ ln + 7 * (a' - b) + 1 ∧ m < m' ∧ b < a' ∧ ln < ln' ∧ rD x m τ u.2 ∧ cXt ln a Δ v.2 ∧ rfP τ u.2 ∧ cfQ Δ v.2 ∧ (∀ k, k ≠ 1 → (v.2 5).1 k = (Δ 5).1 k) ∧ (∀ k, k ≠ 0 → k ≠ 3 → (v.2 5).2.1 k = (Δ 5).2.1 k) ∧ (v.2 5).2.1 3 = g_put 320 ((Δ 5).2.1 3) (J cu) (J (ln' : Nat)))
  ∨ ∃ f f' w, rXX T kd vl rv pl B τ f w u.2 ∧ CX N kd vl pl v.2 f' w ∧ cfQ Δ v.2 ∧ f = fxO kd f' w ∧ w ≤ T)
def Rt1 (X : Int32) (τ : MS) : MR := (G_X12_block τ).bind fun u_81 => if X < 0 ∨ 40000 ≤ X.toNatClampNeg then none else bnd (mA u_81.2 21 (upd (u_81.2.2 21) X.toNatClampNeg u_81.1)) fun σ_85 => (F_X12_ended X σ_85).bind fun u_87 => some (u_87.1, u_87.2)
def Rt2 (A : Int32) (Δ : HS) : HR := (G_X2_block Δ).bind fun u_17 => (F_X2_endRoutine A u_17.2).bind fun u_19 => some ((0 : Int32), u_19.2)
theorem xx_ended (hT : TKE T N kd vl rv pl) {B x : Nat} (hB : B ≤ 38900) (hx : x < 39000) {σ0 σ : MS} {f : Int} {w : Nat} (h : rXX T kd vl rv pl B σ0 f w σ) : Ok (F_X12_ended (J (x : Nat)) σ) fun u => rXX T kd vl rv pl (B + 1) σ0 f w u.2 ∧ u.1 = J (x : Nat) := by
  have ex := g_en (n := x) (by omega)
  obtain ⟨⟨n0, a1, b1⟩, d1⟩ := h
  have key : ∀ t : Int32, Ok ((F_X12_node 34 t σ).bind fun u_6 => if J (x : Nat) < 0 ∨ 40000 ≤ (J (x : Nat)).toNatClampNeg then none else if u_6.1 < 0 ∨ 40000 ≤ u_6.1.toNatClampNeg then none else bnd (mA u_6.2 19 (upd (u_6.2.2 19) u_6.1.toNatClampNeg (u_6.2.2 21 (J (x : Nat)).toNatClampNeg))) fun σ_12 => if J (x : Nat) < 0 ∨ 40000 ≤ (J (x : Nat)).toNatClampNeg then none else bnd (mA σ_12 21 (upd (σ_12.2 21) (J (x : Nat)).toNatClampNeg u_6.1)) fun σ_16 => some (J (x : Nat), σ_16)) fun u => rXX T kd vl rv pl (B + 1) σ0 f w u.2 ∧ u.1 = J (x : Nat) := by
    intro t
    obtain ⟨n, e1, e2, e3⟩ := xx_node hT (B := B) (σ0 := σ0) (w := w) ⟨⟨n0, a1, b1⟩, d1⟩ (by omega) 34 t.toInt
    rw [J_of] at e1
    rw [show (34 : Int32) = J 34 from rfl, e1, Option.bind_some]
    exact Ok_neg ex (Ok_neg (g_en (by omega)) (Ok_bnd (Ok_neg ex (Ok_bnd (Ok_some ⟨xx_mA (xx_mA e3 (by omega)) (by omega), rfl⟩)))))
  unfold F_X12_ended
  refine Ok_bnd (Ok_ite (fun _ => key 0) (fun q => Ok_bnd (Ok_neg ?_ (key _))))
  obtain ⟨a0, ha0, e0⟩ := a1.2.2.2.2.2
  rw [e0, show (0 : Int32) = J 0 from rfl, J_le (by omega) (by have := hT.1; omega) (by omega) (by omega)] at q
  rw [e0, show J (a0 : Nat) - 1 = J (a0 - 1 : Nat) by rw [J_lit, J_sub]; exact congrArg J (by omega)]
  have := hT.1
  rw [J_natN (by omega)]; rintro (h | h); exact J_nlt0 (by omega) (by omega) h; omega
theorem y_endR (hT : TKE T N kd vl rv pl) {Γ : HS} {f : Int} {w : Nat} (h : CX N kd vl pl Γ f w) (A : Int32) : Ok (F_X2_endRoutine A Γ) fun u => CX N kd vl pl u.2 f w ∧ cfQ Γ u.2 := by
  unfold F_X2_endRoutine
  refine y_add' h 0 (fun Δ h1 h2 => ?_)
  unfold F_X0_shutRoutine
  refine Ok_bind (Ok_bnd (Ok_bnd (Ok_some ?_)))
  refine Ok_bnd ?_
  rw [show mrg (fun j => j == 5) Δ (0, cA' Δ 5 3 (g_put 320 ((Δ 5).2.1 3) ((Δ 5).1 8) ((Δ 5).1 1))).2 = cA' Δ 5 3 (g_put 320 ((Δ 5).2.1 3) ((Δ 5).1 8) ((Δ 5).1 1)) from mrgE (fun r hr => by show (cA' Δ 5 3 _) r = Δ r; rw [cA_r, if_neg (by rintro rfl; exact absurd hr (by decide))])]
  refine Ok_bnd (Ok_bnd (Ok_some ⟨CX_A6 ⟨⟨h1.1.1, h1.1.2⟩, h1.2⟩, cfQ_trans (cfQ_of h2) (cfQ_trans (cfQ_5 (fun r hr => by rw [cA_r, if_neg hr])) (cfQ_of cfP_A6))⟩))
theorem sG_block (hT : TKE T N kd vl rv pl) {B a dp ln nn : Nat} {σ : MS} {Γ : HS} (h1 : RN T kd vl rv pl σ a dp nn) (h2 : CN T N kd vl pl Γ a dp ln) (hp : preS T B a dp ln nn) (hdp : dp ≤ 30) : Ok2 (G_X12_block σ) (G_X2_block Γ) (StR T N kd vl rv pl 1 B σ Γ a dp ln nn) := sim_block hT hdp B a ln nn 100 100 σ Γ h1 h2 hp (by omega) (by omega)
theorem sRout (hT : TKE T N kd vl rv pl) {B a x b dp ln m : Nat} {τ : MS} {Δ : HS} (h1 : RN T kd vl rv pl τ b dp m) (h2 : CN T N kd vl pl Δ b dp ln) (hp : preS T (B - 5) b dp ln m) (hB : B ≤ 38000) (hdp : dp ≤ 30) (hx : x < m) (hab : a < b) {cu : Int} (hcu : (Δ 5).1 8 = J cu) : Ok2 (Rt1 (J (x : Nat)) τ) (Rt2 (J (a : Nat)) Δ) (RtR T N kd vl rv pl B τ Δ a x b dp ln m cu) := by
  have hp' := hp
  unfold preS at hp'
  have ex := g_en (n := x) (by omega)
  have ex2 := (ng (n := x) (by omega)).2
  have hTT := hT.1
  unfold Rt1 Rt2
  refine Ok2_bind (Ok2_mono (sG_block hT h1 h2 hp hdp) ?_)
  rintro ⟨u1, σ⟩ ⟨v1, Γ⟩ hr
  dsimp only at hr ⊢
  rcases hr with ⟨h, a', ln', nn', y, ⟨e1, eh⟩, e2, t1, t2, t3, t4, t5, t6, t7, t8, t9⟩ | hr
  rotate_left
  · obtain ⟨f, f', w, z1, z2, z3, z4, -⟩ := of_SRes hr
    refine Ok2_sep (Q := fun u : Int32 × MS => rXX T kd vl rv pl B τ f w u.2 ∧ u.1 = J (x : Nat)) (R := fun v : Int32 × HS => CX N kd vl pl v.2 f' w ∧ cfQ Δ v.2) ?_ ?_ (fun u v b c => ⟨b.2, Or.inr ⟨f, f', w, b.1, c.1, c.2, z3, z4⟩⟩)
    · refine Ok_neg ex (Ok_bnd (Ok_bind (Ok_mono (xx_ended hT (B := B - 5) (by omega) (by omega) (xx_mA z1 (by omega))) (fun u hu => Ok_some ⟨xx_B hu.1 (by omega), hu.2⟩))))
    · exact Ok_bind (Ok_mono (y_endR hT z2.1 _) (fun v hv => Ok_some ⟨hv.1, cfQ_trans (cfQ_of z2.2) hv.2⟩))
  dsimp only at e1 e2 t1 t2 t3 t6 t7 t8 t9
  have rg3 := STX_rng t3
  have ha' := t1.2.2.2.2.2.2.1
  have hal : a' - b ≤ T + 1 - b := by omega
  have hTc : T ≤ 4096 := hTT
  refine Ok2_lneg ex (Ok2_lbnd ?_)
  rw [ex2, e1]
  have r1 : RN T kd vl rv pl (mA σ 21 (upd (σ.2 21) x (J (y : Nat)))) a' dp nn' := RN_mA t1 (by omega) (by omega) (by omega)
  unfold F_X12_ended
  rw [ex2]
  rw [ex2] at ex
  refine Ok2_l ?_
  refine Ok_bnd (Ok_neg (by rw [r1.2.1, show (0 : Int32) = J 0 from rfl, J_le (by omega) (by omega) (by omega) (by omega)]; omega) (Ok_bnd ?_))
  rw [r1.2.1, show J (a' : Nat) - 1 = J (a' - 1 : Nat) by rw [J_lit, J_sub]; exact congrArg J (by omega)]
  refine Ok_neg (by rw [J_natN (by omega)]; rintro (h | h); exact J_nlt0 (by omega) (by omega) h; omega) ?_
  rw [J_natN (n := a' - 1) (by omega), show (mA σ 21 (upd (σ.2 21) x (J (y : Nat)))).2 8 (a' - 1) = J (pl (a' - 1)) from (r1.1 (a' - 1) (by omega)).2.1, show J (pl (a' - 1) : Nat) + 1 = J (pl (a' - 1) + 1 : Nat) by rw [J_lit, J_add]; rfl]
  dsimp only
  rw [show F_X12_node 34 (J (pl (a' - 1) + 1 : Nat)) _ = _ from r_node r1.2.2.2.2.2.1 (by omega) 34 (pl (a' - 1) + 1 : Nat), Option.bind_some]
  have en := g_en (n := nn') (by omega)
  have en2 := (ng (n := nn') (by omega)).2
  refine Ok_neg ex (Ok_neg en (Ok_bnd (Ok_neg ex (Ok_bnd (Ok_some ?_)))))
  dsimp only
  rw [en2]
  -- the class
  unfold F_X2_endRoutine
  rw [show F_X0_add 0 Γ = _ from c_add1 (ln := ln') (o := 0) t2.2.2.2.2.2.1 (by omega) (by omega) (by omega)]
  refine Ok2_r ?_
  rw [Option.bind_some, mrg5 oth5_ca1]
  have c1 := CN_ca1 (o := 0) t2 (by omega)
  unfold F_X0_shutRoutine
  refine Ok_bnd (Ok_bind (Ok_bnd (Ok_bnd (Ok_some (Ok_bnd ?_)))))
  rw [show mrg (fun j => j == 5) (ca1 Γ ln' 0) (0, cA' (ca1 Γ ln' 0) 5 3 (g_put 320 (((ca1 Γ ln' 0) 5).2.1 3) (((ca1 Γ ln' 0) 5).1 8) (((ca1 Γ ln' 0) 5).1 1))).2 = cA' (ca1 Γ ln' 0) 5 3 (g_put 320 (((ca1 Γ ln' 0) 5).2.1 3) (((ca1 Γ ln' 0) 5).1 8) (((ca1 Γ ln' 0) 5).1 1)) from mrgE (fun r hr => by show (cA' (ca1 Γ ln' 0) 5 3 _) r = _; rw [cA_r, if_neg (by rintro rfl; exact absurd hr (by decide))])]
  have f5 := t9.2.2.2.2
  have e8 : ((ca1 Γ ln' 0) 5).1 8 = J cu := by
    show (Γ 5).1 8 = _
    rw [f5.1 8 (by omega), hcu]
  have e3 : ((ca1 Γ ln' 0) 5).2.1 3 = (Δ 5).2.1 3 := by
    show (Γ 5).2.1 3 = _
    rw [f5.2.1 3 (by omega)]
  have el : ((ca1 Γ ln' 0) 5).1 1 = J (ln' + 1 : Nat) := c1.2.2.2.2.2.1
  rw [e8, e3, el]
  have e2' : ((cA' (ca1 Γ ln' 0) 5 3 (g_put 320 ((Δ 5).2.1 3) (J cu) (J (ln' + 1 : Nat)))) 2).1 2 = J (a' : Nat) := c1.2.1
  refine Ok_bnd (Ok_bnd (Ok_some (Ok2_some ?_)))
  rw [e2', show J (a' : Nat) - 1 = J (a' - 1 : Nat) by rw [J_lit, J_sub]; exact congrArg J (by omega), q_g_put_in (n := 16001) (i := ((a : Nat) : Int)) (by omega) (by omega) (by omega), Int.toNat_natCast]
  have hc6 : ((cA' (ca1 Γ ln' 0) 5 3 (g_put 320 ((Δ 5).2.1 3) (J cu) (J (ln' + 1 : Nat)))) 1).2.1 6 = (Γ 1).2.1 6 := rfl
  rw [hc6]
  have hσ : ∀ k, 17 ≤ k → k ≤ 22 → ∀ z, z < nn' → (z ≠ x ∨ k ≠ 21) → (mA (mA (nod (mA σ 21 (upd (σ.2 21) x (J (y : Nat)))) nn' 34 (pl (a' - 1) + 1 : Nat)) 19 (upd ((nod (mA σ 21 (upd (σ.2 21) x (J (y : Nat)))) nn' 34 (pl (a' - 1) + 1 : Nat)).2 19) nn' ((nod (mA σ 21 (upd (σ.2 21) x (J (y : Nat)))) nn' 34 (pl (a' - 1) + 1 : Nat)).2 21 x))) 21 (upd ((mA (nod (mA σ 21 (upd (σ.2 21) x (J (y : Nat)))) nn' 34 (pl (a' - 1) + 1 : Nat)) 19 (upd ((nod (mA σ 21 (upd (σ.2 21) x (J (y : Nat)))) nn' 34 (pl (a' - 1) + 1 : Nat)).2 19) nn' ((nod (mA σ 21 (upd (σ.2 21) x (J (y : Nat)))) nn' 34 (pl (a' - 1) + 1 : Nat)).2 21 x))).2 21) x (J (nn' : Nat)))).2 k z = σ.2 k z := by
    intro k k1 k2 z hz hk
    have n1 := (rX_nod (σ := mA σ 21 (upd (σ.2 21) x (J (y : Nat)))) (n := nn') (k := 34) (p := (pl (a' - 1) + 1 : Nat))) k k1 k2 z hz
    have n2 : (mA σ 21 (upd (σ.2 21) x (J (y : Nat)))).2 k z = σ.2 k z := by
      rw [mA_2]; split
      · subst_vars; rw [upd_s, if_neg (by omega)]
      · rfl
    rw [mA_2]; split
    · subst_vars
      rw [upd_s, if_neg (by omega), mA_2, if_neg (by omega), n1, n2]
    · rw [mA_2]; split
      · subst_vars; rw [upd_s, if_neg (by omega), n1, n2]
      · rw [n1, n2]
  have hx21 : (nod (mA σ 21 (upd (σ.2 21) x (J (y : Nat)))) nn' 34 (pl (a' - 1) + 1 : Nat)).2 21 x = J (y : Nat) := by
    rw [(rX_nod (σ := mA σ 21 (upd (σ.2 21) x (J (y : Nat)))) (n := nn') (k := 34) (p := (pl (a' - 1) + 1 : Nat))) 21 (by omega) (by omega) x (by omega)]
    show upd _ _ _ _ = _; rw [upd_s, if_pos rfl]
  refine ⟨rfl, Or.inl ⟨a', nn' + 1, ln' + 1, RN_mA (RN_mA (RN_nod r1 34 _) (by omega) (by omega) (by omega)) (by omega) (by omega) (by omega), ⟨⟨c1.1.1, c1.1.2⟩, c1.2⟩, ⟨h, y, nn', ln', ⟨rfl, by unfold fuB at eh; omega⟩, rfl, ?_, ?_, ?_, ?_, ?_, ?_, ?_⟩, by omega, by omega, by omega, by omega, by omega, ?_, ?_, ?_, ?_, ?_, ?_, rfl⟩⟩
  · refine STX_ag h 1 m nn' y b a' ln ln' (agN_eq (fun k k1 k2 z z1 z2 => hσ k k1 k2 z z2 (by omega))) ⟨fun r r1 r2 => ?_, fun t t1 t2 => ?_⟩ t3
    · show upd _ _ _ _ = _; rw [upd_s, if_neg (by omega)]
    · show upd _ _ _ _ = _; rw [upd_s, if_neg (by omega)]
  · show upd _ _ _ _ = _; rw [upd_s, if_pos rfl]
  · exact nod17 (σ := mA σ 21 (upd (σ.2 21) x (J (y : Nat)))) (k := 34) (p := (pl (a' - 1) + 1 : Nat))
  · exact nod18 (σ := mA σ 21 (upd (σ.2 21) x (J (y : Nat)))) (k := 34) (p := (pl (a' - 1) + 1 : Nat))
  · show upd _ _ _ _ = _; rw [upd_s, if_pos rfl, hx21]
  · show upd _ _ _ _ = _; rw [upd_s, if_pos rfl]
  · show upd _ _ _ _ = _; rw [upd_s, if_pos rfl]
  · exact fun k k1 k2 z hz hk => (hσ k k1 k2 z (by omega) hk).trans (t6 k k1 k2 z hz)
  · have z1 : cXt ln a Δ Γ := ⟨t7.1, fun t ht => t7.2 t (by omega)⟩
    have z2 : cXt ln a Γ (ca1 Γ ln' 0) := cXt_ca1 (by omega)
    have z3 : cXt ln a (ca1 Γ ln' 0) (cA' (ca1 Γ ln' 0) 5 3 (g_put 320 ((Δ 5).2.1 3) (J cu) (J (ln' + 1 : Nat)))) := ⟨fun _ _ => rfl, fun _ _ => rfl⟩
    exact cXt_trans (cXt_trans (cXt_trans z1 z2 (Nat.le_refl _) (Nat.le_refl _)) z3 (Nat.le_refl _) (Nat.le_refl _)) (cXt_A6 (Nat.le_refl a)) (Nat.le_refl _) (Nat.le_refl _)
  · exact rfP_trans t8 (rfP_trans (rfP_mA (by omega)) (rfP_trans rfP_nod (rfP_trans (rfP_mA (by omega)) (rfP_mA (by omega)))))
  · exact cfQ_trans (cfQ_of t9) (cfQ_trans (cfQ_of cfP_ca1) (cfQ_trans (cfQ_5 (fun r hr => by rw [cA_r, if_neg hr])) (cfQ_of cfP_A6)))
  · intro k hk
    show ((ca1 Γ ln' 0) 5).1 k = _
    rw [← f5.1 k hk]
    show upd _ _ _ _ = _; rw [upd_s, if_neg hk]; rfl
  · intro k k0 k3
    show updA (((ca1 Γ ln' 0) 5).2.1) 3 _ k = _
    rw [updA_s, if_neg k3, ← f5.2.1 k k0]
    show updA _ 0 _ k = _
    rw [updA_s, if_neg k0]
