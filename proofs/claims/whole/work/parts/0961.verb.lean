/-! items: what an item without code became; verbs -/
variable {T N : Nat} {kd vl rv : Nat → Int} {pl : Nat → Nat}
def ItP (T N : Nat) (kd vl rv : Nat → Int) (pl : Nat → Nat) (I : MS → Nat → Nat → Nat → Nat → Prop) (B : Nat) (σ : MS) (Γ : HS) (a dp ln nn : Nat) (u : Int32 × MS) (v : Int32 × HS) : Prop :=
  u.1 = J (nn : Nat) ∧ ((∃ a' nn', RN T kd vl rv pl u.2 a' dp nn' ∧ CN T N kd vl pl v.2 a' dp ln ∧ I u.2 nn nn' a a' ∧ u.2.2 22 nn = J (-1) ∧ nn' ≤ nn + 3 * (a' - a) ∧ rX nn σ u.2 ∧ cXt ln 5000 Γ v.2 ∧ rfP σ u.2 ∧ cfP Γ v.2)
  ∨ ∃ f f' w, rXX T kd vl rv pl B σ f w u.2 ∧ yXX N kd vl pl Γ f' w v.2 ∧ f = fxO kd f' w ∧ w ≤ T)
theorem xx_node (hT : TKE T N kd vl rv pl) {B : Nat} {σ0 σ : MS} {f : Int} {w : Nat} (h : rXX T kd vl rv pl B σ0 f w σ) (hB : B ≤ 38900) (k p : Int) : ∃ n : Nat, F_X12_node (J k) (J p) σ = some (J (n : Nat), nod σ n k p) ∧ n ≤ B ∧ rXX T kd vl rv pl (B + 1) σ0 f w (nod σ n k p) := by
  obtain ⟨⟨n, a, b⟩, d⟩ := h
  exact ⟨n, r_node a.2.2.2.2.1 (by omega) k p, b, ⟨n + 1, RX_nod a k p, by omega⟩, rfP_trans d rfP_nod⟩
theorem xx_tookKey {B : Nat} {σ0 σ : MS} {f : Int} {w : Nat} (h : rXX T kd vl rv pl B σ0 f w σ) (c : Int32) : F_X12_tookKey c σ = some (J 0, σ) := by
  obtain ⟨⟨n, a, b⟩, d⟩ := h
  exact x_tookKey a c
theorem xx_row (hT : TKE T N kd vl rv pl) {B : Nat} {σ0 σ : MS} {f : Int} {w : Nat} (h : rXX T kd vl rv pl B σ0 f w σ) (hB : B ≤ 38900) : Ok (F_X12_row σ) fun u => rXX T kd vl rv pl (B + 1) σ0 f w u.2 ∧ ∃ y : Nat, u.1 = J y ∧ y ≤ B := by
  obtain ⟨m, hm, -⟩ := FU_1
  unfold F_X12_row
  refine Ok_bind (Ok_mono (xx_name hT h hB) (fun u hu => ?_))
  rw [hm]
  obtain ⟨⟨n, a, b⟩, d⟩ := hu.1
  show Ok ((F_X12_took 44 u.2).bind _) _
  rw [x_took a 44, Option.bind_some]
  exact Ok_pos J0_eq (Ok_some ⟨⟨⟨n, a, b⟩, d⟩, hu.2⟩)
theorem yy_accept {Γ0 Γ : HS} {f' : Int} {w : Nat} (h : yXX N kd vl pl Γ0 f' w Γ) {c : Int} (hc : c ≠ 0 ∧ 0 ≤ c ∧ c < 1000) : F_X2_accept (J c) Γ = some (J 0, Γ) := y_accept h.1 hc
theorem yy_names (hT : TKE T N kd vl rv pl) {Γ0 Γ : HS} {f' : Int} {w : Nat} (h : yXX N kd vl pl Γ0 f' w Γ) : Ok (F_X2_names Γ) fun u => yXX N kd vl pl Γ0 f' w u.2 ∧ u.1 = J 1 := by
  obtain ⟨m, hm, -⟩ := FU_1
  unfold F_X2_names
  refine Ok_bind (Ok_mono (yy_need hT h (c := 2) (by omega)) (fun u hu => ?_))
  rw [hm]
  show Ok (if ((u.2 1).1 2) ≤ 1 then some ((1 : Int32), u.2) else (F_X2_accept 44 u.2).bind _) _
  refine Ok_ite (fun _ => Ok_some ⟨hu, rfl⟩) (fun _ => ?_)
  rw [show (44 : Int32) = J 44 from rfl, yy_accept hu (c := 44) (by omega), Option.bind_some]
  exact Ok_pos J0_eq (Ok_some ⟨hu, rfl⟩)
theorem it_stop (hT : TKE T N kd vl rv pl) {I : MS → Nat → Nat → Nat → Nat → Prop} {B a dp ln nn : Nat} {σ0 σ : MS} {Γ0 Γ : HS} {f f' : Int} {w : Nat} (x1 : rXX T kd vl rv pl B σ0 f w σ) (x2 : yXX N kd vl pl Γ0 f' w Γ) (x3 : f = fxO kd f' w) (x4 : w ≤ T) : Ok2 ((F_X12_need 59 σ).bind fun u => some (J (nn : Nat), u.2)) ((F_X2_need 59 Γ).bind fun u => some ((0 : Int32), u.2)) (ItP T N kd vl rv pl I B σ0 Γ0 a dp ln nn) :=
  Ok2_sep (Ok_bind (Ok_mono (xx_need hT x1 59) (fun u hu => Ok_some (Q := fun u : Int32 × MS => rXX T kd vl rv pl B σ0 f w u.2 ∧ u.1 = J (nn : Nat)) ⟨hu, rfl⟩))) (Ok_bind (Ok_mono (yy_need hT x2 (c := 59) (by omega)) (fun v hv => Ok_some (Q := fun v : Int32 × HS => yXX N kd vl pl Γ0 f' w v.2) hv))) (fun u v b c => ⟨b.2, Or.inr ⟨f, f', w, b.1, c, x3, x4⟩⟩)
theorem it_end (hT : TKE T N kd vl rv pl) {I : MS → Nat → Nat → Nat → Nat → Prop} {B a ac dp ln nn nn' : Nat} {σ0 σ : MS} {Γ0 Γ : HS} (h1 : RN T kd vl rv pl σ ac dp nn') (h2 : CN T N kd vl pl Γ ac dp ln) (h3 : kd ac = 59 → I (psd σ ac) nn nn' a (ac + 1)) (h4 : σ.2 22 nn = J (-1)) (h5 : nn' ≤ nn + 3 * (ac + 1 - a)) (h6 : rX nn σ0 σ) (h7 : cXt ln 5000 Γ0 Γ) (h8 : rfP σ0 σ) (h9 : cfP Γ0 Γ) (hB : nn' ≤ B) : Ok2 ((F_X12_need 59 σ).bind fun u => some (J (nn : Nat), u.2)) ((F_X2_need 59 Γ).bind fun u => some ((0 : Int32), u.2)) (ItP T N kd vl rv pl I B σ0 Γ0 a dp ln nn) := by
  refine Ok2_le (show F_X12_need 59 σ = _ from r_need hT h1 (c := 59) (by decide)) ?_
  refine Ok2_re (show F_X2_need 59 Γ = _ from c_need hT h2 (c := 59) (by omega)) ?_
  have ha := h1.2.2.2.2.2.2.1
  by_cases q : kd ac = 59
  · rw [if_pos q, if_pos q]
    have haT := TKE_lt hT ha (by omega) (by omega)
    exact Ok2_some ⟨rfl, Or.inl ⟨ac + 1, nn', RN_psd h1 haT, CN_cps hT h2 haT, h3 q, h4, h5, rX_trans h6 rX_psd (Nat.le_refl nn), cXt_trans h7 cXt_cps (Nat.le_refl ln) (Nat.le_refl 5000), rfP_trans h8 rfP_psd, cfP_trans h9 cfP_cps⟩⟩
  · rw [if_neg q, if_neg q]
    exact Ok2_some ⟨rfl, Or.inr ⟨_, 2, ac, ⟨⟨nn', RX_stp h1, hB⟩, rfP_trans h8 rfP_stp⟩, ⟨CX_cfl h2 (Or.inl rfl), cfP_trans h9 cfP_cfl⟩, rfl, ha⟩⟩
/-- a verb: node x, from word i to word j -/
def VRB (kd rv : Nat → Int) (pl : Nat → Nat) (σ : MS) (x hi i j : Nat) : Prop := kd i = 232 ∧ kd (i + 1) = 2 ∧ kd (j - 1) = 59 ∧ σ.2 17 x = J 3 ∧ σ.2 18 x = J (pl i) ∧ σ.2 19 x = J (x + 1 : Nat) ∧ NMN rv pl σ (x + 1) (i + 1) ∧ ∃ c, 1 ≤ c ∧ σ.2 20 x = J (x + 2 : Nat) ∧ NMS kd rv pl σ (x + 2) c (i + 2) ∧ σ.2 21 x = J (x + 2 + c : Nat) ∧ σ.2 17 (x + 2 + c) = J 14 ∧ (
  (213 ≤ kd (i + 1 + 2 * c) ∧ kd (i + 1 + 2 * c) ≤ 214 ∧ j = i + 2 * c + 3 ∧ hi = x + 3 + c ∧ σ.2 19 (x + 2 + c) = J (kd (i + 1 + 2 * c) - 213) ∧ σ.2 20 (x + 2 + c) = J (-1))
  ∨ (kd (i + 1 + 2 * c) = 215 ∧ kd (i + 2 + 2 * c) = 2 ∧ j = i + 2 * c + 4 ∧ hi = x + 4 + c ∧ σ.2 19 (x + 2 + c) = J 2 ∧ σ.2 20 (x + 2 + c) = J (x + 3 + c : Nat) ∧ NMN rv pl σ (x + 3 + c) (i + 2 + 2 * c)))
def Vt3 (nn : Nat) (σ_19 : MS) : MR := (F_X12_tookKey 0 σ_19).bind fun u_21 => bnd (fun (σ_23 : MS) => ((F_X12_need 59 σ_23).bind fun u_27 => some (J (nn : Nat), u_27.2) : MR)) fun j_24 => if u_21.1 = 0 then ((F_X12_tookKey 28 u_21.2).bind fun u_31 => if u_31.1 = 0 then ((F_X12_needKey 43 u_31.2).bind fun u_35 => if J (nn : Nat) < 0 ∨ 40000 ≤ nn then none else if (u_35.2.2 21 nn) < 0 ∨ 40000 ≤ (u_35.2.2 21 nn).toNatClampNeg then none else bnd (mA u_35.2 19 (upd (u_35.2.2 19) (u_35.2.2 21 nn).toNatClampNeg 2)) fun σ_41 => if J (nn : Nat) < 0 ∨ 40000 ≤ nn then none else (F_X12_name σ_41).bind fun u_45 => if (σ_41.2 21 nn) < 0 ∨ 40000 ≤ (σ_41.2 21 nn).toNatClampNeg then none else bnd (mA u_45.2 20 (upd (u_45.2.2 20) (σ_41.2 21 nn).toNatClampNeg u_45.1)) fun σ_49 => j_24 σ_49) else (if J (nn : Nat) < 0 ∨ 40000 ≤ nn then none else if (u_31.2.2 21 nn) < 0 ∨ 40000 ≤ (u_31.2.2 21 nn).toNatClampNeg then none else bnd (mA u_31.2 19 (upd (u_31.2.2 19) (u_31.2.2 21 nn).toNatClampNeg 1)) fun σ_56 => j_24 σ_56)) else (if J (nn : Nat) < 0 ∨ 40000 ≤ nn then none else if (u_21.2.2 21 nn) < 0 ∨ 40000 ≤ (u_21.2.2 21 nn).toNatClampNeg then none else bnd (mA u_21.2 19 (upd (u_21.2.2 19) (u_21.2.2 21 nn).toNatClampNeg 0)) fun σ_63 => j_24 σ_63)
def Vt2 (p0 : Int32) (nn : Nat) (u_9 : Int32 × MS) : MR := if J (nn : Nat) < 0 ∨ 40000 ≤ nn then none else bnd (mA u_9.2 20 (upd (u_9.2.2 20) nn u_9.1)) fun σ_13 => (F_X12_node 14 p0 σ_13).bind fun u_15 => if J (nn : Nat) < 0 ∨ 40000 ≤ nn then none else bnd (mA u_15.2 21 (upd (u_15.2.2 21) nn u_15.1)) fun σ_19 => Vt3 nn σ_19
def Ve2 (v : HS) : HR := (F_X2_accept 215 v).bind fun u_5 => bnd (fun (σ_7 : HS) => ((F_X2_need 59 σ_7).bind fun u_11 => some (0, u_11.2) : HR)) fun j_8 => if u_5.1 = 0 then ((F_X2_needFrom 213 214 u_5.2).bind fun u_15 => j_8 u_15.2) else ((F_X2_need 2 u_5.2).bind fun u_18 => j_8 u_18.2)
theorem verb_eq {σ : MS} {p nn : Nat} (h : σ.1 23 = J nn) (hn : nn < 39990) {n : HR} {Q : Int32 × MS → Int32 × HS → Prop} (g : Ok2 ((F_X12_name (nod σ nn 3 p)).bind fun u_8 => if J (nn : Nat) < 0 ∨ 40000 ≤ nn then none else bnd (mA u_8.2 19 (upd (u_8.2.2 19) nn u_8.1)) fun σ_12 => (F_X12_row σ_12).bind fun u_9 => Vt2 (J (p : Nat)) nn u_9) n Q) : Ok2 (F_X12_verb (J (p : Nat)) σ) n Q := by
  have en2 := (ng (n := nn) (by omega)).2
  unfold F_X12_verb
  refine Ok2_le (show F_X12_node 3 (J (p : Nat)) σ = _ from r_node h (by omega) 3 p) ?_
  dsimp only
  rw [en2]
  exact g
/-- once it has stopped -/
theorem vt3_stop (hT : TKE T N kd vl rv pl) {B nn x : Nat} (hB : B ≤ 38800) (hn : nn ≤ B) (hx : x ≤ B + 1) {σ0 ρ : MS} {f : Int} {w : Nat} (x1 : rXX T kd vl rv pl B σ0 f w ρ) (hd : ρ.2 21 nn = J (x : Nat)) : Ok (Vt3 nn ρ) fun u => rXX T kd vl rv pl (B + 1) σ0 f w u.2 ∧ u.1 = J (nn : Nat) := by
  have en := g_en (n := nn) (by omega)
  rw [(ng (n := nn) (by omega)).2] at en
  have ex := g_en (n := x) (by omega)
  unfold Vt3
  rw [xx_tookKey x1, Option.bind_some]
  refine Ok_bnd (Ok_pos J0_eq ?_)
  rw [xx_tookKey x1, Option.bind_some]
  refine Ok_pos J0_eq ?_
  obtain ⟨⟨n0, a1, b1⟩, d1⟩ := x1
  rw [x_needKey hT a1, Option.bind_some]
  dsimp only
  rw [hd]
  refine Ok_neg en (Ok_neg ex (Ok_bnd (Ok_neg en ?_)))
  rw [show ∀ g : Nat → Int32, (mA ρ 19 g).2 21 nn = J (x : Nat) from fun g => hd]
  refine Ok_bind (Ok_mono (xx_name hT (xx_mA (k := 19) ⟨⟨n0, a1, b1⟩, d1⟩ (by omega)) (by omega)) (fun u hu => Ok_neg ex (Ok_bnd ?_)))
  exact Ok_bind (Ok_mono (xx_need hT (xx_mA hu.1 (by omega)) 59) (fun u hu => Ok_some ⟨hu, rfl⟩))
theorem vt2_stop (hT : TKE T N kd vl rv pl) {B nn : Nat} {p : Int} (hB : B ≤ 38700) (hn : nn ≤ B) {σ0 ρ : MS} {f : Int} {w : Nat} {y : Int32} (x1 : rXX T kd vl rv pl B σ0 f w ρ) : Ok (Vt2 (J p) nn (y, ρ)) fun u => rXX T kd vl rv pl (B + 2) σ0 f w u.2 ∧ u.1 = J (nn : Nat) := by
  have en := g_en (n := nn) (by omega)
  rw [(ng (n := nn) (by omega)).2] at en
  unfold Vt2
  refine Ok_neg en (Ok_bnd ?_)
  obtain ⟨n, e1, e2, e3⟩ := xx_node hT (xx_mA (k := 20) (g := upd (ρ.2 20) nn y) x1 (by omega)) (by omega) 14 p
  rw [show (14 : Int32) = J 14 from rfl, e1, Option.bind_some]
  refine Ok_neg en (Ok_bnd ?_)
  exact vt3_stop hT (x := n) (by omega) (by omega) (by omega) (xx_mA e3 (by omega)) (by show upd _ _ _ _ = _; rw [upd_s, if_pos rfl])
theorem ve2_stop (hT : TKE T N kd vl rv pl) {Γ0 v : HS} {f' : Int} {w : Nat} (x2 : yXX N kd vl pl Γ0 f' w v) : Ok (Ve2 v) fun u => yXX N kd vl pl Γ0 f' w u.2 := by
  unfold Ve2
  rw [show (215 : Int32) = J 215 from rfl, yy_accept x2 (c := 215) (by omega), Option.bind_some]
  refine Ok_bnd (Ok_pos J0_eq ?_)
  exact Ok_bind (Ok_mono (yy_needFrom hT x2 (l := 213) (u := 214) (by omega)) (fun u hu => Ok_bind (Ok_mono (yy_need hT hu (c := 59) (by omega)) (fun u hu => Ok_some hu))))
