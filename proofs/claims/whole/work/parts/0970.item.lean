/-! every item is read alike -/
variable {T N : Nat} {kd vl rv : Nat → Int} {pl : Nat → Nat}
theorem item_eq (σ : MS) : F_X12_item σ = bnd (σ.1 25) fun (x_1 : Int32) => if x_1 < 0 ∨ 16010 ≤ x_1.toNatClampNeg then none else bnd (σ.2 8 x_1.toNatClampNeg) fun (x_5 : Int32) => (F_X12_isKey 34 σ).bind fun u_7 => bnd (fun (σ_9 : MS) => ((F_X12_isKey 41 σ_9).bind fun u_13 => bnd (mI u_13.2 25 ((u_13.2.1 25) + 1)) fun σ_15 => (F_X12_place u_13.1 x_5 σ_15).bind fun u_17 => some (u_17.1, u_17.2) : MR)) fun j_10 => if u_7.1 = 0 then ((F_X12_isKey 41 u_7.2).bind fun u_21 => if u_21.1 = 0 then ((F_X12_tookKey 46 u_21.2).bind fun u_25 => if u_25.1 = 0 then ((F_X12_tookKey 45 u_25.2).bind fun u_29 => if u_29.1 = 0 then ((F_X12_tookKey 4 u_29.2).bind fun u_33 => if u_33.1 = 0 then ((F_X12_tookKey 6 u_33.2).bind fun u_37 => if u_37.1 = 0 then ((F_X12_tookKey 27 u_37.2).bind fun u_41 => if u_41.1 = 0 then ((F_X12_tookKey 9 u_41.2).bind fun u_45 => if u_45.1 = 0 then ((F_X12_unfit u_45.2).bind fun u_49 => (F_X12_node 8 x_5 u_49.2).bind fun u_51 => some (u_51.1, u_51.2)) else EaR x_5 u_45.2) else OnR x_5 u_41.2) else DfR x_5 u_37.2) else ArR x_5 u_33.2) else VaR x_5 u_29.2) else ((F_X12_verb x_5 u_25.2).bind fun u_223 => some (u_223.1, u_223.2))) else j_10 u_21.2) else j_10 u_7.2 := rfl
def Ic8 (A K : Int32) (σ_7 : HS) : HR := if K < 235 then some ((0 : Int32), σ_7) else if 237 < K then some ((0 : Int32), σ_7) else Rt2 A σ_7
theorem citem_eq (Γ : HS) : F_X2_item Γ = (F_X2_needFrom 230 237 Γ).bind fun u_5 => if ((Γ 2).1 3) = 230 then (F_X2_roomItem u_5.2).bind fun u_23 => Ic8 ((Γ 2).1 2) ((Γ 2).1 3) u_23.2 else if ((Γ 2).1 3) = 231 then (F_X2_thingItem u_5.2).bind fun u_28 => Ic8 ((Γ 2).1 2) ((Γ 2).1 3) u_28.2 else if ((Γ 2).1 3) = 232 then (F_X2_verbItem u_5.2).bind fun u_33 => Ic8 ((Γ 2).1 2) ((Γ 2).1 3) u_33.2 else if ((Γ 2).1 3) = 233 then (F_X2_varItem u_5.2).bind fun u_38 => Ic8 ((Γ 2).1 2) ((Γ 2).1 3) u_38.2 else if ((Γ 2).1 3) = 234 then (F_X2_arrayItem u_5.2).bind fun u_43 => Ic8 ((Γ 2).1 2) ((Γ 2).1 3) u_43.2 else if ((Γ 2).1 3) = 235 then (F_X2_defHead u_5.2).bind fun u_48 => Ic8 ((Γ 2).1 2) ((Γ 2).1 3) u_48.2 else if ((Γ 2).1 3) = 236 then (F_X2_onHead u_5.2).bind fun u_53 => Ic8 ((Γ 2).1 2) ((Γ 2).1 3) u_53.2 else if ((Γ 2).1 3) = 237 then (F_X0_openEach u_5.2).bind fun u_58 => bnd (mrg (fun j => j == 5) u_5.2 u_58.2) fun σ_60 => Ic8 ((Γ 2).1 2) ((Γ 2).1 3) σ_60 else Ic8 ((Γ 2).1 2) ((Γ 2).1 3) u_5.2 := rfl
theorem Ic8_no {A : Int32} {k : Int} (h0 : 0 ≤ k ∧ k ≤ 256) (h : k < 235 ∨ 237 < k) (σ : HS) : Ic8 A (J k) σ = some ((0 : Int32), σ) := by
  unfold Ic8
  rcases h with h | h
  · rw [if_pos (by rw [show (235 : Int32) = J 235 from rfl, J_lt (by omega) (by omega) (by omega) (by omega)]; omega)]
  · rw [if_neg (by rw [show (235 : Int32) = J 235 from rfl, J_lt (by omega) (by omega) (by omega) (by omega)]; omega), if_pos (by rw [show (237 : Int32) = J 237 from rfl, J_lt (by omega) (by omega) (by omega) (by omega)]; omega)]
theorem Ic8_yes {A : Int32} {k : Int} (h : 235 ≤ k ∧ k ≤ 237) (σ : HS) : Ic8 A (J k) σ = Rt2 A σ := by
  unfold Ic8
  rw [if_neg (by rw [show (235 : Int32) = J 235 from rfl, J_lt (by omega) (by omega) (by omega) (by omega)]; omega), if_neg (by rw [show (237 : Int32) = J 237 from rfl, J_lt (by omega) (by omega) (by omega) (by omega)]; omega)]
theorem it_of (hT : TKE T N kd vl rv pl) {I : MS → Nat → Nat → Nat → Nat → Prop} {B a dp ln nn nd no ne : Nat} {σ : MS} {Γ : HS} {m : MR} {n : HR} {A : Int32} (h : Ok2 m n (ItP T N kd vl rv pl I (B - 9) (psd σ a) (cps kd Γ a) a dp ln nn)) (haT : a ≤ T) (hB9 : 9 ≤ B) (hC : CNT Γ nd no ne) (hk0 : 0 ≤ kd a ∧ kd a ≤ 256) (hk : kd a < 235) (hI : ∀ (u : MS) (Δ : HS) (nn' a' : Nat), I u nn nn' a a' → ITM kd vl rv pl u Δ nn nn' a a' ln ln nd no ne ∧ a < a' ∧ nn < nn') : Ok2 m (n.bind fun u => Ic8 A (J (kd a)) u.2) (ItR T N kd vl rv pl B σ Γ a dp ln nn nd no ne) := by
  obtain ⟨r, s, e1, e2, q, h⟩ := h
  refine ⟨r, (0, s.2), e1, by rw [e2, Option.bind_some]; exact Ic8_no hk0 (Or.inl hk) _, q, ?_⟩
  rcases h with ⟨a', nn', t1, t2, t3, t4, t5, t6, t7, t8, t9⟩ | ⟨f, f', w, y1, y2, y3, y4⟩
  · obtain ⟨i1, i2, i3⟩ := hI r.2 s.2 nn' a' t3
    have hf : cfP Γ s.2 := cfP_trans cfP_cps t9
    refine Or.inl ⟨a', nn', ln, t1, t2, i1, t4, i2, i3, Nat.le_refl _, t5, by omega, rX_trans rX_psd t6 (Nat.le_refl _), ?_, rfP_trans rfP_psd t8, cfQ_of hf, ?_, tbQ_fr hf.2.2.2.2⟩
    · have z := cXt_trans (a := 5000) (Γ := Γ) (cXt_cps (kd := kd) (b := a)) t7 (Nat.le_refl _) (Nat.le_refl _)
      exact ⟨z.1, fun t ht => z.2 t (by have := hT.1; omega)⟩
    · rw [if_neg (by omega), if_neg (by omega), if_neg (by omega)]; exact CNT_fr hC hf.2.2.2.2
  · exact Or.inr ⟨f, f', w, xx_B ⟨y1.1, rfP_trans rfP_psd y1.2⟩ (by omega), y2.1, cfQ_of (cfP_trans cfP_cps y2.2), y3, y4⟩
theorem sItem (hT : TKE T N kd vl rv pl) {B a ln nn nd no ne : Nat} {σ : MS} {Γ : HS} (h1 : RN T kd vl rv pl σ a 0 nn) (h2 : CN T N kd vl pl Γ a 0 ln) (h0 : kd a ≠ 0) (hp : preS T (B - 18) a 0 ln nn) (hB : B ≤ 38000) (hB9 : 18 ≤ B) (hnd : nd ≤ 5000) (hno : no ≤ 5000) (hne : ne ≤ 5000) (hC : CNT Γ nd no ne) : Ok2 (F_X12_item σ) (F_X2_item Γ) (ItR T N kd vl rv pl B σ Γ a 0 ln nn nd no ne) := by
  have hp' := hp
  unfold preS at hp'
  have ha := h1.2.2.2.2.2.2.1
  have hkr := kdOk_rng (TKE_ok hT ha)
  have hp9 : preS T (B - 9) a 0 ln nn := by unfold preS; omega
  rw [item_eq, citem_eq]
  refine Ok2_lbnd (Ok2_lneg (rg hT h1).1 (Ok2_lbnd ?_))
  rw [(rg hT h1).2, (RN_at hT h1).2.1, h2.2.1, h2.2.2.1]
  refine Ok2_re (show F_X2_needFrom 230 237 Γ = _ from c_needFrom hT h2 (l := 230) (u := 237) (by omega) (by omega)) ?_
  have j0 : ∀ c : Int, 0 ≤ c ∧ c ≤ 1000 → kd a ≠ c → ¬ J (kd a) = J c := fun c hc h => by rw [J255 c hkr hc]; exact h
  by_cases q0 : kd a = 230
  · have haT := TKE_lt hT ha (by omega) (by omega)
    have c2 := CN_cps hT h2 haT
    rw [if_pos (show 230 ≤ kd a ∧ kd a ≤ 237 by omega), if_pos (show J (kd a) = 230 by rw [q0]; rfl)]
    refine Ok2_le (ik1 hT h1 (k := 34) (c := 30) (by omega) rfl (by omega)) (Ok2_lbnd (Ok2_lneg J1_ne ?_))
    refine Ok2_le (ik0 hT h1 (k := 41) (c := 31) (by omega) rfl (by omega)) (Ok2_lbnd ?_)
    dsimp only
    rw [h1.2.1, show J (a : Nat) + 1 = J (a + 1 : Nat) by rw [J_lit, J_add]; rfl]
    refine it_of hT (I := PLC kd rv pl 1) (Ok2_eta ?_) ha (by omega) hC hkr (by omega) (fun u Δ nn' a' h => ⟨Or.inl ⟨q0, rfl, h⟩, by obtain ⟨h1, h2, -⟩ := h; omega, by obtain ⟨h1, h2, -⟩ := h; omega⟩)
    rw [room_eq]
    exact sPlace hT (w := 1) (p0 := J 0) (Or.inl ⟨rfl, rfl⟩) (RN_psd h1 haT) c2 hp9 (by omega) (fun B' a' nn' τ Δ r1 r2 r3 => sRoomP hT r1 r2 (by unfold preS at r3; omega))
  by_cases q1 : kd a = 231
  · have haT := TKE_lt hT ha (by omega) (by omega)
    have c2 := CN_cps hT h2 haT
    rw [if_pos (show 230 ≤ kd a ∧ kd a ≤ 237 by omega), if_neg (show ¬ J (kd a) = 230 from j0 230 (by omega) q0), if_pos (show J (kd a) = 231 by rw [q1]; rfl)]
    refine Ok2_le (ik0 hT h1 (k := 34) (c := 30) (by omega) rfl (by omega)) (Ok2_lbnd (Ok2_lpos J0_eq ?_))
    refine Ok2_le (ik1 hT h1 (k := 41) (c := 31) (by omega) rfl (by omega)) (Ok2_lneg J1_ne ?_)
    refine Ok2_le (ik1 hT h1 (k := 41) (c := 31) (by omega) rfl (by omega)) (Ok2_lbnd ?_)
    dsimp only
    rw [h1.2.1, show J (a : Nat) + 1 = J (a + 1 : Nat) by rw [J_lit, J_add]; rfl]
    refine it_of hT (I := PLC kd rv pl 2) (Ok2_eta ?_) ha (by omega) hC hkr (by omega) (fun u Δ nn' a' h => ⟨Or.inr (Or.inl ⟨q1, rfl, h⟩), by obtain ⟨h1, h2, -⟩ := h; omega, by obtain ⟨h1, h2, -⟩ := h; omega⟩)
    rw [thing_eq]
    exact sPlace hT (w := 2) (p0 := J 1) (Or.inr ⟨J1_ne, rfl⟩) (RN_psd h1 haT) c2 hp9 (by omega) (fun B' a' nn' τ Δ r1 r2 r3 => sThingP hT J1_ne r1 r2 r3 (by omega))
  refine Ok2_le (ik0 hT h1 (k := 34) (c := 30) (by omega) rfl (by omega)) (Ok2_lbnd (Ok2_lpos J0_eq ?_))
  refine Ok2_le (ik0 hT h1 (k := 41) (c := 31) (by omega) rfl (by omega)) (Ok2_lpos J0_eq ?_)
  rw [if_neg (show ¬ J (kd a) = 230 from j0 230 (by omega) q0), if_neg (show ¬ J (kd a) = 231 from j0 231 (by omega) q1)]
  by_cases q2 : kd a = 232
  · have haT := TKE_lt hT ha (by omega) (by omega)
    rw [if_pos (show 230 ≤ kd a ∧ kd a ≤ 237 by omega), if_pos (show J (kd a) = 232 by rw [q2]; rfl)]
    refine Ok2_le (tk1 hT h1 (k := 46) (c := 32) (by omega) rfl (by omega)) (Ok2_lneg J1_ne ?_)
    refine it_of hT (I := VRB kd rv pl) (Ok2_eta ?_) ha (by omega) hC hkr (by omega) (fun u Δ nn' a' h => ⟨Or.inr (Or.inr (Or.inl ⟨rfl, h⟩)), by obtain ⟨-, -, -, -, -, -, -, c, h1, -, -, -, -, h | h⟩ := h <;> omega, by obtain ⟨-, -, -, -, -, -, -, c, h1, -, -, -, -, h | h⟩ := h <;> omega⟩)
    exact sVerb hT q2 (RN_psd h1 haT) (CN_cps hT h2 haT) hp9 (by omega)
  refine Ok2_le (tk0 hT h1 (k := 46) (c := 32) (by omega) rfl (by omega)) (Ok2_lpos J0_eq ?_)
  rw [if_neg (show ¬ J (kd a) = 232 from j0 232 (by omega) q2)]
  by_cases q3 : kd a = 233
  · have haT := TKE_lt hT ha (by omega) (by omega)
    rw [if_pos (show 230 ≤ kd a ∧ kd a ≤ 237 by omega), if_pos (show J (kd a) = 233 by rw [q3]; rfl)]
    refine Ok2_le (tk1 hT h1 (k := 45) (c := 33) (by omega) rfl (by omega)) (Ok2_lneg J1_ne ?_)
    refine it_of hT (I := VRD kd vl rv pl) ?_ ha (by omega) hC hkr (by omega) (fun u Δ nn' a' h => ⟨Or.inr (Or.inr (Or.inr (Or.inl ⟨rfl, h⟩))), by obtain ⟨-, -, -, -, -, -, -, -, -, h | h⟩ := h <;> omega, by obtain ⟨-, -, -, -, h, -⟩ := h; omega⟩)
    exact sVar hT q3 (RN_psd h1 haT) (CN_cps hT h2 haT) hp9
  refine Ok2_le (tk0 hT h1 (k := 45) (c := 33) (by omega) rfl (by omega)) (Ok2_lpos J0_eq ?_)
  rw [if_neg (show ¬ J (kd a) = 233 from j0 233 (by omega) q3)]
  by_cases q4 : kd a = 234
  · have haT := TKE_lt hT ha (by omega) (by omega)
    rw [if_pos (show 230 ≤ kd a ∧ kd a ≤ 237 by omega), if_pos (show J (kd a) = 234 by rw [q4]; rfl)]
    refine Ok2_le (tk1 hT h1 (k := 4) (c := 34) (by omega) rfl (by omega)) (Ok2_lneg J1_ne ?_)
    refine it_of hT (I := ARD kd vl rv pl) ?_ ha (by omega) hC hkr (by omega) (fun u Δ nn' a' h => ⟨Or.inr (Or.inr (Or.inr (Or.inr (Or.inl ⟨rfl, h⟩)))), by obtain ⟨-, -, -, -, -, -, h, -⟩ := h; omega, by obtain ⟨-, -, -, -, -, -, -, h, -⟩ := h; omega⟩)
    exact sArray hT q4 (RN_psd h1 haT) (CN_cps hT h2 haT) hp9 (by omega)
  refine Ok2_le (tk0 hT h1 (k := 4) (c := 34) (by omega) rfl (by omega)) (Ok2_lpos J0_eq ?_)
  rw [if_neg (show ¬ J (kd a) = 234 from j0 234 (by omega) q4)]
  have hup : ∀ {m : MR} {n : HR}, Ok2 m n (ItR T N kd vl rv pl B (psd σ a) (cps kd Γ a) a 0 ln nn nd no ne) → Ok2 m n (ItR T N kd vl rv pl B σ Γ a 0 ln nn nd no ne) := by
    intro m n h
    refine Ok2_mono h (fun u v h => ⟨h.1, h.2.imp ?_ ?_⟩)
    · rintro ⟨a', nn', ln', t1, t2, t3, t4, t5, t6, t7, t8, t9, t10, t11, t12, t13, t14, t15⟩
      exact ⟨a', nn', ln', t1, t2, t3, t4, t5, t6, t7, t8, t9, rX_trans rX_psd t10 (Nat.le_refl _), cXt_trans cXt_cps t11 (Nat.le_refl _) (Nat.le_refl _), rfP_trans rfP_psd t12, cfQ_trans (cfQ_of cfP_cps) t13, t14, t15⟩
    · rintro ⟨f, f', w, y1, y2, y3, y4⟩
      exact ⟨f, f', w, ⟨y1.1, rfP_trans rfP_psd y1.2⟩, y2, cfQ_trans (cfQ_of cfP_cps) y3, y4⟩
  by_cases q5 : kd a = 235
  · have haT := TKE_lt hT ha (by omega) (by omega)
    rw [if_pos (show 230 ≤ kd a ∧ kd a ≤ 237 by omega), if_pos (show J (kd a) = 235 by rw [q5]; rfl)]
    refine Ok2_le (tk1 hT h1 (k := 6) (c := 35) (by omega) rfl (by omega)) (Ok2_lneg J1_ne ?_)
    simp only [Ic8_yes (show 235 ≤ kd a ∧ kd a ≤ 237 by omega)]
    exact hup (sDef hT q5 (RN_psd h1 haT) (CN_cps hT h2 haT) hp9 (by omega) (by omega) (by omega) hnd hC)
  refine Ok2_le (tk0 hT h1 (k := 6) (c := 35) (by omega) rfl (by omega)) (Ok2_lpos J0_eq ?_)
  rw [if_neg (show ¬ J (kd a) = 235 from j0 235 (by omega) q5)]
  by_cases q6 : kd a = 236
  · have haT := TKE_lt hT ha (by omega) (by omega)
    rw [if_pos (show 230 ≤ kd a ∧ kd a ≤ 237 by omega), if_pos (show J (kd a) = 236 by rw [q6]; rfl)]
    refine Ok2_le (tk1 hT h1 (k := 27) (c := 36) (by omega) rfl (by omega)) (Ok2_lneg J1_ne ?_)
    simp only [Ic8_yes (show 235 ≤ kd a ∧ kd a ≤ 237 by omega)]
    exact hup (sOn hT q6 (RN_psd h1 haT) (CN_cps hT h2 haT) hp9 (by omega) (by omega) (by omega) hno hC)
  refine Ok2_le (tk0 hT h1 (k := 27) (c := 36) (by omega) rfl (by omega)) (Ok2_lpos J0_eq ?_)
  rw [if_neg (show ¬ J (kd a) = 236 from j0 236 (by omega) q6)]
  by_cases q7 : kd a = 237
  · have haT := TKE_lt hT ha (by omega) (by omega)
    rw [if_pos (show 230 ≤ kd a ∧ kd a ≤ 237 by omega), if_pos (show J (kd a) = 237 by rw [q7]; rfl)]
    refine Ok2_le (tk1 hT h1 (k := 9) (c := 37) (by omega) rfl (by omega)) (Ok2_lneg J1_ne ?_)
    simp only [Ic8_yes (show 235 ≤ kd a ∧ kd a ≤ 237 by omega)]
    exact hup (sEach hT q7 (RN_psd h1 haT) (CN_cps hT h2 haT) hp9 (by omega) (by omega) (by omega) hne hC)
  refine Ok2_le (tk0 hT h1 (k := 9) (c := 37) (by omega) rfl (by omega)) (Ok2_lpos J0_eq ?_)
  rw [if_neg (show ¬ J (kd a) = 237 from j0 237 (by omega) q7), if_neg (show ¬ (230 ≤ kd a ∧ kd a ≤ 237) by omega), Ic8_no hkr (by omega)]
  refine Ok2_le (r_unfit hT h1) ?_
  refine Ok2_le (show F_X12_node 8 (J (pl a : Nat)) _ = some (J (nn : Nat), nod (stp σ (unf kd a) (pl a)) nn 8 (pl a)) from r_node (σ := stp σ (unf kd a) (pl a)) (RX_stp (f := unf kd a) (p := pl a) h1).2.2.2.2.1 (by omega) 8 (pl a)) ?_
  exact Ok2_some ⟨rfl, Or.inr ⟨unf kd a, 2, a, ⟨⟨nn + 1, RX_nod (RX_stp h1) 8 (pl a), by omega⟩, rfP_trans rfP_stp rfP_nod⟩, CX_cfl h2 (Or.inl rfl), cfQ_of cfP_cfl, rfl, ha⟩⟩
