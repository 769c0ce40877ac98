/-! the parts of a room, of a thing -/
variable {T N : Nat} {kd vl rv : Nat → Int} {pl : Nat → Nat}
def PRT (kd rv : Nat → Int) (pl : Nat → Nat) (g : Int) (σ : MS) (t hi i j : Nat) : Prop := i < j ∧ t < hi ∧ kd (j - 1) = 59 ∧ (
  (kd i = 238 ∧ kd (i + 1) = 4 ∧ j = i + 3 ∧ hi = t + 1 ∧ σ.2 17 t = J 10 ∧ σ.2 18 t = J (pl (i + 1)) ∧ σ.2 20 t = J (rv (i + 1)))
  ∨ ((g = 1 ∧ kd i = 212) ∧ j = i + 2 ∧ hi = t + 1 ∧ σ.2 17 t = J 11 ∧ σ.2 18 t = J (pl i))
  ∨ ((g = 1 ∧ kd i = 239) ∧ 200 ≤ kd (i + 1) ∧ kd (i + 1) ≤ 205 ∧ kd (i + 2) = 2 ∧ j = i + 4 ∧ hi = t + 2 ∧ σ.2 17 t = J 12 ∧ σ.2 18 t = J (pl i) ∧ σ.2 19 t = J (t + 1 : Nat) ∧ NMN rv pl σ (t + 1) (i + 2) ∧ σ.2 20 t = J (kd (i + 1) - 199))
  ∨ ((g = 2 ∧ kd i = 219) ∧ kd (i + 1) = 228 ∧ j = i + 3 ∧ hi = t + 1 ∧ σ.2 17 t = J 13 ∧ σ.2 18 t = J (pl i) ∧ σ.2 20 t = J 1 ∧ σ.2 19 t = J (-1))
  ∨ ((g = 2 ∧ kd i = 219) ∧ kd (i + 1) = 2 ∧ j = i + 3 ∧ hi = t + 2 ∧ σ.2 17 t = J 13 ∧ σ.2 18 t = J (pl i) ∧ σ.2 20 t = J (-1) ∧ σ.2 19 t = J (t + 1 : Nat) ∧ NMN rv pl σ (t + 1) (i + 1))
  ∨ (∃ c, 1 ≤ c ∧ (g = 2 ∧ kd i = 240) ∧ j = i + 2 * c + 1 ∧ hi = t + 1 + c ∧ σ.2 17 t = J 14 ∧ σ.2 18 t = J (pl i) ∧ σ.2 19 t = J (t + 1 : Nat) ∧ NMS kd rv pl σ (t + 1) c (i + 1))
  ∨ ((g = 2 ∧ 206 ≤ kd i) ∧ kd i ≤ 211 ∧ j = i + 2 ∧ hi = t + 1 ∧ σ.2 17 t = J 15 ∧ σ.2 18 t = J (pl i) ∧ σ.2 20 t = J (kd i - 206)))
def PtR (T N : Nat) (kd vl rv : Nat → Int) (pl : Nat → Nat) (g : Int) (B : Nat) (σ : MS) (Γ : HS) (a dp ln nn : Nat) (u : Int32 × MS) (v : Int32 × HS) : Prop :=
  u.1 = J (nn : Nat) ∧ ((∃ a' nn', RN T kd vl rv pl u.2 a' dp nn' ∧ CN T N kd vl pl v.2 a' dp ln ∧ PRT kd rv pl g u.2 nn nn' a a' ∧ u.2.2 22 nn = J (-1) ∧ nn' ≤ nn + 3 * (a' - a) ∧ rX nn σ u.2 ∧ cXt ln 5000 Γ v.2 ∧ rfP σ u.2 ∧ cfP Γ v.2)
  ∨ ∃ f f' w, rXX T kd vl rv pl B σ f w u.2 ∧ yXX N kd vl pl Γ f' w v.2 ∧ f = fxO kd f' w ∧ w ≤ T)
def Ec (v : HS) : HR := (F_X2_need 59 v).bind fun u_32 => some ((0 : Int32), u_32.2)
def cRoomP (Γ : HS) : HR := (F_X2_accept 238 Γ).bind fun u_26 => if u_26.1 = 0 then (F_X2_accept 239 u_26.2).bind fun u_38 => if u_38.1 = 0 then (F_X2_need 212 u_38.2).bind fun u_42 => Ec u_42.2 else (F_X2_needFrom 200 205 u_38.2).bind fun u_45 => (F_X2_need 2 u_45.2).bind fun u_47 => Ec u_47.2 else (F_X2_need 4 u_26.2).bind fun u_50 => Ec u_50.2
def cThingP (Γ : HS) : HR := (F_X2_accept 238 Γ).bind fun u_26 => if u_26.1 = 0 then (F_X2_accept 219 u_26.2).bind fun u_38 => if u_38.1 = 0 then (F_X2_accept 240 u_38.2).bind fun u_42 => if u_42.1 = 0 then (F_X2_needFrom 206 211 u_42.2).bind fun u_46 => Ec u_46.2 else (F_X2_names u_42.2).bind fun u_49 => Ec u_49.2 else (F_X2_need (if ((u_38.2 2).1 3) = 228 then 228 else 2) u_38.2).bind fun u_57 => Ec u_57.2 else (F_X2_need 4 u_26.2).bind fun u_63 => Ec u_63.2
/-- a part's end, behind a fault -/
theorem pt_stop (hT : TKE T N kd vl rv pl) {g : Int} {B a dp ln nn : Nat} {σ0 σ : MS} {Γ0 Γ : HS} {f f' : Int} {w : Nat} (x1 : rXX T kd vl rv pl B σ0 f w σ) (x2 : yXX N kd vl pl Γ0 f' w Γ) (x3 : f = fxO kd f' w) (x4 : w ≤ T) : Ok2 ((F_X12_need 59 σ).bind fun u_15 => some (J (nn : Nat), u_15.2)) (Ec Γ) (PtR T N kd vl rv pl g B σ0 Γ0 a dp ln nn) :=
  Ok2_sep (Q := fun u => rXX T kd vl rv pl B σ0 f w u.2 ∧ u.1 = J (nn : Nat)) (R := fun v => yXX N kd vl pl Γ0 f' w v.2) (Ok_bind (Ok_mono (xx_need hT x1 59) (fun u hu => Ok_some ⟨hu, rfl⟩))) (Ok_bind (Ok_mono (yy_need hT x2 (c := 59) (by omega)) (fun u hu => Ok_some hu))) (fun u v b c => ⟨b.2, Or.inr ⟨f, f', w, b.1, c, x3, x4⟩⟩)
/-- a part's end -/
theorem pt_end (hT : TKE T N kd vl rv pl) {g : Int} {B a ac dp ln nn nn' : Nat} {σ0 σ : MS} {Γ0 Γ : HS} (h1 : RN T kd vl rv pl σ ac dp nn') (h2 : CN T N kd vl pl Γ ac dp ln) (h3 : kd ac = 59 → PRT kd rv pl g σ nn nn' a (ac + 1)) (h4 : σ.2 22 nn = J (-1)) (h5 : nn' ≤ nn + 3 * (ac + 1 - a)) (h6 : rX nn σ0 σ) (h7 : cXt ln 5000 Γ0 Γ) (h8 : rfP σ0 σ) (h9 : cfP Γ0 Γ) (hB : nn' ≤ B) : Ok2 ((F_X12_need 59 σ).bind fun u_15 => some (J (nn : Nat), u_15.2)) (Ec Γ) (PtR T N kd vl rv pl g B σ0 Γ0 a dp ln nn) := by
  have hac := h1.2.2.2.2.2.2.1
  unfold Ec
  refine Ok2_le (show F_X12_need 59 σ = _ from r_need hT h1 (c := 59) (by decide)) (Ok2_re (show F_X2_need 59 Γ = _ from c_need hT h2 (c := 59) (by omega)) (Ok2_some ⟨rfl, ?_⟩))
  by_cases q : kd ac = 59
  · rw [if_pos q, if_pos q]
    have hacT := TKE_lt hT hac (by omega) (by omega)
    exact Or.inl ⟨ac + 1, nn', RN_psd h1 hacT, CN_cps hT h2 hacT, h3 q, h4, h5, rX_trans h6 rX_psd (Nat.le_refl nn), cXt_trans h7 cXt_cps (Nat.le_refl ln) (Nat.le_refl 5000), rfP_trans h8 rfP_psd, cfP_trans h9 cfP_cps⟩
  · rw [if_neg q, if_neg q]
    exact Or.inr ⟨_, 2, ac, ⟨⟨nn', RX_stp h1, hB⟩, rfP_trans h8 rfP_stp⟩, ⟨CX_cfl h2 (Or.inl rfl), cfP_trans h9 cfP_cfl⟩, rfl, hac⟩
theorem nod17 {σ : MS} {n : Nat} {k p : Int} : (nod σ n k p).2 17 n = J k := by show upd _ _ _ _ = _; rw [upd_s, if_pos rfl]
/-- text, of a room or a thing -/
theorem pt_text (hT : TKE T N kd vl rv pl) {g : Int} {B a dp ln nn : Nat} {σ : MS} {Γ : HS} {p0 : Int32} (h1 : RN T kd vl rv pl σ a dp nn) (h2 : CN T N kd vl pl Γ a dp ln) (hp : nn + 5 ≤ B ∧ B ≤ 38000) (hk : kd a = 238) : Ok2 (F_X12_part p0 σ) ((F_X2_need 4 (cps kd Γ a)).bind fun u_50 => Ec u_50.2) (PtR T N kd vl rv pl g B σ Γ a dp ln nn) := by
  have en := g_en (n := nn) (by omega)
  have en2 := (ng (n := nn) (by omega)).2
  have haT := TKE_lt hT h1.2.2.2.2.2.2.1 (by omega) (by omega)
  have r1 := RN_nod h1 10 (pl a)
  have e : F_X12_node 10 (σ.2 8 (σ.1 25).toNatClampNeg) σ = some (J (nn : Nat), nod σ nn 10 (pl a)) := by rw [(rg hT h1).2, (RN_at hT h1).2.1]; exact r_node h1.2.2.2.2.2.1 (by omega) 10 (pl a)
  have r2 := RN_psd r1 haT
  have c1 := CN_cps hT h2 haT
  unfold F_X12_part
  refine Ok2_lbnd (Ok2_lneg (rg hT h1).1 (Ok2_lbnd (Ok2_le e ?_)))
  refine Ok2_le (tk1 hT r1 (k := 40) (c := 38) (by omega) rfl (by omega)) (Ok2_lbnd (Ok2_lneg J1_ne (Ok2_lbnd (Ok2_lpos (show (psd (nod σ nn 10 (pl a)) a).1 27 = 0 by rw [r2.2.2.2.1]; rfl) (Ok2_lbnd (Ok2_lneg (rg hT r2).1 (Ok2_lneg en (Ok2_lbnd ?_))))))))
  dsimp only
  rw [(rg hT r2).2, (RN_at hT r2).2.1, en2]
  have r3 : RN T kd vl rv pl (mA (psd (nod σ nn 10 (pl a)) a) 18 (upd ((psd (nod σ nn 10 (pl a)) a).2 18) nn (J (pl (a + 1))))) (a + 1) dp (nn + 1) := RN_mA r2 (by omega) (by omega) (by omega)
  have f3 : rfP σ (mA (psd (nod σ nn 10 (pl a)) a) 18 (upd ((psd (nod σ nn 10 (pl a)) a).2 18) nn (J (pl (a + 1))))) := rfP_trans rfP_nod (rfP_trans rfP_psd (rfP_mA (by omega)))
  have x3 : rX nn σ (mA (psd (nod σ nn 10 (pl a)) a) 18 (upd ((psd (nod σ nn 10 (pl a)) a).2 18) nn (J (pl (a + 1))))) := rX_trans rX_nod (rX_trans rX_psd (rX_mA (σ := psd (nod σ nn 10 (pl a)) a) (Nat.le_refl nn)) (Nat.le_refl nn)) (Nat.le_refl nn)
  refine Ok2_le (show F_X12_needKind 4 _ = _ from r_needKind hT r3 (k := 4) (Or.inr (Or.inr rfl))) (Ok2_lneg (by rw [← en2]; rw [en2]; rw [en2] at en; exact en) (Ok2_lbnd ?_))
  refine Ok2_re (show F_X2_need 4 (cps kd Γ a) = _ from c_need hT c1 (c := 4) (by omega)) ?_
  by_cases q : kd (a + 1) = 4
  · rw [if_pos q, if_pos q]
    have haT1 := TKE_lt hT r2.2.2.2.2.2.2.1 (by omega) (by omega)
    dsimp only
    rw [show rvO kd vl rv (a + 1) = rv (a + 1) by unfold rvO; rw [if_neg (by omega), if_neg (by omega), if_pos q]]
    refine pt_end hT (ac := a + 2) (nn' := nn + 1) (RN_mA (RN_psd r3 haT1) (by omega) (by omega) (by omega)) (CN_cps hT c1 haT1) (fun q2 => ⟨by omega, by omega, ?_, Or.inl ⟨hk, q, rfl, rfl, ?_, ?_, ?_⟩⟩) ?_ (by omega) (rX_trans x3 (rX_trans rX_psd (rX_mA (Nat.le_refl nn)) (Nat.le_refl nn)) (Nat.le_refl nn)) (cXt_trans cXt_cps cXt_cps (Nat.le_refl ln) (Nat.le_refl 5000)) (rfP_trans f3 (rfP_trans rfP_psd (rfP_mA (by omega)))) (cfP_trans cfP_cps cfP_cps) (by omega)
    · rw [show a + 2 + 1 - 1 = a + 2 by omega]; exact q2
    · exact nod17 (σ := σ) (k := 10) (p := (pl a : Nat))
    · show upd _ _ _ _ = _; rw [upd_s, if_pos rfl]
    · show upd _ _ _ _ = _; rw [upd_s, if_pos rfl]
    · exact nod22 (σ := σ) (k := 10) (p := (pl a : Nat))
  · rw [if_neg q, if_neg q]
    dsimp only
    exact pt_stop hT ⟨⟨nn + 1, RX_mA (RX_stp r3) (by omega) (by omega) (by omega), by omega⟩, rfP_trans f3 (rfP_trans rfP_stp (rfP_mA (by omega)))⟩ ⟨CX_cfl c1 (Or.inl rfl), cfP_trans cfP_cps cfP_cfl⟩ rfl (by omega)
