/-! ons -/
variable {T N : Nat} {kd vl rv : Nat → Int} {pl : Nat → Nat}
def isW (kd : Nat → Int) (t : Nat) : Prop := kd t = 255 ∨ kd t = 2 ∨ kd t = 228 ∨ (200 ≤ kd t ∧ kd t ≤ 205)
theorem what_ok (hT : TKE T N kd vl rv pl) {σ : MS} {a dp nn : Nat} (h1 : RN T kd vl rv pl σ a dp nn) (hn : nn < 39980) (hw : isW kd a) : ∃ τ, F_X12_whatOf σ = some (J (nn : Nat), τ) ∧ RN T kd vl rv pl τ (a + 1) dp (nn + 1) ∧ WHT kd rv pl τ nn a ∧ τ.2 22 nn = J (-1) ∧ rX nn σ τ ∧ rfP σ τ := by
  have hw' := hw
  unfold isW at hw
  have ha := h1.2.2.2.2.2.2.1
  have haT := TKE_lt hT ha (by omega) (by omega)
  have en := g_en (n := nn) (by omega)
  have en2 := (ng (n := nn) (by omega)).2
  have r1 := RN_nod h1 16 (pl a)
  unfold F_X12_whatOf
  rw [show ∀ (f : Int32 → MR), bnd (σ.1 25) f = f (σ.1 25) from fun f => rfl, if_neg (rg hT h1).1, (rg hT h1).2, (RN_at hT h1).2.1, show F_X12_node 16 (J (pl a : Nat)) σ = _ from r_node h1.2.2.2.2.2.1 (by omega) 16 (pl a), Option.bind_some, r_direction hT r1, Option.bind_some]
  have n17 : ∀ j g, (mA (psd (nod σ nn 16 (pl a)) a) j g).2 j = g := fun j g => by rw [mA_2, if_pos rfl]
  have w17 : (psd (nod σ nn 16 (pl a)) a).2 17 nn = J 16 := nod17 (σ := σ) (p := (pl a : Nat))
  have w18 : (psd (nod σ nn 16 (pl a)) a).2 18 nn = J (pl a) := nod18 (σ := σ) (k := 16)
  have w22 : (psd (nod σ nn 16 (pl a)) a).2 22 nn = J (-1) := nod22 (σ := σ) (k := 16) (p := (pl a : Nat))
  have r2 := RN_psd r1 haT
  have x2 : rX nn σ (psd (nod σ nn 16 (pl a)) a) := rX_trans rX_nod rX_psd (Nat.le_refl nn)
  have f2 : rfP σ (psd (nod σ nn 16 (pl a)) a) := rfP_trans rfP_nod rfP_psd
  dsimp only
  by_cases q1 : 200 ≤ kd a ∧ kd a ≤ 205
  · rw [if_pos q1]
    dsimp only
    rw [if_neg (show ¬ J (kd a - 199) ≤ 0 by rw [show (0 : Int32) = J 0 from rfl, J_le (by omega) (by omega) (by omega) (by omega)]; omega), if_neg en]
    dsimp only [bnd]
    rw [if_neg en, en2]
    refine ⟨_, rfl, RN_mA (RN_mA r2 (by omega) (by omega) (by omega)) (by omega) (by omega) (by omega), ⟨w17, w18, Or.inl ⟨q1.1, q1.2, ?_, ?_⟩⟩, w22, rX_trans x2 (rX_trans (rX_mA (Nat.le_refl nn)) (rX_mA (Nat.le_refl nn)) (Nat.le_refl nn)) (Nat.le_refl nn), rfP_trans f2 (rfP_trans (rfP_mA (by omega)) (rfP_mA (by omega)))⟩
    · show upd _ _ _ _ = _; rw [upd_s, if_pos rfl]; rfl
    · show upd _ _ _ _ = _; rw [upd_s, if_pos rfl]
  rw [if_neg q1]
  dsimp only
  rw [if_pos (show J 0 ≤ (0 : Int32) by decide), show F_X12_tookKey 3 (nod σ nn 16 (pl a)) = _ from r_tookKey hT r1 (k := 3) (c := 55) (by omega) rfl, Option.bind_some]
  by_cases q2 : kd a = 255
  · rw [if_pos (show kd a = 200 + (55 : Nat) by omega)]
    dsimp only
    rw [if_neg J1_ne, if_neg en, en2]
    refine ⟨_, rfl, RN_mA r2 (by omega) (by omega) (by omega), ⟨w17, w18, Or.inr (Or.inl ⟨q2, ?_⟩)⟩, w22, rX_trans x2 (rX_mA (Nat.le_refl nn)) (Nat.le_refl nn), rfP_trans f2 (rfP_mA (by omega))⟩
    show upd _ _ _ _ = _; rw [upd_s, if_pos rfl]; rfl
  rw [if_neg (show ¬ kd a = 200 + (55 : Nat) by omega)]
  dsimp only
  rw [if_pos J0_eq, show F_X12_tookKey 30 (nod σ nn 16 (pl a)) = _ from r_tookKey hT r1 (k := 30) (c := 28) (by omega) rfl, Option.bind_some]
  by_cases q3 : kd a = 228
  · rw [if_pos (show kd a = 200 + (28 : Nat) by omega)]
    dsimp only
    rw [if_neg J1_ne, if_neg en, en2]
    refine ⟨_, rfl, RN_mA r2 (by omega) (by omega) (by omega), ⟨w17, w18, Or.inr (Or.inr (Or.inl ⟨q3, ?_⟩))⟩, w22, rX_trans x2 (rX_mA (Nat.le_refl nn)) (Nat.le_refl nn), rfP_trans f2 (rfP_mA (by omega))⟩
    show upd _ _ _ _ = _; rw [upd_s, if_pos rfl]; rfl
  rw [if_neg (show ¬ kd a = 200 + (28 : Nat) by omega)]
  dsimp only
  have q4 : kd a = 2 := by omega
  have r3 : RN T kd vl rv pl (mA (nod σ nn 16 (pl a)) 19 (upd ((nod σ nn 16 (pl a)).2 19) nn 1)) a dp (nn + 1) := RN_mA r1 (by omega) (by omega) (by omega)
  rw [if_pos J0_eq, if_neg en, en2]
  dsimp only [bnd]
  rw [show F_X12_needKind 2 _ = _ from r_needKind hT r3 (k := 2) (Or.inl rfl), if_pos q4, Option.bind_some, if_neg (by rw [← en2]; rw [en2]; rw [en2] at en; exact en)]
  dsimp only
  rw [show rvO kd vl rv a = rv a by unfold rvO; rw [if_pos q4]]
  refine ⟨_, rfl, RN_mA (RN_psd r3 haT) (by omega) (by omega) (by omega), ⟨w17, w18, Or.inr (Or.inr (Or.inr ⟨q4, ?_, ?_⟩))⟩, w22, rX_trans rX_nod (rX_trans (rX_mA (Nat.le_refl nn)) (rX_trans (rX_psd (a := a)) (rX_mA (Nat.le_refl nn)) (Nat.le_refl nn)) (Nat.le_refl nn)) (Nat.le_refl nn), rfP_trans rfP_nod (rfP_trans (rfP_mA (by omega)) (rfP_trans (rfP_psd (a := a)) (rfP_mA (by omega))))⟩
  · show upd _ _ _ _ = _; rw [upd_s, if_pos rfl]; rfl
  · show upd _ _ _ _ = _; rw [upd_s, if_pos rfl]
theorem what_no (hT : TKE T N kd vl rv pl) {B : Nat} {σ : MS} {a dp nn : Nat} (h1 : RN T kd vl rv pl σ a dp nn) (hn : nn < 39980) (hB : nn + 1 ≤ B) (hw : ¬ isW kd a) : ∃ τ, F_X12_whatOf σ = some (J (nn : Nat), τ) ∧ rXX T kd vl rv pl B σ (unf kd a) a τ := by
  unfold isW at hw
  have ha := h1.2.2.2.2.2.2.1
  have en := g_en (n := nn) (by omega)
  have en2 := (ng (n := nn) (by omega)).2
  have r1 := RN_nod h1 16 (pl a)
  unfold F_X12_whatOf
  rw [show ∀ (f : Int32 → MR), bnd (σ.1 25) f = f (σ.1 25) from fun f => rfl, if_neg (rg hT h1).1, (rg hT h1).2, (RN_at hT h1).2.1, show F_X12_node 16 (J (pl a : Nat)) σ = _ from r_node h1.2.2.2.2.2.1 (by omega) 16 (pl a), Option.bind_some, r_direction hT r1, Option.bind_some, if_neg (show ¬ (200 ≤ kd a ∧ kd a ≤ 205) by omega)]
  dsimp only
  rw [if_pos (show J 0 ≤ (0 : Int32) by decide), show F_X12_tookKey 3 (nod σ nn 16 (pl a)) = _ from r_tookKey hT r1 (k := 3) (c := 55) (by omega) rfl, Option.bind_some, if_neg (show ¬ kd a = 200 + (55 : Nat) by omega)]
  dsimp only
  rw [if_pos J0_eq, show F_X12_tookKey 30 (nod σ nn 16 (pl a)) = _ from r_tookKey hT r1 (k := 30) (c := 28) (by omega) rfl, Option.bind_some, if_neg (show ¬ kd a = 200 + (28 : Nat) by omega)]
  dsimp only
  have r3 : RN T kd vl rv pl (mA (nod σ nn 16 (pl a)) 19 (upd ((nod σ nn 16 (pl a)).2 19) nn 1)) a dp (nn + 1) := RN_mA r1 (by omega) (by omega) (by omega)
  rw [if_pos J0_eq, if_neg en, en2]
  dsimp only [bnd]
  rw [show F_X12_needKind 2 _ = _ from r_needKind hT r3 (k := 2) (Or.inl rfl), if_neg (show ¬ kd a = 2 by omega), Option.bind_some, if_neg (by rw [← en2]; rw [en2]; rw [en2] at en; exact en)]
  exact ⟨_, rfl, ⟨nn + 1, RX_mA (RX_stp r3) (by omega) (by omega) (by omega), hB⟩, rfP_trans rfP_nod (rfP_trans (rfP_mA (by omega)) (rfP_trans rfP_stp (rfP_mA (by omega))))⟩
def Or1 (X : Int32) : (Int32 × Int32 × MS → MR) → Int32 × Int32 × MS → MR := fun again s => if 2 ≤ s.2.1 then Rt1 X s.2.2 else (if (s.2.2.1 27) = 0 then ((F_X12_isSign 123 s.2.2).bind fun u_94 => if u_94.1 = 0 then ((F_X12_whatOf u_94.2).bind fun u_98 => if s.2.1 = 0 then (if X < 0 ∨ 40000 ≤ X.toNatClampNeg then none else bnd (mA u_98.2 20 (upd (u_98.2.2 20) X.toNatClampNeg u_98.1)) fun σ_110 => again (u_98.1, s.2.1 + 1, σ_110)) else (if s.1 < 0 ∨ 40000 ≤ s.1.toNatClampNeg then none else bnd (mA u_98.2 22 (upd (u_98.2.2 22) s.1.toNatClampNeg u_98.1)) fun σ_115 => again (u_98.1, s.2.1 + 1, σ_115))) else Rt1 X u_94.2) else Rt1 X s.2.2)
def OnR (p : Int32) (σ : MS) : MR := (F_X12_node 7 p σ).bind fun u_1 => (F_X12_name u_1.2).bind fun u_2 => if u_1.1 < 0 ∨ 40000 ≤ u_1.1.toNatClampNeg then none else bnd (mA u_2.2 19 (upd (u_2.2.2 19) u_1.1.toNatClampNeg u_2.1)) fun σ_3 => loopF (Or1 u_1.1) FU (-1, 0, σ_3)
def OcE (σ : HS) : HR := (F_X0_openOn σ).bind fun u_11 => bnd (mrg (fun j => j == 5) σ u_11.2) fun σ_13 => some ((0 : Int32), σ_13)
def OcP (again : Int32 × HS → HR) (n : Int32) (σ : HS) : HR := (F_X2_pass σ).bind fun u_22 => bnd (n + 1) fun (x_24 : Int32) => again (x_24, u_22.2)
def Oc1 : (Int32 × HS → HR) → Int32 × HS → HR := fun again s => if 2 ≤ s.1 then OcE s.2 else (if ((s.2 2).1 3) = 255 then OcP again s.1 s.2 else (if ((s.2 2).1 3) = 2 then OcP again s.1 s.2 else (if ((s.2 2).1 3) = 228 then OcP again s.1 s.2 else ((F_X2_isFrom 200 205 s.2).bind fun u_35 => if u_35.1 = 0 then OcE u_35.2 else OcP again s.1 u_35.2))))
theorem on_eq (Γ : HS) : F_X2_onHead Γ = (F_X2_need 2 Γ).bind fun u_1 => loopF Oc1 FU (0, u_1.2) := rfl
def Oc2 (A : Int32) (Δ : HS) : HR := (OcE Δ).bind fun u => Rt2 A u.2
theorem J255 {z : Int} (c : Int) (h : 0 ≤ z ∧ z ≤ 256) (hc : 0 ≤ c ∧ c ≤ 1000) : (J z = J c) = (z = c) := J_eq (by omega) (by omega) (by omega) (by omega)
theorem oc_yes (hT : TKE T N kd vl rv pl) {Δ : HS} {t dp ln : Nat} (h2 : CN T N kd vl pl Δ t dp ln) (hw : isW kd t) {n : Nat} (hn : n < 2) (again : Int32 × HS → HR) : Oc1 again (J (n : Nat), Δ) = again (J (n + 1 : Nat), cps kd Δ t) := by
  have hw' := hw
  unfold isW at hw
  have ht := h2.2.2.2.2.2.2.1
  have hk := kdOk_rng (TKE_ok hT ht)
  have htT := TKE_lt hT ht (by omega) (by omega)
  have p : OcP again (J (n : Nat)) Δ = again (J (n + 1 : Nat), cps kd Δ t) := by
    unfold OcP
    rw [c_pass hT h2 htT, Option.bind_some]
    dsimp only [bnd]
    rw [show J (n : Nat) + 1 = J (n + 1 : Nat) by rw [J_lit, J_add]; rfl]
  unfold Oc1
  dsimp only
  rw [if_neg (by rw [show (2 : Int32) = J 2 from rfl, J_le (by omega) (by omega) (by omega) (by omega)]; omega), h2.2.2.1]
  by_cases q1 : J (kd t) = 255
  · rw [if_pos q1]; exact p
  by_cases q2 : J (kd t) = 2
  · rw [if_neg q1, if_pos q2]; exact p
  by_cases q3 : J (kd t) = 228
  · rw [if_neg q1, if_neg q2, if_pos q3]; exact p
  rw [if_neg q1, if_neg q2, if_neg q3, show F_X2_isFrom 200 205 Δ = _ from c_isFrom hT h2 (l := 200) (u := 205) (by omega) (by omega), Option.bind_some]
  rw [show (255 : Int32) = J 255 from rfl, J255 255 hk (by omega)] at q1
  rw [show (2 : Int32) = J 2 from rfl, J255 2 hk (by omega)] at q2
  rw [show (228 : Int32) = J 228 from rfl, J255 228 hk (by omega)] at q3
  dsimp only
  rw [if_pos (show 200 ≤ kd t ∧ kd t ≤ 205 by omega), if_neg J1_ne]; exact p
theorem oc_no (hT : TKE T N kd vl rv pl) {Δ : HS} {t dp ln : Nat} (h2 : CN T N kd vl pl Δ t dp ln) {n : Nat} (hn : n ≤ 5) (hw : n < 2 → ¬ isW kd t) (again : Int32 × HS → HR) : Oc1 again (J (n : Nat), Δ) = OcE Δ := by
  have hk := kdOk_rng (TKE_ok hT h2.2.2.2.2.2.2.1)
  unfold Oc1
  dsimp only
  by_cases q0 : 2 ≤ n
  · rw [if_pos (by rw [show (2 : Int32) = J 2 from rfl, J_le (by omega) (by omega) (by omega) (by omega)]; omega)]
  have hw := hw (by omega)
  unfold isW at hw
  rw [if_neg (by rw [show (2 : Int32) = J 2 from rfl, J_le (by omega) (by omega) (by omega) (by omega)]; omega), h2.2.2.1, if_neg (by rw [show (255 : Int32) = J 255 from rfl, J255 255 hk (by omega)]; omega), if_neg (by rw [show (2 : Int32) = J 2 from rfl, J255 2 hk (by omega)]; omega), if_neg (by rw [show (228 : Int32) = J 228 from rfl, J255 228 hk (by omega)]; omega), show F_X2_isFrom 200 205 Δ = _ from c_isFrom hT h2 (l := 200) (u := 205) (by omega) (by omega), Option.bind_some]
  dsimp only
  rw [if_neg (show ¬ (200 ≤ kd t ∧ kd t ≤ 205) by omega), if_pos J0_eq]
theorem y_blk_no (hT : TKE T N kd vl rv pl) {Δ : HS} {t dp ln : Nat} (h2 : CN T N kd vl pl Δ t dp ln) (hk : kd t ≠ 123) : Ok (G_X2_block Δ) fun u => CX N kd vl pl u.2 2 t ∧ cfP Δ u.2 := by
  obtain ⟨m, hm, -⟩ := FU_1
  have hkr := kdOk_rng (TKE_ok hT h2.2.2.2.2.2.2.1)
  show Ok (gB (99 + 1) 0 0 0 0 Δ) _
  rw [q_gB_0]
  unfold F_X2_block F_X2_open
  rw [h2.2.2.1, if_neg (by rw [show (123 : Int32) = J 123 from rfl, J255 123 hkr (by omega)]; exact hk), show F_X2_fail 2 Δ = _ from c_fail hT h2 2]
  have hx : CX N kd vl pl (cfl N Δ 2 t) 2 t := CX_cfl h2 (Or.inl rfl)
  refine Ok_bind (Ok_some ?_)
  rw [hm]
  have key : Ok ((F_X2_shut 125 (cfl N Δ 2 t)).bind fun u_11 => some ((0 : Int32), u_11.2)) fun u => CX N kd vl pl u.2 2 t ∧ cfP Δ u.2 := Ok_bind (Ok_mono (y_shut hT hx (c := 125) (by omega)) (fun v hv => Ok_some ⟨hv.1, cfP_trans cfP_cfl hv.2⟩))
  show Ok (if (((cfl N Δ 2 t) 1).1 2) ≤ 0 then _ else if (((cfl N Δ 2 t) 2).1 3) = 125 then _ else if (((cfl N Δ 2 t) 2).1 3) = 0 then _ else _) _
  refine Ok_ite (fun _ => key) (fun _ => Ok_ite (fun _ => key) (fun _ => ?_))
  rw [if_pos (show (((cfl N Δ 2 t) 2).1 3) = 0 by rw [hx.2.2.1]; rfl)]
  exact key
theorem oc2_no (hT : TKE T N kd vl rv pl) {Γ0 Δ : HS} {t dp ln nd no ne : Nat} (h2 : CN T N kd vl pl Δ t dp ln) (hk : kd t ≠ 123) (hC : CNT Δ nd no ne) (hno : no ≤ 5000) (x : cfQ Γ0 Δ) (A : Int32) : Ok (Oc2 A Δ) fun u => CX N kd vl pl u.2 2 t ∧ cfQ Γ0 u.2 := by
  unfold Oc2 OcE
  rw [c_openOn hC hno, Option.bind_some]
  dsimp only [bnd]
  rw [opR_mrg (fun _ _ => rfl), Option.bind_some]
  unfold Rt2
  have c4 := opR_CN (R := rtj 236 nd no ne) (k := 6) (n := (no + 1 : Nat)) h2 (by omega)
  refine Ok_bind (Ok_mono (y_blk_no hT c4 hk) (fun u hu => ?_))
  exact Ok_bind (Ok_mono (y_endR hT hu.1 A) (fun v hv => Ok_some ⟨hv.1, cfQ_trans (cfQ_trans x opR_cfQ) (cfQ_trans (cfQ_of hu.2) hv.2)⟩))
theorem oc2_stop (hT : TKE T N kd vl rv pl) {Γ0 Γ : HS} {f : Int} {w : Nat} (h : CX N kd vl pl Γ f w ∧ cfQ Γ0 Γ) (A : Int32) : Ok (Oc2 A Γ) fun u => CX N kd vl pl u.2 f w ∧ cfQ Γ0 u.2 := by
  unfold Oc2 OcE
  rw [Option.bind_assoc]
  refine Ok_bind (Ok_mono (y_openOn h.1) (fun v hv => ?_))
  rw [mrg5' hv.2]
  exact rt2_stop hT ⟨hv.1, cfQ_trans h.2 (cfQ_5 hv.2)⟩ A
theorem or1_stop (hT : TKE T N kd vl rv pl) {B x : Nat} (hB : B ≤ 38700) (hx : x < 39000) {σ0 σ : MS} {f : Int} {w : Nat} (h : rXX T kd vl rv pl B σ0 f w σ) (l k : Int32) (n : Nat) : Ok (loopF (Or1 (J (x : Nat))) (n + 1) (l, k, σ)) fun u => rXX T kd vl rv pl (B + 2) σ0 f w u.2 ∧ u.1 = J (x : Nat) := by
  show Ok (if 2 ≤ k then Rt1 (J (x : Nat)) σ else if σ.1 27 = 0 then _ else Rt1 (J (x : Nat)) σ) _
  refine Ok_ite (fun _ => rt1_stop hT hB hx h) (fun _ => ?_)
  rw [if_neg (xx_27 h)]
  exact rt1_stop hT hB hx h
theorem oc1_stop (hT : TKE T N kd vl rv pl) {Γ0 Γ : HS} {f : Int} {w : Nat} (h : CX N kd vl pl Γ f w ∧ cfQ Γ0 Γ) (A k : Int32) (n : Nat) : Ok ((loopF Oc1 (n + 1) (k, Γ)).bind fun u => Rt2 A u.2) fun u => CX N kd vl pl u.2 f w ∧ cfQ Γ0 u.2 := by
  have e : loopF Oc1 (n + 1) (k, Γ) = OcE Γ := by
    show Oc1 (loopF Oc1 n) (k, Γ) = _
    unfold Oc1
    dsimp only
    rw [h.1.2.2.1]
    split
    · rfl
    rw [if_neg (by decide), if_neg (by decide), if_neg (by decide), show F_X2_isFrom 200 205 Γ = _ from y_isFrom h.1 (l := 200) (u := 205) (by omega), Option.bind_some]
    exact if_pos J0_eq
  rw [e]
  exact oc2_stop hT h A
