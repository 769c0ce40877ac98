/-! ons: the loop over WHATs; items -/
variable {T N : Nat} {kd vl rv : Nat → Int} {pl : Nat → Nat}
theorem on_fin (hT : TKE T N kd vl rv pl) {B a dp ln nn nd no ne c : Nat} {σ0 τ : MS} {Γ0 Δ : HS} (hk : kd a = 236) (hq1 : kd (a + 1) = 2) (hc : c ≤ 2) (hp : preS T (B - 9) a dp ln nn) (hB : B ≤ 38000) (hB9 : 9 ≤ B) (hdp : dp < 30) (hno : no ≤ 5000) (h1 : RN T kd vl rv pl τ (a + 2 + c) dp (nn + 2 + c)) (h2 : CN T N kd vl pl Δ (a + 2 + c) dp ln) (x1 : rX nn σ0 τ) (x2 : rfP σ0 τ) (x3 : cXt ln 5000 Γ0 Δ) (x4 : cfP Γ0 Δ) (x5 : CNT Γ0 nd no ne) (w17 : τ.2 17 nn = J 7) (w18 : τ.2 18 nn = J (pl a)) (w19 : τ.2 19 nn = J (nn + 1 : Nat)) (w22 : τ.2 22 nn = J (-1)) (wN : NMN rv pl τ (nn + 1) (a + 1)) (w20 : τ.2 20 nn = if c = 0 then J (-1) else J (nn + 2 : Nat)) (wS : WHS kd rv pl τ (nn + 2) c (a + 2)) : Ok2 (Rt1 (J (nn : Nat)) τ) (Oc2 (J (a : Nat)) Δ) (ItR T N kd vl rv pl B σ0 Γ0 a dp ln nn nd no ne) := by
  have hp' := hp
  unfold preS at hp'
  have hb := h1.2.2.2.2.2.2.1
  have n2 := CNT_fr x5 x4.2.2.2.2
  unfold Oc2 OcE
  rw [c_openOn n2 hno, Option.bind_some]
  dsimp only [bnd]
  rw [opR_mrg (fun _ _ => rfl), Option.bind_some]
  have c4 := opR_CN (R := rtj 236 nd no ne) (k := 6) (n := (no + 1 : Nat)) h2 (by omega)
  have hj := rtj_rng 236 nd no ne
  refine Ok2_mono (sRout hT (B := B - 4) (x := nn) (a := a) (m := nn + 2 + c) h1 c4 (by unfold preS; omega) (by omega) (by omega) (by omega) (by omega) (cu := rtj 236 nd no ne) (by rw [opR_i, if_neg (by omega), if_pos rfl])) ?_
  intro u v huv
  refine (fun (h : ItR T N kd vl rv pl (B - 4) σ0 Γ0 a dp ln nn nd no ne u v) => ⟨h.1, h.2.imp id (fun ⟨f, f', w, y1, y2⟩ => ⟨f, f', w, xx_B y1 (by omega), y2⟩)⟩) ?_
  have e2 : (opR Δ (rtj 236 nd no ne) 6 (no + 1 : Nat) 5).2.1 2 = g_put 320 ((Γ0 5).2.1 2) (J (rtj 236 nd no ne)) (J (ln : Nat)) := by
    rw [opR_2, h2.2.2.2.2.2.1, x4.2.2.2.2.2.1 2 (by omega)]
  refine rt_fin (k := 0) (by omega) (by omega) (by omega) (by omega) w22 x1 (cXt_trans (⟨x3.1, fun t ht => x3.2 t (by have := hT.1; omega)⟩ : cXt ln a Γ0 Δ) opR_cXt (Nat.le_refl _) (Nat.le_refl _)) x2 (cfQ_trans (cfQ_of x4) opR_cfQ) ⟨?_, ?_, ?_⟩ (tbQ_trans (tbQ_fr x4.2.2.2.2) (opR_tbQ hj ?_)) (by rw [hk]) e2 (fun u2 v2 a' m' ln' g1 g2 g3 g4 => ?_) huv
  · rw [if_neg (by omega)]; exact n2.1
  · rw [if_pos hk]; rfl
  · rw [if_neg (by omega)]; exact n2.2.2
  · rw [hk]; unfold rtj; split
    · exact Or.inr rfl
    · exact Or.inl rfl
  · have gσ : ∀ k, 17 ≤ k → k ≤ 22 → ∀ y, y < nn + 2 + c → (y ≠ nn ∨ k ≠ 21) → u2.2 k y = τ.2 k y := g1
    refine Or.inr (Or.inr (Or.inr (Or.inr (Or.inr (Or.inr (Or.inl ⟨hk, hq1, ?_, ?_, ?_, ⟨?_, ?_, ?_⟩, c, hc, ?_, ?_, g2, ?_⟩))))))
    · rw [gσ 17 (by omega) (by omega) nn (by omega) (by omega)]; exact w17
    · rw [gσ 18 (by omega) (by omega) nn (by omega) (by omega)]; exact w18
    · rw [gσ 19 (by omega) (by omega) nn (by omega) (by omega)]; exact w19
    · rw [gσ 17 (by omega) (by omega) (nn + 1) (by omega) (by omega)]; exact wN.1
    · rw [gσ 18 (by omega) (by omega) (nn + 1) (by omega) (by omega)]; exact wN.2.1
    · rw [gσ 19 (by omega) (by omega) (nn + 1) (by omega) (by omega)]; exact wN.2.2
    · rw [gσ 20 (by omega) (by omega) nn (by omega) (by omega)]; exact w20
    · intro k hk
      obtain ⟨⟨s1, s2, s3⟩, s4⟩ := wS k hk
      have a19 := gσ 19 (by omega) (by omega) (nn + 2 + k) (by omega) (by omega)
      have a20 := gσ 20 (by omega) (by omega) (nn + 2 + k) (by omega) (by omega)
      refine ⟨⟨by rw [gσ 17 (by omega) (by omega) _ (by omega) (by omega)]; exact s1, by rw [gσ 18 (by omega) (by omega) _ (by omega) (by omega)]; exact s2, ?_⟩, by rw [gσ 22 (by omega) (by omega) _ (by omega) (by omega)]; exact s4⟩
      rw [a19, a20]; exact s3
    · rw [hk, rti_o] at g3
      rw [rti_o]; exact g3
theorem Or1_s (X : Int32) (again : Int32 × Int32 × MS → MR) (s : Int32 × Int32 × MS) : Or1 X again s = if 2 ≤ s.2.1 then Rt1 X s.2.2 else (if (s.2.2.1 27) = 0 then ((F_X12_isSign 123 s.2.2).bind fun u_94 => if u_94.1 = 0 then ((F_X12_whatOf u_94.2).bind fun u_98 => if s.2.1 = 0 then (if X < 0 ∨ 40000 ≤ X.toNatClampNeg then none else bnd (mA u_98.2 20 (upd (u_98.2.2 20) X.toNatClampNeg u_98.1)) fun σ_110 => again (u_98.1, s.2.1 + 1, σ_110)) else (if s.1 < 0 ∨ 40000 ≤ s.1.toNatClampNeg then none else bnd (mA u_98.2 22 (upd (u_98.2.2 22) s.1.toNatClampNeg u_98.1)) fun σ_115 => again (u_98.1, s.2.1 + 1, σ_115))) else Rt1 X u_94.2) else Rt1 X s.2.2) := rfl
theorem on_loop (hT : TKE T N kd vl rv pl) {B a dp ln nn nd no ne : Nat} {σ0 : MS} {Γ0 : HS} (hk : kd a = 236) (hq1 : kd (a + 1) = 2) (hp : preS T (B - 9) a dp ln nn) (hB : B ≤ 38000) (hB9 : 9 ≤ B) (hdp : dp < 30) (hno : no ≤ 5000) (x5 : CNT Γ0 nd no ne) : ∀ (k n m c : Nat) (τ : MS) (Δ : HS), k < n → k < m → c + k = 2 → RN T kd vl rv pl τ (a + 2 + c) dp (nn + 2 + c) → CN T N kd vl pl Δ (a + 2 + c) dp ln → rX nn σ0 τ → rfP σ0 τ → cXt ln 5000 Γ0 Δ → cfP Γ0 Δ → τ.2 17 nn = J 7 → τ.2 18 nn = J (pl a) → τ.2 19 nn = J (nn + 1 : Nat) → τ.2 22 nn = J (-1) → NMN rv pl τ (nn + 1) (a + 1) → (τ.2 20 nn = if c = 0 then J (-1) else J (nn + 2 : Nat)) → WHS kd rv pl τ (nn + 2) c (a + 2) → Ok2 (loopF (Or1 (J (nn : Nat))) n (J (if c = 0 then -1 else (nn + 1 + c : Nat)), J (c : Nat), τ)) ((loopF Oc1 m (J (c : Nat), Δ)).bind fun u => Rt2 (J (a : Nat)) u.2) (ItR T N kd vl rv pl B σ0 Γ0 a dp ln nn nd no ne) := by
  have hp' := hp
  unfold preS at hp'
  have en := g_en (n := nn) (by omega)
  have en2 := (ng (n := nn) (by omega)).2
  intro k
  induction k with
  | zero =>
    intro n m c τ Δ hn hm hck h1 h2 x1 x2 x3 x4 w17 w18 w19 w22 wN w20 wS
    obtain ⟨n, rfl⟩ : ∃ e, n = e + 1 := ⟨n - 1, by omega⟩
    obtain ⟨m, rfl⟩ : ∃ e, m = e + 1 := ⟨m - 1, by omega⟩
    have hc : c = 2 := by omega
    subst hc
    rw [show loopF Oc1 (m + 1) (J ((2 : Nat) : Int), Δ) = OcE Δ from oc_no hT h2 (by omega) (by omega) _]
    show Ok2 (Or1 (J (nn : Nat)) (loopF (Or1 (J (nn : Nat))) n) (J (if 2 = 0 then -1 else (nn + 1 + 2 : Nat)), J ((2 : Nat) : Int), τ)) _ _
    rw [Or1_s]
    exact Ok2_lpos (by show (2 : Int32) ≤ J ((2 : Nat) : Int); decide) (on_fin hT hk hq1 (by omega) hp hB hB9 hdp hno h1 h2 x1 x2 x3 x4 x5 w17 w18 w19 w22 wN w20 wS)
  | succ k ih =>
    intro n m c τ Δ hn hm hck h1 h2 x1 x2 x3 x4 w17 w18 w19 w22 wN w20 wS
    obtain ⟨n, rfl⟩ : ∃ e, n = e + 1 := ⟨n - 1, by omega⟩
    obtain ⟨m, rfl⟩ : ∃ e, m = e + 1 := ⟨m - 1, by omega⟩
    have hb := h1.2.2.2.2.2.2.1
    show Ok2 (Or1 (J (nn : Nat)) (loopF (Or1 (J (nn : Nat))) n) (J (if c = 0 then -1 else (nn + 1 + c : Nat)), J (c : Nat), τ)) _ _
    rw [Or1_s]
    refine Ok2_lneg (by show ¬ (2 ≤ J (c : Nat)); rw [show (2 : Int32) = J 2 from rfl, J_le (by omega) (by omega) (by omega) (by omega)]; omega) (Ok2_lpos (by show τ.1 27 = 0; rw [h1.2.2.2.1]; rfl) ?_)
    refine Ok2_le (show F_X12_isSign 123 τ = _ from r_isSign hT h1 (c := 123) (by decide)) ?_
    by_cases q : kd (a + 2 + c) = 123
    · rw [if_pos q]
      rw [show loopF Oc1 (m + 1) (J (c : Nat), Δ) = OcE Δ from oc_no hT h2 (by omega) (by unfold isW; omega) _]
      exact Ok2_lneg J1_ne (on_fin hT hk hq1 (by omega) hp hB hB9 hdp hno h1 h2 x1 x2 x3 x4 x5 w17 w18 w19 w22 wN w20 wS)
    rw [if_neg q]
    refine Ok2_lpos J0_eq ?_
    dsimp only
    have e1 : J (c : Nat) + 1 = J (c + 1 : Nat) := by rw [J_lit, J_add]; rfl
    rw [e1]
    by_cases hw : isW kd (a + 2 + c)
    rotate_left
    · -- no WHAT: both stop at it
      obtain ⟨κ, e, hx⟩ := what_no hT (B := B - 4) h1 (by omega) (by omega) hw
      have hx' : rXX T kd vl rv pl (B - 4) σ0 (unf kd (a + 2 + c)) (a + 2 + c) κ := ⟨hx.1, rfP_trans x2 hx.2⟩
      obtain ⟨n, rfl⟩ : ∃ e, n = e + 1 := ⟨n - 1, by omega⟩
      rw [show loopF Oc1 (m + 1) (J (c : Nat), Δ) = OcE Δ from oc_no hT h2 (by omega) (fun _ => hw) _]
      refine Ok2_le e ?_
      refine itR_stop (f := unf kd (a + 2 + c)) (f' := 2) (w := a + 2 + c) ?_ (oc2_no hT h2 q (CNT_fr x5 x4.2.2.2.2) hno (cfQ_of x4) _) rfl hb
      have key : ∀ (g : Nat → Int32) (j : Nat) (l : Int32), 17 ≤ j → j ≤ 22 → Ok (loopF (Or1 (J (nn : Nat))) (n + 1) (l, J (c + 1 : Nat), mA κ j g)) fun u => rXX T kd vl rv pl B σ0 (unf kd (a + 2 + c)) (a + 2 + c) u.2 ∧ u.1 = J (nn : Nat) := fun g j l j1 j2 => Ok_mono (or1_stop hT (B := B - 4) (by omega) (by omega) (xx_mA hx' (by omega)) _ _ n) (fun u hu => ⟨xx_B hu.1 (by omega), hu.2⟩)
      refine Ok_ite (fun _ => Ok_neg en (Ok_bnd (key _ 20 _ (by omega) (by omega)))) (fun q0 => ?_)
      have hc0 : c ≠ 0 := by rintro rfl; exact q0 rfl
      rw [if_neg hc0]
      exact Ok_neg (g_en (by omega)) (Ok_bnd (key _ 22 _ (by omega) (by omega)))
    obtain ⟨κ, e, k1, k2, k3, k4, k5⟩ := what_ok hT h1 (by omega) hw
    have hbT := k1.2.2.2.2.2.2.1
    rw [show loopF Oc1 (m + 1) (J (c : Nat), Δ) = loopF Oc1 m (J (c + 1 : Nat), cps kd Δ (a + 2 + c)) from oc_yes hT h2 hw (by omega) _]
    refine Ok2_le e ?_
    have c2 := CN_cps hT h2 (show a + 2 + c < T from hbT)
    have k17 := (k4 17 (by omega) (by omega) nn (by omega)).trans w17
    have k18 := (k4 18 (by omega) (by omega) nn (by omega)).trans w18
    have k19 := (k4 19 (by omega) (by omega) nn (by omega)).trans w19
    have k22 := (k4 22 (by omega) (by omega) nn (by omega)).trans w22
    have kN : NMN rv pl κ (nn + 1) (a + 1) := NMN_rX wN k4 (by omega)
    have x3' : cXt ln 5000 Γ0 (cps kd Δ (a + 2 + c)) := cXt_trans x3 cXt_cps (Nat.le_refl ln) (Nat.le_refl 5000)
    have x4' : cfP Γ0 (cps kd Δ (a + 2 + c)) := cfP_trans x4 cfP_cps
    have hfin : ∀ (κ' : MS), κ'.2 17 = κ.2 17 → κ'.2 18 = κ.2 18 → κ'.2 19 = κ.2 19 → (∀ y, y ≠ nn → κ'.2 20 y = κ.2 20 y) → κ'.2 22 nn = κ.2 22 nn → RN T kd vl rv pl κ' (a + 2 + c + 1) dp (nn + 2 + c + 1) → rX nn σ0 κ' → rfP σ0 κ' → κ'.2 20 nn = J (nn + 2 : Nat) → (∀ y, y < c + 1 → κ'.2 22 (nn + 2 + y) = if y + 1 < c + 1 then J (nn + 2 + y + 1 : Nat) else J (-1)) → Ok2 (loopF (Or1 (J (nn : Nat))) n (J (nn + 2 + c : Nat), J (c + 1 : Nat), κ')) ((loopF Oc1 m (J (c + 1 : Nat), cps kd Δ (a + 2 + c))).bind fun u => Rt2 (J (a : Nat)) u.2) (ItR T N kd vl rv pl B σ0 Γ0 a dp ln nn nd no ne) := by
      intro κ' z17 z18 z19 z20 z22 zR zx zf z20n zS
      have key := ih n m (c + 1) κ' (cps kd Δ (a + 2 + c)) (by omega) (by omega) (by omega) zR c2 zx zf x3' x4' (by rw [z17]; exact k17) (by rw [z18]; exact k18) (by rw [z19]; exact k19) (by rw [z22]; exact k22) ⟨by rw [z17]; exact kN.1, by rw [z18]; exact kN.2.1, by rw [z19]; exact kN.2.2⟩ (by rw [if_neg (by omega)]; exact z20n) (fun y hy => ⟨?_, ?_⟩)
      · rw [if_neg (show ¬ c + 1 = 0 by omega), show nn + 1 + (c + 1) = nn + 2 + c by omega] at key
        exact key
      · have old : WHT kd rv pl κ (nn + 2 + y) (a + 2 + y) := by
          by_cases qy : y = c
          · subst qy; exact k2
          · obtain ⟨⟨s1, s2, s3⟩, s4⟩ := wS y (by omega)
            have b19 := k4 19 (by omega) (by omega) (nn + 2 + y) (by omega)
            have b20 := k4 20 (by omega) (by omega) (nn + 2 + y) (by omega)
            refine ⟨by rw [k4 17 (by omega) (by omega) _ (by omega)]; exact s1, by rw [k4 18 (by omega) (by omega) _ (by omega)]; exact s2, ?_⟩
            rw [b19, b20]; exact s3
        obtain ⟨s1, s2, s3⟩ := old
        exact ⟨by rw [z17]; exact s1, by rw [z18]; exact s2, by rw [z19, z20 _ (by omega)]; exact s3⟩
      · exact zS y hy
    by_cases hc0 : c = 0
    · subst hc0
      refine Ok2_lpos (by rfl) (Ok2_lneg en (Ok2_lbnd ?_))
      dsimp only
      rw [en2]
      refine hfin (mA κ 20 (upd (κ.2 20) nn (J (nn + 2 + 0 : Nat)))) rfl rfl rfl (fun y hy => by show upd _ _ _ _ = _; rw [upd_s, if_neg hy]) rfl (RN_mA k1 (by omega) (by omega) (by omega)) (rX_trans x1 (rX_trans (rX_le k4 (by omega)) (rX_mA (Nat.le_refl nn)) (Nat.le_refl nn)) (Nat.le_refl nn)) (rfP_trans x2 (rfP_trans k5 (rfP_mA (by omega)))) (by show upd _ _ _ _ = _; rw [upd_s, if_pos rfl]) (fun y hy => ?_)
      have : y = 0 := by omega
      subst this
      rw [if_neg (by omega)]
      exact k3
    · refine Ok2_lneg (by show ¬ J (c : Nat) = 0; rw [show (0 : Int32) = J 0 from rfl, J_eq (by omega) (by omega) (by omega) (by omega)]; omega) ?_
      rw [if_neg hc0]
      refine Ok2_lneg (g_en (by omega)) (Ok2_lbnd ?_)
      dsimp only
      rw [(ng (n := nn + 1 + c) (by omega)).2]
      refine hfin (mA κ 22 (upd (κ.2 22) (nn + 1 + c) (J (nn + 2 + c : Nat)))) rfl rfl rfl (fun y hy => rfl) (by show upd _ _ _ _ = _; rw [upd_s, if_neg (by omega)]) (RN_mA k1 (by omega) (by omega) (by omega)) (rX_trans x1 (rX_trans (rX_le k4 (by omega)) (rX_mA (by omega)) (Nat.le_refl nn)) (Nat.le_refl nn)) (rfP_trans x2 (rfP_trans k5 (rfP_mA (by omega)))) ?_ (fun y hy => ?_)
      · show κ.2 20 nn = _
        rw [k4 20 (by omega) (by omega) nn (by omega), w20, if_neg hc0]
      · show upd _ _ _ _ = _
        rw [upd_s]
        by_cases qy : y + 1 = c
        · rw [if_pos (by omega), if_pos (by omega)]; exact congrArg J (by omega)
        · rw [if_neg (by omega)]
          by_cases qc : y = c
          · subst qc; rw [if_neg (by omega)]; exact k3
          · rw [if_pos (by omega), k4 22 (by omega) (by omega) _ (by omega), (wS y (by omega)).2, if_pos (by omega)]
theorem sOn (hT : TKE T N kd vl rv pl) {B a dp ln nn nd no ne : Nat} {σ : MS} {Γ : HS} (hk : kd a = 236) (h1 : RN T kd vl rv pl σ (a + 1) dp nn) (h2 : CN T N kd vl pl Γ (a + 1) dp ln) (hp : preS T (B - 9) a dp ln nn) (hB : B ≤ 38000) (hB9 : 9 ≤ B) (hdp : dp < 30) (hno : no ≤ 5000) (hC : CNT Γ nd no ne) : Ok2 (OnR (J (pl a : Nat)) σ) ((F_X2_onHead Γ).bind fun u => Rt2 (J (a : Nat)) u.2) (ItR T N kd vl rv pl B σ Γ a dp ln nn nd no ne) := by
  have hp' := hp
  unfold preS at hp'
  have ha := h1.2.2.2.2.2.2.1
  obtain ⟨m, hm, hm2⟩ := FU_1
  rw [on_eq, Option.bind_assoc]
  unfold OnR
  rw [hm]
  refine hd_eq hT (w := 7) (K := fun X σ_3 => loopF (Or1 X) (m + 1) (-1, 0, σ_3)) rfl h1 (by omega) ?_
  refine Ok2_re (show F_X2_need 2 Γ = _ from c_need hT h2 (c := 2) (by omega)) ?_
  dsimp only
  by_cases q1 : kd (a + 1) = 2
  rotate_left
  · rw [if_neg q1]
    exact itR_stop (f := unf kd (a + 1)) (f' := 2) (w := a + 1) (Ok_mono (or1_stop hT (B := B - 2) (by omega) (by omega) (hd_no h1 q1 (by omega)) _ _ m) (fun u hu => ⟨xx_B hu.1 (by omega), hu.2⟩)) (oc1_stop hT ⟨CX_cfl h2 (Or.inl rfl), cfQ_of cfP_cfl⟩ _ _ m) rfl ha
  rw [if_pos q1]
  obtain ⟨τ, eτ, r2, x2, f2, w17, w18, w19, w20, -, w22, wN⟩ := hd_yes hT (w := 7) h1 q1
  rw [eτ]
  have haT := TKE_lt hT ha (by omega) (by omega)
  exact on_loop hT hk q1 hp hB hB9 hdp hno hC 2 (m + 1) (m + 1) 0 τ (cps kd Γ (a + 1)) (by omega) (by omega) rfl r2 (CN_cps hT h2 haT) x2 f2 cXt_cps cfP_cps w17 w18 w19 w22 wN (by rw [if_pos rfl]; exact w20) (fun y hy => absurd hy (by omega))
