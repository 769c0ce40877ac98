/-! rooms and things: their heads -/
variable {T N : Nat} {kd vl rv : Nat → Int} {pl : Nat → Nat}
def PT2 (p0 : Int32) (nn : Nat) (t_14 : Int32) (σ_15 : MS) : MR := (F_X12_node 35 t_14 σ_15).bind fun u_19 => if J (nn : Nat) < 0 ∨ 40000 ≤ nn then none else bnd (mA u_19.2 21 (upd (u_19.2.2 21) nn u_19.1)) fun σ_23 => if J (nn : Nat) < 0 ∨ 40000 ≤ nn then none else (F_X12_needKind 4 σ_23).bind fun u_27 => if (σ_23.2 21 nn) < 0 ∨ 40000 ≤ (σ_23.2 21 nn).toNatClampNeg then none else bnd (mA u_27.2 20 (upd (u_27.2.2 20) (σ_23.2 21 nn).toNatClampNeg u_27.1)) fun σ_31 => (F_X12_open 123 σ_31).bind fun u_33 => loopF (Lr p0 nn) FU (-1, u_33.2)
def PT1 (p0 : Int32) (nn : Nat) (σ_12 : MS) : MR := if (σ_12.1 27) = 0 then (if (σ_12.1 25) < 0 ∨ 16010 ≤ (σ_12.1 25).toNatClampNeg then none else PT2 p0 nn (σ_12.2 8 (σ_12.1 25).toNatClampNeg) σ_12) else PT2 p0 nn 0 σ_12
theorem plc_eq {p0 : Int32} {w : Int} (hw : (p0 = 0 ∧ w = 1) ∨ (¬ p0 = 0 ∧ w = 2)) {σ : MS} {p nn : Nat} (h : σ.1 23 = J nn) (hn : nn < 39990) {n : HR} {Q : Int32 × MS → Int32 × HS → Prop} (g : Ok2 ((F_X12_name (nod σ nn w p)).bind fun u_8 => if J (nn : Nat) < 0 ∨ 40000 ≤ nn then none else bnd (mA u_8.2 19 (upd (u_8.2.2 19) nn u_8.1)) fun σ_12 => PT1 p0 nn σ_12) n Q) : Ok2 (F_X12_place p0 (J (p : Nat)) σ) n Q := by
  have en2 := (ng (n := nn) (by omega)).2
  unfold F_X12_place
  refine Ok2_lbnd ?_
  rcases hw with ⟨h0, rfl⟩ | ⟨h0, rfl⟩
  · refine Ok2_lpos h0 (Ok2_le (show F_X12_node 1 (J (p : Nat)) σ = _ from r_node h (by omega) 1 p) ?_)
    dsimp only
    rw [en2]
    exact g
  · refine Ok2_lneg h0 (Ok2_le (show F_X12_node 2 (J (p : Nat)) σ = _ from r_node h (by omega) 2 p) ?_)
    dsimp only
    rw [en2]
    exact g
theorem pl_stop3 (hT : TKE T N kd vl rv pl) {w' : Int} {B a dp ln nn : Nat} {σ0 ρ : MS} {Γ0 v : HS} {f f' : Int} {w : Nat} (x1 : rXX T kd vl rv pl B σ0 f w ρ) (x2 : yXX N kd vl pl Γ0 f' w v) (x3 : f = fxO kd f' w) (x4 : w ≤ T) (p0 : Int32) (P : HS → HR) : Ok2 ((F_X12_open 123 ρ).bind fun u_33 => loopF (Lr p0 nn) FU (-1, u_33.2)) ((F_X2_open 123 v).bind fun u_5 => loopF (Lq P) FU (0, u_5.2)) (PlR T N kd vl rv pl w' B σ0 Γ0 a dp ln nn) := by
  obtain ⟨m, hm, -⟩ := FU_1
  obtain ⟨⟨n0, a1, b1⟩, d1⟩ := x1
  refine Ok2_le (x_open hT a1 123) (Ok2_r (Ok_mono (y_open hT x2.1 (c := 123) (by omega)) (fun u hu => ?_)))
  rw [hm]
  exact lr_stop hT ⟨⟨n0, a1, b1⟩, d1⟩ ⟨hu.1, cfP_trans x2.2 hu.2⟩ x3 x4 p0 P m m _ _
theorem pl_stop2 (hT : TKE T N kd vl rv pl) {w' : Int} {B a dp ln nn : Nat} (hB : B ≤ 38000) (hn : nn ≤ B) {σ0 ρ : MS} {Γ0 v : HS} {f f' : Int} {w : Nat} (x1 : rXX T kd vl rv pl (B - 1) σ0 f w ρ) (hB1 : 1 ≤ B) (x2 : yXX N kd vl pl Γ0 f' w v) (x3 : f = fxO kd f' w) (x4 : w ≤ T) (p0 : Int32) (P : HS → HR) : Ok2 (PT1 p0 nn ρ) ((F_X2_need 4 v).bind fun u_3 => (F_X2_open 123 u_3.2).bind fun u_5 => loopF (Lq P) FU (0, u_5.2)) (PlR T N kd vl rv pl w' B σ0 Γ0 a dp ln nn) := by
  have en := g_en (n := nn) (by omega)
  rw [(ng (n := nn) (by omega)).2] at en
  obtain ⟨⟨n0, a1, b1⟩, d1⟩ := x1
  unfold PT1 PT2
  refine Ok2_lneg (show ¬ ρ.1 27 = 0 by rw [a1.2.1]; exact J1_ne) ?_
  refine Ok2_le (show F_X12_node 35 0 ρ = some (J (n0 : Nat), nod ρ n0 35 0) from r_node a1.2.2.2.2.1 (by omega) 35 0) (Ok2_lneg en (Ok2_lbnd (Ok2_lneg en ?_)))
  dsimp only
  have y1 : RX T kd vl rv pl (mA (nod ρ n0 35 0) 21 (upd ((nod ρ n0 35 0).2 21) nn (J (n0 : Nat)))) f (pl w) (n0 + 1) := RX_mA (RX_nod a1 35 0) (by omega) (by omega) (by omega)
  refine Ok2_le (show F_X12_needKind 4 _ = _ from x_needKind hT y1 4) ?_
  rw [show (mA (nod ρ n0 35 0) 21 (upd ((nod ρ n0 35 0).2 21) nn (J (n0 : Nat)))).2 21 nn = J (n0 : Nat) by show upd _ _ _ _ = _; rw [upd_s, if_pos rfl]]
  refine Ok2_lneg (g_en (by omega)) (Ok2_lbnd ?_)
  refine Ok2_r (Ok_mono (yy_need hT x2 (c := 4) (by omega)) (fun u hu => ?_))
  exact pl_stop3 hT (xx_mA ⟨⟨n0 + 1, y1, by omega⟩, rfP_trans d1 (rfP_trans rfP_nod (rfP_mA (by omega)))⟩ (by omega)) hu x3 x4 p0 P
theorem sPlace (hT : TKE T N kd vl rv pl) {w : Int} {B a dp ln nn : Nat} {σ : MS} {Γ : HS} {p0 : Int32} {P : HS → HR} (hw : (p0 = 0 ∧ w = 1) ∨ (¬ p0 = 0 ∧ w = 2)) (h1 : RN T kd vl rv pl σ (a + 1) dp nn) (h2 : CN T N kd vl pl Γ (a + 1) dp ln) (hp : preS T B a dp ln nn) (hdp : dp ≤ 30) (hP : ∀ (B' a' nn' : Nat) (τ : MS) (Δ : HS), RN T kd vl rv pl τ a' (dp + 1) nn' → CN T N kd vl pl Δ a' (dp + 1) ln → preS T B' a' (dp + 1) ln nn' → Ok2 (F_X12_part p0 τ) (P Δ) (PtR T N kd vl rv pl w B' τ Δ a' (dp + 1) ln nn')) : Ok2 (F_X12_place p0 (J (pl a : Nat)) σ) ((F_X2_need 2 Γ).bind fun u_1 => (F_X2_need 4 u_1.2).bind fun u_3 => (F_X2_open 123 u_3.2).bind fun u_5 => loopF (Lq P) FU (0, u_5.2)) (PlR T N kd vl rv pl w B σ Γ a dp ln nn) := by
  have hp' := hp
  unfold preS at hp'
  have en := g_en (n := nn) (by omega)
  rw [(ng (n := nn) (by omega)).2] at en
  obtain ⟨n1, n2, n3, n4⟩ := TKE_N hT
  have ha := h1.2.2.2.2.2.2.1
  refine plc_eq hw h1.2.2.2.2.2.1 (by omega) ?_
  have r1 := RN_nod h1 w (pl a)
  refine Ok2_le (r_name hT r1 (by omega)) (Ok2_lneg en (Ok2_lbnd ?_))
  refine Ok2_re (show F_X2_need 2 Γ = _ from c_need hT h2 (c := 2) (by omega)) ?_
  dsimp only
  have u1 : rX (nn + 1) (nod σ nn w (pl a)) (nmN kd rv pl (nod σ nn w (pl a)) (nn + 1) (a + 1)) := nmN_rX
  have f1 : rfP σ (mA (nmN kd rv pl (nod σ nn w (pl a)) (nn + 1) (a + 1)) 19 (upd ((nmN kd rv pl (nod σ nn w (pl a)) (nn + 1) (a + 1)).2 19) nn (J (nn + 1 : Nat)))) := rfP_trans rfP_nod (rfP_trans nmN_rfP (rfP_mA (by omega)))
  by_cases q1 : kd (a + 1) = 2
  rotate_left
  · rw [if_neg q1]
    exact pl_stop2 hT (by omega) (by omega) ⟨⟨nn + 2, RX_mA (nmN_RX r1 q1) (by omega) (by omega) (by omega), by omega⟩, f1⟩ (by omega) ⟨CX_cfl h2 (Or.inl rfl), cfP_cfl⟩ rfl ha p0 P
  rw [if_pos q1]
  have haT := TKE_lt hT ha (by omega) (by omega)
  have c2 := CN_cps hT h2 haT
  have x1 : rX nn σ (mA (nmN kd rv pl (nod σ nn w (pl a)) (nn + 1) (a + 1)) 19 (upd ((nmN kd rv pl (nod σ nn w (pl a)) (nn + 1) (a + 1)).2 19) nn (J (nn + 1 : Nat)))) := rX_trans rX_nod (rX_trans (rX_le u1 (by omega)) (rX_mA (Nat.le_refl nn)) (Nat.le_refl nn)) (Nat.le_refl nn)
  have r2 : RN T kd vl rv pl (mA (nmN kd rv pl (nod σ nn w (pl a)) (nn + 1) (a + 1)) 19 (upd ((nmN kd rv pl (nod σ nn w (pl a)) (nn + 1) (a + 1)).2 19) nn (J (nn + 1 : Nat)))) (a + 2) dp (nn + 2) := RN_mA (nmN_RN hT r1 q1) (by omega) (by omega) (by omega)
  have w17 : (mA (nmN kd rv pl (nod σ nn w (pl a)) (nn + 1) (a + 1)) 19 (upd ((nmN kd rv pl (nod σ nn w (pl a)) (nn + 1) (a + 1)).2 19) nn (J (nn + 1 : Nat)))).2 17 nn = J w := (u1 17 (by omega) (by omega) nn (by omega)).trans (nod17 (σ := σ))
  have w18 : (mA (nmN kd rv pl (nod σ nn w (pl a)) (nn + 1) (a + 1)) 19 (upd ((nmN kd rv pl (nod σ nn w (pl a)) (nn + 1) (a + 1)).2 19) nn (J (nn + 1 : Nat)))).2 18 nn = J (pl a) := (u1 18 (by omega) (by omega) nn (by omega)).trans (nod18 (σ := σ))
  have w20 : (mA (nmN kd rv pl (nod σ nn w (pl a)) (nn + 1) (a + 1)) 19 (upd ((nmN kd rv pl (nod σ nn w (pl a)) (nn + 1) (a + 1)).2 19) nn (J (nn + 1 : Nat)))).2 20 nn = J (-1) := (u1 20 (by omega) (by omega) nn (by omega)).trans (nod20 (σ := σ) (k := w) (p := (pl a : Nat)))
  have w22 : (mA (nmN kd rv pl (nod σ nn w (pl a)) (nn + 1) (a + 1)) 19 (upd ((nmN kd rv pl (nod σ nn w (pl a)) (nn + 1) (a + 1)).2 19) nn (J (nn + 1 : Nat)))).2 22 nn = J (-1) := (u1 22 (by omega) (by omega) nn (by omega)).trans (nod22 (σ := σ) (k := w) (p := (pl a : Nat)))
  have w19 : (mA (nmN kd rv pl (nod σ nn w (pl a)) (nn + 1) (a + 1)) 19 (upd ((nmN kd rv pl (nod σ nn w (pl a)) (nn + 1) (a + 1)).2 19) nn (J (nn + 1 : Nat)))).2 19 nn = J (nn + 1 : Nat) := by show upd _ _ _ _ = _; rw [upd_s, if_pos rfl]
  have wN : NMN rv pl (mA (nmN kd rv pl (nod σ nn w (pl a)) (nn + 1) (a + 1)) 19 (upd ((nmN kd rv pl (nod σ nn w (pl a)) (nn + 1) (a + 1)).2 19) nn (J (nn + 1 : Nat)))) (nn + 1) (a + 1) := NMN_mA (nmN_NMN (σ := nod σ nn w (pl a)) (n := nn + 1) q1) (by omega)
  revert f1 x1 r2 w17 w18 w20 w22 w19 wN
  generalize mA (nmN kd rv pl (nod σ nn w (pl a)) (nn + 1) (a + 1)) 19 (upd ((nmN kd rv pl (nod σ nn w (pl a)) (nn + 1) (a + 1)).2 19) nn (J (nn + 1 : Nat))) = τ
  intro f1 x1 r2 w17 w18 w20 w22 w19 wN
  unfold PT1 PT2
  refine Ok2_lpos (by rw [r2.2.2.2.1]; rfl) (Ok2_lneg (rg hT r2).1 ?_)
  rw [(rg hT r2).2, (RN_at hT r2).2.1]
  refine Ok2_le (show F_X12_node 35 (J (pl (a + 2) : Nat)) τ = _ from r_node r2.2.2.2.2.2.1 (by omega) 35 (pl (a + 2))) (Ok2_lneg en (Ok2_lbnd (Ok2_lneg en ?_)))
  dsimp only
  have r3 : RN T kd vl rv pl (mA (nod τ (nn + 2) 35 (pl (a + 2))) 21 (upd ((nod τ (nn + 2) 35 (pl (a + 2))).2 21) nn (J (nn + 2 : Nat)))) (a + 2) dp (nn + 3) := RN_mA (RN_nod r2 35 (pl (a + 2))) (by omega) (by omega) (by omega)
  refine Ok2_le (show F_X12_needKind 4 _ = _ from r_needKind hT r3 (k := 4) (Or.inr (Or.inr rfl))) ?_
  rw [show (mA (nod τ (nn + 2) 35 (pl (a + 2))) 21 (upd ((nod τ (nn + 2) 35 (pl (a + 2))).2 21) nn (J (nn + 2 : Nat)))).2 21 nn = J (nn + 2 : Nat) by show upd _ _ _ _ = _; rw [upd_s, if_pos rfl]]
  refine Ok2_lneg (g_en (by omega)) (Ok2_lbnd ?_)
  rw [(ng (n := nn + 2) (by omega)).2]
  refine Ok2_re (show F_X2_need 4 (cps kd Γ (a + 1)) = _ from c_need hT c2 (c := 4) (by omega)) ?_
  have f2 : rfP σ (mA (nod τ (nn + 2) 35 (pl (a + 2))) 21 (upd ((nod τ (nn + 2) 35 (pl (a + 2))).2 21) nn (J (nn + 2 : Nat)))) := rfP_trans f1 (rfP_trans rfP_nod (rfP_mA (by omega)))
  by_cases q2 : kd (a + 2) = 4
  rotate_left
  · rw [if_neg q2, if_neg q2]
    dsimp only
    exact pl_stop3 hT ⟨⟨nn + 3, RX_mA (RX_stp r3) (by omega) (by omega) (by omega), by omega⟩, rfP_trans f2 (rfP_trans rfP_stp (rfP_mA (by omega)))⟩ ⟨CX_cfl c2 (Or.inl rfl), cfP_trans cfP_cps cfP_cfl⟩ rfl (by omega) p0 P
  rw [if_pos q2, if_pos q2]
  dsimp only
  have haT2 := TKE_lt hT r2.2.2.2.2.2.2.1 (by omega) (by omega)
  have c3 := CN_cps hT c2 haT2
  rw [show rvO kd vl rv (a + 2) = rv (a + 2) by unfold rvO; rw [if_neg (by omega), if_neg (by omega), if_pos q2]]
  -- what stands before the parts
  have x3 : rX nn σ (mA (psd (mA (nod τ (nn + 2) 35 (pl (a + 2))) 21 (upd ((nod τ (nn + 2) 35 (pl (a + 2))).2 21) nn (J (nn + 2 : Nat)))) (a + 2)) 20 (upd ((psd (mA (nod τ (nn + 2) 35 (pl (a + 2))) 21 (upd ((nod τ (nn + 2) 35 (pl (a + 2))).2 21) nn (J (nn + 2 : Nat)))) (a + 2)).2 20) (nn + 2) (J (rv (a + 2))))) := rX_trans x1 (rX_trans (rX_le (rX_nod (n := nn + 2)) (by omega)) (rX_trans (rX_mA (Nat.le_refl nn)) (rX_trans (rX_psd (a := a + 2)) (rX_mA (by omega)) (Nat.le_refl nn)) (Nat.le_refl nn)) (Nat.le_refl nn)) (Nat.le_refl nn)
  have r4 : RN T kd vl rv pl (mA (psd (mA (nod τ (nn + 2) 35 (pl (a + 2))) 21 (upd ((nod τ (nn + 2) 35 (pl (a + 2))).2 21) nn (J (nn + 2 : Nat)))) (a + 2)) 20 (upd ((psd (mA (nod τ (nn + 2) 35 (pl (a + 2))) 21 (upd ((nod τ (nn + 2) 35 (pl (a + 2))).2 21) nn (J (nn + 2 : Nat)))) (a + 2)).2 20) (nn + 2) (J (rv (a + 2))))) (a + 3) dp (nn + 3) := RN_mA (RN_psd r3 haT2) (by omega) (by omega) (by omega)
  have f4 : rfP σ (mA (psd (mA (nod τ (nn + 2) 35 (pl (a + 2))) 21 (upd ((nod τ (nn + 2) 35 (pl (a + 2))).2 21) nn (J (nn + 2 : Nat)))) (a + 2)) 20 (upd ((psd (mA (nod τ (nn + 2) 35 (pl (a + 2))) 21 (upd ((nod τ (nn + 2) 35 (pl (a + 2))).2 21) nn (J (nn + 2 : Nat)))) (a + 2)).2 20) (nn + 2) (J (rv (a + 2))))) := rfP_trans f2 (rfP_trans rfP_psd (rfP_mA (by omega)))
  have hN : ∀ y, y < nn + 2 → ∀ j, 17 ≤ j → j ≤ 22 → (j = 21 → y ≠ nn) → (mA (psd (mA (nod τ (nn + 2) 35 (pl (a + 2))) 21 (upd ((nod τ (nn + 2) 35 (pl (a + 2))).2 21) nn (J (nn + 2 : Nat)))) (a + 2)) 20 (upd ((psd (mA (nod τ (nn + 2) 35 (pl (a + 2))) 21 (upd ((nod τ (nn + 2) 35 (pl (a + 2))).2 21) nn (J (nn + 2 : Nat)))) (a + 2)).2 20) (nn + 2) (J (rv (a + 2))))).2 j y = τ.2 j y := by
    intro y hy j j1 j2 hj
    have e := (rX_nod (σ := τ) (n := nn + 2) (k := 35) (p := (pl (a + 2) : Nat))) j j1 j2 y hy
    rw [mA_2]
    by_cases qj : j = 20
    · rw [if_pos qj, upd_s, if_neg (by omega)]
      subst qj; exact e
    · rw [if_neg qj]
      show (mA (nod τ (nn + 2) 35 (pl (a + 2))) 21 (upd ((nod τ (nn + 2) 35 (pl (a + 2))).2 21) nn (J (nn + 2 : Nat)))).2 j y = _
      rw [mA_2]
      by_cases qj2 : j = 21
      · rw [if_pos qj2, upd_s, if_neg (hj qj2)]
        subst qj2; exact e
      · rw [if_neg qj2]; exact e
  have pL : PL0 rv pl w (mA (psd (mA (nod τ (nn + 2) 35 (pl (a + 2))) 21 (upd ((nod τ (nn + 2) 35 (pl (a + 2))).2 21) nn (J (nn + 2 : Nat)))) (a + 2)) 20 (upd ((psd (mA (nod τ (nn + 2) 35 (pl (a + 2))) 21 (upd ((nod τ (nn + 2) 35 (pl (a + 2))).2 21) nn (J (nn + 2 : Nat)))) (a + 2)).2 20) (nn + 2) (J (rv (a + 2))))) nn a := by
    refine ⟨?_, ?_, ?_, ⟨?_, ?_, ?_⟩, ?_, ?_, ?_, ?_, ?_⟩
    · rw [hN nn (by omega) 17 (by omega) (by omega) (by omega)]; exact w17
    · rw [hN nn (by omega) 18 (by omega) (by omega) (by omega)]; exact w18
    · rw [hN nn (by omega) 19 (by omega) (by omega) (by omega)]; exact w19
    · rw [hN (nn + 1) (by omega) 17 (by omega) (by omega) (by omega)]; exact wN.1
    · rw [hN (nn + 1) (by omega) 18 (by omega) (by omega) (by omega)]; exact wN.2.1
    · rw [hN (nn + 1) (by omega) 19 (by omega) (by omega) (by omega)]; exact wN.2.2
    · show upd _ _ _ _ = _; rw [upd_s, if_pos rfl]
    · exact nod17 (σ := τ) (k := 35) (p := (pl (a + 2) : Nat))
    · exact nod18 (σ := τ) (k := 35)
    · show upd _ _ _ _ = _; rw [upd_s, if_pos rfl]
    · rw [hN nn (by omega) 22 (by omega) (by omega) (by omega)]; exact w22
  have v20 : (mA (psd (mA (nod τ (nn + 2) 35 (pl (a + 2))) 21 (upd ((nod τ (nn + 2) 35 (pl (a + 2))).2 21) nn (J (nn + 2 : Nat)))) (a + 2)) 20 (upd ((psd (mA (nod τ (nn + 2) 35 (pl (a + 2))) 21 (upd ((nod τ (nn + 2) 35 (pl (a + 2))).2 21) nn (J (nn + 2 : Nat)))) (a + 2)).2 20) (nn + 2) (J (rv (a + 2))))).2 20 nn = J (-1) := by
    rw [hN nn (by omega) 20 (by omega) (by omega) (by omega)]; exact w20
  revert x3 r4 f4 pL v20
  generalize mA (psd (mA (nod τ (nn + 2) 35 (pl (a + 2))) 21 (upd ((nod τ (nn + 2) 35 (pl (a + 2))).2 21) nn (J (nn + 2 : Nat)))) (a + 2)) 20 (upd ((psd (mA (nod τ (nn + 2) 35 (pl (a + 2))) 21 (upd ((nod τ (nn + 2) 35 (pl (a + 2))).2 21) nn (J (nn + 2 : Nat)))) (a + 2)).2 20) (nn + 2) (J (rv (a + 2)))) = κ
  intro x3 r4 f4 pL v20
  have hkr := kdOk_rng (TKE_ok hT (show a + 3 ≤ T by omega))
  obtain ⟨m, hm, hm2⟩ := FU_1
  by_cases q3 : kd (a + 3) = 123
  rotate_left
  · unfold F_X2_open
    refine Ok2_le (show F_X12_open 123 κ = _ from r_open_n hT r4 (c := 123) (by decide) q3) ?_
    rw [c3.2.2.1, if_neg (show ¬ J (kd (a + 3)) = 123 by rw [show (123 : Int32) = J 123 from rfl, J_eq (by omega) (by omega) (by omega) (by omega)]; exact q3), show F_X2_fail 2 (cps kd (cps kd Γ (a + 1)) (a + 2)) = _ from c_fail hT c3 2, hm]
    refine Ok2_rsome (Ok2_rsome ?_)
    exact lr_stop hT ⟨⟨nn + 3, RX_stp r4, by omega⟩, rfP_trans f4 rfP_stp⟩ ⟨CX_cfl c3 (Or.inl rfl), cfP_trans cfP_cps (cfP_trans cfP_cps cfP_cfl)⟩ rfl (by omega) p0 P m m _ _
  have haT3 := TKE_lt hT (show a + 3 ≤ T by omega) (by omega) (by omega)
  unfold F_X2_open
  rw [c3.2.2.1, if_pos (show J (kd (a + 3)) = 123 by rw [q3]; rfl), c_deepen hT c3 haT3, hm]
  by_cases hd30 : dp = 30
  · refine Ok2_le (show F_X12_open 123 κ = _ from r_open_x hT r4 (c := 123) (by decide) q3 hd30) ?_
    rw [if_neg (by omega)]
    refine Ok2_rsome (Ok2_rsome ?_)
    exact lr_stop hT ⟨⟨nn + 3, RX_opn (RX_stp r4), by omega⟩, rfP_trans f4 (rfP_trans rfP_stp rfP_opn)⟩ ⟨CX_cfl' c3 (Or.inr rfl), cfP_trans cfP_cps (cfP_trans cfP_cps (cfP_trans cfP_cop cfP_cfl))⟩ (show (5 : Int) = fxO kd 5 (a + 3) by unfold fxO; rw [if_neg (by omega)]) (by omega) p0 P m m _ _
  have hd30' : dp < 30 := by omega
  refine Ok2_le (show F_X12_open 123 κ = _ from r_open_y hT r4 (c := 123) (by decide) q3 hd30') ?_
  rw [if_pos hd30']
  refine Ok2_rsome (Ok2_rsome ?_)
  have r5 := RN_psd (RN_opn (d := dp + 1) r4 (by omega)) haT3
  have c5 := CN_cps hT (CN_cop (d := dp + 1) c3 (by omega)) haT3
  exact plc_loop hT hp hd30' q1 q2 q3 hP (T + 2) (m + 1) (m + 1) 0 (a + 4) (nn + 3) (fun _ => 0) (fun _ => nn + 3) (fun _ => a + 4) (fun _ => 0) (fun _ => 0) _ _ (by omega) (by omega) (by omega) r5 c5 LSTf_nil rfl rfl (by omega) (by omega) (by omega) (PL0_r pL (fun _ _ _ _ _ _ => rfl)) v20 (rX_trans x3 (rX_trans rX_opn rX_psd (Nat.le_refl nn)) (Nat.le_refl nn)) (cXt_trans cXt_cps (cXt_trans cXt_cps (cXt_trans cXt_cop cXt_cps (Nat.le_refl ln) (Nat.le_refl 5000)) (Nat.le_refl ln) (Nat.le_refl 5000)) (Nat.le_refl ln) (Nat.le_refl 5000)) (rfP_trans f4 (rfP_trans rfP_opn rfP_psd)) (cfP_trans cfP_cps (cfP_trans cfP_cps (cfP_trans cfP_cop cfP_cps)))
