/-! and, or -/
variable {R : Nat → Nat → Int32} {nO nV nC nA ln : Nat} {room : Nat → Bool} {en : Nat → Nat} {TX : Nat → Int → Int → Prop} {DN : Nat → Nat → Nat → Prop}
theorem EX_and {Γ0 : HS} {D : Nat → Nat → Prop} {rec : GF} {bt lw : Int32} {dep bC x y z p r q' q top w wk pw b : Nat} {kd o : Int} {σ : MS} {Γ : HS} (h : EXS R nO nV nC nA room en ln TX Γ0 D dep bC x p top w wk pw σ Γ) (hb : bt = J (b : Nat)) (hbw : b ≤ wk) (hx : x < 39990) (hy : y < 39990) (hz : z < 39990) (hwk : wk + 3 < 130000) (hw : w + 2 ≤ 9000) (hbc : bC + 14 ≤ top) (ht : top < 8990) (h17 : R 17 x = J kd) (hl : lTq kd o) (h19 : R 19 x = J (y : Nat)) (h20 : R 20 x = J (z : Nat)) (ho : op3 Γ0 r o (q : Nat)) (ho7 : op1 Γ0 q' 7) (hq : q = q' + 1) (hql : q ≤ ln) (hln : ln ≤ 39000) (hpr : p ≤ r) (hrq : r + 3 ≤ q') (hD1 : ∀ u, D (r + 3) u → D p u) (left : ∀ σ1, EXS R nO nV nC nA room en ln TX Γ0 D dep bC y p top w (wk + 1) pw σ1 Γ → EXR nO nV nC room rec bt lw dep bC top w (wk + 1) pw p r σ1 Γ) (right : ∀ σ1 Γ1 pw1, EXS R nO nV nC nA room en ln TX Γ0 D dep bC z (r + 3) top w (wk + 1) pw1 σ1 Γ1 → EXR nO nV nC room rec bt lw dep bC top w (wk + 1) pw1 (r + 3) q' σ1 Γ1) : EXR nO nV nC room rec bt lw dep bC top w wk pw p q σ Γ := by
  obtain ⟨a1, a2, a3, a4, a5, a6, a7, a8⟩ := h
  have h' : EXS R nO nV nC nA room en ln TX Γ0 D dep bC x p top w wk pw σ Γ := ⟨a1, a2, a3, a4, a5, a6, a7, a8⟩
  have hk : kd = 54 ∨ kd = 55 := by unfold lTq at hl; omega
  have hop := op_one (σ := wkP σ wk) (p1 := J (14 * dep : Nat)) (w := kd) hx hy (by show σ.2 64 x = _; rw [STA_17 a2]; exact h17) (by
    show _ ∨ (_ ∧ NR σ 19 x = _)
    rw [STA_R a2 (by omega) (by omega)]; exact Or.inr ⟨by omega, h19⟩) (wk := wk) rfl (by omega)
  have hrs : RSP rec bt lw (J (14 * dep : Nat)) 1 σ (tdS (tdS (wkP σ wk) wk (4 * x + 1)) (wk + 1) (4 * y)) := fun n => by
    rw [ev_open hb hbw (by omega) a4.2.2.2.1 a4.1 a5 hx, hop]; rfl
  have fr : RFR σ (tdS (tdS (wkP σ wk) wk (4 * x + 1)) (wk + 1) (4 * y)) (14 * dep + 14) w wk := RFR_trans RFR_wkP (RFR_trans (RFR_tdS (b := 14 * dep + 14) (w := w) (Nat.le_refl wk)) (RFR_tdS (b := 14 * dep + 14) (w := w) (wk := wk) (by omega)) (Nat.le_refl _) (Nat.le_refl _) (Nat.le_refl _)) (Nat.le_refl _) (Nat.le_refl _) (Nat.le_refl _)
  have hS1 := EXS_go (x' := y) (p' := p) (top' := top) (w' := w) (wk' := wk + 1) (pw' := pw) h' fr (CFR_rfl (t := top)) (Nat.le_refl _) hbc (RR_M a3 (rMk_trans wkP_fr (rMk_trans fr_tdS fr_tdS)) rfl rfl rfl rfl (fun h => h)) (RVw_fr a4 rfl rfl rfl rfl a4.2.2.2.2) (by show upd _ _ _ _ = _; rw [upd_s, if_pos rfl]) a6 (fun u hu => hu) a8
  have hx112 : (tdS (tdS (wkP σ wk) wk (4 * x + 1)) (wk + 1) (4 * y)).2 112 wk = J (4 * x + 1 : Nat) := by
    show upd _ _ _ _ = _
    rw [upd_s, if_neg (by omega)]
    show upd _ _ _ _ = _
    rw [upd_s, if_pos rfl]
  rcases left _ hS1 with ⟨v, τ1, Δ1, kc, kr, pw1, g1, g2, g3, g4, g5, g6, g7, g8, g9, g10, g11, g12, g13, g14⟩ | g
  · have fr1 : RFR σ τ1 (14 * dep + 14) w wk := RFR_trans fr g9 (Nat.le_refl _) (Nat.le_refl _) (by omega)
    have S1 : STA R nO nV nC nA room en ln TX τ1 Δ1 := STA_keep a2 fr1.1 g10.1
    have e5 : Δ1 5 = Γ0 5 := (g10.1 5 (by omega) (by omega) (by omega)).trans a1
    -- the reference closes the left side
    have ev : ∀ n, loopF (EvB rec bt lw (J (14 * dep : Nat))) (n + 1) τ1 = (F_X12_closes (J (x : Nat)) (J (1 : Nat)) (wkP τ1 wk)).bind fun u => loopF (EvB rec bt lw (J (14 * dep : Nat))) n u.2 := fun n => ev_close hb hbw (by omega) g2.2.2.2.1 g2.1 (by rw [g9.2.2.2 wk (by omega)]; exact hx112) (Or.inl rfl) hx (by rw [STA_17 S1]; exact h17) (by omega)
    have cl := cl_and (σ := wkP τ1 wk) (how := 1) hx hz (by show τ1.2 64 x = _; rw [STA_17 S1]; exact h17) hk (Or.inl rfl) g2.2.2.2.2 (by omega) (by show NR τ1 20 x = _; rw [STA_R S1 (by omega) (by omega)]; exact h20) (wk := wk) rfl (by omega)
    have e114 : (wkP τ1 wk).2 114 w = v := g7
    rw [e114] at cl
    obtain ⟨Δ2, c1, c2⟩ := m_pair (STA_MC S1 g3) (by omega) ht (by omega) (op3_5 e5 ho) (by unfold lTq at hl; omega)
    rw [g6] at c2
    rcases c2 with ⟨q1, rs⟩ | ⟨q1, jm⟩
    · have q2 : ¬ ((1 : Nat) = 1 ∧ (v = 0 ↔ kd = 55)) := by
        rintro ⟨-, e⟩
        unfold lTq at hl
        by_cases v0 : v = 0
        · have := q1.mp v0; have := e.mp v0; omega
        · have h1 : ¬ o = 43 := fun h => v0 (q1.mpr h)
          have h2 : ¬ kd = 55 := fun h => v0 (e.mpr h)
          omega
      rw [if_neg q2] at cl
      obtain ⟨m1, m2, m3, m4⟩ := rs
      refine Or.inl ⟨_, wpS (wtP (wkP τ1 wk) w) w (if v = 0 then 0 else 1), Δ2, kc + 1, 1 + kr + 1, pw1, RR_M g1 (rMk_trans wkP_fr (rMk_trans wtP_fr wpS_fr)) (m1.1 8 (by omega)) (m1.1 9 (by omega)) (m1.2.1 3 (by omega) (by omega)) (m1.2.1 4 (by omega) (by omega)) (NBK_e (m1.2.1 5 (by omega) (by omega)) (m1.2.1 14 (by omega) (by omega))), RVw_fr g2 rfl rfl rfl rfl rfl, CVw_MK g3 m1 m2 m3, g4, VL_b' (c := v = 0), m4, by show upd _ _ _ _ = _; rw [upd_s, if_pos rfl], g8, RFR_trans fr1 (RFR_trans (RFR_wkP (b := 14 * dep + 14) (w := w) (wk := wk)) (RFR_trans RFR_wtP RFR_wpS (Nat.le_refl _) (Nat.le_refl _) (Nat.le_refl _)) (Nat.le_refl _) (Nat.le_refl _) (Nat.le_refl _)) (Nat.le_refl _) (Nat.le_refl _) (Nat.le_refl _), CFR_trans g10 (CFR_MK m1 (Nat.le_refl _)) (Nat.le_refl _) (Nat.le_refl _), CSP_trans g11 c1, by omega, RSP_trans (RSP_trans hrs g13) (fun n => by rw [ev n, cl]; rfl), by omega⟩
    · have q2 : ((1 : Nat) = 1 ∧ (v = 0 ↔ kd = 55)) := by
        refine ⟨rfl, ?_⟩
        unfold lTq at hl
        by_cases v0 : v = 0
        · exact ⟨fun _ => by
            have : o ≠ 43 := fun h => q1 ⟨fun _ => h, fun _ => v0⟩
            omega, fun _ => v0⟩
        · exact ⟨fun h => absurd h v0, fun h => by
            exfalso
            have : o ≠ 43 := by omega
            exact q1 ⟨fun h => absurd h v0, fun h => absurd h this⟩⟩
      rw [if_pos q2] at cl
      obtain ⟨m1, m2, m3⟩ := jm
      have fr2 : RFR σ (tdS (tdS (wtP (wkP τ1 wk) w) wk (4 * x + 2)) (wk + 1) (4 * z)) (14 * dep + 14) w wk := RFR_trans fr1 (RFR_trans (RFR_wkP (b := 14 * dep + 14) (w := w) (wk := wk)) (RFR_trans RFR_wtP (RFR_trans (RFR_tdS (b := 14 * dep + 14) (w := w) (Nat.le_refl wk)) (RFR_tdS (b := 14 * dep + 14) (w := w) (wk := wk) (by omega)) (Nat.le_refl _) (Nat.le_refl _) (Nat.le_refl _)) (Nat.le_refl _) (Nat.le_refl _) (Nat.le_refl _)) (Nat.le_refl _) (Nat.le_refl _) (Nat.le_refl _)) (Nat.le_refl _) (Nat.le_refl _) (Nat.le_refl _)
      have fc2 : CFR Γ Δ2 top dep := CFR_trans g10 (CFR_MK (t := top) m1 (by omega)) (Nat.le_refl _) (Nat.le_refl _)
      have R2 : RRl nO room nV nC (tdS (tdS (wtP (wkP τ1 wk) w) wk (4 * x + 2)) (wk + 1) (4 * z)) Δ2 := RR_M g1 (rMk_trans wkP_fr (rMk_trans wtP_fr (rMk_trans fr_tdS fr_tdS))) (m1.1 8 (by omega)) (m1.1 9 (by omega)) (m1.2.1 3 (by omega) (by omega)) (m1.2.1 4 (by omega) (by omega)) (NBK_e (m1.2.1 5 (by omega) (by omega)) (m1.2.1 14 (by omega) (by omega)))
      have hS2 := EXS_go (x' := z) (p' := r + 3) (top' := top) (w' := w) (wk' := wk + 1) (pw' := pw1) h' fr2 fc2 (Nat.le_refl _) hbc R2 (RVw_fr g2 rfl rfl rfl rfl rfl) (by show upd _ _ _ _ = _; rw [upd_s, if_pos rfl]) (CVw_MK g3 m1 m2 m3) hD1 g4
      have hx2 : (tdS (tdS (wtP (wkP τ1 wk) w) wk (4 * x + 2)) (wk + 1) (4 * z)).2 112 wk = J (4 * x + 2 : Nat) := by
        show upd _ _ _ _ = _
        rw [upd_s, if_neg (by omega)]
        show upd _ _ _ _ = _
        rw [upd_s, if_pos rfl]
      have rs2 : RSP rec bt lw (J (14 * dep : Nat)) (1 + kr + 1) σ (tdS (tdS (wtP (wkP τ1 wk) w) wk (4 * x + 2)) (wk + 1) (4 * z)) := RSP_trans (RSP_trans hrs g13) (fun n => by rw [ev n, cl]; rfl)
      rcases right _ _ _ hS2 with ⟨v2, τ2, Δ3, kc2, kr2, pw2, f1, f2, f3, f4, f5, f6, f7, f8, f9, f10, f11, f12, f13, f14⟩ | g
      · have fr3 : RFR σ τ2 (14 * dep + 14) w wk := RFR_trans fr2 f9 (Nat.le_refl _) (Nat.le_refl _) (by omega)
        have fc3 : CFR Γ Δ3 top dep := CFR_trans fc2 f10 (Nat.le_refl _) (Nat.le_refl _)
        have S3 : STA R nO nV nC nA room en ln TX τ2 Δ3 := STA_keep a2 fr3.1 fc3.1
        have ev3 : ∀ n, loopF (EvB rec bt lw (J (14 * dep : Nat))) (n + 1) τ2 = (F_X12_closes (J (x : Nat)) (J (2 : Nat)) (wkP τ2 wk)).bind fun u => loopF (EvB rec bt lw (J (14 * dep : Nat))) n u.2 := fun n => ev_close hb hbw (by omega) f2.2.2.2.1 f2.1 (by rw [f9.2.2.2 wk (by omega)]; exact hx2) (Or.inr rfl) hx (by rw [STA_17 S3]; exact h17) (by omega)
        have cl3 := cl_and (σ := wkP τ2 wk) (how := 2) hx hz (by show τ2.2 64 x = _; rw [STA_17 S3]; exact h17) hk (Or.inr rfl) f2.2.2.2.2 (by omega) (by show NR τ2 20 x = _; rw [STA_R S3 (by omega) (by omega)]; exact h20) (wk := wk) rfl (by omega)
        rw [if_neg (by omega)] at cl3
        have e3 : (wkP τ2 wk).2 114 w = v2 := f7
        rw [e3] at cl3
        obtain ⟨Δ4, d1, d2⟩ := m_truth (STA_MC S3 f3) (by omega) ht (op1_5 ((fc3.1 5 (by omega) (by omega) (by omega)).trans a1) ho7)
        rw [f6, ← hq] at d2
        obtain ⟨n1, n2, n3, n4⟩ := d2
        refine Or.inl ⟨_, wpS (wtP (wkP τ2 wk) w) w (if v2 = 0 then 0 else 1), Δ4, kc + 1 + kc2 + 1, 1 + kr + 1 + kr2 + 1, pw2, RR_M f1 (rMk_trans wkP_fr (rMk_trans wtP_fr wpS_fr)) (n1.1 8 (by omega)) (n1.1 9 (by omega)) (n1.2.1 3 (by omega) (by omega)) (n1.2.1 4 (by omega) (by omega)) (NBK_e (n1.2.1 5 (by omega) (by omega)) (n1.2.1 14 (by omega) (by omega))), RVw_fr f2 rfl rfl rfl rfl rfl, CVw_MK f3 n1 n2 n3, f4, VL_b' (c := v2 = 0), n4, by show upd _ _ _ _ = _; rw [upd_s, if_pos rfl], by omega, RFR_trans fr3 (RFR_trans (RFR_wkP (b := 14 * dep + 14) (w := w) (wk := wk)) (RFR_trans RFR_wtP RFR_wpS (Nat.le_refl _) (Nat.le_refl _) (Nat.le_refl _)) (Nat.le_refl _) (Nat.le_refl _) (Nat.le_refl _)) (Nat.le_refl _) (Nat.le_refl _) (Nat.le_refl _), CFR_trans fc3 (CFR_MK n1 (Nat.le_refl _)) (Nat.le_refl _) (Nat.le_refl _), CSP_trans (CSP_trans (CSP_trans g11 c1) f11) d1, by omega, RSP_trans (RSP_trans rs2 f13) (fun n => by rw [ev3 n, cl3]; rfl), by omega⟩
      · exact Or.inr (EXF_pre g rs2 (CSP_trans g11 c1) fr2.1 fc2.1 (by omega) (by omega))
  · exact Or.inr (EXF_pre g hrs CSP_0 fr.1 cWk_rfl (by omega) (by omega))
