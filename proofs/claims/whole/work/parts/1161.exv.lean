/-! both sides known: how each node closes; a node with one side, with two -/
variable {R : Nat → Nat → Int32} {nO nV nC nA ln : Nat} {room : Nat → Bool} {en : Nat → Nat} {TX : Nat → Int → Int → Prop} {DN : Nat → Nat → Nat → Prop}
theorem cls_two {X : MS} {Γ : HS} {dep bC top w wk pw r x : Nat} {l v : Int32} {kd d o : Int} (hS : STA R nO nV nC nA room en ln TX X Γ) (hR : RRl nO room nV nC X Γ) (hX : RVw X dep w wk pw) (hΓ : CVw Γ dep bC (top + 2) r pw) (ht : top < 8990) (hx : x < 39990) (hrl : r < ln) (hl : (Γ 10).2.1 6 top = l) (hv : (Γ 10).2.1 6 (top + 1) = v) (hll : VL l) (h21 : R 21 x = J d) (hb : bTq kd d o) (ho : op1 Γ r o) : CLO nO nV nC room dep bC top w wk pw (r + 1) X Γ (if kd = 56 then F_X12_binary (J (x : Nat)) l v X else F_X12_isIn l v X) := by
  by_cases k56 : kd = 56
  · rw [if_pos k56]
    have ho2 : 10 ≤ o ∧ o ≤ 20 := by unfold bTq at hb; omega
    subst k56
    have hu := r_binary (l := l) (r := v) hX.1 hx (by rw [STA_R hS (by omega) (by omega)]; exact h21) hb
    obtain ⟨Δ, c1, c2⟩ := m_num (STA_MC hS hΓ) hrl ht ho ho2
    rw [hl, hv] at c2
    rcases c2 with ⟨q, b⟩ | ⟨q, g⟩
    · rw [if_pos q] at hu
      exact CLO_brk hR hX hu (by omega) c1 b
    · rw [if_neg q] at hu
      exact CLO_ok hR hX hΓ hu (VL_num _ _ _) c1 g
  · rw [if_neg k56]
    have hb2 : o = 23 := by unfold bTq at hb; omega
    subst hb2
    obtain ⟨z, rfl, z1, z2⟩ := hll
    obtain ⟨n1, n2, n3, n4⟩ := hS.2.1
    have hu := r_isIn (r := v) hX.1 n1 n4 ⟨z1, z2⟩
    obtain ⟨Δ, c1, c2⟩ := m_in (STA_MC hS hΓ) hrl ht ho hl ⟨z1, z2⟩ n2 n4
    rw [hv] at c2
    rcases c2 with ⟨q, b⟩ | ⟨q, g⟩
    · rw [if_neg q] at hu
      exact CLO_brk hR hX hu (by omega) c1 b
    · rw [if_pos q] at hu
      obtain ⟨e1, -⟩ := PLT_t hR.1 (z := z.toNat) (by omega) (j := 0) (by omega)
      rw [e1] at g
      exact CLO_ok hR hX hΓ hu VL_b c1 g
/-- both machines stand ahead of an expression: x is what is to be done -/
def EXS (R : Nat → Nat → Int32) (nO nV nC nA : Nat) (room : Nat → Bool) (en : Nat → Nat) (ln : Nat) (TX : Nat → Int → Int → Prop) (Γ0 : HS) (D : Nat → Nat → Prop) (dep bC x p top w wk pw : Nat) (σ : MS) (Γ : HS) : Prop := Γ 5 = Γ0 5 ∧ STA R nO nV nC nA room en ln TX σ Γ ∧ RRl nO room nV nC σ Γ ∧ RVw σ dep w (wk + 1) pw ∧ σ.2 112 wk = J (4 * x : Nat) ∧ CVw Γ dep bC top p pw ∧ AGL D p dep bC σ Γ ∧ pw ≤ 20000
theorem EXS_go {Γ0 : HS} {D : Nat → Nat → Prop} {dep bC x p top w wk pw x' p' top' w' wk' pw' b1 w1 wk1 t1 : Nat} {σ τ : MS} {Γ Δ : HS} (h : EXS R nO nV nC nA room en ln TX Γ0 D dep bC x p top w wk pw σ Γ) (hr : RFR σ τ b1 w1 wk1) (hc : CFR Γ Δ t1 dep) (hb1 : 14 * dep + 14 ≤ b1) (ht1 : bC + 14 ≤ t1) (hR : RRl nO room nV nC τ Δ) (hτ : RVw τ dep w' (wk' + 1) pw') (h112 : τ.2 112 wk' = J (4 * x' : Nat)) (hΔ : CVw Δ dep bC top' p' pw') (hD : ∀ u, D p' u → D p u) (hpw : pw' ≤ 20000) : EXS R nO nV nC nA room en ln TX Γ0 D dep bC x' p' top' w' wk' pw' τ Δ := by
  obtain ⟨a1, a2, a3, a4, a5, a6, a7, a8⟩ := h
  exact ⟨(hc.1 5 (by omega) (by omega) (by omega)).trans a1, STA_keep a2 hr.1 hc.1, hR, hτ, h112, hΔ, AGL_fr a7 hD hr hc hb1 ht1, hpw⟩
theorem op1_5 {Γ Γ0 : HS} (h : Γ 5 = Γ0 5) {p : Nat} {o : Int} (ho : op1 Γ0 p o) : op1 Γ p o := by unfold op1 at ho ⊢; rw [h]; exact ho
theorem op3_5 {Γ Γ0 : HS} (h : Γ 5 = Γ0 5) {p : Nat} {o v : Int} (ho : op3 Γ0 p o v) : op3 Γ p o v := by unfold op3 at ho ⊢; rw [h]; exact ho
theorem CVw_rfl {Γ : HS} {dep bC top p pw : Nat} (h : CVw Γ dep bC top p pw) : CVw Γ dep bC top p pw := h
/-- a node with one side -/
theorem EX_one {Γ0 : HS} {D : Nat → Nat → Prop} {rec : GF} {bt lw : Int32} {dep bC x y p r q top w wk pw b : Nat} {kd : Int} {σ : MS} {Γ : HS} (h : EXS R nO nV nC nA room en ln TX Γ0 D dep bC x p top w wk pw σ Γ) (hb : bt = J (b : Nat)) (hbw : b ≤ wk) (hx : x < 39990) (hy : y < 39990) (hwk : wk + 2 < 130000) (hw : w + 1 ≤ 9000) (hbc : bC + 14 ≤ top) (h17 : R 17 x = J kd) (hk : (kd = 43 ∧ R 20 x = J (y : Nat)) ∨ (((48 ≤ kd ∧ kd ≤ 53) ∨ kd = 58) ∧ R 19 x = J (y : Nat))) (hpr : p ≤ r) (hrq : r < q) (child : ∀ σ1, EXS R nO nV nC nA room en ln TX Γ0 D dep bC y p top w (wk + 1) pw σ1 Γ → EXR nO nV nC room rec bt lw dep bC top w (wk + 1) pw p r σ1 Γ) (close : ∀ (X : MS) (Δ : HS) (v : Int32) (pw1 : Nat), Δ 5 = Γ0 5 → STA R nO nV nC nA room en ln TX X Δ → RRl nO room nV nC X Δ → RVw X dep w wk pw1 → CVw Δ dep bC (top + 1) r pw1 → (Δ 10).2.1 6 top = v → VL v → CLO nO nV nC room dep bC top w wk pw1 q X Δ (F_X12_unary (J (x : Nat)) v X)) : EXR nO nV nC room rec bt lw dep bC top w wk pw p q σ Γ := by
  obtain ⟨a1, a2, a3, a4, a5, a6, a7, a8⟩ := h
  have h' : EXS R nO nV nC nA room en ln TX Γ0 D dep bC x p top w wk pw σ Γ := ⟨a1, a2, a3, a4, a5, a6, a7, a8⟩
  have hop := op_one (σ := wkP σ wk) (p1 := J (14 * dep : Nat)) (w := kd) hx hy (by show σ.2 64 x = _; rw [STA_17 a2]; exact h17) (by
    have e : ∀ k, 17 ≤ k → k ≤ 22 → NR (wkP σ wk) k x = R k x := fun k k1 k2 => STA_R a2 k1 k2
    rw [e 20 (by omega) (by omega), e 19 (by omega) (by omega)]
    rcases hk with hk | ⟨hk, hk2⟩
    · exact Or.inl hk
    · exact Or.inr ⟨by omega, hk2⟩) (wk := wk) rfl (by omega)
  have hrs : RSP rec bt lw (J (14 * dep : Nat)) 1 σ (tdS (tdS (wkP σ wk) wk (4 * x + 1)) (wk + 1) (4 * y)) := fun n => by
    rw [ev_open hb hbw (by omega) a4.2.2.2.1 a4.1 a5 hx, hop]; rfl
  have fr : RFR σ (tdS (tdS (wkP σ wk) wk (4 * x + 1)) (wk + 1) (4 * y)) (14 * dep + 14) w wk := RFR_trans RFR_wkP (RFR_trans (RFR_tdS (b := 14 * dep + 14) (w := w) (Nat.le_refl wk)) (RFR_tdS (b := 14 * dep + 14) (w := w) (wk := wk) (by omega)) (Nat.le_refl _) (Nat.le_refl _) (Nat.le_refl _)) (Nat.le_refl _) (Nat.le_refl _) (Nat.le_refl _)
  have hS1 := EXS_go (x' := y) (p' := p) (top' := top) (w' := w) (wk' := wk + 1) (pw' := pw) h' fr (CFR_rfl (t := top)) (Nat.le_refl _) hbc (RR_M a3 (rMk_trans wkP_fr (rMk_trans fr_tdS fr_tdS)) rfl rfl rfl rfl (fun h => h)) (RVw_fr a4 rfl rfl rfl rfl a4.2.2.2.2) (by show upd _ _ _ _ = _; rw [upd_s, if_pos rfl]) a6 (fun u hu => hu) a8
  have hx112 : (tdS (tdS (wkP σ wk) wk (4 * x + 1)) (wk + 1) (4 * y)).2 112 wk = J (4 * x + 1 : Nat) := by
    show upd _ _ _ _ = _
    rw [upd_s, if_neg (by omega)]
    show upd _ _ _ _ = _
    rw [upd_s, if_pos rfl]
  rcases child _ hS1 with ⟨v, τ1, Δ1, kc, kr, pw1, g1, g2, g3, g4, g5, g6, g7, g8, g9, g10, g11, g12, g13, g14⟩ | g
  · have fr1 : RFR σ τ1 (14 * dep + 14) w wk := RFR_trans fr g9 (Nat.le_refl _) (Nat.le_refl _) (by omega)
    have S1 : STA R nO nV nC nA room en ln TX τ1 Δ1 := STA_keep a2 fr1.1 g10.1
    refine EX_cl1 (kc := kc) (kr := 1 + kr) (r := r) hb hbw (by omega) hx hw (by rw [STA_17 S1]; exact h17) (by omega) g2 (by rw [g9.2.2.2 wk (by omega)]; exact hx112) (RSP_trans hrs g13) g11 fr1 g10 g8 g4 g12 (by omega) hrq hpr ?_
    rw [g7]
    have fX : rMk τ1 (wtP (wkP τ1 wk) w) := rMk_trans wkP_fr wtP_fr
    exact close _ _ v pw1 ((g10.1 5 (by omega) (by omega) (by omega)).trans a1) (STA_keep S1 (rWk_M fX) cWk_rfl) (RR_M g1 fX rfl rfl rfl rfl (fun h => h)) (RVw_fr g2 rfl rfl rfl rfl rfl) g3 g6 g5
  · exact Or.inr (EXF_pre g hrs CSP_0 fr.1 cWk_rfl (by omega) (by omega))
/-- a node with two sides -/
theorem EX_two {Γ0 : HS} {D : Nat → Nat → Prop} {rec : GF} {bt lw : Int32} {dep bC x y z p m r q top w wk pw b : Nat} {kd d o : Int} {σ : MS} {Γ : HS} (h : EXS R nO nV nC nA room en ln TX Γ0 D dep bC x p top w wk pw σ Γ) (hb : bt = J (b : Nat)) (hbw : b ≤ wk) (hx : x < 39990) (hy : y < 39990) (hz : z < 39990) (hwk : wk + 3 < 130000) (hw : w + 2 ≤ 9000) (hbc : bC + 14 ≤ top) (ht : top < 8990) (h17 : R 17 x = J kd) (hbT : bTq kd d o) (h19 : R 19 x = J (y : Nat)) (h20 : R 20 x = J (z : Nat)) (h21 : R 21 x = J d) (ho : op1 Γ0 r o) (hrl : r < ln) (hpm : p ≤ m) (hmr : m ≤ r) (hq : q = r + 1) (hD : ∀ u, D m u → D p u) (left : ∀ σ1, EXS R nO nV nC nA room en ln TX Γ0 D dep bC y p top w (wk + 2) pw σ1 Γ → EXR nO nV nC room rec bt lw dep bC top w (wk + 2) pw p m σ1 Γ) (right : ∀ σ1 Γ1 pw1, EXS R nO nV nC nA room en ln TX Γ0 D dep bC z m (top + 1) (w + 1) (wk + 1) pw1 σ1 Γ1 → EXR nO nV nC room rec bt lw dep bC (top + 1) (w + 1) (wk + 1) pw1 m r σ1 Γ1) : EXR nO nV nC room rec bt lw dep bC top w wk pw p q σ Γ := by
  obtain ⟨a1, a2, a3, a4, a5, a6, a7, a8⟩ := h
  have h' : EXS R nO nV nC nA room en ln TX Γ0 D dep bC x p top w wk pw σ Γ := ⟨a1, a2, a3, a4, a5, a6, a7, a8⟩
  have hk : kd = 56 ∨ kd = 57 := by unfold bTq at hbT; omega
  have hop := op_two (σ := wkP σ wk) (p1 := J (14 * dep : Nat)) (w := kd) hx hy hz (by show σ.2 64 x = _; rw [STA_17 a2]; exact h17) hk (by
    show NR σ 19 x = _
    rw [STA_R a2 (by omega) (by omega)]; exact h19) (by
    show NR σ 20 x = _
    rw [STA_R a2 (by omega) (by omega)]; exact h20) (wk := wk) rfl (by omega)
  have hrs : RSP rec bt lw (J (14 * dep : Nat)) 1 σ (tdS (tdS (tdS (wkP σ wk) wk (4 * x + 1)) (wk + 1) (4 * z)) (wk + 2) (4 * y)) := fun n => by
    rw [ev_open hb hbw (by omega) a4.2.2.2.1 a4.1 a5 hx, hop]; rfl
  have fr : RFR σ (tdS (tdS (tdS (wkP σ wk) wk (4 * x + 1)) (wk + 1) (4 * z)) (wk + 2) (4 * y)) (14 * dep + 14) w wk := RFR_trans RFR_wkP (RFR_trans (RFR_tdS (b := 14 * dep + 14) (w := w) (Nat.le_refl wk)) (RFR_trans (RFR_tdS (b := 14 * dep + 14) (w := w) (wk := wk) (by omega)) (RFR_tdS (b := 14 * dep + 14) (w := w) (wk := wk) (by omega)) (Nat.le_refl _) (Nat.le_refl _) (Nat.le_refl _)) (Nat.le_refl _) (Nat.le_refl _) (Nat.le_refl _)) (Nat.le_refl _) (Nat.le_refl _) (Nat.le_refl _)
  have hS1 := EXS_go (x' := y) (p' := p) (top' := top) (w' := w) (wk' := wk + 2) (pw' := pw) h' fr (CFR_rfl (t := top)) (Nat.le_refl _) hbc (RR_M a3 (rMk_trans wkP_fr (rMk_trans fr_tdS (rMk_trans fr_tdS fr_tdS))) rfl rfl rfl rfl (fun h => h)) (RVw_fr a4 rfl rfl rfl rfl a4.2.2.2.2) (by show upd _ _ _ _ = _; rw [upd_s, if_pos rfl]) a6 (fun u hu => hu) a8
  have e112 : (tdS (tdS (tdS (wkP σ wk) wk (4 * x + 1)) (wk + 1) (4 * z)) (wk + 2) (4 * y)).2 112 wk = J (4 * x + 1 : Nat) ∧ (tdS (tdS (tdS (wkP σ wk) wk (4 * x + 1)) (wk + 1) (4 * z)) (wk + 2) (4 * y)).2 112 (wk + 1) = J (4 * z : Nat) := by
    constructor
    · show upd _ _ _ _ = _
      rw [upd_s, if_neg (by omega)]
      show upd _ _ _ _ = _
      rw [upd_s, if_neg (by omega)]
      show upd _ _ _ _ = _
      rw [upd_s, if_pos rfl]
    · show upd _ _ _ _ = _
      rw [upd_s, if_neg (by omega)]
      show upd _ _ _ _ = _
      rw [upd_s, if_pos rfl]
  rcases left _ hS1 with ⟨v1, τ1, Δ1, kc1, kr1, pw1, g1, g2, g3, g4, g5, g6, g7, g8, g9, g10, g11, g12, g13, g14⟩ | g
  · have fr1 : RFR σ τ1 (14 * dep + 14) w wk := RFR_trans fr g9 (Nat.le_refl _) (Nat.le_refl _) (by omega)
    have hS2 := EXS_go (x' := z) (p' := m) (top' := top + 1) (w' := w + 1) (wk' := wk + 1) (pw' := pw1) h' fr1 g10 (Nat.le_refl _) hbc g1 g2 (by rw [g9.2.2.2 (wk + 1) (by omega)]; exact e112.2) g3 hD g4
    rcases right _ _ _ hS2 with ⟨v2, τ2, Δ2, kc2, kr2, pw2, f1, f2, f3, f4, f5, f6, f7, f8, f9, f10, f11, f12, f13, f14⟩ | g
    · have fr2 : RFR σ τ2 (14 * dep + 14) w wk := RFR_trans fr1 f9 (Nat.le_refl _) (by omega) (by omega)
      have fc2 : CFR Γ Δ2 top dep := CFR_trans g10 f10 (by omega) (Nat.le_refl _)
      have S2 : STA R nO nV nC nA room en ln TX τ2 Δ2 := STA_keep a2 fr2.1 fc2.1
      refine EX_cl2 (kc := kc1 + kc2) (kr := 1 + (kr1 + kr2)) (r := r) hb hbw (by omega) hx hw (by rw [STA_17 S2]; exact h17) hk f2 (by rw [f9.2.2.2 wk (by omega), g9.2.2.2 wk (by omega)]; exact e112.1) (RSP_trans hrs (RSP_trans g13 f13)) (CSP_trans g11 f11) fr2 fc2 (by omega) f4 (by omega) (by omega) (by omega) (by omega) ?_
      rw [f7, f9.2.2.1 w (by omega), g7, hq]
      have fX : rMk τ2 (wtP (wtP (wkP τ2 wk) (w + 1)) w) := rMk_trans wkP_fr (rMk_trans wtP_fr wtP_fr)
      exact cls_two (STA_keep S2 (rWk_M fX) cWk_rfl) (RR_M f1 fX rfl rfl rfl rfl (fun h => h)) (RVw_fr f2 rfl rfl rfl rfl rfl) f3 ht hx hrl (by rw [f10.2.1 top (by omega)]; exact g6) f6 g5 h21 hbT (op1_5 ((fc2.1 5 (by omega) (by omega) (by omega)).trans a1) ho)
    · exact Or.inr (EXF_pre g (RSP_trans hrs g13) g11 fr1.1 g10.1 (by omega) (by omega))
  · exact Or.inr (EXF_pre g hrs CSP_0 fr.1 cWk_rfl (by omega) (by omega))
