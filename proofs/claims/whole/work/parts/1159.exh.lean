/-! expressions run alike: what each node needs -/
/-- both go on, a number on top -/
def EXG (nO nV nC : Nat) (room : Nat → Bool) (rec : GF) (bt lw : Int32) (dep bC top w wk pw p q : Nat) (σ : MS) (Γ : HS) : Prop := ∃ (v : Int32) (τ : MS) (Δ : HS) (kc kr pw' : Nat), RRl nO room nV nC τ Δ ∧ RVw τ dep (w + 1) wk pw' ∧ CVw Δ dep bC (top + 1) q pw' ∧ pw' ≤ 20000 ∧ VL v ∧ (Δ 10).2.1 6 top = v ∧ τ.2 114 w = v ∧ pw ≤ pw' ∧ RFR σ τ (14 * dep + 14) w wk ∧ CFR Γ Δ top dep ∧ CSP kc Γ Δ ∧ kc ≤ (q - p) + 40000 * (pw' - pw) ∧ RSP rec bt lw (J (14 * dep : Nat)) kr σ τ ∧ kr ≤ 3 * (q - p)
/-- both have stopped -/
def EXF (nO nV nC : Nat) (room : Nat → Bool) (rec : GF) (bt lw p1 : Int32) (σ : MS) (Γ : HS) (kb rb : Nat) : Prop := ∃ (τ : MS) (Δ : HS) (kc kr : Nat), FIN nO nV nC room σ τ Γ Δ ∧ CSP kc Γ Δ ∧ kc ≤ kb ∧ RSP rec bt lw p1 kr σ τ ∧ kr ≤ rb
def EXR (nO nV nC : Nat) (room : Nat → Bool) (rec : GF) (bt lw : Int32) (dep bC top w wk pw p q : Nat) (σ : MS) (Γ : HS) : Prop := EXG nO nV nC room rec bt lw dep bC top w wk pw p q σ Γ ∨ EXF nO nV nC room rec bt lw (J (14 * dep : Nat)) σ Γ ((q - p) + 40000 * (20001 - pw)) (3 * (q - p))
theorem EXF_pre {nO nV nC : Nat} {room : Nat → Bool} {rec : GF} {bt lw p1 : Int32} {σ σ1 : MS} {Γ Γ1 : HS} {kb rb kb' rb' k0 c0 : Nat} (h : EXF nO nV nC room rec bt lw p1 σ1 Γ1 kb rb) (hr : RSP rec bt lw p1 k0 σ σ1) (hc : CSP c0 Γ Γ1) (fr : rWk σ σ1) (fc : cWk Γ Γ1) (h1 : c0 + kb ≤ kb') (h2 : k0 + rb ≤ rb') : EXF nO nV nC room rec bt lw p1 σ Γ kb' rb' := by
  obtain ⟨τ, Δ, kc, kr, a1, a2, a3, a4, a5⟩ := h
  exact ⟨τ, Δ, c0 + kc, k0 + kr, FIN_pre fr fc a1, CSP_trans hc a2, by omega, RSP_trans hr a4, by omega⟩
theorem RVw_fr {σ τ : MS} {dep w wk pw w' wk' : Nat} (h : RVw σ dep w wk pw) (h1 : τ.1 104 = σ.1 104) (h2 : τ.1 107 = σ.1 107) (h3 : τ.1 106 = σ.1 106) (h4 : τ.1 113 = J (wk' : Nat)) (h5 : τ.1 115 = J (w' : Nat)) : RVw τ dep w' wk' pw := ⟨h1.trans h.1, h2.trans h.2.1, h3.trans h.2.2.1, h4, h5⟩
theorem wpS_fr {σ : MS} {w : Nat} {v : Int32} : rMk σ (wpS σ w v) := rMk_mA (rMk_mI rMk_rfl (by omega)) (by omega)
theorem wkP_fr {σ : MS} {w : Nat} : rMk σ (wkP σ w) := rMk_mI rMk_rfl (by omega)
theorem wtP_fr {σ : MS} {w : Nat} : rMk σ (wtP σ w) := rMk_mI rMk_rfl (by omega)
theorem bkS_fr {σ : MS} {n : Int} : rMk σ (bkS σ n) := rMk_mI (rMk_mI rMk_rfl (by omega)) (by omega)
theorem RFR_wpS {σ : MS} {b w wk : Nat} {v : Int32} : RFR σ (wpS σ w v) b w wk := ⟨rWk_M wpS_fr, fun _ _ => rfl, fun j hj => by show upd _ _ _ _ = _; rw [upd_s, if_neg (by omega)], fun _ _ => rfl⟩
theorem RFR_wkP {σ : MS} {b w wk k : Nat} : RFR σ (wkP σ k) b w wk := ⟨rWk_M wkP_fr, fun _ _ => rfl, fun _ _ => rfl, fun _ _ => rfl⟩
theorem RFR_wtP {σ : MS} {b w wk k : Nat} : RFR σ (wtP σ k) b w wk := ⟨rWk_M wtP_fr, fun _ _ => rfl, fun _ _ => rfl, fun _ _ => rfl⟩
theorem RFR_tdS {σ : MS} {b w wk k v : Nat} (h : wk ≤ k) : RFR σ (tdS σ k v) b w wk := ⟨rWk_M fr_tdS, fun _ _ => rfl, fun _ _ => rfl, fun j hj => by show upd _ _ _ _ = _; rw [upd_s, if_neg (by omega)]⟩
theorem RFR_bkS {σ : MS} {b w wk : Nat} {n : Int} : RFR σ (bkS σ n) b w wk := ⟨rWk_M bkS_fr, fun _ _ => rfl, fun _ _ => rfl, fun _ _ => rfl⟩
/-- a leaf -/
theorem EX_leaf {nO nV nC : Nat} {room : Nat → Bool} {rec : GF} {bt lw : Int32} {dep bC top w wk pw p q b x : Nat} {kd : Int} {σ : MS} {Γ Δ : HS} {v : Int32} (hR : RRl nO room nV nC σ Γ) (hσ : RVw σ dep w (wk + 1) pw) (hΓ : CVw Γ dep bC top p pw) (hpw : pw ≤ 20000) (hb : bt = J (b : Nat)) (hbw : b ≤ wk) (hwk : wk < 130000) (h112 : σ.2 112 wk = J (4 * x : Nat)) (hx : x < 39990) (hw : w < 9000) (h17 : σ.2 64 x = J kd) (hk : kd = 40 ∨ kd = 41 ∨ (44 ≤ kd ∧ kd ≤ 47)) (h41 : kd = 41 → (NR σ 20 x = 9 ∧ ∃ k : Nat, NR σ 21 x = J (k : Nat) ∧ 14 * dep + k < 700) ∨ (NR σ 20 x = 4 ∧ ∃ k : Nat, NR σ 21 x = J (k : Nat) ∧ k < 100) ∨ (NR σ 20 x ≠ 9 ∧ NR σ 20 x ≠ 4)) (hv : lfF σ x (14 * dep) kd = v) (hvl : VL v) (hc : CSP 1 Γ Δ) (hres : RES Γ Δ top q v) (hpq : p < q) : EXR nO nV nC room rec bt lw dep bC top w wk pw p q σ Γ := by
  obtain ⟨m1, m2, m3, m4⟩ := hres
  have ho := op_leaf (σ := wkP σ wk) (bR := 14 * dep) hx h17 hk hσ.2.2.2.2 hw h41
  have e : lfF (wkP σ wk) x (14 * dep) kd = v := hv
  rw [e] at ho
  refine Or.inl ⟨v, wpS (wkP σ wk) w v, Δ, 1, 1, pw, RR_M hR (rMk_trans wkP_fr wpS_fr) (m1.1 8 (by omega)) (m1.1 9 (by omega)) (m1.2.1 3 (by omega) (by omega)) (m1.2.1 4 (by omega) (by omega)) (NBK_e (m1.2.1 5 (by omega) (by omega)) (m1.2.1 14 (by omega) (by omega))), RVw_fr hσ rfl rfl rfl rfl rfl, CVw_MK hΓ m1 m2 m3, hpw, hvl, m4, by show upd _ _ _ _ = _; rw [upd_s, if_pos rfl], Nat.le_refl _, RFR_trans RFR_wkP RFR_wpS (Nat.le_refl _) (Nat.le_refl _) (Nat.le_refl _), CFR_MK m1 (Nat.le_refl _), hc, by omega, fun n => ?_, by omega⟩
  rw [ev_open hb hbw hwk hσ.2.2.2.1 hσ.1 h112 hx, ho]; rfl
/-- how a node closes: X the reference, Γ the class, the sides known -/
def CLO (nO nV nC : Nat) (room : Nat → Bool) (dep bC top w wk pw q : Nat) (X : MS) (Γ : HS) (res : MR) : Prop := (∃ (v : Int32) (τ : MS) (Δ : HS), res = some (v, τ) ∧ RRl nO room nV nC τ Δ ∧ RVw τ dep w wk pw ∧ RFR X τ (14 * dep + 14) w wk ∧ CVw Δ dep bC (top + 1) q pw ∧ (Δ 10).2.1 6 top = v ∧ VL v ∧ CFR Γ Δ top dep ∧ CSP 1 Γ Δ) ∨ (∃ (v : Int32) (τ : MS) (Δ : HS), res = some (v, τ) ∧ FIN nO nV nC room X τ Γ Δ ∧ τ.1 115 = J (w : Nat) ∧ CSP 1 Γ Δ)
/-- the usual ways of closing -/
theorem CLO_ok {nO nV nC : Nat} {room : Nat → Bool} {dep bC top w wk pw q p t : Nat} {X : MS} {Γ Δ : HS} {res : MR} {v : Int32} (hR : RRl nO room nV nC X Γ) (hX : RVw X dep w wk pw) (hΓ : CVw Γ dep bC t p pw) (hres : res = some (v, X)) (hv : VL v) (hc : CSP 1 Γ Δ) (hr : RES Γ Δ top q v) : CLO nO nV nC room dep bC top w wk pw q X Γ res := by
  obtain ⟨m1, m2, m3, m4⟩ := hr
  exact Or.inl ⟨v, X, Δ, hres, RR_M hR rMk_rfl (m1.1 8 (by omega)) (m1.1 9 (by omega)) (m1.2.1 3 (by omega) (by omega)) (m1.2.1 4 (by omega) (by omega)) (NBK_e (m1.2.1 5 (by omega) (by omega)) (m1.2.1 14 (by omega) (by omega))), hX, RFR_rfl, CVw_MK hΓ m1 m2 m3, m4, hv, CFR_MK m1 (Nat.le_refl _), hc⟩
theorem CLO_brk {nO nV nC : Nat} {room : Nat → Bool} {dep bC top w wk pw q : Nat} {X : MS} {Γ Δ : HS} {res : MR} {v : Int32} {n : Int} (hR : RRl nO room nV nC X Γ) (hX : RVw X dep w wk pw) (hres : res = some (v, bkS X n)) (hn : 1 ≤ n ∧ n ≤ 6) (hc : CSP 1 Γ Δ) (hb : BRK Γ Δ n) : CLO nO nV nC room dep bC top w wk pw q X Γ res := Or.inr ⟨v, bkS X n, Δ, hres, FIN_brk hR bkS_fr hb hn rfl rfl, hX.2.2.2.2, hc⟩
/-- one side is known: the node closes -/
theorem EX_cl1 {nO nV nC : Nat} {room : Nat → Bool} {rec : GF} {bt lw : Int32} {dep bC top w wk pw p q b x r : Nat} {kd : Int} {σ τ1 : MS} {Γ Δ1 : HS} {kc kr pw1 : Nat} (hb : bt = J (b : Nat)) (hbw : b ≤ wk) (hwk : wk < 130000) (hx : x < 39990) (hw : w + 1 ≤ 9000) (h17 : τ1.2 64 x = J kd) (hk : 0 ≤ kd ∧ kd < 1000 ∧ ¬ (54 ≤ kd ∧ kd ≤ 57) ∧ kd ≠ 42) (hτ : RVw τ1 dep (w + 1) (wk + 1) pw1) (h112 : τ1.2 112 wk = J (4 * x + 1 : Nat)) (hrs : RSP rec bt lw (J (14 * dep : Nat)) kr σ τ1) (hcs : CSP kc Γ Δ1) (fr : RFR σ τ1 (14 * dep + 14) w wk) (fc : CFR Γ Δ1 top dep) (hpw : pw ≤ pw1) (hpw2 : pw1 ≤ 20000) (hkc : kc ≤ (r - p) + 40000 * (pw1 - pw)) (hkr : kr ≤ 1 + 3 * (r - p)) (hrq : r < q) (hpr : p ≤ r) (hcl : CLO nO nV nC room dep bC top w wk pw1 q (wtP (wkP τ1 wk) w) Δ1 (F_X12_unary (J (x : Nat)) (τ1.2 114 w) (wtP (wkP τ1 wk) w))) : EXR nO nV nC room rec bt lw dep bC top w wk pw p q σ Γ := by
  have h17' : (wkP τ1 wk).2 64 x = J kd := h17
  have ev : ∀ n, loopF (EvB rec bt lw (J (14 * dep : Nat))) (n + 1) τ1 = (F_X12_closes (J (x : Nat)) (J (1 : Nat)) (wkP τ1 wk)).bind fun u => loopF (EvB rec bt lw (J (14 * dep : Nat))) n u.2 := fun n => ev_close hb hbw hwk hτ.2.2.2.1 hτ.1 h112 (Or.inl rfl) hx h17 ⟨hk.1, hk.2.1, hk.2.2.2⟩
  rcases hcl with ⟨v, τ, Δ, c1, c2, c3, c4, c5, c6, c7, c8, c9⟩ | ⟨v, τ, Δ, c1, c2, c3, c4⟩
  · have cl := cl_un (σ := wkP τ1 wk) (p1 := J (1 : Nat)) hx h17' ⟨hk.1, hk.2.1, hk.2.2.1⟩ hτ.2.2.2.2 hw c1 c3.2.2.2.2
    refine Or.inl ⟨v, wpS τ w v, Δ, kc + 1, kr + 1, pw1, RR_M c2 wpS_fr rfl rfl rfl rfl (fun h => h), RVw_fr c3 rfl rfl rfl c3.2.2.2.1 rfl, c5, hpw2, c7, c6, by show upd _ _ _ _ = _; rw [upd_s, if_pos rfl], hpw, RFR_trans fr (RFR_trans RFR_wkP (RFR_trans RFR_wtP (RFR_trans c4 RFR_wpS (Nat.le_refl _) (Nat.le_refl _) (Nat.le_refl _)) (Nat.le_refl _) (Nat.le_refl _) (Nat.le_refl _)) (Nat.le_refl _) (Nat.le_refl _) (Nat.le_refl _)) (Nat.le_refl _) (Nat.le_refl _) (Nat.le_refl _), CFR_trans fc c8 (Nat.le_refl _) (Nat.le_refl _), CSP_trans hcs c9, by omega, RSP_trans hrs (fun n => by rw [ev n, cl]; rfl), by omega⟩
  · have cl := cl_un (σ := wkP τ1 wk) (p1 := J (1 : Nat)) hx h17' ⟨hk.1, hk.2.1, hk.2.2.1⟩ hτ.2.2.2.2 hw c1 c3
    refine Or.inr ⟨wpS τ w v, Δ, kc + 1, kr + 1, ?_, CSP_trans hcs c4, by omega, RSP_trans hrs (fun n => by rw [ev n, cl]; rfl), by omega⟩
    obtain ⟨f1, f2, f3, f4⟩ := c2
    exact ⟨RR_M f1 wpS_fr rfl rfl rfl rfl (fun h => h), rWk_trans fr.1 (rWk_trans (rWk_M (rMk_trans wkP_fr wtP_fr)) (rWk_trans f2 (rWk_M wpS_fr))), cWk_trans fc.1 f3, f4⟩
/-- both sides are known -/
theorem EX_cl2 {nO nV nC : Nat} {room : Nat → Bool} {rec : GF} {bt lw : Int32} {dep bC top w wk pw p q b x r : Nat} {kd : Int} {σ τ1 : MS} {Γ Δ1 : HS} {kc kr pw1 : Nat} (hb : bt = J (b : Nat)) (hbw : b ≤ wk) (hwk : wk < 130000) (hx : x < 39990) (hw : w + 2 ≤ 9000) (h17 : τ1.2 64 x = J kd) (hk : kd = 56 ∨ kd = 57) (hτ : RVw τ1 dep (w + 2) (wk + 1) pw1) (h112 : τ1.2 112 wk = J (4 * x + 1 : Nat)) (hrs : RSP rec bt lw (J (14 * dep : Nat)) kr σ τ1) (hcs : CSP kc Γ Δ1) (fr : RFR σ τ1 (14 * dep + 14) w wk) (fc : CFR Γ Δ1 top dep) (hpw : pw ≤ pw1) (hpw2 : pw1 ≤ 20000) (hkc : kc ≤ (r - p) + 40000 * (pw1 - pw)) (hkr : kr ≤ 1 + 3 * (r - p)) (hrq : r < q) (hpr : p ≤ r) (hcl : CLO nO nV nC room dep bC top w wk pw1 q (wtP (wtP (wkP τ1 wk) (w + 1)) w) Δ1 (if kd = 56 then F_X12_binary (J (x : Nat)) (τ1.2 114 w) (τ1.2 114 (w + 1)) (wtP (wtP (wkP τ1 wk) (w + 1)) w) else F_X12_isIn (τ1.2 114 w) (τ1.2 114 (w + 1)) (wtP (wtP (wkP τ1 wk) (w + 1)) w))) : EXR nO nV nC room rec bt lw dep bC top w wk pw p q σ Γ := by
  have h17' : (wkP τ1 wk).2 64 x = J kd := h17
  have ev : ∀ n, loopF (EvB rec bt lw (J (14 * dep : Nat))) (n + 1) τ1 = (F_X12_closes (J (x : Nat)) (J (1 : Nat)) (wkP τ1 wk)).bind fun u => loopF (EvB rec bt lw (J (14 * dep : Nat))) n u.2 := fun n => ev_close hb hbw hwk hτ.2.2.2.1 hτ.1 h112 (Or.inl rfl) hx h17 (by omega)
  have cl : ∀ (v : Int32) (τ : MS), (if kd = 56 then F_X12_binary (J (x : Nat)) (τ1.2 114 w) (τ1.2 114 (w + 1)) (wtP (wtP (wkP τ1 wk) (w + 1)) w) else F_X12_isIn (τ1.2 114 w) (τ1.2 114 (w + 1)) (wtP (wtP (wkP τ1 wk) (w + 1)) w)) = some (v, τ) → τ.1 115 = J (w : Nat) → F_X12_closes (J (x : Nat)) (J (1 : Nat)) (wkP τ1 wk) = some ((0 : Int32), wpS τ w v) := fun v τ h1 h2 => by
    rcases hk with rfl | rfl
    · rw [if_pos rfl] at h1
      exact cl_bin (σ := wkP τ1 wk) (w := 0) hx h17' hτ.2.2.2.2 hw h1 h2
    · rw [if_neg (by decide)] at h1
      exact cl_in (σ := wkP τ1 wk) hx h17' hτ.2.2.2.2 hw h1 h2
  rcases hcl with ⟨v, τ, Δ, c1, c2, c3, c4, c5, c6, c7, c8, c9⟩ | ⟨v, τ, Δ, c1, c2, c3, c4⟩
  · have cl := cl v τ c1 c3.2.2.2.2
    refine Or.inl ⟨v, wpS τ w v, Δ, kc + 1, kr + 1, pw1, RR_M c2 wpS_fr rfl rfl rfl rfl (fun h => h), RVw_fr c3 rfl rfl rfl c3.2.2.2.1 rfl, c5, hpw2, c7, c6, by show upd _ _ _ _ = _; rw [upd_s, if_pos rfl], hpw, RFR_trans fr (RFR_trans RFR_wkP (RFR_trans RFR_wtP (RFR_trans RFR_wtP (RFR_trans c4 RFR_wpS (Nat.le_refl _) (Nat.le_refl _) (Nat.le_refl _)) (Nat.le_refl _) (Nat.le_refl _) (Nat.le_refl _)) (Nat.le_refl _) (Nat.le_refl _) (Nat.le_refl _)) (Nat.le_refl _) (Nat.le_refl _) (Nat.le_refl _)) (Nat.le_refl _) (Nat.le_refl _) (Nat.le_refl _), CFR_trans fc c8 (Nat.le_refl _) (Nat.le_refl _), CSP_trans hcs c9, by omega, RSP_trans hrs (fun n => by rw [ev n, cl]; rfl), by omega⟩
  · have cl := cl v τ c1 c3
    refine Or.inr ⟨wpS τ w v, Δ, kc + 1, kr + 1, ?_, CSP_trans hcs c4, by omega, RSP_trans hrs (fun n => by rw [ev n, cl]; rfl), by omega⟩
    obtain ⟨f1, f2, f3, f4⟩ := c2
    exact ⟨RR_M f1 wpS_fr rfl rfl rfl rfl (fun h => h), rWk_trans fr.1 (rWk_trans (rWk_M (rMk_trans wkP_fr (rMk_trans wtP_fr wtP_fr))) (rWk_trans f2 (rWk_M wpS_fr))), cWk_trans fc.1 f3, f4⟩
