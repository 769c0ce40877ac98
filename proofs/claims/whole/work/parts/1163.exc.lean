/-! a call inside an expression -/
variable {R : Nat → Nat → Int32} {nO nV nC nA ln : Nat} {room : Nat → Bool} {en : Nat → Nat} {TX : Nat → Int → Int → Prop} {DN : Nat → Nat → Nat → Prop}
theorem q_gR_0 (d : Nat) (a b c : Int32) (σ : MS) : gR (d + 1) 0 a b c σ = F_X12_eval (gR d) a b σ := rfl
theorem q_gR_1 (d : Nat) (a b c : Int32) (σ : MS) : gR (d + 1) 1 a b c σ = F_X12_calls (gR d) a b σ := rfl
theorem q_gR_2 (d : Nat) (a b c : Int32) (σ : MS) : gR (d + 1) 2 a b c σ = F_X12_goIn (gR d) a b c σ := rfl
theorem q_gR_3 (d : Nat) (a b c : Int32) (σ : MS) : gR (d + 1) 3 a b c σ = F_X12_statement_ (gR d) a b σ := rfl
theorem q_gR_4 (d : Nat) (a b c : Int32) (σ : MS) : gR (d + 1) 4 a b c σ = F_X12_call (gR d) a b c σ := by
  rw [gR, if_neg (by decide), if_neg (by decide), if_neg (by decide), if_neg (by decide), if_pos rfl]
theorem q_gR_5 (d : Nat) (a b c : Int32) (σ : MS) : gR (d + 1) 5 a b c σ = F_X12_tell (gR d) a b σ := by
  rw [gR, if_neg (by decide), if_neg (by decide), if_neg (by decide), if_neg (by decide), if_neg (by decide), if_pos rfl]
/-- what a call does in both -/
def CLR (nO nV nC : Nat) (room : Nat → Bool) (dep bC w wk tp c q' pw : Nat) (σ : MS) (Γ : HS) (res : MR) : Prop := ∃ (v : Int32) (τ : MS), res = some (v, τ) ∧ τ.1 113 = J (wk : Nat) ∧ τ.1 115 = J (w + c : Nat) ∧ ((∃ (Δ : HS) (kc pw' : Nat), RRl nO room nV nC τ Δ ∧ RVw τ dep (w + c) wk pw' ∧ CVw Δ dep bC (tp + 1) (q' + 3) pw' ∧ pw' ≤ 20000 ∧ VL v ∧ (Δ 10).2.1 6 tp = v ∧ pw < pw' ∧ RFR σ τ (14 * dep + 14) (w + c) wk ∧ CFR Γ Δ tp dep ∧ CSP kc Γ Δ ∧ kc ≤ 40000 * (pw' - pw)) ∨ (∃ (Δ : HS) (kc : Nat), FIN nO nV nC room σ τ Γ Δ ∧ CSP kc Γ Δ ∧ kc ≤ 40000 * (20001 - pw)))
def CLH (R : Nat → Nat → Int32) (nO nV nC nA : Nat) (room : Nat → Bool) (en : Nat → Nat) (ln : Nat) (TX : Nat → Int → Int → Prop) (DN : Nat → Nat → Nat → Prop) (Γ0 : HS) (dep d : Nat) : Prop := ∀ (k z c q' bC w wk tp pw : Nat) (σ : MS) (Γ : HS), DN k z c → op3 Γ0 q' 40 (k : Nat) → q' + 2 < ln → Γ 5 = Γ0 5 → STA R nO nV nC nA room en ln TX σ Γ → RRl nO room nV nC σ Γ → RVw σ dep (w + c) wk pw → CVw Γ dep bC (tp + c) q' pw → pw ≤ 20000 → (∀ i, i < c → (Γ 10).2.1 6 (tp + i) = σ.2 114 (w + i) ∧ VL (σ.2 114 (w + i))) → tp ≤ 288 * (dep + 1) → w + c ≤ 288 * (dep + 1) → wk ≤ 4096 * (dep + 1) → bC + 14 ≤ tp → CLR nO nV nC room dep bC w wk tp c q' pw σ Γ (gR d 2 (J (z : Nat)) (J (w : Nat)) (J (14 * dep : Nat)) σ)
theorem calls_end {τ : MS} {v : Int32} {w c : Nat} (h : τ.1 115 = J (w + c : Nat)) (hw : w < 9000) : (bnd (mI τ 115 ((τ.1 115) - J (c : Nat))) fun σ_15 => bnd (mI σ_15 115 ((σ_15.1 115) + 1)) fun σ_17 => if (σ_15.1 115) < 0 ∨ 9000 ≤ (σ_15.1 115).toNatClampNeg then none else bnd (mA σ_17 114 (upd (σ_17.2 114) (σ_15.1 115).toNatClampNeg v)) fun σ_21 => some ((0 : Int32), σ_21)) = some ((0 : Int32), wpS (wtP τ w) w v) := by
  rw [h, J_sub, show ((w + c : Nat) : Int) - (c : Nat) = (w : Nat) by omega, bndE, show (mI τ 115 (J (w : Nat))).1 115 = J (w : Nat) from rfl, bndE, if_neg (g9k hw), bndE, J_natN (by omega), J_suc]
  unfold wpS wtP
  rw [show (mI (mI τ 115 (J (w : Nat))) 115 (J (w + 1 : Nat))).2 114 = (mI τ 115 (J (w : Nat))).2 114 from rfl]
/-- the arguments one by one -/
def ARS (nO nV nC : Nat) (room : Nat → Bool) (rec : GF) (bt lw : Int32) (dep bC top w wk pw c k p pk : Nat) (σ : MS) (Γ : HS) (τ : MS) (Δ : HS) : Prop := ∃ (kc kr pw' : Nat), RRl nO room nV nC τ Δ ∧ RVw τ dep (w + k) (wk + 1 + (c - k)) pw' ∧ CVw Δ dep bC (top + k) pk pw' ∧ pw' ≤ 20000 ∧ pw ≤ pw' ∧ (∀ i, i < k → (Δ 10).2.1 6 (top + i) = τ.2 114 (w + i) ∧ VL (τ.2 114 (w + i))) ∧ RFR σ τ (14 * dep + 14) w (wk + 1 + (c - k)) ∧ CFR Γ Δ top dep ∧ CSP kc Γ Δ ∧ kc ≤ (pk - p) + 40000 * (pw' - pw) ∧ RSP rec bt lw (J (14 * dep : Nat)) kr σ τ ∧ kr ≤ 3 * (pk - p)
theorem EX_args {Γ0 : HS} {D : Nat → Nat → Prop} {rec : GF} {bt lw : Int32} {dep bC x top w wk pw c : Nat} {xs ps : Nat → Nat} {σ : MS} {Γ : HS} (h : EXS R nO nV nC nA room en ln TX Γ0 D dep bC x (ps 0) top w wk pw σ Γ) {σ1 : MS} (fr1 : rMk σ σ1) (fr1' : RFR σ σ1 (14 * dep + 14) w wk) (hv1 : RVw σ1 dep w (wk + 1 + c) pw) (h112 : ∀ i, i < c → σ1.2 112 (wk + 1 + i) = J (4 * xs (c - 1 - i) : Nat)) (hbc : bC + 14 ≤ top) (hps : ∀ k, k < c → ps k < ps (k + 1)) (hD : ∀ k, k < c → ∀ u, D (ps (k + 1)) u → D (ps k) u) (child : ∀ k, k < c → ∀ σ2 Γ2 pw2, EXS R nO nV nC nA room en ln TX Γ0 D dep bC (xs k) (ps k) (top + k) (w + k) (wk + (c - k)) pw2 σ2 Γ2 → EXR nO nV nC room rec bt lw dep bC (top + k) (w + k) (wk + (c - k)) pw2 (ps k) (ps (k + 1)) σ2 Γ2) : ∀ k, k ≤ c → (∃ τ Δ, ARS nO nV nC room rec bt lw dep bC top w wk pw c k (ps 0) (ps k) σ1 Γ τ Δ) ∨ EXF nO nV nC room rec bt lw (J (14 * dep : Nat)) σ1 Γ ((ps k - ps 0) + 40000 * (20001 - pw)) (3 * (ps k - ps 0)) := by
  obtain ⟨a1, a2, a3, a4, a5, a6, a7, a8⟩ := h
  have h' : EXS R nO nV nC nA room en ln TX Γ0 D dep bC x (ps 0) top w wk pw σ Γ := ⟨a1, a2, a3, a4, a5, a6, a7, a8⟩
  have mono : ∀ k, k ≤ c → ps 0 ≤ ps k := by
    intro k
    induction k with
    | zero => intro _; exact Nat.le_refl _
    | succ k ih => intro hk; have := ih (by omega); have := hps k (by omega); omega
  have dall : ∀ k, k ≤ c → ∀ u, D (ps k) u → D (ps 0) u := by
    intro k
    induction k with
    | zero => intro _ u hu; exact hu
    | succ k ih => intro hk u hu; exact ih (by omega) u (hD k (by omega) u hu)
  intro k
  induction k with
  | zero =>
    intro _
    exact Or.inl ⟨σ1, Γ, 0, 0, pw, RR_M a3 fr1 rfl rfl rfl rfl (fun h => h), hv1, a6, a8, Nat.le_refl _, fun i hi => by omega, RFR_rfl, CFR_rfl, CSP_0, by omega, fun n => rfl, by omega⟩
  | succ k ih =>
    intro hk
    have hk' := hps k (by omega)
    have m0 := mono k (by omega)
    rcases ih (by omega) with ⟨τ, Δ, kc, kr, pw', b1, b2, b3, b4, b5, b6, b7, b8, b9, b10, b11, b12⟩ | g
    · have fr : RFR σ τ (14 * dep + 14) w wk := RFR_trans fr1' b7 (Nat.le_refl _) (Nat.le_refl _) (by omega)
      have e112 : τ.2 112 (wk + (c - k)) = J (4 * xs k : Nat) := by
        rw [b7.2.2.2 _ (by omega)]
        have := h112 (c - k - 1) (by omega)
        rw [show wk + 1 + (c - k - 1) = wk + (c - k) by omega, show c - 1 - (c - k - 1) = k by omega] at this
        exact this
      have b2' : RVw τ dep (w + k) (wk + (c - k) + 1) pw' := by rw [show wk + (c - k) + 1 = wk + 1 + (c - k) by omega]; exact b2
      have hS := EXS_go (x' := xs k) (p' := ps k) (top' := top + k) (w' := w + k) (wk' := wk + (c - k)) (pw' := pw') h' fr b8 (Nat.le_refl _) hbc b1 b2' e112 b3 (dall k (by omega)) b4
      rcases child k (by omega) _ _ _ hS with ⟨v, τ2, Δ2, kc2, kr2, pw2, g1, g2, g3, g4, g5, g6, g7, g8, g9, g10, g11, g12, g13, g14⟩ | g
      · refine Or.inl ⟨τ2, Δ2, kc + kc2, kr + kr2, pw2, g1, ?_, g3, g4, by omega, fun i hi => ?_, RFR_trans (RFR_le b7 (Nat.le_refl _) (Nat.le_refl _) (by omega) : RFR σ1 τ (14 * dep + 14) w (wk + 1 + (c - (k + 1)))) g9 (Nat.le_refl _) (by omega) (by omega), CFR_trans b8 g10 (by omega) (Nat.le_refl _), CSP_trans b9 g11, by omega, RSP_trans b11 g13, by omega⟩
        · rw [show w + (k + 1) = w + k + 1 by omega, show wk + 1 + (c - (k + 1)) = wk + (c - k) by omega]; exact g2
        · by_cases e : i = k
          · rw [e, g6, g7]; exact ⟨rfl, g5⟩
          · obtain ⟨i1, i2⟩ := b6 i (by omega)
            rw [g10.2.1 _ (by omega), g9.2.2.1 _ (by omega)]; exact ⟨i1, i2⟩
      · exact Or.inr (EXF_pre g b11 b9 b7.1 b8.1 (by omega) (by omega))
    · obtain ⟨τ, Δ, kc, kr, f1, f2, f3, f4, f5⟩ := g
      exact Or.inr ⟨τ, Δ, kc, kr, f1, f2, by omega, f4, by omega⟩
theorem EX_call {Γ0 : HS} {D : Nat → Nat → Prop} {bt lw : Int32} {dep bC x q' q top w wk pw b c k z d : Nat} {f : Int} {xs ps : Nat → Nat} {σ : MS} {Γ : HS} (hCL : CLH R nO nV nC nA room en ln TX DN Γ0 dep d) (h : EXS R nO nV nC nA room en ln TX Γ0 D dep bC x (ps 0) top w wk pw σ Γ) (hb : bt = J (b : Nat)) (hbw : b ≤ wk) (hx : x < 39990) (hxs : ∀ i, i < c → xs i < 39990) (hwk : wk + c + 3 < 130000) (hc : c ≤ 5000) (hw : w + c ≤ 288 * (dep + 1)) (hw2 : w < 9000) (htp : top ≤ 288 * (dep + 1)) (hwk2 : wk ≤ 4096 * (dep + 1)) (hbc : bC + 14 ≤ top) (h17 : R 17 x = J 42) (h20 : R 20 x = J f) (h21 : R 21 x = J (z : Nat)) (hDN : DN k z c) (ho : op3 Γ0 q' 40 (k : Nat)) (hq : q = q' + 3) (hql : q ≤ ln) (hf : f = if c = 0 then -1 else (xs 0 : Int)) (h22 : ∀ i, i < c → R 22 (xs i) = J (if i + 1 < c then (xs (i + 1) : Int) else -1)) (hpc : ps c = q') (hps : ∀ k, k < c → ps k < ps (k + 1)) (hD : ∀ k, k < c → ∀ u, D (ps (k + 1)) u → D (ps k) u) (child : ∀ k, k < c → ∀ σ2 Γ2 pw2, EXS R nO nV nC nA room en ln TX Γ0 D dep bC (xs k) (ps k) (top + k) (w + k) (wk + (c - k)) pw2 σ2 Γ2 → EXR nO nV nC room (gR (d + 1)) bt lw dep bC (top + k) (w + k) (wk + (c - k)) pw2 (ps k) (ps (k + 1)) σ2 Γ2) : EXR nO nV nC room (gR (d + 1)) bt lw dep bC top w wk pw (ps 0) q σ Γ := by
  have h' := h
  obtain ⟨a1, a2, a3, a4, a5, a6, a7, a8⟩ := h'
  have mono : ∀ k, k ≤ c → ps 0 ≤ ps k := by
    intro k
    induction k with
    | zero => intro _; exact Nat.le_refl _
    | succ k ih => intro hk; have := ih (by omega); have := hps k (by omega); omega
  have m0 := mono c (Nat.le_refl _)
  have A : ∀ τ : MS, (∀ y, τ.2 69 y = R 22 y) → ARG τ c xs f := fun τ hτ => ⟨hf, fun i hi => ⟨by rw [hτ]; exact h22 i hi, hxs i hi⟩⟩
  obtain ⟨σ1, o1, o2, o3⟩ := op_call (σ := wkP σ wk) (wk := wk) (p1 := J (14 * dep : Nat)) hx (by show σ.2 64 x = _; rw [STA_17 a2]; exact h17) (by show NR σ 20 x = _; rw [STA_R a2 (by omega) (by omega)]; exact h20) (A _ (fun y => STA_R (x := y) a2 (by omega) (by omega))) rfl (by omega) hc
  have hrs : RSP (gR (d + 1)) bt lw (J (14 * dep : Nat)) 1 σ σ1 := fun n => by
    rw [ev_open hb hbw (by omega) a4.2.2.2.1 a4.1 a5 hx, o1]; rfl
  obtain ⟨w1, w2, w3, w4, w5, w6⟩ := o2
  have fm : rMk σ σ1 := rMk_trans wkP_fr w1
  have fr : RFR σ σ1 (14 * dep + 14) w wk := ⟨rWk_M fm, fun j _ => by rw [w3 111 (by omega)]; rfl, fun j _ => by rw [w3 114 (by omega)]; rfl, fun j hj => by rw [w5 j hj]; rfl⟩
  have hv1 : RVw σ1 dep w (wk + 1 + c) pw := RVw_fr a4 (by rw [w2 104 (by omega)]; rfl) (by rw [w2 107 (by omega)]; rfl) (by rw [w2 106 (by omega)]; rfl) w4 (by rw [w2 115 (by omega)]; exact a4.2.2.2.2)
  rcases EX_args (rec := gR (d + 1)) (bt := bt) (lw := lw) h fm fr hv1 w6 hbc hps hD child c (Nat.le_refl _) with ⟨τ, Δ, kc, kr, pw', b1, b2, b3, b4, b5, b6, b7, b8, b9, b10, b11, b12⟩ | g
  · rw [Nat.sub_self] at b2 b7
    rw [hpc] at b3 b10 b12
    have fr2 : RFR σ τ (14 * dep + 14) w wk := RFR_trans fr b7 (Nat.le_refl _) (Nat.le_refl _) (by omega)
    have S2 : STA R nO nV nC nA room en ln TX τ Δ := STA_keep a2 fr2.1 b8.1
    have ev : ∀ n, loopF (EvB (gR (d + 1)) bt lw (J (14 * dep : Nat))) (n + 1) τ = (gR (d + 1) 1 (J (x : Nat)) (J (14 * dep : Nat)) 0 (wkP τ wk)).bind fun u => loopF (EvB (gR (d + 1)) bt lw (J (14 * dep : Nat))) n u.2 := fun n => ev_call hb hbw (by omega) b2.2.2.2.1 b2.1 (by rw [b7.2.2.2 wk (by omega)]; exact o3) hx (by rw [STA_17 S2]; exact h17)
    have rc := r_calls (rec := gR d) (x := x) (bR := 14 * dep) (σ := wkP τ wk) (z := z) (w0 := w) (c := c) (xs := xs) (f := f) hx (by show NR τ 20 x = _; rw [STA_R S2 (by omega) (by omega)]; exact h20) (A _ (fun y => STA_R (x := y) S2 (by omega) (by omega))) hc (by show NR τ 21 x = _; rw [STA_R S2 (by omega) (by omega)]; exact h21) b2.2.2.2.2
    have fX : rMk τ (wkP τ wk) := wkP_fr
    have S3 : STA R nO nV nC nA room en ln TX (wkP τ wk) Δ := STA_keep S2 (rWk_M fX) cWk_rfl
    obtain ⟨v, υ, c1, c2, c3, c4⟩ := hCL k z c q' bC w wk top pw' (wkP τ wk) Δ hDN ho (by omega) ((b8.1 5 (by omega) (by omega) (by omega)).trans a1) S3 (RR_M b1 fX rfl rfl rfl rfl (fun h => h)) (RVw_fr b2 rfl rfl rfl rfl b2.2.2.2.2) b3 b4 b6 htp hw hwk2 hbc
    rw [c1, Option.bind_some] at rc
    dsimp only at rc
    rw [calls_end c3 hw2] at rc
    have rs : RSP (gR (d + 1)) bt lw (J (14 * dep : Nat)) (1 + kr + 1) σ (wpS (wtP υ w) w v) := RSP_trans (RSP_trans hrs b11) (fun n => by rw [ev n, q_gR_1, rc]; rfl)
    rcases c4 with ⟨Θ, kc2, pw2, d1, d2, d3, d4, d5, d6, d7, d8, d9, d10, d11⟩ | ⟨Θ, kc2, d1, d2, d3⟩
    · refine Or.inl ⟨v, wpS (wtP υ w) w v, Θ, kc + kc2, 1 + kr + 1, pw2, RR_M d1 (rMk_trans wtP_fr wpS_fr) rfl rfl rfl rfl (fun h => h), RVw_fr d2 rfl rfl rfl c2 rfl, by rw [hq]; exact d3, d4, d5, d6, by show upd _ _ _ _ = _; rw [upd_s, if_pos rfl], by omega, RFR_trans fr2 (RFR_trans (RFR_wkP (b := 14 * dep + 14) (w := w) (wk := wk)) (RFR_trans (RFR_le d8 (Nat.le_refl _) (by omega) (Nat.le_refl _) : RFR (wkP τ wk) υ (14 * dep + 14) w wk) (RFR_trans RFR_wtP RFR_wpS (Nat.le_refl _) (Nat.le_refl _) (Nat.le_refl _)) (Nat.le_refl _) (Nat.le_refl _) (Nat.le_refl _)) (Nat.le_refl _) (Nat.le_refl _) (Nat.le_refl _)) (Nat.le_refl _) (Nat.le_refl _) (Nat.le_refl _), CFR_trans b8 d9 (Nat.le_refl _) (Nat.le_refl _), CSP_trans b9 d10, by omega, rs, by omega⟩
    · refine Or.inr ⟨wpS (wtP υ w) w v, Θ, kc + kc2, 1 + kr + 1, ?_, CSP_trans b9 d2, by omega, rs, by omega⟩
      obtain ⟨f1, f2, f3, f4⟩ := d1
      exact ⟨RR_M f1 (rMk_trans wtP_fr wpS_fr) rfl rfl rfl rfl (fun h => h), rWk_trans fr2.1 (rWk_trans (rWk_M fX) (rWk_trans f2 (rWk_M (rMk_trans wtP_fr wpS_fr)))), cWk_trans b8.1 f3, f4⟩
  · rw [hpc] at g
    exact Or.inr (EXF_pre g hrs CSP_0 fr.1 cWk_rfl (by omega) (by omega))
