/-! an expression worked out by both, from a statement -/
variable {R : Nat → Nat → Int32} {nO nV nC nA ln : Nat} {room : Nat → Bool} {en : Nat → Nat} {TX : Nat → Int → Int → Prop} {DN : Nat → Nat → Nat → Prop}
/-- ahead of a statement, or of an expression inside it -/
def SSE (R : Nat → Nat → Int32) (nO nV nC nA : Nat) (room : Nat → Bool) (en : Nat → Nat) (ln : Nat) (TX : Nat → Int → Int → Prop) (Γ0 : HS) (D : Nat → Nat → Prop) (dep bC p top w wk pw : Nat) (σ : MS) (Γ : HS) : Prop := Γ 5 = Γ0 5 ∧ STA R nO nV nC nA room en ln TX σ Γ ∧ RRl nO room nV nC σ Γ ∧ RVw σ dep w wk pw ∧ CVw Γ dep bC top p pw ∧ AGL D p dep bC σ Γ ∧ pw ≤ 20000
/-- a number in both -/
def EVG (nO nV nC : Nat) (room : Nat → Bool) (dep bC top w wk pw p q : Nat) (σ : MS) (Γ : HS) (v : Int32) (τ : MS) (Δ : HS) (kc pw' : Nat) : Prop := RRl nO room nV nC τ Δ ∧ RVw τ dep w wk pw' ∧ CVw Δ dep bC (top + 1) q pw' ∧ pw' ≤ 20000 ∧ VL v ∧ (Δ 10).2.1 6 top = v ∧ pw ≤ pw' ∧ RFR σ τ (14 * dep + 14) w wk ∧ CFR Γ Δ top dep ∧ CSP kc Γ Δ ∧ kc ≤ (q - p) + 40000 * (pw' - pw)
/-- both have stopped -/
def EVF (nO nV nC : Nat) (room : Nat → Bool) (w wk : Nat) (σ : MS) (Γ : HS) (τ : MS) (kb : Nat) : Prop := ∃ (Δ : HS) (kc : Nat), FIN nO nV nC room σ τ Γ Δ ∧ τ.1 113 = J (wk : Nat) ∧ τ.1 115 = J (w : Nat) ∧ CSP kc Γ Δ ∧ kc ≤ kb
theorem FIN_104 {σ τ : MS} {Γ Δ : HS} (h : FIN nO nV nC room σ τ Γ Δ) : ¬ τ.1 104 = 0 := by
  rcases h.2.2.2 with ⟨h, -⟩ | ⟨h, -⟩ <;> rw [h] <;> decide
theorem E_val {Γ0 : HS} {D : Nat → Nat → Prop} {d dep bC : Nat} (hdep : dep ≤ 30) (hbC : bC ≤ 288 * dep) (hDN : ∀ k z c, DN k z c → c ≤ 6) (hCL : CLH R nO nV nC nA room en ln TX DN Γ0 dep d) {lo hi x p q top w wk pw : Nat} {σ : MS} {Γ : HS} (hE : EQx (I1 Γ0 D) (I3 Γ0 D nV nA) R DN lo hi x p q) (hhi : hi ≤ 39990) (hq : q ≤ ln) (hS : SSE R nO nV nC nA room en ln TX Γ0 D dep bC p top w wk pw σ Γ) (hbc : bC + 14 ≤ top) (htop : top ≤ bC + 21) (hw : w ≤ 288 * dep + 21) (hwk : wk ≤ 4096 * dep) : ∃ (v : Int32) (τ : MS), F_X12_eval (gR (d + 1)) (J (x : Nat)) (J (14 * dep : Nat)) σ = some (v, τ) ∧ ((∃ (Δ : HS) (kc pw' : Nat), EVG nO nV nC room dep bC top w wk pw p q σ Γ v τ Δ kc pw') ∨ (v = 0 ∧ EVF nO nV nC room w wk σ Γ τ ((q - p) + 40000 * (20001 - pw)))) := by
  obtain ⟨n, L, hn, hL, hE⟩ := hE
  obtain ⟨r1, r2, r3, r4, r5⟩ := EXQ_rng hE
  obtain ⟨a1, a2, a3, a4, a5, a6, a7⟩ := hS
  have fr : RFR σ (tdS σ wk (4 * x)) (14 * dep + 14) w wk := RFR_tdS (Nat.le_refl _)
  have hS : EXS R nO nV nC nA room en ln TX Γ0 D dep bC x p top w wk pw (tdS σ wk (4 * x)) Γ := ⟨a1, STA_keep a2 fr.1 cWk_rfl, RR_M a3 fr_tdS rfl rfl rfl rfl (fun h => h), RVw_fr a4 rfl rfl rfl rfl a4.2.2.2.2, by show upd _ _ _ _ = _; rw [upd_s, if_pos rfl], a5, AGL_fr a6 (fun u hu => hu) fr (CFR_rfl (t := top) (d := dep)) (Nat.le_refl _) hbc, a7⟩
  have hX := EXV hdep hbC hDN hCL n L lo hi x p q hE hhi hq hL (J (wk : Nat)) (J (w : Nat)) wk w wk top pw _ Γ hS rfl (Nat.le_refl _) hbc (by omega) (by omega) (by omega)
  have hln := a2.2.2.2.2.2.1.2
  have e1 : F_X12_eval (gR (d + 1)) (J (x : Nat)) (J (14 * dep : Nat)) σ = loopF (EvB (gR (d + 1)) (J (wk : Nat)) (J (w : Nat)) (J (14 * dep : Nat))) FU (tdS σ wk (4 * x)) := by
    rw [eval_eq, show (0 : Int32) = J ((0 : Nat) : Int) from rfl, r_toDo a4.2.2.2.1 (by omega) (by omega) (by omega), a4.2.2.2.1, a4.2.2.2.2]; rfl
  rcases hX with ⟨v, τ, Δ, kc, kr, pw', g1, g2, g3, g4, g5, g6, g7, g8, g9, g10, g11, g12, g13, g14⟩ | ⟨τ, Δ, kc, kr, g1, g2, g3, g4, g5⟩
  · obtain ⟨m, hm⟩ : ∃ m, FU = (m + 1) + kr := ⟨FU - kr - 1, by have := FU_gt (k := kr + 1) (by omega); omega⟩
    refine ⟨v, mI (mI τ 113 (J (wk : Nat))) 115 (J (w : Nat)), ?_, Or.inl ⟨Δ, kc, pw', RR_M g1 (rMk_mI (rMk_mI rMk_rfl (by omega)) (by omega)) rfl rfl rfl rfl (fun h => h), RVw_fr g2 rfl rfl rfl rfl rfl, g3, g4, g5, g6, g8, ?_, g10, g11, by omega⟩⟩
    · rw [e1, hm, g13, EvB_s, bndE, if_pos (by rw [g2.2.2.2.1]; exact Int32.le_refl _)]
      dsimp only
      rw [bndE, bndE, if_pos (show (mI (mI τ 113 (J (wk : Nat))) 115 (J (w : Nat))).1 104 = 0 from g2.1), bndE, if_neg (g9k (by omega)), J_natN (by omega)]
      rw [show (mI (mI τ 113 (J (wk : Nat))) 115 (J (w : Nat))).2 114 w = v from g7]
    · exact RFR_trans fr (RFR_trans g9 (⟨rWk_M (rMk_mI (rMk_mI rMk_rfl (by omega)) (by omega)), fun _ _ => rfl, fun _ _ => rfl, fun _ _ => rfl⟩ : RFR τ (mI (mI τ 113 (J (wk : Nat))) 115 (J (w : Nat))) (14 * dep + 14) w wk) (Nat.le_refl _) (Nat.le_refl _) (Nat.le_refl _)) (Nat.le_refl _) (Nat.le_refl _) (Nat.le_refl _)
  · obtain ⟨m, hm⟩ : ∃ m, FU = (m + 1) + kr := ⟨FU - kr - 1, by have := FU_gt (k := kr + 1) (by omega); omega⟩
    have h104 := FIN_104 g1
    have hf : rMk τ (mI (mI τ 113 (J (wk : Nat))) 115 (J (w : Nat))) := rMk_mI (rMk_mI rMk_rfl (by omega)) (by omega)
    refine ⟨0, mI (mI τ 113 (J (wk : Nat))) 115 (J (w : Nat)), ?_, Or.inr ⟨rfl, Δ, kc, ⟨RR_M g1.1 hf rfl rfl rfl rfl (fun h => h), rWk_trans fr.1 (rWk_trans g1.2.1 (rWk_M hf)), g1.2.2.1, g1.2.2.2⟩, rfl, rfl, g2, g3⟩⟩
    rw [e1, hm, g4, EvB_s, bndE]
    have j8 : (bnd (mI τ 113 (J (wk : Nat))) fun σ_11 => bnd (mI σ_11 115 (J (w : Nat))) fun σ_13 => if (σ_13.1 104) = 0 then (bnd (J (w : Nat)) fun (x_17 : Int32) => if x_17 < 0 ∨ 9000 ≤ x_17.toNatClampNeg then none else some ((σ_13.2 114 x_17.toNatClampNeg), σ_13)) else some ((0 : Int32), σ_13)) = some ((0 : Int32), mI (mI τ 113 (J (wk : Nat))) 115 (J (w : Nat))) := by
      rw [bndE, bndE, if_neg (show ¬ (mI (mI τ 113 (J (wk : Nat))) 115 (J (w : Nat))).1 104 = 0 from h104)]
    dsimp only
    rw [j8, if_neg h104, ite_self]
