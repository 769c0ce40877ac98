/-! blocks, if, while: every statement -/
variable {R : Nat → Nat → Int32} {nO nV nC nA ln : Nat} {room : Nat → Bool} {en : Nat → Nat} {TX : Nat → Int → Int → Prop} {DN : Nat → Nat → Nat → Prop}
def RunS (R : Nat → Nat → Int32) (nO nV nC nA : Nat) (room : Nat → Bool) (en : Nat → Nat) (ln : Nat) (TX : Nat → Int → Int → Prop) (Γ0 : HS) (D : Nat → Nat → Prop) (Dq : Prop) (dep bC b0 q0 w wk e x p q : Nat) : Prop := ∀ (pw : Nat) (σ : MS) (Γ : HS), SSS R nO nV nC nA room en ln TX Γ0 D Dq dep bC b0 q0 p w wk pw σ Γ → ∃ (v : Int32) (τ : MS), F_X12_statement_ (gR e) (J (x : Nat)) (J (14 * dep : Nat)) σ = some (v, τ) ∧ STO nO nV nC room D Dq dep bC w wk b0 q0 pw p q σ Γ τ
def RunK (R : Nat → Nat → Int32) (nO nV nC nA : Nat) (room : Nat → Bool) (en : Nat → Nat) (ln : Nat) (TX : Nat → Int → Int → Prop) (Γ0 : HS) (D : Nat → Nat → Prop) (Dq : Prop) (dep bC b0 q0 w wk e x p q : Nat) : Prop := R 17 x = J 34 ∧ ∀ (K : MS → MR) (m pw : Nat) (σ : MS) (Γ : HS), 4200 < m → SSS R nO nV nC nA room en ln TX Γ0 D Dq dep bC b0 q0 p w wk pw σ Γ → ∃ τ : MS, loopF (LsB (gR e) 3 (J (14 * dep : Nat)) K) m (R 19 x, σ) = K τ ∧ STO nO nV nC room D Dq dep bC w wk b0 q0 pw p q σ Γ τ
/-- stopped: what is not worked out any more does not matter -/
theorem STO_stop {D : Nat → Nat → Prop} {Dq : Prop} {dep bC b0 q0 p q q2 w wk pw x : Nat} {σ τ : MS} {Γ : HS} (h : STO nO nV nC room D Dq dep bC w wk b0 q0 pw p q σ Γ τ) (h104 : ¬ τ.1 104 = 0) (hq : q ≤ q2) : STO nO nV nC room D Dq dep bC w wk b0 q0 pw p q2 σ Γ (mI (mI (tdS τ wk (4 * x)) 113 (J (wk : Nat))) 115 (J (w : Nat))) ∧ STO nO nV nC room D Dq dep bC w wk b0 q0 pw p q2 σ Γ τ := by
  obtain ⟨Δ, kc, pw', ⟨b1, b2, b3, b4, b5, b6, b7, b8⟩, h⟩ := h
  have fr : rMk τ (mI (mI (tdS τ wk (4 * x)) 113 (J (wk : Nat))) 115 (J (w : Nat))) := rMk_trans fr_tdS (rMk_mI (rMk_mI rMk_rfl (by omega)) (by omega))
  have fR : RFR τ (mI (mI (tdS τ wk (4 * x)) 113 (J (wk : Nat))) 115 (J (w : Nat))) (14 * dep) w wk := by
    have f1 : RFR τ (tdS τ wk (4 * x)) (14 * dep) w wk := RFR_tdS (Nat.le_refl _)
    exact ⟨rWk_M fr, f1.2.1, f1.2.2.1, f1.2.2.2⟩
  rcases h with h | h
  · exact absurd h.1.1 h104
  · refine ⟨⟨Δ, kc, pw', ⟨b1, RR_M b2 fr rfl rfl rfl rfl (fun h => h), rWk_trans b3 (rWk_M fr), b4, rfl, rfl, b7, by omega⟩, Or.inr ?_⟩, ⟨Δ, kc, pw', ⟨b1, b2, b3, b4, b5, b6, b7, by omega⟩, Or.inr h⟩⟩
    rcases h with h | ⟨n1, n2, n3, n4, n5, n6, n7, n8, n9, n10, n11⟩ | h
    · exact Or.inl h
    · exact Or.inr (Or.inl ⟨n1, n2, n3, n4, n5, n6, RFR_trans n7 fR (Nat.le_refl _) (Nat.le_refl _) (Nat.le_refl _), n8, n9, n10, n11⟩)
    · exact Or.inr (Or.inr h)
theorem STO_dec {D : Nat → Nat → Prop} {Dq : Prop} {dep bC b0 q0 p q w wk pw : Nat} {σ τ : MS} {Γ : HS} (h : STO nO nV nC room D Dq dep bC w wk b0 q0 pw p q σ Γ τ) : (∃ (Δ : HS) (kc pw' : Nat), SBB nO nV nC room w wk pw p q σ Γ τ Δ kc pw' ∧ SN D dep bC w wk q pw' σ Γ τ Δ) ∨ ¬ τ.1 104 = 0 := by
  obtain ⟨Δ, kc, pw', hB, h⟩ := h
  rcases h with h | h
  · exact Or.inl ⟨Δ, kc, pw', hB, h⟩
  · refine Or.inr ?_
    rcases h with ⟨-, ⟨h, -⟩ | ⟨h, -⟩⟩ | ⟨-, -, -, h, -⟩ | ⟨-, -, h, -⟩ <;> rw [h] <;> decide
/-- a jump -/
theorem STO_jump {Γ0 : HS} {D : Nat → Nat → Prop} {Dq : Prop} {dep bC b0 q0 p q q2 w wk pw : Nat} {σ τ : MS} {Γ : HS} (hS : SSS R nO nV nC nA room en ln TX Γ0 D Dq dep bC b0 q0 p w wk pw σ Γ) (h : STO nO nV nC room D Dq dep bC w wk b0 q0 pw p q σ Γ τ) (ho : I3 Γ0 D nV nA q 41 (q2 : Nat)) (hq : p ≤ q) (hq2 : q + 3 ≤ q2) (hql : q2 ≤ ln) (hb : bC ≤ 8640) : STO nO nV nC room D Dq dep bC w wk b0 q0 pw p q2 σ Γ τ := by
  rcases STO_dec h with ⟨Δ, kc, pw', ⟨b1, b2, b3, b4, b5, b6, b7, b8⟩, n1, n2, n3, n4, n5, n6⟩ | h104
  · have S1 : STA R nO nV nC nA room en ln TX τ Δ := STA_keep hS.1.2.1 n5.1 n6.1
    have hln := S1.2.2.2.2.2.1.2
    obtain ⟨Δ2, m1, m2, m3, m4⟩ := m_jump (STA_MC S1 n2) (by omega) (by omega) (op3_5 ((n6.1 5 (by omega) (by omega) (by omega)).trans hS.1.1) ho.1)
    refine ⟨Δ2, kc + 1, pw', ⟨CSP_trans b1 m1, RR_M b2 rMk_rfl (m2.1 8 (by omega)) (m2.1 9 (by omega)) (m2.2.1 3 (by omega) (by omega)) (m2.2.1 4 (by omega) (by omega)) (NBK_e (m2.2.1 5 (by omega) (by omega)) (m2.2.1 14 (by omega) (by omega))), b3, fun r r8 r9 r10 => by rw [m2.1 r r10, b4 r r8 r9 r10], b5, b6, b7, by omega⟩, Or.inl ⟨n1, CVw_MK n2 m2 m3 m4, fun u hu hu2 => ?_, n4, n5, CFR_trans n6 (CFR_MK m2 (t := bC) (by omega)) (Nat.le_refl _) (Nat.le_refl _)⟩⟩
    have := n3 u (ho.2.2.2.1 (by omega) (by omega) (by omega) u (by rwa [show ((q2 : Nat) : Int).toNat = q2 by omega])) hu2
    rw [m2.2.2.2 (bC + u) (by omega)]
    exact this
  · exact (STO_stop (x := 0) h h104 (by omega)).2
