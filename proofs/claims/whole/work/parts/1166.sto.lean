/-! what a statement does in both; rows of statements -/
variable {R : Nat → Nat → Int32} {nO nV nC nA ln : Nat} {room : Nat → Bool} {en : Nat → Nat} {TX : Nat → Int → Int → Prop} {DN : Nat → Nat → Nat → Prop}
def SN (D : Nat → Nat → Prop) (dep bC w wk q pw' : Nat) (σ : MS) (Γ : HS) (τ : MS) (Δ : HS) : Prop := RVw τ dep w wk pw' ∧ CVw Δ dep bC (bC + 14) q pw' ∧ AGL D q dep bC τ Δ ∧ pw' ≤ 20000 ∧ RFR σ τ (14 * dep) w wk ∧ CFR Γ Δ bC dep
def SF (pw' : Nat) (τ : MS) (Δ : HS) : Prop := pw' = 20001 ∧ ((τ.1 104 = J 3 ∧ (Δ 10).1 14 = J 4 ∧ ∃ n : Int, 1 ≤ n ∧ n ≤ 6 ∧ τ.1 105 = J n ∧ (Δ 10).1 5 = J n) ∨ (τ.1 104 = J 2 ∧ (Δ 10).1 14 = J 3))
def SR (Dq : Prop) (dep bC w wk b0 q0 pw' : Nat) (σ : MS) (Γ : HS) (τ : MS) (Δ : HS) : Prop := Dq ∧ 1 ≤ dep ∧ pw' ≤ 20000 ∧ τ.1 104 = J 4 ∧ τ.1 107 = J (dep : Nat) ∧ τ.1 106 = J (pw' : Nat) ∧ RFR σ τ (14 * dep) w wk ∧ CFR Γ Δ bC (dep - 1) ∧ VL (τ.1 110) ∧ CVw Δ (dep - 1) b0 (bC + 1) q0 pw' ∧ (Δ 10).2.1 6 bC = τ.1 110
def SD (Dq : Prop) (dep pw' : Nat) (τ : MS) (Δ : HS) : Prop := ¬ Dq ∧ pw' ≤ 20000 ∧ τ.1 104 = J 1 ∧ τ.1 107 = J (dep : Nat) ∧ τ.1 106 = J (pw' : Nat) ∧ (Δ 10).1 14 = J 2 ∧ (Δ 10).1 13 = J (pw' : Nat)
def SBB (nO nV nC : Nat) (room : Nat → Bool) (w wk pw p q : Nat) (σ : MS) (Γ : HS) (τ : MS) (Δ : HS) (kc pw' : Nat) : Prop := CSP kc Γ Δ ∧ RRl nO room nV nC τ Δ ∧ rWk σ τ ∧ cWk Γ Δ ∧ τ.1 113 = J (wk : Nat) ∧ τ.1 115 = J (w : Nat) ∧ pw ≤ pw' ∧ kc ≤ (q - p) + 40000 * (pw' - pw)
def STO (nO nV nC : Nat) (room : Nat → Bool) (D : Nat → Nat → Prop) (Dq : Prop) (dep bC w wk b0 q0 pw p q : Nat) (σ : MS) (Γ : HS) (τ : MS) : Prop := ∃ (Δ : HS) (kc pw' : Nat), SBB nO nV nC room w wk pw p q σ Γ τ Δ kc pw' ∧ (SN D dep bC w wk q pw' σ Γ τ Δ ∨ SF pw' τ Δ ∨ SR Dq dep bC w wk b0 q0 pw' σ Γ τ Δ ∨ SD Dq dep pw' τ Δ)
def RTF (Dq : Prop) (dep b0 q0 : Nat) (Γ : HS) : Prop := Dq → 1 ≤ dep ∧ (Γ 10).2.1 10 (dep - 1) = J (q0 : Nat) ∧ (Γ 10).2.1 11 (dep - 1) = J (b0 : Nat)
def SSS (R : Nat → Nat → Int32) (nO nV nC nA : Nat) (room : Nat → Bool) (en : Nat → Nat) (ln : Nat) (TX : Nat → Int → Int → Prop) (Γ0 : HS) (D : Nat → Nat → Prop) (Dq : Prop) (dep bC b0 q0 p w wk pw : Nat) (σ : MS) (Γ : HS) : Prop := SSE R nO nV nC nA room en ln TX Γ0 D dep bC p (bC + 14) w wk pw σ Γ ∧ RTF Dq dep b0 q0 Γ
theorem RTF_fr {Dq : Prop} {dep b0 q0 t : Nat} {Γ Δ : HS} (h : RTF Dq dep b0 q0 Γ) (g : CFR Γ Δ t dep) : RTF Dq dep b0 q0 Δ := fun q => by
  obtain ⟨a, b, c⟩ := h q
  obtain ⟨d, e⟩ := g.2.2 (dep - 1) (by omega)
  exact ⟨a, by rw [d]; exact b, by rw [e]; exact c⟩
theorem SSS_next {Γ0 : HS} {D : Nat → Nat → Prop} {Dq : Prop} {dep bC b0 q0 p w wk pw q pw' : Nat} {σ τ : MS} {Γ Δ : HS} (h : SSS R nO nV nC nA room en ln TX Γ0 D Dq dep bC b0 q0 p w wk pw σ Γ) (hR : RRl nO room nV nC τ Δ) (n : SN D dep bC w wk q pw' σ Γ τ Δ) : SSS R nO nV nC nA room en ln TX Γ0 D Dq dep bC b0 q0 q w wk pw' τ Δ := by
  obtain ⟨n1, n2, n3, n4, n5, n6⟩ := n
  exact ⟨⟨(n6.1 5 (by omega) (by omega) (by omega)).trans h.1.1, STA_keep h.1.2.1 n5.1 n6.1, hR, n1, n2, n3, n4⟩, RTF_fr h.2 n6⟩
theorem STO_rfl {Γ0 : HS} {D : Nat → Nat → Prop} {Dq : Prop} {dep bC b0 q0 p w wk pw : Nat} {σ : MS} {Γ : HS} (h : SSS R nO nV nC nA room en ln TX Γ0 D Dq dep bC b0 q0 p w wk pw σ Γ) : STO nO nV nC room D Dq dep bC w wk b0 q0 pw p p σ Γ σ := by
  obtain ⟨⟨a1, a2, a3, a4, a5, a6, a7⟩, a8⟩ := h
  exact ⟨Γ, 0, pw, ⟨CSP_0, a3, rWk_rfl, cWk_rfl, a4.2.2.2.1, a4.2.2.2.2, Nat.le_refl _, by omega⟩, Or.inl ⟨a4, a5, a6, a7, RFR_rfl, CFR_rfl⟩⟩
/-- something went ahead -/
theorem STO_pre {D : Nat → Nat → Prop} {Dq : Prop} {dep bC b0 q0 p q p1 w wk pw pw1 k0 k1 : Nat} {σ σ1 τ : MS} {Γ Γ1 : HS} (fr : RFR σ σ1 (14 * dep) w wk) (fc : CFR Γ Γ1 bC dep) (hc : CSP k0 Γ Γ1) (hp : pw ≤ pw1) (hk : k0 ≤ k1 + 40000 * (pw1 - pw)) (hq : k1 + (q - p1) ≤ q - p) (h : STO nO nV nC room D Dq dep bC w wk b0 q0 pw1 p1 q σ1 Γ1 τ) : STO nO nV nC room D Dq dep bC w wk b0 q0 pw p q σ Γ τ := by
  obtain ⟨Δ, kc, pw', ⟨b1, b2, b3, b4, b5, b6, b7, b8⟩, h⟩ := h
  refine ⟨Δ, k0 + kc, pw', ⟨CSP_trans hc b1, b2, rWk_trans fr.1 b3, cWk_trans fc.1 b4, b5, b6, by omega, by omega⟩, ?_⟩
  rcases h with ⟨n1, n2, n3, n4, n5, n6⟩ | h | ⟨n1, n2, n3, n4, n5, n6, n7, n8, n9, n10, n11⟩ | h
  · exact Or.inl ⟨n1, n2, n3, n4, RFR_trans fr n5 (Nat.le_refl _) (Nat.le_refl _) (Nat.le_refl _), CFR_trans fc n6 (Nat.le_refl _) (Nat.le_refl _)⟩
  · exact Or.inr (Or.inl h)
  · exact Or.inr (Or.inr (Or.inl ⟨n1, n2, n3, n4, n5, n6, RFR_trans fr n7 (Nat.le_refl _) (Nat.le_refl _) (Nat.le_refl _), CFR_trans (CFR_le fc (Nat.le_refl _) (by omega)) n8 (Nat.le_refl _) (Nat.le_refl _), n9, n10, n11⟩))
  · exact Or.inr (Or.inr (Or.inr h))
/-- stopped in both: a break or an end -/
theorem STO_fin {D : Nat → Nat → Prop} {Dq : Prop} {dep bC b0 q0 p q w wk pw kb : Nat} {σ τ : MS} {Γ : HS} (h : EVF nO nV nC room w wk σ Γ τ kb) (hp : pw ≤ 20000) (hk : kb ≤ (q - p) + 40000 * (20001 - pw)) : STO nO nV nC room D Dq dep bC w wk b0 q0 pw p q σ Γ τ := by
  obtain ⟨Δ, kc, ⟨f1, f2, f3, f4⟩, h2, h3, h4, h5⟩ := h
  exact ⟨Δ, kc, 20001, ⟨h4, f1, f2, f3, h2, h3, by omega, by omega⟩, Or.inr (Or.inl ⟨rfl, f4⟩)⟩
/-! a row of statements -/
def LsB (rec : GF) (t : Nat) (p1 : Int32) (K : MS → MR) : ((Int32 × MS) → MR) → Int32 × MS → MR := fun again s => if s.1 < 0 then K s.2 else if (s.2.1 104) = 0 then (rec t s.1 p1 0 s.2).bind fun u => if s.1 < 0 ∨ 40000 ≤ s.1.toNatClampNeg then none else bnd ((u.2.2 69 s.1.toNatClampNeg)) fun x => again (x, u.2) else K s.2
theorem LsB_s (rec : GF) (t : Nat) (p1 : Int32) (K : MS → MR) (n : Nat) (a : Int32) (X : MS) : loopF (LsB rec t p1 K) (n + 1) (a, X) = if a < 0 then K X else if (X.1 104) = 0 then (rec t a p1 0 X).bind fun u => if a < 0 ∨ 40000 ≤ a.toNatClampNeg then none else bnd ((u.2.2 69 a.toNatClampNeg)) fun x => loopF (LsB rec t p1 K) n (x, u.2) else K X := rfl
theorem L_go {Γ0 : HS} {D : Nat → Nat → Prop} {Dq : Prop} {dep bC b0 q0 w wk c t : Nat} {rec : GF} {p1 : Int32} {K : MS → MR} {xs ps : Nat → Nat} (hE : ∀ k, k < c → ∀ (σ : MS) (Γ : HS) (pw : Nat), SSS R nO nV nC nA room en ln TX Γ0 D Dq dep bC b0 q0 (ps k) w wk pw σ Γ → ∃ (v : Int32) (τ : MS), rec t (J (xs k : Nat)) p1 0 σ = some (v, τ) ∧ STO nO nV nC room D Dq dep bC w wk b0 q0 pw (ps k) (ps (k + 1)) σ Γ τ) (h22 : ∀ k, k < c → R 22 (xs k) = J (if k + 1 < c then (xs (k + 1) : Int) else -1)) (hx : ∀ k, k < c → xs k < 39990) (hps : ∀ k, k < c → ps k < ps (k + 1)) : ∀ (d k : Nat), k + d = c → ∀ (n : Nat) (σ : MS) (Γ : HS) (pw : Nat), d + 1 < n → SSS R nO nV nC nA room en ln TX Γ0 D Dq dep bC b0 q0 (ps k) w wk pw σ Γ → ∃ τ : MS, loopF (LsB rec t p1 K) n (J (if k < c then (xs k : Int) else -1), σ) = K τ ∧ STO nO nV nC room D Dq dep bC w wk b0 q0 pw (ps k) (ps c) σ Γ τ := by
  intro d
  induction d with
  | zero =>
    intro k hk n σ Γ pw hn hS
    obtain ⟨n, rfl⟩ : ∃ m, n = m + 1 := ⟨n - 1, by omega⟩
    rw [if_neg (by omega), LsB_s, if_pos (by decide), show k = c by omega]
    rw [show k = c by omega] at hS
    exact ⟨σ, rfl, STO_rfl hS⟩
  | succ d ih =>
    intro k hk n σ Γ pw hn hS
    obtain ⟨n, rfl⟩ : ∃ m, n = m + 1 := ⟨n - 1, by omega⟩
    have kc : k < c := by omega
    have mono : ∀ j, k + 1 ≤ j → j ≤ c → ps (k + 1) ≤ ps j := by
      intro j
      induction j with
      | zero => intro h _; omega
      | succ j ihj =>
        intro h1 h2
        by_cases e : j = k
        · rw [e]; exact Nat.le_refl _
        · have := ihj (by omega) (by omega); have := hps j (by omega); omega
    have mc := mono c (by omega) (Nat.le_refl _)
    have pk := hps k kc
    have xk := hx k kc
    obtain ⟨v, τ, e1, Δ, kc1, pw', hB, hO⟩ := hE k kc σ Γ pw hS
    have hB' := hB
    obtain ⟨b1, b2, b3, b4, b5, b6, b7, b8⟩ := hB'
    have S2 : STA R nO nV nC nA room en ln TX τ Δ := STA_keep hS.1.2.1 b3 b4
    have e69 : τ.2 69 (xs k) = J (if k + 1 < c then (xs (k + 1) : Int) else -1) := (STA_R (x := xs k) S2 (k := 22) (by omega) (by omega)).trans (h22 k kc)
    have st : loopF (LsB rec t p1 K) (n + 1) (J (if k < c then (xs k : Int) else -1), σ) = loopF (LsB rec t p1 K) n (J (if k + 1 < c then (xs (k + 1) : Int) else -1), τ) := by
      rw [if_pos kc, LsB_s, if_neg (J_nlt0 (by omega) (by omega)), if_pos (show σ.1 104 = 0 from hS.1.2.2.2.1.1), e1, Option.bind_some]
      dsimp only
      rw [if_neg (g_en (by omega)), J_natN (by omega), e69, bndE]
    by_cases hN : SN D dep bC w wk (ps (k + 1)) pw' σ Γ τ Δ
    · obtain ⟨υ, f1, f2⟩ := ih (k + 1) (by omega) n τ Δ pw' (by omega) (SSS_next hS b2 hN)
      exact ⟨υ, by rw [st, f1], STO_pre hN.2.2.2.2.1 hN.2.2.2.2.2 b1 b7 (k1 := ps (k + 1) - ps k) b8 (by omega) f2⟩
    · have hO2 := hO.resolve_left hN
      have h104 : ¬ τ.1 104 = 0 := by
        rcases hO2 with ⟨-, ⟨h, -⟩ | ⟨h, -⟩⟩ | ⟨-, -, -, h, -⟩ | ⟨-, -, h, -⟩ <;> rw [h] <;> decide
      obtain ⟨n, rfl⟩ : ∃ m, n = m + 1 := ⟨n - 1, by omega⟩
      refine ⟨τ, by rw [st, LsB_s, if_neg h104, ite_self], Δ, kc1, pw', ⟨b1, b2, b3, b4, b5, b6, b7, by omega⟩, Or.inr hO2⟩
