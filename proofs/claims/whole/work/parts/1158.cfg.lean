/-! where both machines stand -/
/-- code with what is known at each place -/
def I1 (Γ : HS) (D : Nat → Nat → Prop) (p : Nat) (o : Int) : Prop := op1 Γ p o ∧ (0 < o → ∀ u, D (p + 1) u → D p u)
def I3 (Γ : HS) (D : Nat → Nat → Prop) (nV nA : Nat) (p : Nat) (o v : Int) : Prop := op3 Γ p o v ∧ (o = 35 → D p v.toNat) ∧ (∀ u, D (p + 3) u → D p u ∨ (o = 38 ∧ u = v.toNat)) ∧ (41 ≤ o → o ≤ 44 → 0 ≤ v → ∀ u, D v.toNat u → D p u) ∧ (o = 34 ∨ o = 37 → v < nV) ∧ (o = 36 ∨ o = 39 → v < nA)
/-- of a story: what does not change while it is played -/
def STA (R : Nat → Nat → Int32) (nO nV nC nA : Nat) (room : Nat → Bool) (en : Nat → Nat) (ln : Nat) (TX : Nat → Int → Int → Prop) (σ : MS) (Γ : HS) : Prop := (∀ k, 17 ≤ k → k ≤ 22 → σ.2 (k + 47) = R k) ∧ (σ.1 78 = J (nO : Nat) ∧ (Γ 4).2.1 0 0 = J (nO : Nat) ∧ 1 ≤ nO ∧ nO ≤ 120) ∧ (∀ x, x ≤ 120 → σ.2 50 x = (if room x = true then 1 else 0) ∧ (Γ 4).2.1 1 x = if room x = true then 1 else 0) ∧ (REND σ en nA ∧ AEND Γ en nA ∧ en 0 = 0 ∧ (∀ k, k < nA → en k ≤ en (k + 1) ∧ en (k + 1) ≤ nC) ∧ nC ≤ 1000 ∧ nV ≤ 100) ∧ CAL σ Γ nO ∧ ((Γ 5).1 1 = J (ln : Nat) ∧ ln ≤ 39000) ∧ ∀ w r v, TX w r v → TXR σ Γ w r v
def cWk (Γ Δ : HS) : Prop := ∀ r, r ≠ 8 → r ≠ 9 → r ≠ 10 → Δ r = Γ r
theorem cWk_rfl {Γ : HS} : cWk Γ Γ := fun _ _ _ _ => rfl
theorem cWk_trans {Γ Δ Θ : HS} (h : cWk Γ Δ) (g : cWk Δ Θ) : cWk Γ Θ := fun r a b c => by rw [g r a b c, h r a b c]
theorem TXR_keep {σ τ : MS} {Γ Δ : HS} {w : Nat} {r v : Int} (h : TXR σ Γ w r v) (h1 : τ.2 45 = σ.2 45) (h2 : Δ 6 = Γ 6) : TXR τ Δ w r v := by
  obtain ⟨L, by_, a1, a2, a3, a4, a5, a6⟩ := h
  refine ⟨L, by_, a1, a2, a3, ?_, ?_, a6⟩
  · unfold STX1; rw [h1]; exact a4
  · unfold TXD UNT; rw [h2]; exact a5
theorem STA_keep {R : Nat → Nat → Int32} {nO nV nC nA ln : Nat} {room : Nat → Bool} {en : Nat → Nat} {TX : Nat → Int → Int → Prop} {σ τ : MS} {Γ Δ : HS} (h : STA R nO nV nC nA room en ln TX σ Γ) (hr : rWk σ τ) (hc : cWk Γ Δ) : STA R nO nV nC nA room en ln TX τ Δ := by
  obtain ⟨a1, a2, a3, a4, a5, a6, a7⟩ := h
  have r2 : ∀ k, k ≤ 86 → τ.2 k = σ.2 k := fun k hk => hr.2 k (by omega) (by omega) (by omega) (by omega) (by omega)
  have c4 : Δ 4 = Γ 4 := hc 4 (by omega) (by omega) (by omega)
  have c5 : Δ 5 = Γ 5 := hc 5 (by omega) (by omega) (by omega)
  have c6 : Δ 6 = Γ 6 := hc 6 (by omega) (by omega) (by omega)
  refine ⟨fun k k1 k2 => by rw [r2 _ (by omega)]; exact a1 k k1 k2, ?_, ?_, ?_, ?_, ?_, fun w r v h => TXR_keep (a7 w r v h) (r2 45 (by omega)) c6⟩
  · rw [hr.1 78 (by omega) (by omega) (by omega) (by omega) (by omega), c4]; exact a2
  · rw [r2 50 (by omega), c4]; exact a3
  · unfold REND AEND; rw [r2 77 (by omega), c4]; exact a4
  · intro x x1 x2
    obtain ⟨w, r, v, b1, b2, b3, b4⟩ := a5 x x1 x2
    exact ⟨w, r, v, TXR_keep b1 (r2 45 (by omega)) c6, by rw [r2 46 (by omega)]; exact b2, by rw [r2 47 (by omega)]; exact b3, by rw [c4]; exact b4⟩
  · rw [c5]; exact a6
/-- the class's machine at a place -/
def CVw (Γ : HS) (dep bC top p pw : Nat) : Prop := (Γ 10).1 14 = J 0 ∧ (Γ 10).1 12 = J (dep : Nat) ∧ (Γ 10).1 13 = J (pw : Nat) ∧ (Γ 10).1 7 = J (top : Nat) ∧ (Γ 10).1 8 = J (bC : Nat) ∧ (Γ 10).1 9 = J (p : Nat)
/-- the reference's rows -/
def RVw (σ : MS) (dep w wk pw : Nat) : Prop := σ.1 104 = J 0 ∧ σ.1 107 = J (dep : Nat) ∧ σ.1 106 = J (pw : Nat) ∧ σ.1 113 = J (wk : Nat) ∧ σ.1 115 = J (w : Nat)
theorem CVw_MK {Γ Δ : HS} {dep bC t p pw u t' q : Nat} (h : CVw Γ dep bC t p pw) (m : MKt u Γ Δ) (h7 : (Δ 10).1 7 = J (t' : Nat)) (h9 : (Δ 10).1 9 = J (q : Nat)) : CVw Δ dep bC t' q pw := by
  obtain ⟨a1, a2, a3, a4, a5, a6⟩ := h
  exact ⟨by rw [m.2.1 14 (by omega) (by omega)]; exact a1, by rw [m.2.1 12 (by omega) (by omega)]; exact a2, by rw [m.2.1 13 (by omega) (by omega)]; exact a3, h7, by rw [m.2.1 8 (by omega) (by omega)]; exact a5, h9⟩
theorem CVw_MC {Γ : HS} {dep bC t p pw ln : Nat} (h : CVw Γ dep bC t p pw) (hl : (Γ 5).1 1 = J (ln : Nat)) (hln : ln ≤ 39000) : MC0 ln Γ p t := ⟨h.1, h.2.2.2.2.2, h.2.2.2.1, hl, hln⟩
/-- frames -/
def RFR (σ τ : MS) (b w wk : Nat) : Prop := rWk σ τ ∧ (∀ j, j < b → τ.2 111 j = σ.2 111 j) ∧ (∀ j, j < w → τ.2 114 j = σ.2 114 j) ∧ ∀ j, j < wk → τ.2 112 j = σ.2 112 j
def CFR (Γ Δ : HS) (t dep : Nat) : Prop := cWk Γ Δ ∧ (∀ j, j < t → (Δ 10).2.1 6 j = (Γ 10).2.1 6 j) ∧ ∀ j, j < dep → (Δ 10).2.1 10 j = (Γ 10).2.1 10 j ∧ (Δ 10).2.1 11 j = (Γ 10).2.1 11 j
theorem RFR_rfl {σ : MS} {b w wk : Nat} : RFR σ σ b w wk := ⟨rWk_rfl, fun _ _ => rfl, fun _ _ => rfl, fun _ _ => rfl⟩
theorem RFR_trans {σ τ υ : MS} {b w wk b' w' wk' : Nat} (h : RFR σ τ b w wk) (g : RFR τ υ b' w' wk') (h1 : b ≤ b') (h2 : w ≤ w') (h3 : wk ≤ wk') : RFR σ υ b w wk := ⟨rWk_trans h.1 g.1, fun j hj => by rw [g.2.1 j (by omega), h.2.1 j hj], fun j hj => by rw [g.2.2.1 j (by omega), h.2.2.1 j hj], fun j hj => by rw [g.2.2.2 j (by omega), h.2.2.2 j hj]⟩
theorem RFR_le {σ τ : MS} {b w wk b' w' wk' : Nat} (h : RFR σ τ b' w' wk') (h1 : b ≤ b') (h2 : w ≤ w') (h3 : wk ≤ wk') : RFR σ τ b w wk := ⟨h.1, fun j hj => h.2.1 j (by omega), fun j hj => h.2.2.1 j (by omega), fun j hj => h.2.2.2 j (by omega)⟩
theorem CFR_rfl {Γ : HS} {t d : Nat} : CFR Γ Γ t d := ⟨cWk_rfl, fun _ _ => rfl, fun _ _ => ⟨rfl, rfl⟩⟩
theorem CFR_trans {Γ Δ Θ : HS} {t d t' d' : Nat} (h : CFR Γ Δ t d) (g : CFR Δ Θ t' d') (h1 : t ≤ t') (h2 : d ≤ d') : CFR Γ Θ t d := ⟨cWk_trans h.1 g.1, fun j hj => by rw [g.2.1 j (by omega), h.2.1 j hj], fun j hj => by
  obtain ⟨a, b⟩ := h.2.2 j hj
  obtain ⟨c, e⟩ := g.2.2 j (by omega)
  exact ⟨by rw [c, a], by rw [e, b]⟩⟩
theorem CFR_MK {Γ Δ : HS} {t u d : Nat} (m : MKt u Γ Δ) (h : t ≤ u) : CFR Γ Δ t d := ⟨fun r _ _ h10 => m.1 r h10, fun j hj => m.2.2.2 j (by omega), fun j _ => by rw [m.2.2.1 10 (by omega), m.2.2.1 11 (by omega)]; exact ⟨rfl, rfl⟩⟩
theorem CFR_le {Γ Δ : HS} {t d t' d' : Nat} (h : CFR Γ Δ t' d') (h1 : t ≤ t') (h2 : d ≤ d') : CFR Γ Δ t d := ⟨h.1, fun j hj => h.2.1 j (by omega), fun j hj => h.2.2 j (by omega)⟩
/-- the local numbers that are known agree -/
def AGL (D : Nat → Nat → Prop) (p dep bC : Nat) (σ : MS) (Γ : HS) : Prop := ∀ u, D p u → u < 14 → (Γ 10).2.1 6 (bC + u) = σ.2 111 (14 * dep + u) ∧ VL (σ.2 111 (14 * dep + u))
theorem AGL_fr {D : Nat → Nat → Prop} {p q dep bC t b w wk d : Nat} {σ τ : MS} {Γ Δ : HS} (h : AGL D p dep bC σ Γ) (hD : ∀ u, D q u → D p u) (hr : RFR σ τ b w wk) (hc : CFR Γ Δ t d) (hb : 14 * dep + 14 ≤ b) (ht : bC + 14 ≤ t) : AGL D q dep bC τ Δ := fun u hu hu2 => by
  rw [hc.2.1 (bC + u) (by omega), hr.2.1 (14 * dep + u) (by omega)]
  exact h u (hD u hu) hu2
/-- both have stopped: a break, an end -/
def FIN (nO nV nC : Nat) (room : Nat → Bool) (σ τ : MS) (Γ Δ : HS) : Prop := RRl nO room nV nC τ Δ ∧ rWk σ τ ∧ cWk Γ Δ ∧ ((τ.1 104 = J 3 ∧ (Δ 10).1 14 = J 4 ∧ ∃ n : Int, 1 ≤ n ∧ n ≤ 6 ∧ τ.1 105 = J n ∧ (Δ 10).1 5 = J n) ∨ (τ.1 104 = J 2 ∧ (Δ 10).1 14 = J 3))
theorem FIN_pre {nO nV nC : Nat} {room : Nat → Bool} {σ τ υ : MS} {Γ Δ Θ : HS} (hr : rWk σ τ) (hc : cWk Γ Δ) (h : FIN nO nV nC room τ υ Δ Θ) : FIN nO nV nC room σ υ Γ Θ := ⟨h.1, rWk_trans hr h.2.1, cWk_trans hc h.2.2.1, h.2.2.2⟩
theorem RR_BRK {nO nV nC : Nat} {room : Nat → Bool} {σ τ : MS} {Γ Δ : HS} {n : Int} (h : RRl nO room nV nC σ Γ) (hr : rMk σ τ) (hb : BRK Γ Δ n) : RRl nO room nV nC τ Δ := RR_M h hr (hb.1 8 (by omega)) (hb.1 9 (by omega)) hb.2.2.2.1 hb.2.2.2.2 (fun _ => Or.inl hb.2.2.1)
/-- a break in both -/
theorem FIN_brk {nO nV nC : Nat} {room : Nat → Bool} {σ τ : MS} {Γ Δ : HS} {n : Int} (h : RRl nO room nV nC σ Γ) (hr : rMk σ τ) (hb : BRK Γ Δ n) (hn : 1 ≤ n ∧ n ≤ 6) (h104 : τ.1 104 = J 3) (h105 : τ.1 105 = J n) : FIN nO nV nC room σ τ Γ Δ := ⟨RR_BRK h hr hb, rWk_M hr, fun r _ _ h10 => hb.1 r h10, Or.inl ⟨h104, hb.2.2.1, n, hn.1, hn.2, h105, hb.2.1⟩⟩
/-- what is known behind an expression was known ahead of it -/
theorem LSQ_D {R : Nat → Nat → Int32} {E : Nat → Nat → Nat → Nat → Nat → Prop} {D : Nat → Nat → Prop} {lo hi : Nat} {f : Int} {c p q : Nat} (h : LSQ R E lo hi f c p q) (hE : ∀ a b x r s, E a b x r s → ∀ u, D s u → D r u) : ∀ u, D q u → D p u := by
  obtain ⟨xs, ls, ps, c1, c2, c3, c4, c5, c6, c7⟩ := h
  have key : ∀ k, k ≤ c → ∀ u, D (ps k) u → D (ps 0) u := by
    intro k
    induction k with
    | zero => intro _ u h; exact h
    | succ k ih => intro hk u h; exact ih (by omega) u (hE _ _ _ _ _ (c5 k (by omega)).2.2.2 u h)
  rw [← c6, ← c7]
  exact key c (Nat.le_refl _)
theorem EXQ_D {Γ : HS} {D : Nat → Nat → Prop} {nV nA : Nat} {R : Nat → Nat → Int32} {DN : Nat → Nat → Nat → Prop} : ∀ (n L lo hi x p q : Nat), EXQ (I1 Γ D) (I3 Γ D nV nA) R DN n L lo hi x p q → ∀ u, D q u → D p u := by
  intro n
  induction n using Nat.strongRecOn with
  | _ n ih =>
    intro L lo hi x p q h u hu
    unfold EXQ at h
    obtain ⟨b0, b1, b2, b3, b4, h⟩ := h
    have i3 : ∀ {r : Nat} {o v : Int}, I3 Γ D nV nA r o v → o ≠ 38 → D (r + 3) u → D r u := fun hi ho hd => by
      rcases hi.2.2.1 u hd with e | e
      · exact e
      · exact absurd e.1 ho
    rcases h with ⟨v, a1, a2, a3, a4, a5, a6⟩ | ⟨b, k, o, a1, a2, a3, a4, a5, a6⟩ | ⟨n', hn, L1, f, c, q', k, z, a1, a2, a3, a4, a5, a6, a7, a8⟩ | ⟨n', hn, L1, y, q', k, a1, a2, a3, a4, a5, a6, a7, a8⟩ | ⟨w, o, a1, a2, a3, a4⟩ | ⟨a1, a2, a3⟩ | ⟨n', hn, L1, w, o, y, q', lo', hi', a1, a2, a3, a4, a5, a6, a7, a8, a9⟩ | ⟨n1, hn1, n2, hn2, L1, L2, w, o, y, z, r, q', m, a1, a2, a3, a4, a5, a6, a7, a8, a9, a10, a11, a12⟩ | ⟨n1, hn1, n2, hn2, L1, L2, w, d, o, y, z, r, q', m, a1, a2, a3, a4, a5, a6, a7, a8, a9, a10, a11, a12⟩ | ⟨n', hn, L1, y, q', a, a1, a2, a3, a4, a5, a6, a7, a8, a9⟩
    · rw [a1] at hu; exact i3 a6 (by omega) hu
    · rw [a1] at hu; exact i3 a6 (by unfold nmO at a5; omega) hu
    · rw [a1] at hu
      exact LSQ_D a8 (fun _ _ _ _ _ h => ih n' (by omega) _ _ _ _ _ _ h) u (i3 a6 (by omega) hu)
    · rw [a1] at hu
      exact ih n' (by omega) _ _ _ _ _ _ a8 u (i3 a6 (by omega) hu)
    · rw [a2] at hu; exact a4.2 (by unfold zTq at a1; omega) u hu
    · rw [a1] at hu; exact i3 a3 (by omega) hu
    · rw [a2] at hu
      exact ih n' (by omega) _ _ _ _ _ _ a9 u (a5.2 (by unfold uTq at a1; omega) u hu)
    · rw [a2] at hu
      have h1 := a7.2 (by omega) u hu
      exact ih n1 hn1 _ _ _ _ _ _ a11 u (i3 a6 (by unfold lTq at a1; omega) (ih n2 (by omega) _ _ _ _ _ _ a12 u h1))
    · rw [a2] at hu
      have h1 := a7.2 (by unfold bTq at a1; omega) u hu
      exact ih n1 hn1 _ _ _ _ _ _ a11 u (ih n2 (by omega) _ _ _ _ _ _ a12 u h1)
    · rw [a1] at hu
      exact ih n' (by omega) _ _ _ _ _ _ a9 u (i3 a7 (by omega) hu)
