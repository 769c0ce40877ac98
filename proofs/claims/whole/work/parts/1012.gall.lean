/-! every item seen, whatever was before -/
variable {T N : Nat} {kd vl rv : Nat → Int} {pl : Nat → Nat}
def gStp (pl : Nat → Nat) (σs : MS) (i x : Nat) (τ : MS) : Prop := ∃ τ', (∀ k, loopF Ds1 (k + 1) (J (x : Nat), τ) = loopF Ds1 k (σs.2 22 x, τ')) ∧ rS τ τ' ∧ nGe (pl i) (flt τ) (flt τ') ∧ (flt τ' = flt τ ∨ (σs.2 17 x = J 6 ∧ nGe (pl (i + 2)) (flt τ) (flt τ')) ∨ (σs.2 17 x = J 7 ∨ σs.2 17 x = J 8))
theorem gSkip {σs τ : MS} {i x : Nat} {w : Int} (ha : agA σs τ) (hx : x < 39990) (h17 : σs.2 17 x = J w) (hw : 0 ≤ w ∧ w < 6) : gStp pl σs i x τ := by
  refine ⟨τ, fun k => ?_, rS_rfl, nGe_rfl, Or.inl rfl⟩
  rw [ds_skip hx (by rw [ha 17 (by omega) (by omega)]; exact h17) hw, ha 22 (by omega) (by omega)]
theorem gAll (hT : TKE T N kd vl rv pl) (hp : plm T pl) (hpb : ∀ i, i ≤ T + 1 → pl i ≤ 5000) {σs τ : MS} {Γs : HS} {x hi i j p q nd no ne : Nat} (hI : ITM kd vl rv pl σs Γs x hi i j p q nd no ne) (hx : x < hi) (hhi : hi ≤ 39000) (hj : j ≤ T) (ha : agA σs τ) : gStp pl σs i x τ := by
  rcases hI with ⟨k0, -, h⟩ | ⟨k0, -, h⟩ | ⟨-, h⟩ | ⟨-, h⟩ | ⟨-, h⟩ | h | h | h
  · exact gSkip ha (by omega) h.2.2.2.2.2.2.1 (by omega)
  · exact gSkip ha (by omega) h.2.2.2.2.2.2.1 (by omega)
  · exact gSkip ha (by omega) h.2.2.2.1 (by omega)
  · exact gSkip ha (by omega) h.2.2.2.2.2.1 (by omega)
  · exact gSkip ha (by omega) h.2.2.2.2.2.2.2.2.1 (by omega)
  · obtain ⟨k0, k1, k2, h17, h18, h19x, hNM, c, b, hb1, hcb, hR, -, -⟩ := h
    obtain ⟨h, y, m, r, ⟨e1, e2⟩, e3, hS, h21, h17m, h18m, h19, ho, h6⟩ := hR
    have hr := STX_rng hS
    have h20 : σs.2 20 x = J (if 0 < c then ((x + 2 + 0 : Nat) : Int) else -1) := by
      rcases hcb with ⟨z1, -, z3⟩ | ⟨z1, -, z3, -⟩
      · rw [if_neg (by omega)]; exact z3
      · rw [if_pos (by omega)]; exact z3
    have hNS : NMS kd rv pl σs (x + 2) c (i + 3) := by
      rcases hcb with ⟨z1, -⟩ | ⟨-, -, -, z4⟩
      · intro k hk; omega
      · exact z4
    have hbi : i + 3 + 2 * c ≤ b := by rcases hcb with ⟨z1, z2, -⟩ | ⟨z1, z2, -⟩ <;> omega
    obtain ⟨τ', g1, g2, g3⟩ := gDef hT hp hpb (i := i) (c := c) (b := b) hbi h20 hNS hS e2 (by omega) hj (by omega) (by omega) h17 h21 h19 ha
    exact ⟨τ', g1, g2, nGe_le g3 (by have := hp i (i + 3) (by omega) (by omega); omega), Or.inr (Or.inl ⟨h17, nGe_le g3 (by have := hp (i + 2) (i + 3) (by omega) (by omega); omega)⟩)⟩
  · obtain ⟨k0, k1, h17, h18, h19, hNM, c, c2, c20, hW, hR, -⟩ := h
    obtain ⟨h, y, m, r, ⟨e1, e2⟩, e3, hS, h21, h17m, h18m, h19m, ho, h6⟩ := hR
    have hr := STX_rng hS
    obtain ⟨τ', g1, g2, g3⟩ := gRule hT hp hpb (i := i) hS e2 (by omega) (by omega) (by omega) ha (by omega) (by omega) h17 (by omega) h21 h19m
    exact ⟨τ', g1, g2, g3, Or.inr (Or.inr (Or.inl h17))⟩
  · obtain ⟨k0, h17, h18, hR, -⟩ := h
    obtain ⟨h, y, m, r, ⟨e1, e2⟩, e3, hS, h21, h17m, h18m, h19m, ho, h6⟩ := hR
    have hr := STX_rng hS
    obtain ⟨τ', g1, g2, g3⟩ := gRule hT hp hpb (i := i) hS e2 (by omega) (by omega) (by omega) ha (by omega) (by omega) h17 (by omega) h21 h19m
    exact ⟨τ', g1, g2, g3, Or.inr (Or.inr (Or.inr h17))⟩
