/-! the third going through a routine, the class -/
variable {T N : Nat} {kd vl rv : Nat → Int} {pl : Nat → Nat}
/-- what a stretch of words gives the class: a fault at the first bad word, or none is bad -/
def CST (T N : Nat) (kd vl : Nat → Int) (pl : Nat → Nat) (G : Nat → HS) (Θ Γs : HS) (bad : Nat → Prop) (P : HS → HS → Prop) (i j : Nat) (Γ : HS) : Prop := (∃ w, i ≤ w ∧ w < j ∧ bad w ∧ (∀ v, i ≤ v → v < w → ¬ bad v) ∧ ∃ X, (∀ n, (j - i) + 2 ≤ n → loopF W3 n (J (i : Nat), Γ) = some (J 3, X)) ∧ (X 3).1 17 = J (pl w : Nat) ∧ ∀ r, r ≠ 1 → r ≠ 3 → r ≠ 4 → r ≠ 7 → X r = Γ r) ∨ ((∀ w, i ≤ w → w < j → ¬ bad w) ∧ ∃ Δ, (∀ n, loopF W3 (n + (j - i)) (J (i : Nat), Γ) = loopF W3 n (J (j : Nat), Δ)) ∧ CT3 T N kd vl pl G Θ Γs j Δ ∧ P Γ Δ)
theorem CST_pre {G : Nat → HS} {Θ Γs Γ Δ : HS} {bad : Nat → Prop} {P Q : HS → HS → Prop} {i k j : Nat} (hik : i ≤ k) (hkj : k ≤ j) (e : ∀ n, loopF W3 (n + (k - i)) (J (i : Nat), Γ) = loopF W3 n (J (k : Nat), Δ)) (hm : ∀ r, r ≠ 1 → r ≠ 3 → r ≠ 4 → r ≠ 7 → Δ r = Γ r) (hb : ∀ t, i ≤ t → t < k → ¬ bad t) (h : CST T N kd vl pl G Θ Γs bad P k j Δ) (hPQ : ∀ E, P Δ E → Q Γ E) : CST T N kd vl pl G Θ Γs bad Q i j Γ := by
  rcases h with ⟨w, w1, w2, w3, w4, X, x1, x2, x3⟩ | ⟨n1, E, e1, e2, e3⟩
  · refine Or.inl ⟨w, by omega, w2, w3, fun v v1 v2 => ?_, X, fun n hn => ?_, x2, fun r r1 r3 r4 r7 => by rw [x3 r r1 r3 r4 r7, hm r r1 r3 r4 r7]⟩
    · by_cases q : v < k
      · exact hb v v1 q
      · exact w4 v (by omega) v2
    · rw [show n = (n - (k - i)) + (k - i) by omega, e]
      exact x1 _ (by omega)
  · refine Or.inr ⟨fun w w1 w2 => ?_, E, fun n => ?_, e2, hPQ E e3⟩
    · by_cases q : w < k
      · exact hb w w1 q
      · exact n1 w (by omega) w2
    · rw [show n + (j - i) = (n + (j - k)) + (k - i) by omega, e, e1]
theorem CST_congr {G : Nat → HS} {Θ Γs Γ : HS} {bad bad' : Nat → Prop} {P : HS → HS → Prop} {i j : Nat} (h : CST T N kd vl pl G Θ Γs bad P i j Γ) (e : ∀ w, i ≤ w → w < j → (bad w ↔ bad' w)) : CST T N kd vl pl G Θ Γs bad' P i j Γ := by
  rcases h with ⟨w, w1, w2, w3, w4, x⟩ | ⟨n1, x⟩
  · exact Or.inl ⟨w, w1, w2, (e w w1 w2).mp w3, fun v v1 v2 hb => w4 v v1 v2 ((e v v1 (by omega)).mpr hb), x⟩
  · exact Or.inr ⟨fun w w1 w2 hb => n1 w w1 w2 ((e w w1 w2).mpr hb), x⟩
/-- behind a block's first word -/
theorem c_rtail {G : Nat → HS} {Θ Γs : HS} {σs σK : MS} {DN : Nat → Nat → Nat → Prop} (hE : MEN T N kd vl rv pl G Θ Γs σs σK DN) (hTB : TB T kd vl rv σK Θ) {c z b : Nat} {is : Nat → Nat} (hB : HBZ T vl G kd is z b) (hbj : b < is (z + 1)) (hno : ∀ t, is z < t → t < is (z + 1) → noI (kd t)) (hj : is (z + 1) ≤ T) {Γ : HS} (h : CT3 T N kd vl pl G Θ Γs (b + 1) Γ) : CST T N kd vl pl G Θ Γs (badW G Θ Γs kd vl c is) (MV G Θ kd vl (b + 1) (is (z + 1))) (b + 1) (is (z + 1)) Γ := by
  obtain ⟨hT, hN, hp, hpb, hX, hG⟩ := id hE
  obtain ⟨b1, b2, b3, b4, -⟩ := hB
  have key := c_brun hT hG (Θ := Θ) (Γs := Γs) (i := b + 1) (j := is (z + 1)) (by omega) hj (fun t t1 t2 => by
    have := hno t (by omega) t2
    unfold noI at this; omega) (fun t t1 t2 => (b4 t (by omega) t2).1) (fun t t1 t2 hk hk1 => by
    obtain ⟨e, -, s, m, ts, sl, hC⟩ := (b4 t (by omega) t2).2
    obtain ⟨⟨h1, h2⟩, h3, h4⟩ := hs_of hE hTB (by omega) hk hk1 hC
    exact ⟨h1, h2, fun h6 => ⟨h3 (by omega), h4 h6⟩⟩) (is (z + 1) - (b + 1)) (b + 1) Γ (by omega) (Nat.le_refl _) h
  refine CST_congr (bad := badB G Θ Γs kd vl) ?_ (fun w w1 w2 => (badW_B (b4 w (by omega) w2).1).symm)
  rcases key with ⟨w, w1, w2, w3, w4, X, x1, x2, x3⟩ | ⟨n1, Δ, e1, e2, e3⟩
  · exact Or.inl ⟨w, w1, w2, w3, w4, X, x1, x2, fun r r1 r3 _ _ => x3 r r1 r3⟩
  · exact Or.inr ⟨n1, Δ, e1, e2, e3⟩
/-- a change of the scope alone before does not matter -/
theorem MV_of_m3 {G : Nat → HS} {Θ Γ Δ E : HS} {i j : Nat} (h : m3 Γ Δ) (g : MV G Θ kd vl i j Δ E) : MV G Θ kd vl i j Γ E := by
  obtain ⟨b1, b2, b3, b4, b5, b6, b7⟩ := g
  have e1 := h.1 1 (by omega)
  exact ⟨fun r r1 r3 => by rw [b1 r r1 r3, h.1 r r3], fun z c1 c2 c3 c4 c5 => by rw [b2 z c1 c2 c3 c4 c5, h.2.1 z c1 c2 c3 c4 c5], fun z c1 c2 c3 => by rw [b3 z c1 c2 c3, h.2.2 z c1 c2 c3], by rw [b4, e1], fun z c1 => by rw [b5 z c1, e1], by rw [b6, e1], fun u => by rw [← e1]; exact b7 u⟩
/-- an each's words -/
theorem c_each {G : Nat → HS} {Θ Γs : HS} {σs σK : MS} {DN : Nat → Nat → Nat → Prop} (hE : MEN T N kd vl rv pl G Θ Γs σs σK DN) (hTB : TB T kd vl rv σK Θ) {c z b : Nat} {is : Nat → Nat} (hm : ∀ z, z < c → is z < is (z + 1)) (hz : z < c) (hB : HBZ T vl G kd is z b) (hbj : b < is (z + 1)) (hno : ∀ t, is z < t → t < is (z + 1) → noI (kd t)) (hj : is (z + 1) ≤ T) (hk : kd (is z) = 237) (hb1 : b = is z + 1) (hkb : kd b = 123) {Γ : HS} (h : CT3 T N kd vl pl G Θ Γs (is z) Γ) : CST T N kd vl pl G Θ Γs (badW G Θ Γs kd vl c is) (MV G Θ kd vl (b + 1) (is (z + 1))) (is z) (is (z + 1)) Γ := by
  obtain ⟨hT, hN, hp, hpb, hX, hG⟩ := id hE
  have hq : ∀ t, is z ≤ t → t < b + 1 → ¬ bodyW G t ∧ ¬ (206 ≤ kd t ∧ kd t ≤ 212) ∧ kd t ≠ 219 ∧ ¬ (230 ≤ kd t ∧ kd t ≤ 233) ∧ kd t ≠ 235 ∧ kd t ≠ 236 ∧ ¬ (238 ≤ kd t ∧ kd t ≤ 240) := fun t t1 t2 => by
    refine ⟨hB.2.2.1 t t1 (by omega) (by omega), ?_⟩
    by_cases e : t = is z
    · rw [e, hk]; omega
    · rw [show t = b by omega, hkb]; omega
  obtain ⟨Δ, d1, d2, d3⟩ := c_iflat hT hG (Θ := Θ) (Γs := Γs) (i := is z) (j := b + 1) (by omega) hq (b + 1 - is z) (is z) Γ (by omega) (Nat.le_refl _) h
  refine CST_pre (k := b + 1) (by omega) (by omega) d1 (fun r _ r3 _ _ => d3.1 r r3) (fun t t1 t2 hb => ?_) (c_rtail hE hTB hB hbj hno hj d2) (fun E hE' => MV_of_m3 d3 hE')
  have := (badW_A hm hz t1 (by omega) (hq t t1 t2).1).mp hb
  exact badA_none (by omega) (by omega) (by omega) this
