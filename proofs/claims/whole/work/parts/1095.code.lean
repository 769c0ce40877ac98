/-! the story's code, linked -/
variable {T N : Nat} {kd vl rv : Nat → Int} {pl : Nat → Nat}
theorem WEF_r {Θ : HS} {cl : List Int} {t : Nat} {Γ Δ : HS} (h : WEF Θ kd vl cl t Γ Δ) : ∀ r, r ≠ 3 → r ≠ 4 → r ≠ 7 → Δ r = Γ r := by
  intro r r3 r4 r7
  unfold WEF at h
  split at h
  · rw [h.1 r r3]; unfold obS; rw [cA_r, if_neg r4, cA_r, if_neg r4, cI_r, if_neg r3]
  split at h
  · rw [h.1 r r3]; unfold dsS; rw [cA_r, if_neg r4]
  split at h
  · rw [h.1 r r3]; unfold IWtrait; rw [cA_r, if_neg r4]
  split at h
  · rw [h.1 r r3]; unfold exS; rw [cA_r, if_neg r4]
  split at h
  · rw [h.1 r r3]; unfold inS; rw [cA_r, if_neg r4]
  have own : ∀ {o i : Nat} {E : HS}, OWN kd vl cl o i Γ E → E r = Γ r := by
    intro o i E h
    obtain ⟨c, K, -, -, rfl, rfl, h⟩ := h
    have : ∀ e, e ≤ c → K e r = K 0 r := by
      intro e
      induction e with
      | zero => intro _; rfl
      | succ e ih => intro he; rw [(AWR_D (h e (by omega))).2 r r4 r7, ih (by omega)]
    exact this c (Nat.le_refl _)
  split at h
  · obtain ⟨o, E, -, -, -, h1, h2⟩ := h
    rw [h2.1 r r3]; exact own h1
  split at h
  · obtain ⟨E, ⟨F, c, -, -, h1, h3⟩, h2⟩ := h
    rw [h2.1 r r3]
    unfold JNT at h3
    by_cases q : kd (t + 2 + 2 * c - 1) = 215
    · rw [if_pos q] at h3
      rw [h3.1 r r4 r7]; exact own h1
    · rw [if_neg q] at h3
      rw [h3]; exact own h1
  split at h
  · rw [h.1 r r3]; unfold vrS; rw [cA_r, if_neg r4]
  · exact h.1 r r3
theorem FLT_r {Θ : HS} {cl : List Int} {i j : Nat} {Γ Δ : HS} (hij : i ≤ j) (h : FLT Θ kd vl cl i j Γ Δ) : ∀ r, r ≠ 3 → r ≠ 4 → r ≠ 7 → Δ r = Γ r := by
  obtain ⟨H, rfl, rfl, h⟩ := h
  intro r r3 r4 r7
  have : ∀ d, i + d ≤ j → H (i + d) r = H i r := by
    intro d
    induction d with
    | zero => intro _; rfl
    | succ d ih =>
      intro hd
      rw [show i + (d + 1) = i + d + 1 by omega, WEF_r (h (i + d) (by omega) (by omega)) r r3 r4 r7]
      exact ih (by omega)
  have := this (j - i) (by omega)
  rw [show i + (j - i) = j by omega] at this
  exact this
/-- a NAME's meaning stands where its item left it -/
theorem mean_keep {G : Nat → HS} {Θ : HS} {cl : List Int} {c : Nat} {is : Nat → Nat} {K : Nat → HS} (hm : ∀ z, z < c → is z < is (z + 1)) (hk : ∀ z, z < c → 230 ≤ kd (is z) ∧ kd (is z) ≤ 237) (hK : ∀ z, z < c → CIT T G Θ kd vl cl is z (K z) (K (z + 1))) {i z : Nat} (hz : z < c) (hi : i < is (z + 1)) : ∀ d, z + 1 + d ≤ c → (K (z + 1 + d) 1).2.1 7 i = (K (z + 1) 1).2.1 7 i := by
  intro d
  induction d with
  | zero => intro _; rfl
  | succ d ih =>
    intro hd
    have m1 := is_le hm (a := z + 1) (b := z + 1 + d) (by omega) (by omega)
    have hy := hK (z + 1 + d) (by omega)
    have hky := hk (z + 1 + d) (by omega)
    rw [show z + 1 + (d + 1) = z + 1 + d + 1 by omega, ← ih (by omega)]
    by_cases q : kd (is (z + 1 + d)) ≤ 234
    · rw [FLT_r (Nat.le_of_lt (hm _ (by omega))) (hy.1 q) 1 (by omega) (by omega) (by omega)]
    · obtain ⟨b, b1, b2, b3, b4, b5, b6⟩ := hy.2 (by omega)
      by_cases q2 : kd (is (z + 1 + d)) = 236
      · obtain ⟨cc, -, -, hM⟩ := b6 q2
        rw [(hM.2.2.2.2.2.2 i).2 (fun hh => by omega)]
        unfold onE o15 o14 o13
        rw [cI_r, if_neg (by omega), cA_r, if_neg (by omega), cA_r, if_neg (by omega), cA_r, if_neg (by omega)]
      · rw [((b5 q2).2.2.2.2.2.2 i).2 (fun hh => by omega)]
/-- the words of names in blocks -/
def PBW (kd : Nat → Int) (c : Nat) (is : Nat → Nat) (i : Nat) : Prop := ∃ z, z < c ∧ 235 ≤ kd (is z) ∧ ∃ b, kd b = 123 ∧ is z ≤ b ∧ b < i ∧ i < is (z + 1) ∧ kd i = 2
theorem mean_at {G : Nat → HS} {Θ Γs : HS} {σs σK : MS} {DN : Nat → Nat → Nat → Prop} (hE : MEN T N kd vl rv pl G Θ Γs σs σK DN) (hTB : TB T kd vl rv σK Θ) {cl : List Int} {c : Nat} {is : Nat → Nat} {K : Nat → HS} (hm : ∀ z, z < c → is z < is (z + 1)) (hcT : is c ≤ T) (hk : ∀ z, z < c → 230 ≤ kd (is z) ∧ kd (is z) ≤ 237) (hK : ∀ z, z < c → CIT T G Θ kd vl cl is z (K z) (K (z + 1))) (hb : ∀ w, w < T → ¬ badW G Θ Γs kd vl c is w) {i : Nat} (hP : PBW kd c is i) : i < 4200 ∧ (K c 1).2.1 7 i = J ((srt G Θ kd vl i).toNat * 65536 + nmb G Θ kd vl i : Nat) ∧ 1 ≤ srt G Θ kd vl i ∧ srt G Θ kd vl i ≤ 7 ∧ nmb G Θ kd vl i ≤ 120 := by
  obtain ⟨z, z1, z2, b0, b1, b2, b3, b4, b5⟩ := hP
  have hT := hE.1
  have hT1 := hT.1
  have m1 : is (z + 1) ≤ is c := by have := is_le hm (a := z + 1) (b := c) (by omega) (Nat.le_refl _); omega
  obtain ⟨b, d1, d2, d3, d4, d5, d6⟩ := (hK z z1).2 z2
  have hbb : b ≤ b0 := Nat.le_of_not_lt (fun h => d3 b0 b2 h b1)
  obtain ⟨e1, D, hD, s, m, ts, sl, hC⟩ := d4.2.2.2.1 i (by omega) b4
  have nb : ¬ badB G Θ Γs kd vl i := fun h => hb i (by omega) (Or.inl ⟨e1, h⟩)
  obtain ⟨f1, f2, f3, f4⟩ := mvl_J hE hTB (by omega) b5 hC nb
  refine ⟨by omega, ?_, f2, f3, f4⟩
  have kp := mean_keep hm hk hK z1 b4 (c - (z + 1)) (by omega)
  rw [show z + 1 + (c - (z + 1)) = c by omega] at kp
  rw [kp, ← f1]
  by_cases q2 : kd (is z) = 236
  · obtain ⟨cc, -, -, hM⟩ := d6 q2
    exact (hM.2.2.2.2.2.2 i).1 ⟨by omega, b4, b5⟩
  · exact ((d5 q2).2.2.2.2.2.2 i).1 ⟨by omega, b4, b5⟩
/-! all code as a row of instructions -/
def ICP (Γ : HS) (P : Nat → Prop) (p q : Nat) : Prop := ∃ (n : Nat) (b : Nat → Nat), b 0 = p ∧ b n = q ∧ ∀ k, k < n → (∃ o : Int, op1 Γ (b k) o ∧ 0 ≤ o ∧ o ≤ 32 ∧ b (k + 1) = b k + 1) ∨ (∃ (o : Int) (v : Int), op3 Γ (b k) o v ∧ 33 ≤ o ∧ o ≤ 50 ∧ b (k + 1) = b k + 3 ∧ (isNO o → ∃ i : Nat, v = (i : Nat) ∧ P i))
theorem ICP_nil {Γ : HS} {P : Nat → Prop} {p : Nat} : ICP Γ P p p := ⟨0, fun _ => p, rfl, rfl, fun k hk => by omega⟩
theorem ICP_app {Γ : HS} {P : Nat → Prop} {p q r : Nat} (h : ICP Γ P p q) (g : ICP Γ P q r) : ICP Γ P p r := by
  obtain ⟨n, b, b1, b2, b3⟩ := h
  obtain ⟨m, d, d1, d2, d3⟩ := g
  refine ⟨n + m, fun k => if k ≤ n then b k else d (k - n), by dsimp only; rw [if_pos (by omega)]; exact b1, ?_, fun k hk => ?_⟩
  · dsimp only
    by_cases q0 : m = 0
    · rw [if_pos (by omega), q0, Nat.add_zero, b2, ← d2, q0, d1]
    · rw [if_neg (by omega), show n + m - n = m by omega]; exact d2
  · dsimp only
    by_cases q1 : k < n
    · rw [if_pos (by omega), if_pos (by omega)]; exact b3 k q1
    · have := d3 (k - n) (by omega)
      rw [if_neg (show ¬ k + 1 ≤ n by omega), show k + 1 - n = k - n + 1 by omega]
      by_cases q2 : k = n
      · rw [if_pos (by omega), q2, b2, ← d1]
        rw [q2, show n - n = 0 by omega] at this
        rw [show n - n = 0 by omega]; exact this
      · rw [if_neg (by omega)]; exact this
theorem ICP_IC {Γ : HS} {P : Nat → Prop} {lo hi jl jh p q : Nat} (h : IC Γ kd lo hi jl jh p q) (hP : ∀ i, lo ≤ i → i < hi → kd i = 2 → P i) : ICP Γ P p q := by
  obtain ⟨n, b, b1, b2, b3⟩ := h
  refine ⟨n, b, b1, b2, fun k hk => ?_⟩
  rcases b3 k hk with ⟨o, a, a1, a2, a3⟩ | ⟨o, v, a, a1, a2, a3, a4, -⟩
  · exact Or.inl ⟨o, a, a1, a2, a3⟩
  · refine Or.inr ⟨o, v, a, a1, a2, a3, fun hn => ?_⟩
    obtain ⟨i, i1, i2, i3, i4⟩ := a4 hn
    exact ⟨i, i1, hP i i2 i3 i4⟩
/-- a routine's code -/
theorem ITM_rtn {σs : MS} {Γs : HS} {x hi i j p q nd no ne : Nat} (h : ITM kd vl rv pl σs Γs x hi i j p q nd no ne) : (kd i ≤ 234 → q = p) ∧ (235 ≤ kd i → ∃ lo b, RTN kd vl rv pl σs Γs i x lo hi b j p q ∧ i ≤ b ∧ TBL Γs (rti (kd i) nd no ne) p q) := by
  rcases h with ⟨a0, a1, a⟩ | ⟨a0, a1, a⟩ | ⟨a1, a⟩ | ⟨a1, a⟩ | ⟨a1, a⟩ | ⟨k0, k1, k2, k3, k4, k5, k6, c, b, k7, k8, k9, k10, -⟩ | ⟨k0, k1, k2, k3, k4, k5, c, k6, k7, k8, k9, k10⟩ | ⟨k0, k1, k2, k3, k4, -⟩
  · exact ⟨fun _ => a1, fun h => by omega⟩
  · exact ⟨fun _ => a1, fun h => by omega⟩
  · exact ⟨fun _ => a1, fun h => by have := a.1; omega⟩
  · exact ⟨fun _ => a1, fun h => by have := a.1; omega⟩
  · exact ⟨fun _ => a1, fun h => by have := a.1; omega⟩
  · refine ⟨fun h => by omega, fun _ => ⟨_, b, k9, ?_, ?_⟩⟩
    · rcases k8 with ⟨-, h, -⟩ | ⟨-, h, -⟩ <;> omega
    · have : rti (kd i) nd no ne = rti 235 nd 0 0 := by rw [k0]; rfl
      rw [this]; exact k10
  · refine ⟨fun h => by omega, fun _ => ⟨_, _, k9, by omega, ?_⟩⟩
    have : rti (kd i) nd no ne = rti 236 0 no 0 := by rw [k0]; rfl
    rw [this]; exact k10
  · refine ⟨fun h => by omega, fun _ => ⟨_, _, k3, by omega, ?_⟩⟩
    have : rti (kd i) nd no ne = rti 237 0 0 ne := by rw [k0]; rfl
    rw [this]; exact k4
theorem all_icp {σs : MS} {Γs : HS} {c : Nat} {ls is ps ds os es : Nat → Nat} (hI : ITS kd vl rv pl σs Γs c ls is ps ds os es) : ∀ z, z ≤ c → ICP Γs (PBW kd c is) (ps 0) (ps z) := by
  intro z
  induction z with
  | zero => intro _; exact ICP_nil
  | succ z ih =>
    intro hz
    have hIz := (hI z (by omega)).1
    have hk := ITM_noI hIz
    obtain ⟨h1, h2⟩ := ITM_rtn hIz
    refine ICP_app (ih (by omega)) ?_
    by_cases q : kd (is z) ≤ 234
    · rw [h1 q]; exact ICP_nil
    · obtain ⟨lo, b, ⟨hh, y, m, r, ⟨a1, a1'⟩, a2, a3, a4, a5, a6, a7, a8, a9⟩, b1, -⟩ := h2 (by omega)
      have hf := STX_first _ _ _ _ _ _ _ _ _ a3 (Or.inl rfl)
      have t1 : ICP Γs (PBW kd c is) (ps z) r := ICP_IC (STX_ic _ _ _ _ _ _ _ _ _ a3) (fun i i1 i2 i3 => ⟨z, by omega, by omega, b, hf, b1, by
        rcases Nat.lt_or_ge b i with q | q
        · exact q
        · exfalso
          rw [show i = b by omega, hf] at i3; omega, i2, i3⟩)
      refine ICP_app t1 ⟨1, fun k => if k = 0 then r else ps (z + 1), rfl, rfl, fun k hk => Or.inl ⟨0, ?_, by omega, by omega, ?_⟩⟩
      · rw [show k = 0 by omega]; exact a8
      · rw [show k = 0 by omega]; exact a2
