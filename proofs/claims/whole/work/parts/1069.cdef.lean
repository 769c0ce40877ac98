/-! the third going through a def, the class -/
variable {T N : Nat} {kd vl rv : Nat → Int} {pl : Nat → Nat}
theorem c_def {G : Nat → HS} {Θ Γs : HS} {σs σK : MS} {DN : Nat → Nat → Nat → Prop} (hE : MEN T N kd vl rv pl G Θ Γs σs σK DN) (hTB : TB T kd vl rv σK Θ) {c z nd : Nat} {ls is ps : Nat → Nat} (hm : ∀ z, z < c → is z < is (z + 1)) (hz : z < c) (hI : DFD kd vl rv pl σs Γs (ls z) (ls (z + 1)) (is z) (is (z + 1)) (ps z) (ps (z + 1)) nd) (hno : ∀ t, is z < t → t < is (z + 1) → noI (kd t)) (hj : is (z + 1) ≤ T) (hZ : GZ T kd vl (G (is z))) {Γ : HS} (h : CT3 T N kd vl pl G Θ Γs (is z) Γ) (hB : ∃ b, HBZ T vl G kd is z b) : ∃ b, is z < b ∧ b < is (z + 1) ∧ (∀ t, is z ≤ t → t < b → kd t ≠ 123) ∧ HBZ T vl G kd is z b ∧ CST T N kd vl pl G Θ Γs (badW G Θ Γs kd vl c is) (MV G Θ kd vl (b + 1) (is (z + 1))) (is z) (is (z + 1)) Γ := by
  obtain ⟨hT, hN, hp, hpb, hX, hG⟩ := id hE
  obtain ⟨k0, k1, k2, k3, k4, k5, k6, cc, b, k7, k8, k9, -⟩ := hI
  obtain ⟨b', hB⟩ := hB
  have hbj : b < is (z + 1) ∧ kd b = 123 := by
    obtain ⟨h, y, m, r, ⟨a1, a1'⟩, a2, a3, -⟩ := k9
    have := STX_rng a3
    exact ⟨by omega, STX_first _ _ _ _ _ _ _ _ _ a3 (Or.inl rfl)⟩
  have hNS : NMS kd rv pl σs (ls z + 2) cc (is z + 3) := by
    rcases k8 with ⟨c0, -⟩ | ⟨-, -, -, h⟩
    · intro k hk; omega
    · exact h
  have hb3 : is z + 3 + 2 * cc ≤ b ∧ b ≤ is z + 4 + 2 * cc ∧ kd (is z + 3 + 2 * cc) ≠ 2 := by
    rcases k8 with ⟨c0, h, -⟩ | ⟨c1, h, -⟩
    · refine ⟨by omega, by omega, ?_⟩
      rw [c0, show is z + 3 + 2 * 0 = b - 1 by omega, k7]; omega
    · refine ⟨by omega, by omega, ?_⟩
      rw [← h, hbj.2]; omega
  have hkw : ∀ t, is z + 1 ≤ t → t < b → kd t = 2 ∨ kd t = 40 ∨ kd t = 41 ∨ kd t = 44 := fun t t1 t2 => by
    by_cases e1 : t = is z + 1
    · rw [e1]; exact Or.inl k1
    by_cases e2 : t = is z + 2
    · rw [e2]; exact Or.inr (Or.inl k2)
    by_cases e3 : t = b - 1
    · rw [e3]; exact Or.inr (Or.inr (Or.inl k7))
    rcases NMS_words hNS t (by omega) (by omega) with e | e
    · exact Or.inl e
    · exact Or.inr (Or.inr (Or.inr e))
  obtain ⟨g0, g1, g2, g3, g4, H, g5, g6, g7⟩ := g_def hT hG (i := is z) (b := b) (c := cc) hb3.1 (by omega) k0 (fun z' hz' => (hNS z' hz').2.1) hb3.2.2 (fun t t1 t2 => by rcases hkw t t1 t2 with e | e | e | e <;> exact qh_k e (by omega)) hZ
  have nb : ∀ t, is z ≤ t → t ≤ b → ¬ bodyW G t := fun t t1 t2 => nbody_11 (g4 t t1 t2)
  -- the block begins where it must
  have eb : b' = b := by
    obtain ⟨y1, y2, y3, y4, -⟩ := hB
    rcases Nat.lt_trichotomy b' b with q | q | q
    · exact absurd (y4 b q hbj.1).1 (nb b (by omega) (Nat.le_refl _))
    · exact q
    · exfalso
      -- the word behind the block's first one is in the block
      have hc2 : b + 1 < is (z + 1) := by
        obtain ⟨h, y, m, r, ⟨a1, a1'⟩, a2, a3, -⟩ := k9
        have hl := STX_last _ _ _ _ _ _ _ _ _ a3
        have hr := STX_rng a3
        rcases Nat.lt_or_ge (b + 1) (is (z + 1)) with q3 | q3
        · exact q3
        · exfalso
          rw [show is (z + 1) - 1 = b by omega, hbj.2] at hl; omega
      have h1 := y3 (b + 1) (by omega) (by omega) hc2
      have e1 : G (b + 1) = opM (G b) cc 0 := g_f hT hG (by omega) (by rw [hbj.2]; unfold qt; omega) (fs_open hT (hG.1 b (by omega)).1 (show b < N by have := (TKE_N hT).1; omega) hbj.2 g1 (by omega))
      refine h1 ⟨?_, ?_⟩
      · rw [e1, show ((opM (G b) cc 0) 3).1 12 = (G b 3).1 12 from rfl, g3, k0]; decide
      · rw [e1, show ((opM (G b) cc 0) 3).1 11 = J ((0 + 1 : Nat) : Int) from rfl]; decide
  subst eb
  obtain ⟨Γ1, d1, d2, d3⟩ := c_defw hT h k0 (nb _ (Nat.le_refl _) (by omega)) (fun z' hz' => (hNS z' hz').2.1) hb3.2.2 (by omega) g5 g6 g7
  have hq : ∀ t, is z + 1 ≤ t → t < b' + 1 → ¬ bodyW G t ∧ ¬ (206 ≤ kd t ∧ kd t ≤ 212) ∧ kd t ≠ 219 ∧ ¬ (230 ≤ kd t ∧ kd t ≤ 233) ∧ kd t ≠ 235 ∧ kd t ≠ 236 ∧ ¬ (238 ≤ kd t ∧ kd t ≤ 240) := fun t t1 t2 => by
    refine ⟨nb t (by omega) (by omega), ?_⟩
    by_cases e : t = b'
    · rw [e, hbj.2]; omega
    · rcases hkw t t1 (by omega) with e | e | e | e <;> omega
  obtain ⟨Δ, e1, e2, e3⟩ := c_iflat hT hG (Θ := Θ) (Γs := Γs) (i := is z + 1) (j := b' + 1) (by omega) hq (b' + 1 - (is z + 1)) (is z + 1) Γ1 (by omega) (Nat.le_refl _) d2
  have m := m3_trans d3 e3
  refine ⟨b', by omega, hbj.1, fun t t1 t2 => (by
    by_cases e0 : t = is z
    · rw [e0, k0]; omega
    · have := hkw t (by omega) t2; omega), hB, CST_pre (k := b' + 1) (by omega) (by omega) (fun n => ?_) (fun r _ r3 _ _ => m.1 r r3) (fun t t1 t2 hb => ?_) (c_rtail hE hTB hB hbj.1 hno hj e2) (fun E hE' => MV_of_m3 m hE')⟩
  · rw [show n + (b' + 1 - is z) = (n + (b' + 1 - (is z + 1))) + 1 by omega, d1]
    exact e1 n
  · have := (badW_A hm hz t1 (by omega) (nb t t1 (by omega))).mp hb
    exact badA_none (by omega) (by omega) (by omega) this
