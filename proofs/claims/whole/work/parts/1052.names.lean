/-! what each name is when all is told -/
variable {T N : Nat} {kd vl rv : Nat → Int} {pl : Nat → Nat}
/-- a clean second going: what is known behind it -/
def SDN (T N : Nat) (kd vl rv : Nat → Int) (pl : Nat → Nat) (σs : MS) (Γs : HS) (c : Nat) (ls is : Nat → Nat) (S : Nat → MS) (τ : MS) (Θ : HS) : Prop := ROW T N kd vl rv pl σs Γs c ls is S ∧ (∀ q, q < 7 → (S 0).1 (fcq q) = J (cN kd is q 0 : Nat)) ∧ (∀ z, z < c → is z < is (z + 1)) ∧ is c ≤ T ∧ (flt (S c)).1 = 0 ∧ c ≤ 4500 ∧ (∀ u, u ≤ T → kd u = 2 → (1 ≤ vof (vl u).toNat → (S 0).2 28 (rv u).toNat = J 3 ∧ (S 0).2 29 (rv u).toNat = J (vof (vl u).toNat : Nat) ∧ (S 0).2 30 (rv u).toNat = J (-1)) ∧ (vof (vl u).toNat = 0 → (S 0).2 28 (rv u).toNat = 0)) ∧ rS (S c) τ ∧ TB T kd vl rv τ Θ ∧ (∀ z, z < c → 230 ≤ kd (is z) ∧ kd (is z) ≤ 237) ∧ (∀ z, z < c → kd (is z) ≤ 235 → kd (is z + 1) = 2 ∧ is z + 1 ≤ T)
theorem kt (hT : TKE T N kd vl rv pl) (hp : plm T pl) {σs : MS} {Γs : HS} {c : Nat} {ls is : Nat → Nat} {S : Nat → MS} {τ : MS} {Θ : HS} (h : SDN T N kd vl rv pl σs Γs c ls is S τ Θ) {u : Nat} (hu : u ≤ T) (hk : kd u = 2) : τ.2 28 (rv u).toNat = J (ksF Θ vl u) ∧ (ksF Θ vl u = 0 ∨ (τ.2 29 (rv u).toNat = J (nsF Θ vl u : Nat) ∧ ((1 ≤ vof (vl u).toNat ∧ ksF Θ vl u = 3 ∧ nsF Θ vl u = vof (vl u).toNat ∧ τ.2 30 (rv u).toNat = J (-1)) ∨ ∃ z, z < c ∧ 230 ≤ kd (is z) ∧ kd (is z) ≤ 235 ∧ rv (is z + 1) = rv u ∧ ksF Θ vl u = kd (is z) - 229 ∧ nsF Θ vl u = inum kd is z ∧ τ.2 30 (rv u).toNat = J (ls z : Nat)))) := by
  obtain ⟨hS, h0, hm, hi, hfl, hc, hb, hr, hTB, hI, hI2⟩ := h
  have hv := SC_vl hT hu hk
  obtain ⟨t1, t2⟩ := hTB u hu hk
  have e28 : τ.2 28 = (S c).2 28 := hr.2 28 (by omega)
  have e29 : τ.2 29 = (S c).2 29 := hr.2 29 (by omega)
  have e30 : τ.2 30 = (S c).2 30 := hr.2 30 (by omega)
  have eks : τ.2 28 (rv u).toNat = J (ksF Θ vl u) := by unfold ksF; rw [J_of]; exact t1
  refine ⟨eks, ?_⟩
  by_cases q0 : τ.2 28 (rv u).toNat = 0
  · left
    unfold ksF
    rw [← t1, q0]; rfl
  · right
    have e29' := t2 q0
    -- from the number
    have num : ∀ (k : Int) (n : Nat), τ.2 28 (rv u).toNat = J k → τ.2 29 (rv u).toNat = J (n : Nat) → 0 ≤ k ∧ k < 1000 → n < 100000 → ksF Θ vl u = k ∧ nsF Θ vl u = n ∧ τ.2 29 (rv u).toNat = J (nsF Θ vl u : Nat) := by
      intro k n a1 a2 a3 a4
      have b2 : nsF Θ vl u = n := by unfold nsF; rw [← e29', a2, J_toInt (by omega) (by omega)]; rfl
      refine ⟨?_, b2, by rw [b2]; exact a2⟩
      unfold ksF; rw [← t1, a1, J_toInt (by omega) (by omega)]
    rw [e28] at q0
    by_cases qv : 1 ≤ vof (vl u).toNat
    · obtain ⟨b1, b2, b3⟩ := (hb u hu hk).1 qv
      have hv11 := vof_rng (vl u).toNat
      have kp := row_keep hS (y := (rv u).toNat) (a := 0) (by rw [b1]; decide) c (by omega)
      rw [Nat.zero_add] at kp
      obtain ⟨k1, k2, k3⟩ := kp
      obtain ⟨z1, z2, z3⟩ := num 3 (vof (vl u).toNat) (by rw [e28, k1, b1]) (by rw [e29, k2, b2]) (by omega) (by omega)
      exact ⟨z3, Or.inl ⟨qv, z1, z2, by rw [e30, k3, b3]⟩⟩
    · have hb0 := (hb u hu hk).2 (by omega)
      rcases row_any hS c (Nat.le_refl _) (rv u).toNat q0 with h | ⟨z, z1, z2, z3⟩
      · exact absurd hb0 h
      · have hIz := hI z z1
        obtain ⟨w1, w2⟩ := hI2 z z1 z2
        have hvz := SC_vl hT w2 w1
        have er : (rv (is z + 1)).toNat = (rv u).toNat := z3.symm
        obtain ⟨r1, r2, r3, r4⟩ := row_itm hp hS h0 hm hi hfl z1 ⟨hIz.1, z2⟩
        rw [er] at r2 r3 r4
        have hl := row_lim hp hS h0 hm hi hfl hc z1
        have hin : inum kd is z < 100000 := by
          have : limK (kd (is z)) ≤ 200 := by
            unfold limK
            repeat' split
            all_goals omega
          unfold inum; split <;> omega
        obtain ⟨y1, y2, y3⟩ := num (kd (is z) - 229) (inum kd is z) (by rw [e28]; exact r2) (by rw [e29]; exact r3) (by omega) hin
        exact ⟨y3, Or.inr ⟨z, z1, hIz.1, z2, by omega, y1, y2, by rw [e30]; exact r4⟩⟩
theorem KE_of (hT : TKE T N kd vl rv pl) (hp : plm T pl) {σs : MS} {Γs : HS} {c : Nat} {ls is : Nat → Nat} {S : Nat → MS} {τ : MS} {Θ : HS} (h : SDN T N kd vl rv pl σs Γs c ls is S τ Θ) : KE T kd vl rv Θ τ := fun u hu hk => by
  obtain ⟨e1, e2⟩ := kt hT hp h hu hk
  refine ⟨e1, fun hne => ?_, ?_⟩
  · rcases e2 with e2 | e2
    · exact absurd e2 hne
    · exact e2.1
  · rcases e2 with e2 | ⟨-, e2 | ⟨z, z1, z2, z3, z4, z5, -⟩⟩
    · omega
    · omega
    · omega
theorem lims_of (hT : TKE T N kd vl rv pl) (hp : plm T pl) {σs : MS} {Γs : HS} {c : Nat} {ls is : Nat → Nat} {S : Nat → MS} {τ : MS} {Θ : HS} (h : SDN T N kd vl rv pl σs Γs c ls is S τ Θ) : ∀ u, u ≤ T → kd u = 2 → (ksF Θ vl u = 4 → nsF Θ vl u < 100) ∧ (ksF Θ vl u = 5 → nsF Θ vl u < 20) ∧ (ksF Θ vl u = 1 ∨ ksF Θ vl u = 2 → nsF Θ vl u ≤ 120) := by
  intro u hu hk
  obtain ⟨e1, e2⟩ := kt hT hp h hu hk
  obtain ⟨hS, h0, hm, hi, hfl, hc, hb, hr, hTB, hI, hI2⟩ := h
  rcases e2 with e2 | ⟨-, e2 | ⟨z, z1, z2, z3, z4, z5, z6, -⟩⟩
  · omega
  · omega
  · have hl := row_lim hp hS h0 hm hi hfl hc z1
    have hin : nsF Θ vl u = (if kd (is z) ≤ 232 then cN kd is (qOf (kd (is z))) z + 1 else cN kd is (qOf (kd (is z))) z) := z6
    unfold limK at hl
    refine ⟨fun hk4 => ?_, fun hk5 => ?_, fun hk12 => ?_⟩
    · rw [if_neg (by omega)] at hin
      rw [if_neg (by omega), if_neg (by omega), if_pos (by omega)] at hl
      omega
    · rw [if_neg (by omega)] at hin
      rw [if_neg (by omega), if_neg (by omega), if_neg (by omega), if_pos (by omega)] at hl
      omega
    · rw [if_pos (by omega)] at hin
      rw [if_pos (by omega)] at hl
      omega
/-- definitions by their number, node and arity -/
def DNd (kd : Nat → Int) (σs : MS) (Γs : HS) (c : Nat) (ls is : Nat → Nat) (k z C : Nat) : Prop := ∃ w, w < c ∧ kd (is w) = 235 ∧ z = ls w ∧ k = cN kd is 4 w ∧ (Γs 5).2.1 4 k = J (C : Nat) ∧ C ≤ 4096 ∧ z + 2 + C < 39990 ∧ σs.2 17 z = J 6 ∧ σs.2 20 z = J (if 0 < C then ((z + 2 : Nat) : Int) else -1)
theorem ds_cN {σs : MS} {Γs : HS} {c : Nat} {ls is ps ds os es : Nat → Nat} (hI : ITS kd vl rv pl σs Γs c ls is ps ds os es) (h0 : ds 0 = 0 ∧ os 0 = 0 ∧ es 0 = 0) (hk : ∀ z, z < c → 230 ≤ kd (is z) ∧ kd (is z) ≤ 237) : ∀ z, z ≤ c → ds z = cN kd is 4 z ∧ os z = cN kd is 5 z ∧ es z = cN kd is 6 z := by
  intro z
  induction z with
  | zero => intro _; exact h0
  | succ z ih =>
    intro hz
    obtain ⟨i1, i2, i3⟩ := ih (by omega)
    obtain ⟨-, -, -, -, -, d1, d2, d3⟩ := hI z (by omega)
    have hkz := hk z (by omega)
    have q4 : (4 = qOf (kd (is z))) = (kd (is z) = 235) := by
      refine propext ⟨fun h => ?_, fun h => by rw [h]; rfl⟩
      unfold qOf at h
      repeat' split at h
      all_goals omega
    have q5 : (5 = qOf (kd (is z))) = (kd (is z) = 236) := by
      refine propext ⟨fun h => ?_, fun h => by rw [h]; rfl⟩
      unfold qOf at h
      repeat' split at h
      all_goals omega
    have q6 : (6 = qOf (kd (is z))) = (kd (is z) = 237) := by
      refine propext ⟨fun h => ?_, fun h => by rw [h]; rfl⟩
      unfold qOf at h
      repeat' split at h
      all_goals omega
    rw [d1, d2, d3, cN_s, cN_s, cN_s, i1, i2, i3]
    simp only [q4, q5, q6]
    exact ⟨trivial, trivial, trivial⟩
theorem DFE_of (hT : TKE T N kd vl rv pl) (hp : plm T pl) {σs : MS} {Γs : HS} {c : Nat} {ls is ps ds os es : Nat → Nat} {S : Nat → MS} {τ : MS} {Θ : HS} (h : SDN T N kd vl rv pl σs Γs c ls is S τ Θ) (hI : ITS kd vl rv pl σs Γs c ls is ps ds os es) (h0 : ds 0 = 0 ∧ os 0 = 0 ∧ es 0 = 0) (hl : ls c ≤ 39000) : DFE T kd vl rv Θ Γs σs τ (DNd kd σs Γs c ls is) := by
  intro u hu hk h6
  have hT1 := hT.1
  obtain ⟨e1, e2⟩ := kt hT hp h hu hk
  obtain ⟨hS, hS0, hm, hi, hfl, hc, hb, hr, hTB, hIk, hI2⟩ := h
  have hd := ds_cN hI h0 hIk
  rcases e2 with e2 | ⟨-, e2 | ⟨w, z1, z2, z3, z4, z5, z6, z7⟩⟩
  · omega
  · omega
  · have kw : kd (is w) = 235 := by omega
    have hlm := row_lim hp hS hS0 hm hi hfl hc z1
    unfold limK at hlm
    rw [if_neg (by omega), if_neg (by omega), if_neg (by omega), if_neg (by omega), if_pos kw, kw] at hlm
    have hlm : cN kd is 4 w < 100 := hlm
    have hns : nsF Θ vl u = cN kd is 4 w := by
      rw [z6]; unfold inum; rw [if_neg (by omega), kw]; rfl
    have lsm := is_le (ITS_lt hI).2 (a := w + 1) (b := c) (by omega) (Nat.le_refl _)
    have ism := is_le (ITS_lt hI).1 (a := w + 1) (b := c) (by omega) (Nat.le_refl _)
    have hD : ∃ p q nd, DFD kd vl rv pl σs Γs (ls w) (ls (w + 1)) (is w) (is (w + 1)) p q nd ∧ nd = ds w := by
      rcases (hI w z1).1 with a | a | a | a | a | a | a | a
      · omega
      · omega
      · have := a.2.1; omega
      · have := a.2.1; omega
      · have := a.2.1; omega
      · exact ⟨_, _, _, a, rfl⟩
      · have := a.1; omega
      · have := a.1; omega
    obtain ⟨p, q, nd, hD, hnd⟩ := hD
    obtain ⟨d1, d2, d3, d4, d5, d6, d7, C, b, d8, d9, d10, d11, d12⟩ := hD
    obtain ⟨hh, y, m, r, ⟨y1, y1'⟩, y2, y3, -⟩ := d10
    have rS := STX_rng y3
    have hnd2 : nd = cN kd is 4 w := by rw [hnd, (hd w (by omega)).1]
    have e4 := d12 (by omega)
    rw [hnd2] at e4
    have hCb : C ≤ 4096 ∧ ls w + 2 + C < 39990 := by
      have : b < is (w + 1) := rS.2.2.1
      rcases d9 with ⟨c0, -⟩ | ⟨c1, c2, -⟩
      · omega
      · omega
    have e20 : σs.2 20 (ls w) = J (if 0 < C then ((ls w + 2 : Nat) : Int) else -1) := by
      rcases d9 with ⟨c0, -, c3⟩ | ⟨c1, c2, c3, -⟩
      · rw [if_neg (by omega)]; exact c3
      · rw [if_pos (by omega)]; exact c3
    refine ⟨ls w, C, z7, hCb.2, d4, hCb.1, e20, fun k hk' => ?_, by rw [hns]; exact e4, by rw [hns]; exact hlm, w, z1, kw, rfl, hns, by rw [hns]; exact e4, hCb.1, hCb.2, d4, e20⟩
    rcases d9 with ⟨c0, -, c3⟩ | ⟨c1, c2, c3, c4⟩
    · omega
    · have := (c4 k hk').2.2.1
      rw [this]
      split
      · rfl
      · rfl
