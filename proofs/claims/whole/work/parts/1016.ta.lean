/-! where each name is told first, as an item's -/
variable {T N : Nat} {kd vl rv : Nat → Int} {pl : Nat → Nat}
def TAI (T : Nat) (kd vl : Nat → Int) (c : Nat) (is : Nat → Nat) (ta : Nat → Nat) : Prop := (∀ z u, z < c → kd (is z) ≤ 235 → u ≤ T → kd u = 2 → vl u = vl (is z + 1) → ta u ≤ is z + 1) ∧ ∀ u, u ≤ T → kd u = 2 → ta u = 0 ∨ ta u = 16001 ∨ ∃ z, z < c ∧ kd (is z) ≤ 235 ∧ ta u = is z + 1 ∧ vl u = vl (is z + 1)
theorem is_mono {is : Nat → Nat} {c : Nat} (hm : ∀ z, z < c → is z < is (z + 1)) : ∀ d z, z + d ≤ c → is z + d ≤ is (z + d) := by
  intro d
  induction d with
  | zero => intro z _; exact Nat.le_refl _
  | succ d ih =>
    intro z hz
    have h1 := ih z (by omega)
    have h2 := hm (z + d) (by omega)
    rw [show z + (d + 1) = z + d + 1 by omega]; omega
theorem is_le {is : Nat → Nat} {c a b : Nat} (hm : ∀ z, z < c → is z < is (z + 1)) (h : a ≤ b) (hb : b ≤ c) : is a + (b - a) ≤ is b := by
  have := is_mono hm (b - a) a (by omega)
  rwa [show a + (b - a) = b by omega] at this
theorem TA_s (hT : TKE T N kd vl rv pl) (hN : NMI T kd vl rv) {is ta : Nat → Nat} {c k : Nat} {σ υ : MS} (hI : TAI T kd vl c is ta) (hm : ∀ z, z < c → is z < is (z + 1)) (hi : is c ≤ T) (hk : k < c) (hk1 : kd (is k) ≤ 235 → kd (is k + 1) = 2) (hA : TA T kd rv ta (is k) σ) (hd : ∀ y, υ.2 28 y ≠ 0 ↔ (σ.2 28 y ≠ 0 ∨ (kd (is k) ≤ 235 ∧ y = (rv (is k + 1)).toNat))) : TA T kd rv ta (is (k + 1)) υ := by
  have hT1 := hT.1
  have m1 := is_le hm (a := k) (b := k + 1) (by omega) (by omega)
  have m2 := is_le hm (a := k + 1) (b := c) (by omega) (by omega)
  intro u hu hku
  rw [hd, hA u hu hku]
  constructor
  · rintro (h | ⟨h1, h2⟩)
    · omega
    · have h3 : rv u = rv (is k + 1) := by
        have v1 := SC_vl hT hu hku
        have v2 := SC_vl hT (show is k + 1 ≤ T by omega) (hk1 h1)
        omega
      have := hI.1 k u hk h1 hu hku ((hN u (is k + 1) hu (by omega) hku (hk1 h1)).mp h3)
      omega
  · intro h
    rcases hI.2 u hu hku with e | e | ⟨z, z1, z2, z3, z4⟩
    · left; omega
    · omega
    · by_cases q : z < k
      · have := is_le hm (a := z) (b := k) (by omega) (by omega); left; omega
      · by_cases q2 : z = k
        · subst q2
          have hk2 := hk1 z2
          exact Or.inr ⟨z2, by rw [(hN u (is z + 1) hu (by omega) hku hk2).mpr z4]⟩
        · have := is_le hm (a := k + 1) (b := z) (by omega) (by omega); omega
