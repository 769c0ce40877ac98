/-! laying's join: the items' steps -/
variable {T N : Nat} {kd vl rv : Nat → Int} {pl : Nat → Nat}
theorem cN_ne {is : Nat → Nat} {q z : Nat} (h : q ≠ qOf (kd (is z))) : cN kd is q (z + 1) = cN kd is q z := if_neg h
theorem cN_eq {is : Nat → Nat} {q z : Nat} (h : q = qOf (kd (is z))) : cN kd is q (z + 1) = cN kd is q z + 1 := if_pos h
theorem qOf_no0 {k : Int} (h : 233 ≤ k) : 0 ≠ qOf k := by
  intro c
  unfold qOf at c
  rw [if_neg (by omega), if_neg (by omega)] at c
  split at c
  · omega
  · split at c
    · omega
    · split at c
      · omega
      · split at c <;> omega
theorem qOf_no1 {k : Int} (h : 233 ≤ k) : 1 ≠ qOf k := by
  intro c
  unfold qOf at c
  rw [if_neg (by omega), if_neg (by omega)] at c
  split at c
  · omega
  · split at c
    · omega
    · split at c
      · omega
      · split at c <;> omega
/-- objects to come are as they were cleared -/
def CLZ (kd : Nat → Int) (is : Nat → Nat) (z : Nat) (ρ : MS) : Prop := ∀ n, cN kd is 0 z < n → n ≤ 120 → ρ.2 122 n = 0 ∧ ρ.2 52 n = 0 ∧ ∀ y, y < 7 → ρ.2 51 (7 * n + y) = 0 ∧ ρ.2 53 (7 * n + y) = 0
/-- the words of the owners so far, in both -/
def WRD (kd : Nat → Int) (is : Nat → Nat) (z : Nat) (ρ : MS) (Γ : HS) (ow : Nat → List (List Int)) : Prop := (∃ W, WSO Γ W ow ∧ W.length + 71 ≤ 10 * cN kd is 0 z + 11 * cN kd is 1 z) ∧ WOB ρ ow ∧ (∀ n, cN kd is 0 z < n → n ≤ 120 → (ow n).length = 0) ∧ ∀ v, cN kd is 1 z < v → v ≤ 60 → (ow (120 + v)).length = 0
def LJI (T : Nat) (kd vl rv : Nat → Int) (m : Nat) (nm : Nat → List Int) (Θ : HS) (σs : MS) (is : Nat → Nat) (z : Nat) (ρ : MS) : Prop := (AGM σs ρ ∧ KE T kd vl rv Θ ρ ∧ rnam m nm ρ) ∧ (ρ.1 83 = J (cN kd is 5 z : Nat) ∧ ρ.1 84 = J (cN kd is 6 z : Nat)) ∧ (0 < cN kd is 3 z → ρ.2 77 (cN kd is 3 z) = J (smA kd vl is z)) ∧ CLZ kd is z ρ
theorem WRD_same {is : Nat → Nat} {z : Nat} {ρ ρ' : MS} {Γ E : HS} {ow : Nat → List (List Int)} (h : WRD kd is z ρ Γ ow) (c0 : cN kd is 0 (z + 1) = cN kd is 0 z) (c1 : cN kd is 1 (z + 1) = cN kd is 1 z) (e9 : (E 4).2.1 9 = (Γ 4).2.1 9) (e10 : (E 4).2.1 10 = (Γ 4).2.1 10) (e7 : E 7 = Γ 7) (hr : ∀ k, 54 ≤ k → k ≤ 56 → ρ'.2 k = ρ.2 k) : WRD kd is (z + 1) ρ' E ow := by
  obtain ⟨⟨W, h1, h2⟩, h3, h4, h5⟩ := h
  unfold WRD
  rw [c0, c1]
  refine ⟨⟨W, WSO_pre h1 (DOK_r h1.1.1 e7) PRE_rfl e9 e10, h2⟩, ?_, h4, h5⟩
  unfold WOB RW at h3 ⊢
  rw [hr 54 (by omega) (by omega), hr 55 (by omega) (by omega), hr 56 (by omega) (by omega)]; exact h3
theorem CLZ_same {is : Nat → Nat} {z : Nat} {ρ ρ' : MS} (h : CLZ kd is z ρ) (c0 : cN kd is 0 (z + 1) = cN kd is 0 z) (e : ∀ k, k = 51 ∨ k = 52 ∨ k = 53 ∨ k = 122 → ρ'.2 k = ρ.2 k) : CLZ kd is (z + 1) ρ' := by
  unfold CLZ at h ⊢
  rw [c0, e 51 (by omega), e 52 (by omega), e 53 (by omega), e 122 (by omega)]; exact h
/-- a def, an on or an each: what else stays -/
theorem LJI_rest {m : Nat} {nm : Nat → List Int} {Θ : HS} {σs ρ ρ' : MS} {is : Nat → Nat} {z : Nat} (h : LJI T kd vl rv m nm Θ σs is z ρ) (hk : 233 ≤ kd (is z) ∧ kd (is z) ≤ 237) (ea : ∀ k, k ≤ 53 ∨ k = 122 → ρ'.2 k = ρ.2 k) (e13 : ρ'.1 13 = ρ.1 13) (h83 : ρ'.1 83 = J (cN kd is 5 (z + 1) : Nat)) (h84 : ρ'.1 84 = J (cN kd is 6 (z + 1) : Nat)) (h77 : 0 < cN kd is 3 (z + 1) → ρ'.2 77 (cN kd is 3 (z + 1)) = J (smA kd vl is (z + 1))) : LJI T kd vl rv m nm Θ σs is (z + 1) ρ' := by
  have q0 : cN kd is 0 (z + 1) = cN kd is 0 z := cN_ne (qOf_no0 hk.1)
  exact ⟨ly_keep (fun k hk2 => ea k (by omega)) e13 h.1, ⟨h83, h84⟩, h77, CLZ_same h.2.2.2 q0 (fun k hk2 => ea k (by omega))⟩
