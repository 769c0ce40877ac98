/-! the row of states: notes stand at or behind -/
variable {T N : Nat} {kd vl rv : Nat → Int} {pl : Nat → Nat}
theorem row_nGe (hp : plm T pl) {σs : MS} {Γs : HS} {c k : Nat} {ls is : Nat → Nat} {S : Nat → MS} (h : ∀ z, k ≤ z → z < c → aAt T N kd vl rv pl σs Γs is z (ls z) S) (hm : ∀ z, z < c → is z < is (z + 1)) (hi : is c ≤ T) : ∀ d z, z + d = c → k ≤ z → nGe (pl (is z)) (flt (S z)) (flt (S c)) := by
  have mono : ∀ e z, z + e = c → is z ≤ is c := by
    intro e
    induction e with
    | zero => intro z hz; rw [show z = c by omega]; exact Nat.le_refl _
    | succ e ih => intro z hz; exact Nat.le_trans (Nat.le_of_lt (hm z (by omega))) (ih (z + 1) (by omega))
  intro d
  induction d with
  | zero => intro z hz _; rw [show z = c by omega]; exact nGe_rfl
  | succ d ih =>
    intro z hz hk
    have h1 := (h z hk (by omega)).2.1.2.1
    have h2 := ih (z + 1) (by omega) (by omega)
    have h3 := hm z (by omega)
    have h4 := mono d (z + 1) (by omega)
    exact nGe_trans h1 (nGe_le h2 (by have := hp (is z) (is (z + 1)) h3 (by omega); omega))
theorem row_rD0 {σs : MS} {Γs : HS} {c k : Nat} {ls is : Nat → Nat} {S : Nat → MS} (h : ∀ z, k ≤ z → z < c → aAt T N kd vl rv pl σs Γs is z (ls z) S) : ∀ d z, z + d = c → k ≤ z → rD0 (S z) (S c) := by
  intro d
  induction d with
  | zero => intro z hz _; rw [show z = c by omega]; exact rD0_rfl
  | succ d ih =>
    intro z hz hk
    exact rD0_trans (h z hk (by omega)).2.1.1 (ih (z + 1) (by omega) (by omega))
