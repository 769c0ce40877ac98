/-! the row of states: what is told of each name -/
variable {T N : Nat} {kd vl rv : Nat → Int} {pl : Nat → Nat}
/-- the number that an item gets -/
def inum (kd : Nat → Int) (is : Nat → Nat) (z : Nat) : Nat := if kd (is z) ≤ 232 then cN kd is (qOf (kd (is z))) z + 1 else cN kd is (qOf (kd (is z))) z
theorem qOf_lt {k : Int} : qOf k < 7 := by
  unfold qOf
  repeat' split
  all_goals omega
theorem cN_0 {is : Nat → Nat} {q : Nat} : cN kd is q 0 ≤ 0 + 11 := by
  unfold cN
  repeat' split
  all_goals omega
theorem row_cnt {σs : MS} {Γs : HS} {c : Nat} {ls is : Nat → Nat} {S : Nat → MS} (hS : ROW T N kd vl rv pl σs Γs c ls is S) (h0 : ∀ q, q < 7 → (S 0).1 (fcq q) = J (cN kd is q 0 : Nat)) : ∀ z, z ≤ c → ∀ q, q < 7 → (S z).1 (fcq q) = J (cN kd is q z : Nat) := by
  intro z
  induction z with
  | zero => intro _; exact h0
  | succ z ih =>
    intro hz q hq
    have h1 := (hS z (by omega)).2.1.2.2.2.2.2.2 q hq
    rw [h1, ih (by omega) q hq, cN_s]
    split
    · rw [J_lit, J_add]; rfl
    · rfl
theorem row_keep {σs : MS} {Γs : HS} {c : Nat} {ls is : Nat → Nat} {S : Nat → MS} (hS : ROW T N kd vl rv pl σs Γs c ls is S) {y a : Nat} (h : (S a).2 28 y ≠ 0) : ∀ d, a + d ≤ c → (S (a + d)).2 28 y = (S a).2 28 y ∧ (S (a + d)).2 29 y = (S a).2 29 y ∧ (S (a + d)).2 30 y = (S a).2 30 y := by
  intro d
  induction d with
  | zero => intro _; exact ⟨rfl, rfl, rfl⟩
  | succ d ih =>
    intro hd
    obtain ⟨i1, i2, i3⟩ := ih (by omega)
    obtain ⟨j1, j2, j3⟩ := ((hS (a + d) (by omega)).2.1.2.2.2.2.1 y).2 (fun e => h (by rw [← i1]; exact e.2.2))
    rw [show a + (d + 1) = a + d + 1 by omega]
    exact ⟨by rw [j1, i1], by rw [j2, i2], by rw [j3, i3]⟩
theorem row_any {σs : MS} {Γs : HS} {c : Nat} {ls is : Nat → Nat} {S : Nat → MS} (hS : ROW T N kd vl rv pl σs Γs c ls is S) : ∀ k, k ≤ c → ∀ y, (S k).2 28 y ≠ 0 → (S 0).2 28 y ≠ 0 ∨ ∃ z, z < k ∧ kd (is z) ≤ 235 ∧ y = (rv (is z + 1)).toNat := by
  intro k
  induction k with
  | zero => intro _ y hy; exact Or.inl hy
  | succ k ih =>
    intro hk y hy
    rcases ((hS k (by omega)).2.1.2.2.2.1 y).mp hy with h | ⟨h1, h2⟩
    · rcases ih (by omega) y h with h | ⟨z, z1, z2⟩
      · exact Or.inl h
      · exact Or.inr ⟨z, by omega, z2⟩
    · exact Or.inr ⟨k, by omega, h1, h2⟩
/-- in a source without faults each item has told its name first -/
theorem row_itm (hp : plm T pl) {σs : MS} {Γs : HS} {c : Nat} {ls is : Nat → Nat} {S : Nat → MS} (hS : ROW T N kd vl rv pl σs Γs c ls is S) (h0 : ∀ q, q < 7 → (S 0).1 (fcq q) = J (cN kd is q 0 : Nat)) (hm : ∀ z, z < c → is z < is (z + 1)) (hi : is c ≤ T) (hfl : (flt (S c)).1 = 0) {z : Nat} (hz : z < c) (hk : 230 ≤ kd (is z) ∧ kd (is z) ≤ 235) : (S z).2 28 (rv (is z + 1)).toNat = 0 ∧ (S c).2 28 (rv (is z + 1)).toNat = J (kd (is z) - 229) ∧ (S c).2 29 (rv (is z + 1)).toNat = J (inum kd is z : Nat) ∧ (S c).2 30 (rv (is z + 1)).toNat = J (ls z : Nat) := by
  have h1 := row_nGe hp (k := 0) (c := c) (fun z _ hz => hS z hz) hm hi (c - (z + 1)) (z + 1) (by omega) (by omega)
  have h2 := nGe_0 h1 hfl
  obtain ⟨n1, n2, -⟩ := (hS z hz).2.1.2.2.2.2
  have h3 := (n2 h2).1 hk.2
  obtain ⟨a1, a2, a3⟩ := (n1 (rv (is z + 1)).toNat).1 ⟨hk.2, rfl, h3⟩
  have hcn := row_cnt hS h0 z (by omega) (qOf (kd (is z))) qOf_lt
  have ne : (S (z + 1)).2 28 (rv (is z + 1)).toNat ≠ 0 := by
    rw [a1, show (0 : Int32) = J 0 from rfl]
    intro e
    rw [J_eq (by omega) (by omega) (by omega) (by omega)] at e; omega
  obtain ⟨b1, b2, b3⟩ := row_keep hS ne (c - (z + 1)) (by omega)
  rw [show z + 1 + (c - (z + 1)) = c by omega] at b1 b2 b3
  refine ⟨h3, by rw [b1, a1], ?_, by rw [b3, a3]⟩
  rw [b2, a2, hcn]
  unfold inum
  split
  · rw [J_lit, J_add]; rfl
  · rfl
/-- in a source without faults no more is told than there may be -/
theorem row_lim (hp : plm T pl) {σs : MS} {Γs : HS} {c : Nat} {ls is : Nat → Nat} {S : Nat → MS} (hS : ROW T N kd vl rv pl σs Γs c ls is S) (h0 : ∀ q, q < 7 → (S 0).1 (fcq q) = J (cN kd is q 0 : Nat)) (hm : ∀ z, z < c → is z < is (z + 1)) (hi : is c ≤ T) (hfl : (flt (S c)).1 = 0) (hc : c ≤ 4500) {z : Nat} (hz : z < c) : cN kd is (qOf (kd (is z))) z < limK (kd (is z)) := by
  have h1 := row_nGe hp (k := 0) (c := c) (fun z _ hz => hS z hz) hm hi (c - (z + 1)) (z + 1) (by omega) (by omega)
  obtain ⟨c', e1, e2⟩ := ((hS z hz).2.1.2.2.2.2.2.1 (nGe_0 h1 hfl)).2
  obtain ⟨c2, d1, d2⟩ : ∃ c2 : Nat, c2 ≤ z + 11 ∧ cN kd is (qOf (kd (is z))) z = c2 := by
    refine ⟨_, ?_, rfl⟩
    have : ∀ q n, cN kd is q n ≤ n + 11 := by
      intro q n
      induction n with
      | zero => exact cN_0
      | succ n ih => rw [cN_s]; split <;> omega
    exact this _ _
  have hl : limK (kd (is z)) ≤ 200 := by
    unfold limK
    repeat' split
    all_goals omega
  rw [row_cnt hS h0 z (by omega) _ qOf_lt, J_eq (by omega) (by omega) (by omega) (by omega)] at e1
  omega
