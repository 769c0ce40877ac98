/-! what is seen; light -/
variable {nO nV nC : Nat} {room : Nat → Bool}
/-- by way of what an object is seen -/
def sigN (pa : Nat → Nat) (hid shw : Nat → Bool) (he : Nat) : Nat → Nat → Nat
  | 0, _ => 0
  | k + 1, x => if x = 0 then 0 else if hid x = true then 0 else if pa x = 1 ∨ pa x = he then pa x else if shw (pa x) = true then sigN pa hid shw he k (pa x) else 0
def snN (pa : Nat → Nat) (room hid shw : Nat → Bool) (he : Nat) : Nat → Nat → Bool
  | 0, _ => false
  | k + 1, x => if hid x = true then false else if room x = true then false else if pa x = 0 then false else if pa x = 1 then true else if pa x = he then true else if room (pa x) = true then false else if snN pa room hid shw he k (pa x) = true then shw (pa x) else false
theorem sigN_0 {pa : Nat → Nat} {hid shw : Nat → Bool} {he : Nat} : ∀ k, sigN pa hid shw he k 0 = 0 := by
  intro k; cases k <;> rfl
theorem sg_sn {pa : Nat → Nat} {hid shw : Nat → Bool} {he : Nat} (hr : ∀ x, room x = true → pa x = 0) (h0 : pa 0 = 0) (hh : 1 ≤ he) : ∀ k x, (sigN pa hid shw he k x ≠ 0 ↔ snN pa room hid shw he k x = true) := by
  intro k
  induction k with
  | zero => intro x; exact ⟨fun h => absurd rfl h, fun h => by cases h⟩
  | succ k ih =>
    intro x
    unfold sigN snN
    by_cases x0 : x = 0
    · subst x0
      rw [if_pos rfl]
      refine ⟨fun h => absurd rfl h, fun h => ?_⟩
      rw [if_pos h0] at h
      split at h
      · cases h
      · split at h <;> cases h
    rw [if_neg x0]
    by_cases q1 : hid x = true
    · rw [if_pos q1, if_pos q1]; exact ⟨fun h => absurd rfl h, fun h => by cases h⟩
    rw [if_neg q1, if_neg q1]
    by_cases q3 : pa x = 0
    · rw [if_pos q3, if_neg (by omega), q3, sigN_0, ite_self]
      refine ⟨fun h => absurd rfl h, fun h => ?_⟩
      split at h <;> cases h
    have q2 : ¬ room x = true := fun h => q3 (hr x h)
    rw [if_neg q2, if_neg q3]
    by_cases q4 : pa x = 1
    · rw [if_pos (Or.inl q4), if_pos q4]; exact ⟨fun _ => rfl, fun _ => q3⟩
    rw [if_neg q4]
    by_cases q5 : pa x = he
    · rw [if_pos (Or.inr q5), if_pos q5]; exact ⟨fun _ => rfl, fun _ => q3⟩
    rw [if_neg (by omega), if_neg q5]
    by_cases q6 : room (pa x) = true
    · rw [if_pos q6]
      have : snN pa room hid shw he k (pa x) ≠ true := by
        cases k with
        | zero => intro h; cases h
        | succ k =>
          unfold snN
          rw [if_pos q6]
          split <;> intro h <;> cases h
      by_cases q7 : shw (pa x) = true
      · rw [if_pos q7]
        exact ⟨fun h => absurd ((ih _).mp h) this, fun h => by cases h⟩
      · rw [if_neg q7]; exact ⟨fun h => absurd rfl h, fun h => by cases h⟩
    rw [if_neg q6]
    by_cases q7 : shw (pa x) = true
    · rw [if_pos q7, ih, q7]
      by_cases q8 : snN pa room hid shw he k (pa x) = true
      · rw [if_pos q8, q8]
      · rw [if_neg q8]; exact ⟨fun h => absurd h q8, fun h => by cases h⟩
    · rw [if_neg q7]
      refine ⟨fun h => absurd rfl h, fun h => ?_⟩
      split at h
      · exact absurd h q7
      · cases h
theorem sn_fuel {pa : Nat → Nat} {hid shw : Nat → Bool} {he : Nat} (h0 : pa 0 = 0) : ∀ k x, upP pa k x = 0 → ∀ j, snN pa room hid shw he (k + j) x = snN pa room hid shw he k x := by
  intro k
  induction k with
  | zero =>
    intro x hx j
    have hx : x = 0 := hx
    subst hx
    rw [Nat.zero_add]
    cases j with
    | zero => rfl
    | succ j =>
      unfold snN
      rw [if_pos h0]
      split
      · rfl
      · split <;> rfl
  | succ k ih =>
    intro x hx j
    rw [show k + 1 + j = (k + j) + 1 by omega]
    show (if hid x = true then false else if room x = true then false else if pa x = 0 then false else if pa x = 1 then true else if pa x = he then true else if room (pa x) = true then false else if snN pa room hid shw he (k + j) (pa x) = true then shw (pa x) else false) = _
    rw [ih (pa x) hx j]; rfl
/-- attributes, read -/
def trB (tr : Nat → Nat) (a x : Nat) : Bool := (tr x).testBit a
def shB (tr : Nat → Nat) (x : Nat) : Bool := trB tr 5 x || (trB tr 0 x && trB tr 4 x)
theorem r_has {σ : MS} {Γ : HS} {pa fi nx : Nat → Nat} {ch : Nat → List Nat} {tr : Nat → Nat} (h : PLT nO room nV nC σ Γ pa fi nx ch tr) {x a : Nat} (hx : x ≤ 120) (ha : a < 7) (p2 : Int32) : F_X12_has (J (x : Nat)) (J (a : Nat)) p2 σ = some (if trB tr a x = true then 1 else 0, σ) := by
  unfold F_X12_has trB
  rw [show (7 : Int32) = J 7 from rfl, J_mul, J_add, show (7 : Int) * (x : Nat) + (a : Nat) = ((7 * x + a : Nat) : Int) by omega, bndE, if_neg (by rw [J_natN (by omega)]; rintro (q | q); exact J_nlt0 (by omega) (by omega) q; omega), J_natN (by omega), (h.2.2.2.1 x hx).2.2 a ha, bndE, if_neg]
  by_cases q : (tr x).testBit a = true
  · rw [if_pos q]; decide
  · rw [if_neg q]; decide
theorem c_bears {σ : MS} {Γ : HS} {pa fi nx : Nat → Nat} {ch : Nat → List Nat} {tr : Nat → Nat} (h : PLT nO room nV nC σ Γ pa fi nx ch tr) {x a : Nat} (hx : x ≤ 120) (ha : a < 7) : F_X6_bears (J (x : Nat)) (J (a : Nat)) Γ = some (if trB tr a x = true then 1 else 0, Γ) := by
  obtain ⟨t1, t2, -⟩ := h.2.2.2.1 x hx
  unfold F_X6_bears trB
  rw [q_g_at_in (by omega) (by omega) (by omega), Int.toNat_natCast, t2, bndE]
  by_cases q : (tr x).testBit a = true
  · rw [if_pos q, if_neg (by rw [J_has ha t1, q]; decide)]
  · rw [if_neg q, if_pos ((J_has ha t1).mpr (by simpa using q))]
theorem bit_shw : ∀ x, x < 128 → (Int32.ofNat x &&& 32 = 0 ↔ x.testBit 5 = false) ∧ (Int32.ofNat x &&& 17 = 17 ↔ (x.testBit 0 = true ∧ x.testBit 4 = true)) := by decide +kernel
theorem c_shows {σ : MS} {Γ : HS} {pa fi nx : Nat → Nat} {ch : Nat → List Nat} {tr : Nat → Nat} (h : PLT nO room nV nC σ Γ pa fi nx ch tr) {x : Nat} (hx : x ≤ 120) : F_X6_showsInside (J (x : Nat)) Γ = some (if shB tr x = true then 1 else 0, Γ) := by
  obtain ⟨t1, t2, -⟩ := h.2.2.2.1 x hx
  have hb := bit_shw (tr x) t1
  have e : J (tr x : Nat) = Int32.ofNat (tr x) := by rw [J_ofNat]
  unfold F_X6_showsInside shB trB
  rw [q_g_at_in (by omega) (by omega) (by omega), Int.toNat_natCast, t2, bndE, e]
  by_cases q5 : (tr x).testBit 5 = true
  · rw [if_neg (by rw [hb.1, q5]; decide), q5]; rfl
  · have q5' : (tr x).testBit 5 = false := by simpa using q5
    rw [if_pos (hb.1.mpr q5'), q5']
    by_cases q : (tr x).testBit 0 = true ∧ (tr x).testBit 4 = true
    · rw [if_pos (hb.2.mpr q), q.1, q.2]; rfl
    · rw [if_neg (fun h => q (hb.2.mp h)), if_neg]
      rw [Bool.false_or, Bool.and_eq_true]; exact q
theorem r_lets {σ : MS} {Γ : HS} {pa fi nx : Nat → Nat} {ch : Nat → List Nat} {tr : Nat → Nat} (h : PLT nO room nV nC σ Γ pa fi nx ch tr) {x : Nat} (hx : x ≤ 120) : F_X12_lets (J (x : Nat)) σ = some (if shB tr x = true then 1 else 0, σ) := by
  unfold F_X12_lets shB
  rw [show (5 : Int32) = J ((5 : Nat) : Int) from rfl, show (0 : Int32) = J ((0 : Nat) : Int) from rfl, show (4 : Int32) = J ((4 : Nat) : Int) from rfl, r_has h hx (by omega), Option.bind_some]
  by_cases q5 : trB tr 5 x = true
  · rw [if_pos q5]
    dsimp only
    rw [if_neg (by decide), q5]; rfl
  · rw [if_neg q5]
    dsimp only
    rw [if_pos (by decide), r_has h hx (by omega), Option.bind_some]
    have q5' : trB tr 5 x = false := by simpa using q5
    by_cases q0 : trB tr 0 x = true
    · rw [if_pos q0]
      dsimp only
      rw [if_neg (by decide), r_has h hx (by omega), Option.bind_some]
      by_cases q4 : trB tr 4 x = true
      · rw [if_pos q4]
        dsimp only
        rw [if_neg (by decide), q5', q0, q4]; rfl
      · have q4' : trB tr 4 x = false := by simpa using q4
        rw [if_neg q4]
        dsimp only
        rw [if_pos (by decide), q5', q0, q4']; rfl
    · have q0' : trB tr 0 x = false := by simpa using q0
      rw [if_neg q0]
      dsimp only
      rw [if_pos (by decide), q5', q0']; rfl
/-- the reference: seen or not -/
theorem r_seen {σ : MS} {Γ : HS} {pa fi nx : Nat → Nat} {ch : Nat → List Nat} {tr : Nat → Nat} (h : PLT nO room nV nC σ Γ pa fi nx ch tr) (hr : ∀ x, x ≤ 120 → σ.2 50 x = if room x = true then 1 else 0) : ∀ k x, upP pa k x = 0 → x ≤ nO → ∀ d, k < d → gN d 0 (J (x : Nat)) 0 0 σ = some (if snN pa room (trB tr 2) (shB tr) (pa 1) d x = true then 1 else 0, σ) := by
  have t := h.1
  have tn := t.1
  have step : ∀ d x, x ≤ nO → (∀ y, y = pa x → pa x ≠ 0 → gN d 0 (J (y : Nat)) 0 0 σ = some (if snN pa room (trB tr 2) (shB tr) (pa 1) d y = true then 1 else 0, σ)) → gN (d + 1) 0 (J (x : Nat)) 0 0 σ = some (if snN pa room (trB tr 2) (shB tr) (pa 1) (d + 1) x = true then 1 else 0, σ) := by
    intro d x hx ih
    have px := t.2.2.2.1 x
    have p1 := t.2.2.2.1 1
    have e1 : gN (d + 1) 0 (J (x : Nat)) 0 0 σ = F_X12_isSeen (gN d) (J (x : Nat)) σ := rfl
    rw [e1]
    unfold F_X12_isSeen snN
    rw [show (2 : Int32) = J ((2 : Nat) : Int) from rfl, r_has h (by omega) (by omega), Option.bind_some]
    by_cases q1 : trB tr 2 x = true
    · rw [if_pos q1, if_pos q1]; rfl
    rw [if_neg q1, if_neg q1]
    dsimp only
    rw [if_pos rfl, if_neg (g121 (x := x) (by omega)), J_natN (by omega), hr x (by omega)]
    by_cases q2 : room x = true
    · rw [if_pos q2, if_pos q2]; rfl
    rw [if_neg q2, if_neg q2, if_pos rfl]
    have g := g121 (x := x) (by omega)
    rw [J_natN (by omega)] at g
    rw [if_neg g, (h.2.1 x (by omega)).1, bndE]
    by_cases q3 : pa x = 0
    · rw [if_pos (show J (pa x : Nat) = 0 by rw [J_z0 (by omega)]; exact q3), if_pos q3]; rfl
    rw [if_neg (show ¬ J (pa x : Nat) = 0 by rw [J_z0 (by omega)]; exact q3), if_neg q3]
    by_cases q4 : pa x = 1
    · rw [if_pos (show J (pa x : Nat) = 1 by rw [q4]; rfl), if_pos q4]; rfl
    rw [if_neg (show ¬ J (pa x : Nat) = 1 by rw [show (1 : Int32) = J ((1 : Nat) : Int) from rfl, J_eqN (by omega) (by omega)]; exact q4), if_neg q4, show (1 : Int32).toNatClampNeg = 1 from rfl, (h.2.1 1 (by omega)).1]
    by_cases q5 : pa x = pa 1
    · rw [if_pos (show J (pa x : Nat) = J (pa 1 : Nat) by rw [q5]), if_pos q5]; rfl
    rw [if_neg (show ¬ J (pa x : Nat) = J (pa 1 : Nat) by rw [J_eqN (by omega) (by omega)]; exact q5), if_neg q5, if_neg (g121 (x := pa x) (by omega)), J_natN (by omega), hr (pa x) (by omega)]
    by_cases q6 : room (pa x) = true
    · rw [if_pos q6, if_pos q6]; rfl
    rw [if_neg q6, if_neg q6, if_pos rfl, ih _ rfl q3, Option.bind_some]
    by_cases q7 : snN pa room (trB tr 2) (shB tr) (pa 1) d (pa x) = true
    · rw [if_pos q7, if_pos q7]
      dsimp only
      rw [if_neg (by decide), r_lets h (by omega), Option.bind_some]
      by_cases q8 : shB tr (pa x) = true
      · rw [if_pos q8]; rfl
      · rw [if_neg q8]; rfl
    · rw [if_neg q7, if_neg q7]; rfl
  intro k
  induction k with
  | zero =>
    intro x hx hn d hd
    obtain ⟨d, rfl⟩ : ∃ m, d = m + 1 := ⟨d - 1, by omega⟩
    have hx : x = 0 := hx
    subst hx
    exact step d 0 (by omega) (fun y hy hp => absurd t.2.2.2.2.1.1 hp)
  | succ k ih =>
    intro x hx hn d hd
    obtain ⟨d, rfl⟩ : ∃ m, d = m + 1 := ⟨d - 1, by omega⟩
    exact step d x hn (fun y hy hp => by rw [hy]; exact ih (pa x) hx (t.2.2.2.1 x) d (by omega))
