/-! the scope, in both -/
variable {nO nV nC : Nat} {room : Nat → Bool}
/-- held by the player, by however many -/
def byN (pa : Nat → Nat) : Nat → Nat → Bool
  | 0, _ => false
  | k + 1, x => if pa x = 0 then false else if pa x = 1 then true else byN pa k (pa x)
theorem sig_by {pa : Nat → Nat} {hid shw : Nat → Bool} {he : Nat} (h1 : he ≠ 1) (h0 : pa he = 0) : ∀ k x, sigN pa hid shw he k x ≠ 0 → (sigN pa hid shw he k x = 1 ↔ byN pa k x = true) := by
  intro k
  induction k with
  | zero => intro x h; exact absurd rfl h
  | succ k ih =>
    intro x h
    unfold sigN at h ⊢
    unfold byN
    by_cases q0 : x = 0
    · rw [if_pos q0] at h; exact absurd rfl h
    rw [if_neg q0] at h ⊢
    by_cases q1 : hid x = true
    · rw [if_pos q1] at h; exact absurd rfl h
    rw [if_neg q1] at h ⊢
    by_cases q2 : pa x = 1
    · rw [if_pos (Or.inl q2), if_neg (by omega), if_pos q2]; exact ⟨fun _ => rfl, fun _ => q2⟩
    by_cases q3 : pa x = he
    · rw [if_pos (Or.inr q3)] at h ⊢
      rw [if_neg h, if_neg q2]
      refine ⟨fun hh => absurd hh q2, fun hh => ?_⟩
      exfalso
      rw [q3] at hh
      cases k with
      | zero => cases hh
      | succ k =>
        unfold byN at hh
        rw [if_pos h0] at hh; cases hh
    · rw [if_neg (by omega)] at h ⊢
      by_cases q4 : shw (pa x) = true
      · rw [if_pos q4] at h ⊢
        have p0 : pa x ≠ 0 := fun e => h (by rw [e, sigN_0])
        rw [if_neg p0, if_neg q2]
        exact ih (pa x) h
      · rw [if_neg q4] at h; exact absurd rfl h
theorem by_fuel {pa : Nat → Nat} (h0 : pa 0 = 0) : ∀ k x, upP pa k x = 0 → ∀ j, byN pa (k + j) x = byN pa k x := by
  intro k
  induction k with
  | zero =>
    intro x hx j
    have hx : x = 0 := hx
    subst hx
    rw [Nat.zero_add]
    cases j with
    | zero => rfl
    | succ j => unfold byN; rw [if_pos h0]
  | succ k ih =>
    intro x hx j
    rw [show k + 1 + j = (k + j) + 1 by omega]
    show (if pa x = 0 then false else if pa x = 1 then true else byN pa (k + j) (pa x)) = _
    rw [ih (pa x) hx j]; rfl
theorem r_by {σ : MS} {Γ : HS} {pa fi nx : Nat → Nat} {ch : Nat → List Nat} {tr : Nat → Nat} (h : PLT nO room nV nC σ Γ pa fi nx ch tr) : ∀ k x, upP pa k x = 0 → x ≤ nO → ∀ d, k < d → gP d 0 (J (x : Nat)) 0 0 σ = some (if byN pa d x = true then 1 else 0, σ) := by
  have t := h.1
  have tn := t.1
  have step : ∀ d x, x ≤ nO → (pa x ≠ 0 → gP d 0 (J (pa x : Nat)) 0 0 σ = some (if byN pa d (pa x) = true then 1 else 0, σ)) → gP (d + 1) 0 (J (x : Nat)) 0 0 σ = some (if byN pa (d + 1) x = true then 1 else 0, σ) := by
    intro d x hx ih
    have px := t.2.2.2.1 x
    have e1 : gP (d + 1) 0 (J (x : Nat)) 0 0 σ = F_X12_byPlayer (gP d) (J (x : Nat)) σ := rfl
    rw [e1]
    unfold F_X12_byPlayer byN
    rw [if_neg (g121 (x := x) (by omega)), J_natN (by omega), (h.2.1 x (by omega)).1, bndE]
    by_cases q3 : pa x = 0
    · rw [if_pos (show J (pa x : Nat) = 0 by rw [q3]; rfl), if_pos q3]; rfl
    rw [if_neg (show ¬ J (pa x : Nat) = 0 by rw [J_z0 (by omega)]; exact q3), if_neg q3]
    by_cases q4 : pa x = 1
    · rw [if_pos (show J (pa x : Nat) = 1 by rw [q4]; rfl), if_pos q4]; rfl
    rw [if_neg (show ¬ J (pa x : Nat) = 1 by rw [show (1 : Int32) = J ((1 : Nat) : Int) from rfl, J_eqN (by omega) (by omega)]; exact q4), if_neg q4, ih q3, Option.bind_some]
    by_cases q7 : byN pa d (pa x) = true
    · rw [if_pos q7]; rfl
    · rw [if_neg q7]; rfl
  intro k
  induction k with
  | zero =>
    intro x hx hn d hd
    obtain ⟨d, rfl⟩ : ∃ m, d = m + 1 := ⟨d - 1, by omega⟩
    have hx : x = 0 := hx
    subst hx
    exact step d 0 (by omega) (fun hp => absurd t.2.2.2.2.1.1 hp)
  | succ k ih =>
    intro x hx hn d hd
    obtain ⟨d, rfl⟩ : ∃ m, d = m + 1 := ⟨d - 1, by omega⟩
    exact step d x hn (fun _ => ih (pa x) hx (t.2.2.2.1 x) d (by omega))
/-- what may be spoken of, in the reference -/
theorem r_scope {σ : MS} {Γ : HS} {pa fi nx : Nat → Nat} {ch : Nat → List Nat} {tr : Nat → Nat} (h : PLT nO room nV nC σ Γ pa fi nx ch tr) (hr : ∀ x, x ≤ 120 → σ.2 50 x = if room x = true then 1 else 0) {x : Nat} (hx : x ≤ nO) (light : Bool) : F_X12_inScope (J (x : Nat)) (if light = true then 1 else 0) σ = some (if scpB pa tr light x = true then 1 else 0, σ) := by
  have t := h.1
  have tn := t.1
  have p1 := h.2.2.2.2.2.2.2.2.2.2.1
  have pn := t.2.2.2.1 1
  have hs := seen_sig h x
  have hb := sig_by (pa := pa) (hid := trB tr 2) (shw := shB tr) (he := pa 1) (fun e => by have := p1.2.1; rw [e, p1.2.2.1] at this; cases this) (h.2.2.2.2.2.2.2.2.2.1 _ p1.2.1) 121 x
  have up := TR_up t hx
  have e1 := by_fuel (pa := pa) t.2.2.2.2.1.1 nO x up (123 - nO)
  have e2 := by_fuel (pa := pa) t.2.2.2.2.1.1 nO x up (121 - nO)
  rw [show nO + (123 - nO) = 123 by omega] at e1
  rw [show nO + (121 - nO) = 121 by omega] at e2
  have eb : G_X12_byPlayer (J (x : Nat)) σ = some (if byN pa 121 x = true then 1 else 0, σ) := by
    unfold G_X12_byPlayer
    rw [r_by h nO x up hx 123 (by omega), e1, e2]
  unfold F_X12_inScope scpB
  by_cases q1 : x = 1
  · rw [if_pos (show J (x : Nat) = 1 by rw [q1]; rfl), q1]; rfl
  have b1 : (x == 1) = false := by simpa using q1
  rw [if_neg (show ¬ J (x : Nat) = 1 by rw [show (1 : Int32) = J ((1 : Nat) : Int) from rfl, J_eqN (by omega) (by omega)]; exact q1), b1, r_isSeen h hr hx, Option.bind_some]
  generalize sigN pa (trB tr 2) (shB tr) (pa 1) 121 x = s at hs hb ⊢
  by_cases q2 : seenB pa room tr x = true
  · have s0 : s ≠ 0 := hs.mpr q2
    have hb := hb s0
    have b3 : (s != 0) = true := by simpa using s0
    rw [if_pos q2]
    dsimp only
    rw [if_neg (by decide), b3]
    cases light with
    | true =>
      have e : ((if true = true then (1 : Int32) else 0)) = 1 := rfl
      rw [e, if_neg (by decide)]
      by_cases q3 : s = 1
      · rw [q3]; rfl
      · have b2 : (s == 1) = false := by simpa using q3
        rw [b2]; rfl
    | false =>
      have e : ((if false = true then (1 : Int32) else 0)) = 0 := rfl
      rw [e, if_pos rfl, eb, Option.bind_some]
      by_cases q3 : s = 1
      · rw [if_pos (hb.mp q3), q3]; rfl
      · have b2 : (s == 1) = false := by simpa using q3
        rw [if_neg (fun hh => q3 (hb.mpr hh)), b2]; rfl
  · have s0 : s = 0 := Classical.byContradiction fun hh => q2 (hs.mp hh)
    rw [if_neg q2, s0]
    cases light <;> rfl
