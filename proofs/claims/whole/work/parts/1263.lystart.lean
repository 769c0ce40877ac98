/-! laying's join: the start -/
variable {T N : Nat} {kd vl rv : Nat → Int} {pl : Nat → Nat}
theorem LJI_0 {b : Nat → Int} {L n m : Nat} {nm : Nat → List Int} {Θ : HS} {σs σ τ ρ : MS} {is : Nat → Nat} (h : AGM σs σ ∧ KE T kd vl rv Θ σ ∧ rnam m nm σ) (h0 : LY0 b L n σ τ) (hv : LYV τ ρ) : LJI T kd vl rv m nm Θ σs is 0 ρ := by
  obtain ⟨⟨-, -, -, -, -, -, -, a83, a84, -⟩, a2, a3, -, -, -, z1, z2⟩ := h0
  obtain ⟨v1, v2, -⟩ := hv
  refine ⟨ly_keep (fun k hk => ?_) ?_ h, ⟨by rw [v1, a83]; rfl, by rw [v1, a84]; rfl⟩, fun hh => absurd hh (Nat.lt_irrefl 0), fun x x1 x2 => ?_⟩
  · rw [v2 k (by omega), a3 k (by omega) (by omega) (by omega) (by unfold lyS; omega)]
  · rw [v1, a2 13 (by omega) (by omega) (by omega) (by omega)]
  · obtain ⟨y1, -, -, y4, -⟩ := z1 x (by omega)
    rw [v2 122 (by omega), v2 52 (by omega), v2 51 (by omega), v2 53 (by omega)]
    exact ⟨y4, y1, fun y hy => z2 (7 * x + y) (by omega)⟩
theorem wsz_me : wsz [109, 101] = 2 := by decide +kernel
theorem wmn_me : wmn [109, 101] = 2 := by decide +kernel
theorem WOB_0 {b : Nat → Int} {L n : Nat} {σ τ ρ : MS} (h0 : LY0 b L n σ τ) (hv : LYV τ ρ) : WOB ρ (owS 11) := by
  obtain ⟨-, -, -, -, -, -, z1, z2⟩ := h0
  obtain ⟨-, -, -, -, -, v1, v2, v3, v4⟩ := hv
  intro o o1 o2
  by_cases c : o = 1
  · have e : owS 11 o = [[109, 101]] := if_pos c
    rw [e]
    refine ⟨by rw [v4, c, upd_s, if_pos rfl]; rfl, fun i hi => ?_⟩
    have hi0 : i = 0 := by
      have : i < 1 := hi
      omega
    rw [hi0, c]
    show RW 54 55 ρ 10 [109, 101]
    refine ⟨by rw [v3, wsz_me], fun k hk => ?_⟩
    rw [wmn_me] at hk
    obtain rfl | rfl : k = 0 ∨ k = 1 := by omega
    · exact v1
    · exact v2
  · have e : owS 11 o = [] := by
      unfold owS
      rw [if_neg c, if_neg (by omega)]
    rw [e]
    refine ⟨by rw [v4, upd_s, if_neg c]; exact (z1 o (by omega)).2.1, fun i hi => absurd hi (Nat.not_lt_zero _)⟩
theorem jnW_low : ∀ v, v < 12 → ∀ k, k < 2 → k < (jnW v).length → lowB ((jnW v).getD k 0) = true := by decide +kernel
theorem jnW_2 : ∀ v, v < 12 → (jnW v).length ≤ 2 := by decide +kernel
/-- the verbs that every story has, as laid -/
theorem VBF_0 {τ ρ : MS} (hv : LYV τ ρ) {v : Nat} (h1 : 1 ≤ v) (h2 : v ≤ 10) : VBF ρ v (vwL.getD (v - 1) []) (bform v) (jnW v) := VBF_of (hv.2.2.1 v h1 h2) (jnW_ok v (by omega)) (fun k hk => jnW_low v (by omega) k (by have := jnW_2 v (by omega); omega) hk)
