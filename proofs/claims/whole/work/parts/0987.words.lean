/-! the words of rooms, things, verbs, variables, arrays: the second going -/
variable {T N : Nat} {kd vl rv : Nat → Int} {pl : Nat → Nat}
def qp (k : Int) : Prop := qt k ∧ (qf k ∨ k = 59)
theorem W2_p (hT : TKE T N kd vl rv pl) {Γ : HS} (hc : TKc N kd vl pl Γ) (h16 : (Γ 3).1 16 = J 0) (h9 : (Γ 3).1 9 = J (-1)) {i j : Nat} (hij : i ≤ j) (hj : j ≤ N) (hq : ∀ t, i ≤ t → t < j → qp (kd t)) : CW W2 Γ i Γ j := by
  obtain ⟨d, rfl⟩ : ∃ d, j = i + d := ⟨j - i, by omega⟩
  clear hij
  induction d generalizing i with
  | zero => exact CW_rfl
  | succ d ih =>
    have q0 := hq i (Nat.le_refl i) (by omega)
    have e : F_X4_followScope (J (i : Nat)) Γ = some (J 0, Γ) := by
      rcases q0.2 with h | h
      · exact fs_q hT hc (by omega) h
      · exact fs_semi hT hc (by omega) h h9
    refine CW_trans (W2_f hT hc h16 (show i < N by omega) q0.1 e rfl) ?_
    rw [show i + (d + 1) = i + 1 + d by omega]
    exact ih (i := i + 1) (by omega) (fun t h1 h2 => hq t (by omega) (by omega))
theorem NMS_words {σ : MS} {n c i : Nat} (h : NMS kd rv pl σ n c i) : ∀ t, i ≤ t → t + 1 < i + 2 * c → kd t = 2 ∨ kd t = 44 := by
  intro t h1 h2
  rcases Nat.mod_two_eq_zero_or_one (t - i) with q | q
  · have e : t = i + 2 * ((t - i) / 2) := by omega
    rw [e]; exact Or.inl (h _ (by omega)).2.1
  · have e : t = i + 2 * ((t - i) / 2) + 1 := by omega
    rw [e]; exact Or.inr ((h _ (by omega)).2.2.2 (by omega))
theorem qp_of {k : Int} (h1 : ¬ (230 ≤ k ∧ k ≤ 237)) (h2 : k ≠ 240) (h3 : k ≠ 242) (h4 : k ≠ 123) (h5 : k ≠ 125) : qp k := by
  unfold qp qt qf
  by_cases q : k = 59
  · exact ⟨by omega, Or.inr q⟩
  · exact ⟨by omega, Or.inl (by omega)⟩
theorem PRT_words {g : Int} {σ : MS} {t hi i j : Nat} (h : PRT kd rv pl g σ t hi i j) : (∀ u, i < u → u < j → qp (kd u)) ∧ (kd i ≠ 240 → qp (kd i)) ∧ kd (j - 1) = 59 := by
  obtain ⟨h1, -, h59, h⟩ := h
  have q59 : ∀ u, u = j - 1 → qp (kd u) := fun u hu => by rw [hu, h59]; exact qp_of (by omega) (by omega) (by omega) (by omega) (by omega)
  have q2 : ∀ u, kd u = 2 → qp (kd u) := fun u hu => by rw [hu]; exact qp_of (by omega) (by omega) (by omega) (by omega) (by omega)
  refine ⟨fun u u1 u2 => ?_, fun hk => ?_, h59⟩
  · by_cases e : u = j - 1
    · exact q59 u e
    rcases h with ⟨-, k1, k2, -⟩ | ⟨-, k2, -⟩ | ⟨-, k0, k0', k1, k2, -⟩ | ⟨-, k1, k2, -⟩ | ⟨-, k1, k2, -⟩ | ⟨c, hc, -, k2, -, -, -, -, k3⟩ | ⟨-, -, k2, -⟩
    · obtain rfl : u = i + 1 := by omega
      rw [k1]; exact qp_of (by omega) (by omega) (by omega) (by omega) (by omega)
    · omega
    · by_cases e2 : u = i + 1
      · subst e2; exact qp_of (by omega) (by omega) (by omega) (by omega) (by omega)
      · obtain rfl : u = i + 2 := by omega
        exact q2 _ k1
    · obtain rfl : u = i + 1 := by omega
      rw [k1]; exact qp_of (by omega) (by omega) (by omega) (by omega) (by omega)
    · obtain rfl : u = i + 1 := by omega
      exact q2 _ k1
    · rcases NMS_words k3 u (by omega) (by omega) with h | h
      · exact q2 _ h
      · rw [h]; exact qp_of (by omega) (by omega) (by omega) (by omega) (by omega)
    · omega
  · rcases h with ⟨k0, -⟩ | ⟨⟨-, k0⟩, -⟩ | ⟨⟨-, k0⟩, -⟩ | ⟨⟨-, k0⟩, -⟩ | ⟨⟨-, k0⟩, -⟩ | ⟨c, hc, ⟨-, k0⟩, -⟩ | ⟨⟨-, k0⟩, k1, -⟩
    all_goals first | exact absurd k0 hk | exact qp_of (by omega) (by omega) (by omega) (by omega) (by omega)
/-- what stands between braces outside of routines -/
theorem G0_TK {Γ : HS} (h : G0 T N kd vl pl Γ) : TKc N kd vl pl Γ := h.1
theorem SC_14 {Γ : HS} {s m D : Nat} {ts sl : Nat → Nat} {v : Int32} (h : SC T kd vl Γ s m D ts sl) : SC T kd vl (cI' Γ 3 14 v) s m D ts sl := h
theorem c_brace (hT : TKE T N kd vl rv pl) {Γ Δ : HS} {i j : Nat} (hG : G0 T N kd vl pl Γ) (hi : kd i = 123) (hj : kd (j - 1) = 125) (hij : i + 1 < j) (hjN : j ≤ N) (hin : CW W2 (opM Γ 0 0) (i + 1) Δ (j - 1)) (hΔ : ∃ v : Int32, Δ = cI' (opM Γ 0 0) 3 14 v) : ∃ Θ : HS, CW W2 Γ i Θ j ∧ G0 T N kd vl pl Θ ∧ m3 Δ Θ := by
  obtain ⟨v, hv⟩ := hΔ
  obtain ⟨hc, h16, h9, h12, hS⟩ := hG
  have e1 := fs_open hT hc (show i < N by omega) hi hS (by omega)
  have c1 := W2_f hT hc h16 (show i < N by omega) (by rw [hi]; unfold qt; omega) e1 rfl
  have s1 := opM_SC hS (by omega)
  have hcΔ : TKc N kd vl pl Δ := by rw [hv]; exact m5_TKc (m5_trans (m5_m3 opM_m3) m5_I) hc
  have s2 : SC T kd vl Δ 0 0 (0 + 1) (fun _ => 0) (fun _ => 0) := by rw [hv]; exact SC_14 s1
  have e16 : (Δ 3).1 16 = J 0 := by rw [hv]; exact h16
  have e9 : (Δ 3).1 9 = J (-1) := by rw [hv]; exact h9
  have e12 : (Δ 3).1 12 = J 0 := by rw [hv]; exact h12
  obtain ⟨Θ, f1, f2, f3, f4, f5, f6⟩ := fs_shut hT hcΔ (show j - 1 < N by omega) hj s2 (Nat.le_refl 0) ⟨fun _ => rfl, fun h => by omega⟩
  have c2 := W2_f hT hcΔ e16 (show j - 1 < N by omega) (by rw [hj]; unfold qt; omega) f1 (f2.1 1 (by omega))
  rw [show j - 1 + 1 = j by omega] at c2
  rw [if_pos rfl] at f3 f5
  exact ⟨Θ, CW_trans c1 (CW_trans hin c2), ⟨m3_TKc f2 hcΔ, by rw [m3_16 f2]; exact e16, by rw [f4]; exact e9, f5, f3⟩, f2⟩
