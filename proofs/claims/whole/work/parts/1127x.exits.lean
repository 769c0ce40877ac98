/-! where a room's exits lead: the class -/
variable {T N : Nat} {kd vl rv : Nat → Int} {pl : Nat → Nat}
theorem exi_step {Θ : HS} {cl : List Int} {g : Int} {σ : MS} {x hi i j n : Nat} {Γ Δ : HS} (hP : PRT kd rv pl g σ x hi i j) (h : WEF Θ kd vl cl i Γ Δ) (h13 : (Γ 3).1 13 = J (n : Nat)) (hn : 1 ≤ n ∧ n ≤ 120) {d : Nat} (h1 : 1 ≤ d) (h6 : d ≤ 6) : (Δ 4).2.1 6 (6 * n + d - 1) = (Γ 4).2.1 6 (6 * n + d - 1) ∨ (kd i = 239 ∧ (Δ 4).2.1 6 (6 * n + d - 1) = J (nsF Θ vl (i + 2) : Nat)) := by
  obtain ⟨hk, hk2⟩ := PRT_key hP
  by_cases q2 : kd i = 239
  · have hk2 := hk2 q2
    have e : (Δ 4).2.1 6 (6 * n + d - 1) = if 6 * n + d - 1 = 6 * n + (kd (i + 1) - 200).toNat then J (nsF Θ vl (i + 2) : Nat) else (Γ 4).2.1 6 (6 * n + d - 1) := by
      rw [(WEF_exi h q2).1 4 (by omega)]
      unfold exS
      rw [cA4, if_pos rfl, h13, show (J (n : Nat) * 6 + J (kd (i + 1)) - 200 : Int32) = J ((6 * n + (kd (i + 1) - 200).toNat : Nat) : Int) by rw [show (6 : Int32) = J 6 from rfl, show (200 : Int32) = J 200 from rfl, J_mul, J_add, J_sub]; congr 1; omega, gput_at (by omega) (by omega)]
    by_cases e2 : 6 * n + d - 1 = 6 * n + (kd (i + 1) - 200).toNat
    · rw [if_pos e2] at e; exact Or.inr ⟨q2, e⟩
    · rw [if_neg e2] at e; exact Or.inl e
  left
  by_cases q : kd i = 219
  · rw [(WEF_in h q).1 4 (by omega)]
    unfold inS
    rw [cA4, if_neg (by omega)]
  by_cases q1 : kd i = 238
  · rw [(WEF_txt h q1).1 4 (by omega)]
    unfold dsS
    rw [cA4, if_neg (by omega)]
  by_cases q3 : kd i = 240
  · obtain ⟨o, E, -, -, -, a, b⟩ := WEF_wrd h q3
    rw [b.1 4 (by omega), (OWN_fr a).1 6 (by omega) (by omega)]
  · rw [(WEF_trt h (by omega)).1 4 (by omega)]
    unfold IWtrait
    rw [cA4, if_neg (by omega)]
theorem exi_row {Θ : HS} {cl : List Int} {g : Int} {σ : MS} {cc i n : Nat} {xs it : Nat → Nat} {H : Nat → HS} (f6 : ∀ k, k < cc → it k < it (k + 1) ∧ ∃ hi', PRT kd rv pl g σ (xs k) hi' (it k) (it (k + 1))) (f8 : ∀ k, k < cc → WEF Θ kd vl cl (it k) (H k) (H (k + 1))) (h13 : (H 0 3).1 13 = J (n : Nat)) (hn : 1 ≤ n ∧ n ≤ 120) (h0 : ∀ d, 1 ≤ d → d ≤ 6 → (H 0 4).2.1 6 (6 * n + d - 1) = J ((0 : Nat) : Int)) (hit : i ≤ it 0) : ∀ k, k ≤ cc → (H k 3).1 13 = J (n : Nat) ∧ i ≤ it k ∧ ∀ d, 1 ≤ d → d ≤ 6 → ∃ m : Nat, (H k 4).2.1 6 (6 * n + d - 1) = J (m : Nat) ∧ (m = 0 ∨ ∃ u, i ≤ u ∧ u < it k ∧ kd u = 239 ∧ m = nsF Θ vl (u + 2)) := by
  intro k
  induction k with
  | zero => intro _; exact ⟨h13, hit, fun d d1 d2 => ⟨0, h0 d d1 d2, Or.inl rfl⟩⟩
  | succ k ih =>
    intro hk
    obtain ⟨a1, a2, a3⟩ := ih (by omega)
    obtain ⟨b1, hi', b2⟩ := f6 k (by omega)
    refine ⟨by rw [WEF_13 b2 (f8 k (by omega))]; exact a1, by omega, fun d d1 d2 => ?_⟩
    obtain ⟨m, m1, m2⟩ := a3 d d1 d2
    rcases exi_step b2 (f8 k (by omega)) a1 hn d1 d2 with e | ⟨e1, e2⟩
    · refine ⟨m, by rw [e]; exact m1, ?_⟩
      rcases m2 with m2 | ⟨u, u1, u2, u3⟩
      · exact Or.inl m2
      · exact Or.inr ⟨u, u1, by omega, u3⟩
    · exact ⟨_, e2, Or.inr ⟨it k, a2, b1, e1, rfl⟩⟩
/-- a room or thing: what more is known of it -/
def PLX (kd vl : Nat → Int) (Θ : HS) (i j : Nat) (w : Int) (ρ : MS) (E : HS) (n l : Nat) : Prop := ρ.2 50 n = J ((if w = 1 then 1 else 0 : Nat) : Int) ∧ (w = 1 → ρ.2 52 n = 0 ∧ l = 0) ∧ ∀ d, 1 ≤ d → d ≤ 6 → ∃ m : Nat, (E 4).2.1 6 (6 * n + d - 1) = J (m : Nat) ∧ (m = 0 ∨ ∃ u, i ≤ u ∧ u < j ∧ kd u = 239 ∧ m = nsF Θ vl (u + 2))
