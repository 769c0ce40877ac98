/-! the parts of a room or thing, with all that is known of them -/
variable {T N : Nat} {kd vl rv : Nat → Int} {pl : Nat → Nat}
theorem pl_row2 {Θ : HS} {cl : List Int} {σ : MS} {w : Int} {x hi i j : Nat} {Γ E : HS} (hI : PLC kd rv pl w σ x hi i j) (hk : kd i = 230 ∨ kd i = 231) (hF : FLT Θ kd vl cl i j Γ E) : ∃ (f : Int) (cc : Nat) (xs it lt js : Nat → Nat) (H : Nat → HS), σ.2 20 x = J f ∧ (f = if cc = 0 then -1 else (xs 0 : Int)) ∧ (∀ k, k < cc → σ.2 22 (xs k) = J (if k + 1 < cc then (xs (k + 1) : Int) else -1)) ∧ it 0 = i + 4 ∧ it cc = j - 1 ∧ (∀ k, k < cc → it k < it (k + 1) ∧ ∃ hi', PRT kd rv pl w σ (xs k) hi' (it k) (it (k + 1)) ∧ hi' ≤ hi ∧ x + 3 ≤ xs k) ∧ WEF Θ kd vl cl i Γ (H 0) ∧ (∀ k, k < cc → WEF Θ kd vl cl (it k) (H k) (H (k + 1))) ∧ m3 (H cc) E ∧ (∀ k, k ≤ cc → k + (i + 4) ≤ it k ∧ it k ≤ j - 1) ∧ (∀ k, k < cc → it (k + 1) = js k) ∧ (w = 2 → (∀ k, k < cc → lt k = xs k ∧ P17 kd rv pl σ (xs k) (lt (k + 1)) (it k) (js k)) ∧ (∀ k, k ≤ cc → lt k ≤ hi) ∧ (∀ e, e < cc → lt e ≤ lt (e + 1)) ∧ PWD kd it js cc ∧ lt cc + it 0 ≤ lt 0 + it cc) := by
  obtain ⟨k1, k2, k3, k4, k5, k6, k7, k8, k9, k10, k11, k12, k13, k14, f, cc, k15, xs, lt, it, js, pt, ⟨c0, c1⟩, c2, c3, c4, c5, c6, c7, c8, c9, c10, c11⟩ := hI
  obtain ⟨H, rfl, rfl, hH⟩ := hF
  have es : ∀ k, k < cc → it (k + 1) = js k := fun k hk => by
    rw [(c9 k hk).2]; split <;> omega
  have hrng := LST_rng (fun k hk => ⟨(c4 k hk).1, (c4 k hk).2.1, (c4 k hk).2.2⟩) c9 c10
  have hlt : ∀ k, k ≤ cc → lt k ≤ hi ∧ it k ≤ j - 1 := by
    intro k hk
    have a := hrng (cc - k) k (by omega)
    rw [show k + (cc - k) = cc by omega] at a
    exact ⟨by omega, by omega⟩
  have hlo : ∀ k, k ≤ cc → x + 3 ≤ lt k ∧ k + (i + 4) ≤ it k := by
    intro k hk
    induction k with
    | zero => exact ⟨c2, by omega⟩
    | succ k ih =>
      have a := ih (by omega)
      have b := c4 k (by omega)
      have c := (c9 k (by omega)).1
      have d := es k (by omega)
      exact ⟨by omega, by omega⟩
  refine ⟨f, cc, xs, it, lt, js, fun k => H (it k), k15, c0, c1, c5, c6, fun k hk => ?_, ?_, fun k hk => ?_, ?_, fun k hk => ⟨(hlo k hk).2, (hlt k hk).2⟩, es, ?_⟩
  · have a := c4 k hk
    have b := (c9 k hk).1
    have d := es k hk
    exact ⟨by omega, lt (k + 1), by rw [d]; exact a.2.2.2.2, (hlt (k + 1) (by omega)).1, by have := hlo k (by omega); have := a.2.2.1; omega⟩
  · dsimp only
    rw [c5]
    refine seg_one (fun t t1 t2 => hH t t1 (by omega)) (by omega) (fun t t1 t2 => ?_)
    by_cases e1 : t = i + 1
    · rw [e1, k3]; exact wno_of (by omega)
    by_cases e2 : t = i + 2
    · rw [e2, k4]; exact wno_of (by omega)
    · rw [show t = i + 3 by omega, k5]; exact wno_of (by omega)
  · have a := c4 k hk
    have b := (c9 k hk).1
    have d := es k hk
    have e := hlo k (by omega)
    have e' := hlt (k + 1) (by omega)
    dsimp only
    rw [d]
    exact seg_one (fun t t1 t2 => hH t (by omega) (by omega)) b (fun t t1 t2 => PRT_wno a.2.2.2.2 t t1 t2)
  · have := seg_no (i := j - 1) (j := j) (fun t t1 t2 => hH t (by omega) t2) (fun t t1 t2 => by rw [show t = j - 1 by omega, k6]; exact wno_of (by omega)) 1 (by omega)
    dsimp only
    rw [c6]
    rw [show j - 1 + 1 = j by omega] at this
    exact this
  · rintro rfl
    have hmono : ∀ e, e < cc → lt e ≤ lt (e + 1) := fun e he => by have := c4 e he; omega
    have hnod : ∀ d, d ≤ cc → lt d + it 0 ≤ lt 0 + it d := by
      intro d
      induction d with
      | zero => intro _; exact Nat.le_refl _
      | succ d ih =>
        intro hd
        have h1 := ih (by omega)
        obtain ⟨-, -, e1, -, e3⟩ := c4 d (by omega)
        have h2 := PRT_nodes e3
        have h3 : it (d + 1) = js d := es d (by omega)
        omega
    refine ⟨fun k hk => ?_, fun k hk => (hlt k hk).1, hmono, fun k hk => ?_, hnod cc (Nat.le_refl cc)⟩
    · obtain ⟨-, -, e1, -, e3⟩ := c4 k hk
      exact ⟨e1, PRT_17 e3⟩
    · obtain ⟨-, -, e1, -, e3⟩ := c4 k hk
      obtain ⟨w1, w2, w3⟩ := PRT_words e3
      obtain ⟨g1, g2⟩ := c9 k hk
      refine ⟨g1, es k hk, ?_, w1, w3⟩
      rcases PRT_17 e3 with ⟨h1, h2, cc', h3, h4, h5, h6, h7⟩ | ⟨h1, -⟩
      · exact Or.inl ⟨h1, cc', h3, h4, fun e he => (h7 e he).2.1, fun e he => (h7 e (by omega)).2.2.2 he⟩
      · exact Or.inr ⟨h1, w2 h1⟩
