/-! all texts are packed -/
variable {T N : Nat} {kd vl rv : Nat → Int} {pl : Nat → Nat}
/-- how many STRINGS stand ahead -/
def strK (kd : Nat → Int) : Nat → Nat
  | 0 => 0
  | t + 1 => strK kd t + if kd t = 4 then 1 else 0
theorem strK_le {kd : Nat → Int} : ∀ t, strK kd t ≤ t := by
  intro t
  induction t with
  | zero => exact Nat.le_refl _
  | succ t ih => unfold strK; split <;> omega
theorem strK_mono {kd : Nat → Int} {t u : Nat} (h : t ≤ u) : strK kd t ≤ strK kd u := by
  induction u with
  | zero => rw [show t = 0 by omega]; exact Nat.le_refl _
  | succ u ih =>
    rcases Nat.lt_or_ge u t with q | q
    · rw [show t = u + 1 by omega]; exact Nat.le_refl _
    · have := ih q
      show _ ≤ strK kd u + _
      omega
theorem strK_yes {kd : Nat → Int} {t : Nat} (h : kd t = 4) : strK kd (t + 1) = strK kd t + 1 := by
  show strK kd t + (if _ then 1 else 0) = _; rw [if_pos h]
theorem strK_no {kd : Nat → Int} {t : Nat} (h : kd t ≠ 4) : strK kd (t + 1) = strK kd t := by
  show strK kd t + (if _ then 1 else 0) = _; rw [if_neg h]; rfl
/-- the STRINGS in the source -/
def SWD (b : Nat → Int) (T : Nat) (kd vl rv : Nat → Int) (pl : Nat → Nat) : Prop := ∀ t, t < T → kd t = 4 → b (pl t) = 34 ∧ 0 ≤ rv t ∧ rv t ≤ 200 ∧ pl t + 1 + (rv t).toNat < pl (t + 1) ∧ (∀ k, k < (rv t).toNat → 32 ≤ b (pl t + 1 + k) ∧ b (pl t + 1 + k) ≤ 126 ∧ b (pl t + 1 + k) ≠ 34) ∧ b (pl t + 1 + (rv t).toNat) = 34 ∧ vl t = strK kd t
/-- a STRING's bytes -/
def sbW (b : Nat → Int) (pl : Nat → Nat) (t k : Nat) : Int := b (pl t + 1 + k)
theorem SWD_of {b : Nat → Int} {L T m : Nat} {nm : Nat → List Int} {cl : List Int} {σ : MS} {Γ : HS} (h : rLex b L T m nm σ) (i : cLex b L T cl Γ) (hL : L ≤ 4095) : SWD b T (jkd b L T Γ) (jvl Γ) (jrv σ) (jpl b L T) := by
  obtain ⟨-, -, -, -, -, -, j1, j2, -⟩ := lex_join h i hL
  obtain ⟨r1, -, ⟨-, -, -, hb⟩, -⟩ := h
  have hs : ∀ t, t ≤ T → strK (jkd b L T Γ) t = strN b L t := by
    intro t
    induction t with
    | zero => intro _; rfl
    | succ t ih =>
      intro ht
      have h1 := ih (by omega)
      have h2 := j2 t (by omega)
      have h3 : jpl b L T t = posW b L t := if_pos (by omega)
      rw [h3] at h2
      show strK _ t + (if _ then 1 else 0) = strN b L t + (if _ then 1 else 0)
      by_cases q : b (posW b L t) = 34
      · rw [if_pos q, if_pos (h2.mpr q), h1]
      · rw [if_neg q, if_neg (fun h => q (h2.mp h)), h1]
  intro t ht hk
  obtain ⟨a1, a2, a3, a4, a5⟩ := j1 t ht hk
  have h3 : jpl b L T t = posW b L t := if_pos (by omega)
  have h4 : jpl b L T (t + 1) = posW b L (t + 1) := if_pos (by omega)
  rw [h3] at a1 a2 a4 a5 ⊢
  rw [h4]
  have e1 : isLt (b (posW b L t)) = false := by rw [a1]; decide
  have e2 : isFg (b (posW b L t)) = false := by rw [a1]; decide
  have e3 : wEnd b L (posW b L t) = endF inStr b L (posW b L t + 1) + 1 := by
    unfold wEnd; rw [if_neg (by rw [e1]; decide), if_neg (by rw [e2]; decide), if_pos a1]
  unfold wOk at a5
  rw [if_neg (by rw [e1]; decide), if_neg (by rw [e2]; decide), if_pos a1] at a5
  have g1 := endF_ge (p := inStr) (b := b) (L := L) (posW b L t + 1)
  have g2 : endF inStr b L (posW b L t + 1) < L := by
    have := a5.1
    unfold byt at this
    split at this
    · assumption
    · omega
  have e4 : b (endF inStr b L (posW b L t + 1)) = 34 := by
    have := a5.1
    unfold byt at this
    rw [if_pos g2] at this
    exact this
  have e5 : (jrv σ t).toNat = endF inStr b L (posW b L t + 1) - posW b L t - 1 := by rw [a2, e3]; omega
  have e6 : posW b L (t + 1) = skp b L (wEnd b L (posW b L t)) := rfl
  have e7 := skp_ge (b := b) (L := L) (wEnd b L (posW b L t))
  refine ⟨a1, by rw [a2]; omega, by rw [a2, e3]; omega, by rw [e5, e6]; omega, fun k hk => ?_, ?_, by rw [a3, hs t (by omega)]⟩
  · obtain ⟨z1, z2⟩ := endF_in (p := inStr) (b := b) (L := L) (i := posW b L t + 1) (show posW b L t + 1 ≤ posW b L t + 1 + k by omega) (by omega)
    have z3 := hb _ z1
    unfold inStr at z2
    rw [Bool.and_eq_true] at z2
    simp only [Bool.not_eq_true', decide_eq_false_iff_not] at z2
    refine ⟨?_, ?_, z2.1⟩ <;> omega
  · rw [e5, show posW b L t + 1 + (endF inStr b L (posW b L t + 1) - posW b L t - 1) = endF inStr b L (posW b L t + 1) by omega]
    exact e4
