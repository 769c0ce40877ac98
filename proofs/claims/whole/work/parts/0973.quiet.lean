/-! the words of expressions and statements: what they can not be -/
variable {T N : Nat} {kd vl rv : Nat → Int} {pl : Nat → Nat}
/-- a word of an expression -/
def qk (k : Int) : Prop := k ≠ 59 ∧ k ≠ 61 ∧ k ≠ 123 ∧ k ≠ 125 ∧ ¬ (230 ≤ k ∧ k ≤ 240) ∧ k ≠ 242 ∧ k ≠ 251 ∧ k ≠ 252 ∧ k ≠ 0 ∧ k ≠ 1
theorem LST_all {σ : MS} {E : Nat → Nat → Nat → Nat → Nat → Nat → Nat → Prop} {P : Nat → Prop} {sep lo hi c i j p q : Nat} {f : Int} (h : LST kd σ E sep lo hi f c i j p q) (hs : sep ≤ 1) (hE : ∀ lo hi x i j p q, E lo hi x i j p q → ∀ t, i ≤ t → t < j → P t) (h44 : ∀ t, kd t = 44 → P t) : ∀ t, i ≤ t → t < j → P t := by
  obtain ⟨xs, ls, is, js, ps, b1, b2, b3, b4, b5, b6, b7, b8, b9, b10, b11⟩ := h
  have key : ∀ k, k ≤ c → ∀ t, is 0 ≤ t → t < is k → P t := by
    intro k
    induction k with
    | zero => intro _ t h1 h2; omega
    | succ k ih =>
      intro hk t h1 h2
      have b9k := b9 k (by omega)
      by_cases q1 : t < is k
      · exact ih (by omega) t h1 q1
      · by_cases q2 : t < js k
        · exact hE _ _ _ _ _ _ _ (b4 k (by omega)).2.2 t (by omega) q2
        · rw [b9k.2] at h2
          split at h2
          · rename_i h3
            have : t = js k := by omega
            subst this
            exact h44 _ (b11 k h3 (by omega))
          · omega
  intro t h1 h2
  exact key c (Nat.le_refl c) t (by omega) (by omega)
theorem EXP_quiet {σ : MS} {Γ : HS} : ∀ (n lo hi x i j p q : Nat), EXP kd vl rv pl σ Γ n lo hi x i j p q → ∀ t, i ≤ t → t < j → qk (kd t) := by
  intro n
  induction n using Nat.strongRecOn with
  | _ n ih =>
    intro lo hi x i j p q h t h1 h2
    unfold EXP at h
    obtain ⟨b0, b1, b2, b3, b4, h⟩ := h
    have one : ∀ (s : Nat), t = s → (∀ k, kd s = k → qk k) → qk (kd t) := fun s hs hk => by subst hs; exact hk _ rfl
    rcases h with ⟨a1, a2, -⟩ | ⟨a1, a2, -⟩ | ⟨n', hn, f, c, j', q', a1, a2, a3, a4, a5, a6, a7, a8, a9, a10, a11, a12⟩ | ⟨n', hn, y, j', q', a1, a2, a3, a4, a5, a6, a7, a8, a9, a10, a11⟩ | ⟨n', hn, j', lo', a1, a2, a3, a4, a5⟩ | ⟨w, o, a1, a2, -⟩ | ⟨a1, a2, -⟩ | ⟨n', hn, w, o, y, q', lo', hi', a1, a2, a3, a4, a5, a6, a7, a8, a9⟩ | ⟨n1, hn1, n2, hn2, w, o, y, z, k, r, q', mm, a1, a2, a3, a4, a5, a6, a7, a8, a9, a10⟩ | ⟨n1, hn1, n2, hn2, w, d, o, y, z, k, r, q', mm, a1, a2, a3, a4, a5, a6, a7, a8, a9, a10⟩ | ⟨n', hn, y, k, q', a1, a2, a3, a4, a5, a6, a7, a8, a9, a10⟩
    · rw [show t = i by omega, a1]; unfold qk; omega
    · rw [show t = i by omega, a1]; unfold qk; omega
    · by_cases q1 : t = i
      · rw [q1, a1]; unfold qk; omega
      · by_cases q2 : t = i + 1
        · rw [q2, a2]; unfold qk; omega
        · by_cases q3 : t = j'
          · rw [q3, a3]; unfold qk; omega
          · exact LST_all a12 (by omega) (fun lo hi x i j p q h => ih n' (by omega) lo hi x i j p q h) (fun t ht => by rw [ht]; unfold qk; omega) t (by omega) (by omega)
    · have r := EXP_rng a11
      by_cases q1 : t = i
      · rw [q1, a1]; unfold qk; omega
      · by_cases q2 : t = i + 1
        · rw [q2, a2]; unfold qk; omega
        · by_cases q3 : t = j'
          · rw [q3, a3]; unfold qk; omega
          · exact ih n' (by omega) _ _ _ _ _ _ _ a11 t (by omega) (by omega)
    · by_cases q1 : t = i
      · rw [q1, a1]; unfold qk; omega
      · by_cases q3 : t = j'
        · rw [q3, a2]; unfold qk; omega
        · exact ih n' (by omega) _ _ _ _ _ _ _ a5 t (by omega) (by omega)
    · rw [show t = i by omega]; unfold zTb at a1; unfold qk; omega
    · rw [show t = i by omega, a1]; unfold qk; omega
    · by_cases q1 : t = i
      · rw [q1]; unfold uTb at a1; unfold qk; omega
      · exact ih n' (by omega) _ _ _ _ _ _ _ a9 t (by omega) (by omega)
    · by_cases q1 : t = k
      · rw [q1]; unfold lTb at a1; unfold qk; omega
      · by_cases q2 : t < k
        · exact ih n1 (by omega) _ _ _ _ _ _ _ a9 t (by omega) (by omega)
        · exact ih n2 (by omega) _ _ _ _ _ _ _ a10 t (by omega) (by omega)
    · by_cases q1 : t = k
      · rw [q1]; unfold bTb at a1; unfold qk; omega
      · by_cases q2 : t < k
        · exact ih n1 (by omega) _ _ _ _ _ _ _ a9 t (by omega) (by omega)
        · exact ih n2 (by omega) _ _ _ _ _ _ _ a10 t (by omega) (by omega)
    · by_cases q1 : t = k
      · rw [q1, a1]; unfold qk; omega
      · by_cases q2 : t = k + 1
        · rw [q2]; unfold qk; omega
        · exact ih n' (by omega) _ _ _ _ _ _ _ a10 t (by omega) (by omega)
theorem EX_quiet {σ : MS} {Γ : HS} {lo hi x i j p q : Nat} (h : EX kd vl rv pl σ Γ lo hi x i j p q) : ∀ t, i ≤ t → t < j → qk (kd t) := by
  obtain ⟨n, h, hb⟩ := h; exact EXP_quiet n lo hi x i j p q h
/-- a word that the second going passes by, and the ends of statements -/
def qs (k : Int) : Prop := k ≠ 59 ∧ k ≠ 123 ∧ k ≠ 125 ∧ ¬ (230 ≤ k ∧ k ≤ 240) ∧ k ≠ 242 ∧ k ≠ 0 ∧ k ≠ 1
theorem qs_qk {k : Int} (h : qk k) : qs k := by unfold qk at h; unfold qs; omega
theorem TEL_quiet {σ : MS} {Γ : HS} {lo hi x i j p q : Nat} (h : TEL kd vl rv pl σ Γ lo hi x i j p q) : ∀ t, i ≤ t → t < j → qk (kd t) := by
  obtain ⟨b1, b2, b3, b4, h⟩ := h
  intro t h1 h2
  rcases h with ⟨a1, a2, -⟩ | ⟨y, q', a1, a2, a3, a4, a5, a6⟩ | ⟨y, q', a0, a1, a2, a3, a4, a5, a6⟩
  · rw [show t = i by omega, a1]; unfold qk; omega
  · by_cases q1 : t = i
    · rw [q1, a1]; unfold qk; omega
    · exact EX_quiet a6 t (by omega) (by omega)
  · exact EX_quiet a6 t (by omega) (by omega)
/-- a plain statement but let: no word of it matters to the second going -/
theorem PST_quiet {σ : MS} {Γ : HS} {hi s i j' p q : Nat} (h : PST kd vl rv pl σ Γ hi s i j' p q) : (∀ t, i < t → t < j' → qs (kd t)) ∧ (qs (kd i) ∨ (kd i = 242 ∧ kd (i + 1) = 2 ∧ i + 2 < j' ∧ σ.2 17 s = J 21 ∧ ∃ y : Nat, σ.2 19 s = J y ∧ NMN rv pl σ y (i + 1) ∧ y < hi)) ∧ (kd i ≠ 242 → ∃ w : Int, σ.2 17 s = J w ∧ 0 ≤ w ∧ w < 34 ∧ w ≠ 21 ∧ w ≠ 27 ∧ w ≠ 28) := by
  rcases h with ⟨f, c, a1, a2, a3, a4, a5⟩ | ⟨y, e, q', a1, a2, a3, a4, a5, a6, a7, a8, a9, a10, a11, a12⟩ | ⟨y, e, q', a1, a2, a3, a4, a5, a6, a7, a8, a9, a10, a11⟩ | ⟨y, e, e2, k, m, r, q', a1, a2, a3, a4, a5, a6, a7, a8, a9, a10, a11, a12, a13, a14, a15, a16⟩ | ⟨e, e2, k, m, r, q', a1, a2, a3, a4, a5, a6, a7, a8, a9, a10⟩ | ⟨w, o, e, q', a1, a2, a3, a4, a5, a6⟩ | ⟨d, o, e, k, q', a1, a2, a3, a4, a5, a6, a7, a8, a9, a10, a11⟩ | ⟨w, o, a1, a2, a3, a4, a5⟩ | ⟨f, y, c, k, q', a1, a2, a3, a4, a5, a6, a7, a8, a9, a10, a11, a12, a13, a14, a15⟩
  · refine ⟨fun t h1 h2 => qs_qk (LST_all a5 (by omega) (fun lo hi x i j p q h => TEL_quiet h) (fun t ht => by rw [ht]; unfold qk; omega) t (by omega) h2), Or.inl (by rw [a1]; unfold qs; omega), fun _ => ⟨20, a3, by omega⟩⟩
  · have r := EX_rng a12
    refine ⟨fun t h1 h2 => ?_, Or.inr ⟨a1, a2, by omega, a5, y, a6, a7, a9⟩, fun h => absurd a1 h⟩
    by_cases q1 : t = i + 1
    · rw [q1, a2]; unfold qs; omega
    · by_cases q2 : t = i + 2
      · rw [q2, a3]; unfold qs; omega
      · exact qs_qk (EX_quiet a12 t (by omega) h2)
  · have r := EX_rng a11
    refine ⟨fun t h1 h2 => ?_, Or.inl (by rw [a1]; unfold qs; omega), fun _ => ⟨22, a4, by omega⟩⟩
    by_cases q1 : t = i + 1
    · rw [q1, a2]; unfold qs; omega
    · exact qs_qk (EX_quiet a11 t (by omega) h2)
  · have r1 := EX_rng a15
    have r2 := EX_rng a16
    refine ⟨fun t h1 h2 => ?_, Or.inl (by rw [a1]; unfold qs; omega), fun _ => ⟨23, a6, by omega⟩⟩
    by_cases q1 : t = i + 1
    · rw [q1, a2]; unfold qs; omega
    · by_cases q2 : t < k
      · exact qs_qk (EX_quiet a15 t (by omega) q2)
      · by_cases q3 : t = k
        · rw [q3, a3]; unfold qs; omega
        · by_cases q4 : t = k + 1
          · rw [q4, a4]; unfold qs; omega
          · exact qs_qk (EX_quiet a16 t (by omega) h2)
  · have r1 := EX_rng a9
    have r2 := EX_rng a10
    refine ⟨fun t h1 h2 => ?_, Or.inl (by rw [a1]; unfold qs; omega), fun _ => ⟨24, a4, by omega⟩⟩
    by_cases q2 : t < k
    · exact qs_qk (EX_quiet a9 t (by omega) q2)
    · by_cases q3 : t = k
      · rw [q3, a2]; unfold qs; omega
      · exact qs_qk (EX_quiet a10 t (by omega) h2)
  · refine ⟨fun t h1 h2 => qs_qk (EX_quiet a6 t (by omega) h2), Or.inl (by unfold eTb at a1; unfold qs; omega), fun _ => ⟨w, a3, by unfold eTb at a1; omega⟩⟩
  · have r := EX_rng a11
    refine ⟨fun t h1 h2 => ?_, Or.inl (by unfold gTb at a1; unfold qs; omega), fun _ => ⟨26, a6, by omega⟩⟩
    by_cases q2 : t < k
    · exact qs_qk (EX_quiet a11 t (by omega) q2)
    · rw [show t = k by omega]; unfold qs; omega
  · exact ⟨fun t h1 h2 => absurd h2 (by omega), Or.inl (by unfold dTb at a1; unfold qs; omega), fun _ => ⟨w, a4, by unfold dTb at a1; omega⟩⟩
  · refine ⟨fun t h1 h2 => ?_, Or.inl (by rw [a1]; unfold qs; omega), fun _ => ⟨33, a6, by omega⟩⟩
    by_cases q1 : t = i + 1
    · rw [q1, a2]; unfold qs; omega
    · by_cases q3 : t = k
      · rw [q3, a3]; unfold qs; omega
      · exact qs_qk (LST_all a15 (by omega) (fun lo hi x i j p q h => EX_quiet h) (fun t ht => by rw [ht]; unfold qk; omega) t (by omega) (by omega))
