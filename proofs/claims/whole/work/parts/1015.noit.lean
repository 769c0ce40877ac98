/-! the words that begin items stand nowhere else -/
variable {T N : Nat} {kd vl rv : Nat → Int} {pl : Nat → Nat}
def noI (k : Int) : Prop := ¬ (230 ≤ k ∧ k ≤ 237)
theorem qs_noI {k : Int} (h : qs k) : noI k := by unfold qs at h; unfold noI; omega
theorem qk_noI {k : Int} (h : qk k) : noI k := qs_noI (qs_qk h)
theorem qp_noI {k : Int} (h : qp k) : noI k := by unfold qp qt at h; unfold noI; omega
theorem STX_noI {σ : MS} {Γ : HS} : ∀ (n g lo hi x i j p q : Nat), STX kd vl rv pl σ Γ n g lo hi x i j p q → ∀ t, i ≤ t → t < j → noI (kd t) := by
  intro n
  induction n with
  | zero => intro g lo hi x i j p q h; exact absurd h (by simp [STX])
  | succ n ih =>
    intro g lo hi x i j p q h t t1 t2
    have one : ∀ {s : Nat} {k : Int}, t = s → kd s = k → ¬ (230 ≤ k ∧ k ≤ 237) → noI (kd t) := fun e1 e2 e3 => by rw [e1, e2]; exact e3
    unfold STX at h
    obtain ⟨b1, b2, b3, b4, h⟩ := h
    rcases h with ⟨g0, hpq, h18, h⟩ | ⟨g1, f, c, j', a1, a2, a3, a4, a5, a6⟩ | ⟨g2, a0, e, b, k, k2, m3, m2, r, r2, t', a1, a2, a3, a4, a5, a6, ⟨lo', a7, a8⟩, a9, a10⟩ | ⟨g', g3, a1⟩
    · rcases h with ⟨j', a1, a2, a3⟩ | ⟨a1, a2, a3⟩ | ⟨e, b, k, m3, r, q', a1, a2, a3, a4, a5, a6, a7, a8, a9, a10, a11⟩
      · obtain ⟨z1, z2, -⟩ := PST_quiet a3
        by_cases q1 : t = j'
        · exact one q1 a2 (by omega)
        · by_cases q2 : t = i
          · rcases z2 with z2 | ⟨z2, -⟩
            · rw [q2]; exact qs_noI z2
            · exact one q2 z2 (by omega)
          · exact qs_noI (z1 t (by omega) (by omega))
      · by_cases q1 : t = i
        · exact one q1 a1 (by omega)
        · exact ih _ _ _ _ _ _ _ _ a3 t (by omega) t2
      · by_cases q1 : t = i
        · exact one q1 a1 (by omega)
        · by_cases q2 : t < k
          · exact qk_noI (EX_quiet a10 t (by omega) q2)
          · exact ih _ _ _ _ _ _ _ _ a11 t (by omega) t2
    · by_cases q1 : t = i
      · exact one q1 a1 (by omega)
      · by_cases q2 : t = j'
        · exact one q2 a2 (by omega)
        · exact LST_all a6 (by omega) (fun lo hi x i j p q h => ih 0 lo hi x i j p q h) (fun t ht => by unfold noI; omega) t (by omega) (by omega)
    · by_cases q1 : t < k
      · exact qk_noI (EX_quiet a8 t (by omega) q1)
      · by_cases q2 : t < k2
        · exact ih _ _ _ _ _ _ _ _ a9 t (by omega) q2
        · rcases a10 with ⟨c1, c2, -⟩ | ⟨c1, c2, c3, y, c4, ⟨c5, c6, c7⟩ | ⟨c5, c6⟩⟩
          · omega
          · by_cases q3 : t = k2
            · exact one q3 c1 (by omega)
            · by_cases q4 : t = k2 + 1
              · exact one q4 c5 (by omega)
              · exact ih _ _ _ _ _ _ _ _ c7 t (by omega) t2
          · by_cases q3 : t = k2
            · exact one q3 c1 (by omega)
            · exact ih _ _ _ _ _ _ _ _ c6 t (by omega) t2
    · exact ih _ _ _ _ _ _ _ _ a1 t t1 t2
theorem PRT_noI {g : Int} {σ : MS} {t hi i j : Nat} (h : PRT kd rv pl g σ t hi i j) : ∀ u, i ≤ u → u < j → noI (kd u) := by
  intro u u1 u2
  obtain ⟨h1, h2, -⟩ := PRT_words h
  by_cases e : u = i
  · by_cases e2 : kd i = 240
    · rw [e, e2]; unfold noI; omega
    · rw [e]; exact qp_noI (h2 e2)
  · exact qp_noI (h1 u (by omega) u2)
theorem PLC_noI {w : Int} {σ : MS} {x hi i j : Nat} (h : PLC kd rv pl w σ x hi i j) : kd (i + 1) = 2 ∧ ∀ t, i < t → t < j → noI (kd t) := by
  obtain ⟨a1, a2, a3, a4, a5, a6, a7, a8, a9, a10, a11, a12, a13, a14, f, c, a15, a16⟩ := h
  refine ⟨a3, fun t t1 t2 => ?_⟩
  have one : ∀ {s : Nat} {k : Int}, t = s → kd s = k → ¬ (230 ≤ k ∧ k ≤ 237) → noI (kd t) := fun e1 e2 e3 => by rw [e1, e2]; exact e3
  by_cases q1 : t = i + 1
  · exact one q1 a3 (by omega)
  by_cases q2 : t = i + 2
  · exact one q2 a4 (by omega)
  by_cases q3 : t = i + 3
  · exact one q3 a5 (by omega)
  by_cases q4 : t = j - 1
  · exact one q4 a6 (by omega)
  exact LST_all a16 (by omega) (fun lo hi x i j p q h => PRT_noI h.2.2) (fun t ht => by unfold noI; omega) t (by omega) (by omega)
theorem RTN_noI {σ : MS} {Γ : HS} {a x lo hi b j p q : Nat} (h : RTN kd vl rv pl σ Γ a x lo hi b j p q) : ∀ t, b ≤ t → t < j → noI (kd t) := by
  obtain ⟨h, y, m, r, e1, e3, hS, -⟩ := h
  exact STX_noI h 1 lo m y b j p r hS
/-- an item's words behind its first -/
theorem ITM_noI {σ : MS} {Γ : HS} {x hi i j p q nd no ne : Nat} (h : ITM kd vl rv pl σ Γ x hi i j p q nd no ne) : 230 ≤ kd i ∧ kd i ≤ 237 ∧ (kd i ≤ 236 → kd (i + 1) = 2) ∧ ∀ t, i < t → t < j → noI (kd t) := by
  rcases h with ⟨k0, -, h⟩ | ⟨k0, -, h⟩ | ⟨-, h⟩ | ⟨-, h⟩ | ⟨-, h⟩ | h | h | h
  · obtain ⟨h1, h2⟩ := PLC_noI h
    exact ⟨by omega, by omega, fun _ => h1, h2⟩
  · obtain ⟨h1, h2⟩ := PLC_noI h
    exact ⟨by omega, by omega, fun _ => h1, h2⟩
  · obtain ⟨k0, k1, k2, -, -, -, -, c, c1, -, hN, -, -, hT⟩ := h
    refine ⟨by omega, by omega, fun _ => k1, fun t t1 t2 => ?_⟩
    by_cases q1 : t = i + 1
    · rw [q1, k1]; unfold noI; omega
    by_cases q2 : t + 1 < i + 2 + 2 * c
    · rcases NMS_words hN t (by omega) (by omega) with e | e
      · rw [e]; unfold noI; omega
      · rw [e]; unfold noI; omega
    by_cases q3 : t = j - 1
    · rw [q3, k2]; unfold noI; omega
    rcases hT with ⟨z1, z2, z3, -⟩ | ⟨z1, z2, z3, -⟩
    · rw [show t = i + 1 + 2 * c by omega]; unfold noI; omega
    · by_cases q4 : t = i + 1 + 2 * c
      · rw [q4]; unfold noI; omega
      · rw [show t = i + 2 + 2 * c by omega]; unfold noI; omega
  · obtain ⟨k0, k1, k2, k3, -, -, -, -, -, h⟩ := h
    refine ⟨by omega, by omega, fun _ => k1, fun t t1 t2 => ?_⟩
    by_cases q1 : t = i + 1
    · rw [q1, k1]; unfold noI; omega
    by_cases q2 : t = i + 2
    · rw [q2, k2]; unfold noI; omega
    by_cases q3 : t = j - 1
    · rw [q3, k3]; unfold noI; omega
    rcases h with ⟨z1, z2, z3, -⟩ | ⟨z1, z2, -⟩
    · by_cases q4 : t = i + 3
      · rw [q4, z1]; unfold noI; omega
      · rw [show t = i + 4 by omega, z2]; unfold noI; omega
    · rw [show t = i + 3 by omega, z1]; unfold noI; omega
  · obtain ⟨k0, k1, k2, k3, k4, k5, k6, -⟩ := h
    refine ⟨by omega, by omega, fun _ => k1, fun t t1 t2 => ?_⟩
    have e : t = i + 1 ∨ t = i + 2 ∨ t = i + 3 ∨ t = i + 4 ∨ t = i + 5 := by omega
    rcases e with e | e | e | e | e <;> (rw [e]; unfold noI; omega)
  · obtain ⟨k0, k1, k2, -, -, -, -, c, b, hb1, hcb, hR, -, -⟩ := h
    refine ⟨by omega, by omega, fun _ => k1, fun t t1 t2 => ?_⟩
    by_cases q0 : b ≤ t
    · exact RTN_noI hR t q0 t2
    by_cases q1 : t = i + 1
    · rw [q1, k1]; unfold noI; omega
    by_cases q2 : t = i + 2
    · rw [q2, k2]; unfold noI; omega
    by_cases q3 : t = b - 1
    · rw [q3, hb1]; unfold noI; omega
    rcases hcb with ⟨z1, z2, -⟩ | ⟨z1, z2, -, z4⟩
    · omega
    · rcases NMS_words z4 t (by omega) (by omega) with e | e
      · rw [e]; unfold noI; omega
      · rw [e]; unfold noI; omega
  · obtain ⟨k0, k1, h17, h18, h19, hNM, c, c2, c20, hW, hR, -⟩ := h
    refine ⟨by omega, by omega, fun _ => k1, fun t t1 t2 => ?_⟩
    by_cases q0 : i + 2 + c ≤ t
    · exact RTN_noI hR t q0 t2
    by_cases q1 : t = i + 1
    · rw [q1, k1]; unfold noI; omega
    exact qp_noI (WHS_words hW t (by omega) (by omega))
  · obtain ⟨k0, h17, h18, hR, -⟩ := h
    refine ⟨by omega, by omega, fun h => by omega, fun t t1 t2 => RTN_noI hR t (by omega) t2⟩
