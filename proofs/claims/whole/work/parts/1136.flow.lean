/-! which local numbers are known where: code with the names that are seen -/
variable {T N : Nat} {kd vl rv : Nat → Int} {pl : Nat → Nat}
/-- an instruction, and what is known (S) at its place and behind it; LD: a word is the NAME of that number -/
def INF (Γ : HS) (LD : Nat → Nat → Prop) (S : Nat → Nat → Prop) (jl jh p q : Nat) : Prop := (∃ o : Int, op1 Γ p o ∧ 0 ≤ o ∧ o ≤ 32 ∧ q = p + 1 ∧ ∀ u, S q u → S p u) ∨ (∃ o v : Int, op3 Γ p o v ∧ 33 ≤ o ∧ o ≤ 50 ∧ q = p + 3 ∧ (∀ u, S q u → S p u ∨ (o = 50 ∧ LD v.toNat u)) ∧ (o = 49 → ∀ u, LD v.toNat u → S p u) ∧ (o = 49 ∨ o = 50 → 0 ≤ v ∧ v < 60000) ∧ (41 ≤ o → o ≤ 44 → ∃ i : Nat, v = i ∧ jl ≤ i ∧ i ≤ jh ∧ ∀ u, S i u → S p u))
theorem INF_lt {Γ : HS} {LD : Nat → Nat → Prop} {S : Nat → Nat → Prop} {jl jh p q : Nat} (h : INF Γ LD S jl jh p q) : p < q := by
  rcases h with ⟨o, -, -, -, e, -⟩ | ⟨o, v, -, -, -, e, -⟩ <;> omega
def FLS (Γ : HS) (LD : Nat → Nat → Prop) (S : Nat → Nat → Prop) (jl jh p q : Nat) : Prop := ∃ (n : Nat) (b : Nat → Nat), b 0 = p ∧ b n = q ∧ ∀ k, k < n → INF Γ LD S jl jh (b k) (b (k + 1))
theorem FLS_le {Γ : HS} {LD : Nat → Nat → Prop} {S : Nat → Nat → Prop} {jl jh n : Nat} {b : Nat → Nat} (h : ∀ k, k < n → INF Γ LD S jl jh (b k) (b (k + 1))) : ∀ d k, k + d ≤ n → b k + d ≤ b (k + d) := by
  intro d
  induction d with
  | zero => intro k _; exact Nat.le_refl _
  | succ d ih =>
    intro k hk
    have a := ih k (by omega)
    have c := INF_lt (h (k + d) (by omega))
    rw [show k + (d + 1) = k + d + 1 by omega]; omega
theorem FLS_nil {Γ : HS} {LD : Nat → Nat → Prop} {S : Nat → Nat → Prop} {jl jh p : Nat} : FLS Γ LD S jl jh p p := ⟨0, fun _ => p, rfl, rfl, fun k hk => by omega⟩
theorem FLS_one {Γ : HS} {LD : Nat → Nat → Prop} {S : Nat → Nat → Prop} {jl jh p q : Nat} (h : INF Γ LD S jl jh p q) : FLS Γ LD S jl jh p q := ⟨1, fun k => if k = 0 then p else q, rfl, rfl, fun k hk => by rw [show k = 0 by omega]; exact h⟩
theorem FLS_app {Γ : HS} {LD : Nat → Nat → Prop} {S : Nat → Nat → Prop} {jl jh p q r : Nat} (h : FLS Γ LD S jl jh p q) (g : FLS Γ LD S jl jh q r) : FLS Γ LD S jl jh p r := by
  obtain ⟨n, b, b1, b2, b3⟩ := h
  obtain ⟨m, d, d1, d2, d3⟩ := g
  refine ⟨n + m, fun k => if k ≤ n then b k else d (k - n), by dsimp only; rw [if_pos (by omega)]; exact b1, ?_, fun k hk => ?_⟩
  · dsimp only
    by_cases q0 : m = 0
    · rw [if_pos (by omega), q0, Nat.add_zero, b2, ← d2, q0, d1]
    · rw [if_neg (by omega), show n + m - n = m by omega]; exact d2
  · dsimp only
    by_cases q1 : k < n
    · rw [if_pos (by omega), if_pos (by omega)]; exact b3 k q1
    · have := d3 (k - n) (by omega)
      rw [if_neg (show ¬ k + 1 ≤ n by omega), show k + 1 - n = k - n + 1 by omega]
      by_cases q2 : k = n
      · rw [if_pos (by omega), q2, b2, ← d1]
        rw [q2, show n - n = 0 by omega] at this
        rw [show n - n = 0 by omega]; exact this
      · rw [if_neg (by omega)]; exact this
theorem INF_congr {Γ : HS} {LD : Nat → Nat → Prop} {S S' : Nat → Nat → Prop} {jl jh jl' jh' p q : Nat} (h : INF Γ LD S jl jh p q) (h1 : jl' ≤ jl) (h2 : jh ≤ jh') (hS : ∀ t, jl ≤ t → t ≤ jh → S' t = S t) (hp : jl ≤ p) (hq : q ≤ jh) : INF Γ LD S' jl' jh' p q := by
  have hl := INF_lt h
  rcases h with ⟨o, a, b, c, d, e⟩ | ⟨o, v, a, b, c, d, e, f, f2, g⟩
  · refine Or.inl ⟨o, a, b, c, d, ?_⟩
    rw [hS q (by omega) hq, hS p hp (by omega)]; exact e
  · refine Or.inr ⟨o, v, a, b, c, d, ?_, ?_, f2, fun o1 o2 => ?_⟩
    · rw [hS q (by omega) hq, hS p hp (by omega)]; exact e
    · rw [hS p hp (by omega)]; exact f
    · obtain ⟨i, i1, i2, i3, i4⟩ := g o1 o2
      refine ⟨i, i1, by omega, by omega, ?_⟩
      rw [hS i i2 i3, hS p hp (by omega)]; exact i4
theorem FLS_congr {Γ : HS} {LD : Nat → Nat → Prop} {S S' : Nat → Nat → Prop} {jl jh jl' jh' p q : Nat} (h : FLS Γ LD S jl jh p q) (h1 : jl' ≤ jl) (h2 : jh ≤ jh') (hS : ∀ t, jl ≤ t → t ≤ jh → S' t = S t) (hp : jl ≤ p) (hq : q ≤ jh) : FLS Γ LD S' jl' jh' p q := by
  obtain ⟨n, b, b1, b2, b3⟩ := h
  have hle := FLS_le b3
  refine ⟨n, b, b1, b2, fun k hk => INF_congr (b3 k hk) h1 h2 hS ?_ ?_⟩
  · have := hle k 0 (by omega); rw [Nat.zero_add] at this; omega
  · have := hle (n - (k + 1)) (k + 1) (by omega)
    rw [show k + 1 + (n - (k + 1)) = n by omega] at this; omega
/-- code from p to q: A is known at p, B at q -/
def FL (Γ : HS) (LD : Nat → Nat → Prop) (p q : Nat) (A B : Nat → Prop) : Prop := ∃ S : Nat → Nat → Prop, S p = A ∧ S q = B ∧ FLS Γ LD S p q p q
theorem FLS_rng {Γ : HS} {LD : Nat → Nat → Prop} {S : Nat → Nat → Prop} {jl jh p q : Nat} (h : FLS Γ LD S jl jh p q) : p ≤ q := by
  obtain ⟨n, b, b1, b2, b3⟩ := h
  have := FLS_le b3 n 0 (by omega)
  rw [Nat.zero_add] at this; omega
theorem FL_nil {Γ : HS} {LD : Nat → Nat → Prop} {p : Nat} {A : Nat → Prop} : FL Γ LD p p A A := ⟨fun _ => A, rfl, rfl, FLS_nil⟩
theorem FL_app {Γ : HS} {LD : Nat → Nat → Prop} {p m q : Nat} {A B C : Nat → Prop} (h : FL Γ LD p m A B) (g : FL Γ LD m q B C) : FL Γ LD p q A C := by
  obtain ⟨S1, a1, a2, a3⟩ := h
  obtain ⟨S2, c1, c2, c3⟩ := g
  have r1 := FLS_rng a3
  have r2 := FLS_rng c3
  refine ⟨fun t => if t ≤ m then S1 t else S2 t, by dsimp only; rw [if_pos r1]; exact a1, ?_, ?_⟩
  · dsimp only
    by_cases e : q ≤ m
    · obtain rfl : q = m := by omega
      rw [if_pos (by omega), a2, ← c1, c2]
    · rw [if_neg e]; exact c2
  · refine FLS_app (FLS_congr a3 (Nat.le_refl _) r2 (fun t t1 t2 => if_pos t2) (Nat.le_refl _) (Nat.le_refl _)) (FLS_congr c3 r1 (Nat.le_refl _) (fun t t1 t2 => ?_) (Nat.le_refl _) (Nat.le_refl _))
    by_cases e : t ≤ m
    · obtain rfl : t = m := by omega
      rw [if_pos (by omega), a2, c1]
    · exact if_neg e
/-- less may be said of the end -/
theorem FL_end {Γ : HS} {LD : Nat → Nat → Prop} {p q : Nat} {A B C : Nat → Prop} (h : FL Γ LD p q A B) (hpq : p < q) (hC : ∀ u, C u → B u) : FL Γ LD p q A C := by
  obtain ⟨S, a1, a2, n, b, b1, b2, b3⟩ := h
  have hle := FLS_le b3
  have sub : ∀ t u, (if t = q then C else S t) u → S t u := fun t u h => by
    by_cases e : t = q
    · rw [if_pos e] at h; rw [e, a2]; exact hC u h
    · rw [if_neg e] at h; exact h
  refine ⟨fun t => if t = q then C else S t, by dsimp only; rw [if_neg (by omega)]; exact a1, by dsimp only; exact if_pos rfl, n, b, b1, b2, fun k hk => ?_⟩
  have hkq : b k < q := by
    have := hle (n - k) k (by omega)
    rw [show k + (n - k) = n by omega] at this; omega
  have e0 : (if b k = q then C else S (b k)) = S (b k) := if_neg (by omega)
  rcases b3 k hk with ⟨o, x1, x2, x3, x4, x5⟩ | ⟨o, v, x1, x2, x3, x4, x5, x6, x62, x7⟩
  · exact Or.inl ⟨o, x1, x2, x3, x4, fun u hu => by dsimp only at hu ⊢; rw [e0]; exact x5 u (sub _ _ hu)⟩
  · refine Or.inr ⟨o, v, x1, x2, x3, x4, fun u hu => by dsimp only at hu ⊢; rw [e0]; exact x5 u (sub _ _ hu), fun h u hu => by dsimp only; rw [e0]; exact x6 h u hu, x62, fun o1 o2 => ?_⟩
    obtain ⟨i, i1, i2, i3, i4⟩ := x7 o1 o2
    exact ⟨i, i1, i2, i3, fun u hu => by dsimp only at hu ⊢; rw [e0]; exact i4 u (sub _ _ hu)⟩
/-- what is known does not change -/
theorem FLS_ic {Γ : HS} {LD : Nat → Nat → Prop} {lo hi jl jh p q : Nat} {A : Nat → Prop} (h : IC Γ kd lo hi jl jh p q) (hhi : hi ≤ 60000) (hA : ∀ w, lo ≤ w → w < hi → kd w = 2 → ∀ u, LD w u → A u) : FLS Γ LD (fun _ => A) jl jh p q := by
  obtain ⟨n, b, b1, b2, b3⟩ := h
  refine ⟨n, b, b1, b2, fun k hk => ?_⟩
  rcases b3 k hk with ⟨o, x1, x2, x3, x4⟩ | ⟨o, v, x1, x2, x3, x4, x5, x6⟩
  · exact Or.inl ⟨o, x1, x2, x3, x4, fun u hu => hu⟩
  · refine Or.inr ⟨o, v, x1, x2, x3, x4, fun u hu => Or.inl hu, fun h u hu => ?_, fun h => ?_, fun o1 o2 => ?_⟩
    · obtain ⟨i, i1, i2, i3, i4⟩ := x5 (by unfold isNO; omega)
      subst i1
      exact hA i i2 i3 i4 u hu
    · obtain ⟨i, i1, i2, i3, i4⟩ := x5 (by unfold isNO; omega)
      omega
    · obtain ⟨i, i1, i2, i3⟩ := x6 o1 o2
      exact ⟨i, i1, i2, i3, fun u hu => hu⟩
theorem FL_ic {Γ : HS} {LD : Nat → Nat → Prop} {lo hi p q : Nat} {A : Nat → Prop} (h : IC Γ kd lo hi p q p q) (hhi : hi ≤ 60000) (hA : ∀ w, lo ≤ w → w < hi → kd w = 2 → ∀ u, LD w u → A u) : FL Γ LD p q A A := ⟨fun _ => A, rfl, rfl, FLS_ic h hhi hA⟩
theorem FL_list {Γ : HS} {LD : Nat → Nat → Prop} {c : Nat} {ps : Nat → Nat} {A : Nat → Nat → Prop} (h : ∀ k, k < c → FL Γ LD (ps k) (ps (k + 1)) (A k) (A (k + 1))) : FL Γ LD (ps 0) (ps c) (A 0) (A c) := by
  induction c with
  | zero => exact FL_nil
  | succ c ih => exact FL_app (ih (fun k hk => h k (by omega))) (h c (by omega))
/-- the numbers that are seen -/
def LB (s : Nat) (sl : Nat → Nat) (u : Nat) : Prop := ∃ k, k < s ∧ sl k = u
def LDW (G : Nat → HS) (Θ : HS) (kd vl : Nat → Int) (w u : Nat) : Prop := srt G Θ kd vl w = 7 ∧ nmb G Θ kd vl w = u
theorem LDW_LB (hT : TKE T N kd vl rv pl) {G : Nat → HS} {Θ : HS} {σK : MS} (hK : KE T kd vl rv Θ σK) {w s m D : Nat} {ts sl : Nat → Nat} (hC : SC T kd vl (G w) s m D ts sl) (hw : w ≤ T) (hk : kd w = 2) (hk1 : kd (w - 1) ≠ 242) {u : Nat} (h : LDW G Θ kd vl w u) : LB s sl u := by
  obtain ⟨h1, h2⟩ := h
  unfold srt at h1
  unfold nmb at h2
  rw [if_neg hk1] at h1 h2
  obtain ⟨-, -, e1, e2⟩ := hK w hw hk
  rcases snF_of hT hC hw hk with ⟨j, j1, j2, j3, -⟩ | ⟨-, j2⟩
  · rw [if_neg (by omega)] at h2
    exact ⟨j, j1, by omega⟩
  · rw [if_pos j2] at h1; omega
