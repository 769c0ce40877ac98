/-! the code of a block is a row of instructions -/
variable {T N : Nat} {kd vl rv : Nat → Int} {pl : Nat → Nat}
/-- an instruction: names' words lie from lo to hi, jumps lead from jl to jh -/
def INS (Γ : HS) (kd : Nat → Int) (lo hi jl jh p q : Nat) : Prop := (∃ o : Int, op1 Γ p o ∧ 0 ≤ o ∧ o ≤ 32 ∧ q = p + 1) ∨ (∃ o v : Int, op3 Γ p o v ∧ 33 ≤ o ∧ o ≤ 50 ∧ q = p + 3 ∧ (isNO o → ∃ i : Nat, v = i ∧ lo ≤ i ∧ i < hi ∧ kd i = 2) ∧ (41 ≤ o → o ≤ 44 → ∃ i : Nat, v = i ∧ jl ≤ i ∧ i ≤ jh))
theorem INS_wide {Γ : HS} {lo hi jl jh lo' hi' jl' jh' p q : Nat} (h : INS Γ kd lo hi jl jh p q) (h1 : lo' ≤ lo) (h2 : hi ≤ hi') (h3 : jl' ≤ jl) (h4 : jh ≤ jh') : INS Γ kd lo' hi' jl' jh' p q := by
  rcases h with h | ⟨o, v, a, b, c, d, e, f⟩
  · exact Or.inl h
  · refine Or.inr ⟨o, v, a, b, c, d, fun ho => ?_, fun o1 o2 => ?_⟩
    · obtain ⟨i, i1, i2, i3, i4⟩ := e ho
      exact ⟨i, i1, by omega, by omega, i4⟩
    · obtain ⟨i, i1, i2, i3⟩ := f o1 o2
      exact ⟨i, i1, by omega, by omega⟩
def IC (Γ : HS) (kd : Nat → Int) (lo hi jl jh p q : Nat) : Prop := ∃ (n : Nat) (b : Nat → Nat), b 0 = p ∧ b n = q ∧ ∀ k, k < n → INS Γ kd lo hi jl jh (b k) (b (k + 1))
theorem IC_nil {Γ : HS} {lo hi jl jh p : Nat} : IC Γ kd lo hi jl jh p p := ⟨0, fun _ => p, rfl, rfl, fun k hk => by omega⟩
theorem IC_one {Γ : HS} {lo hi jl jh p q : Nat} (h : INS Γ kd lo hi jl jh p q) : IC Γ kd lo hi jl jh p q := ⟨1, fun k => if k = 0 then p else q, rfl, rfl, fun k hk => by rw [show k = 0 by omega]; exact h⟩
theorem IC_app {Γ : HS} {lo hi jl jh p q r : Nat} (h : IC Γ kd lo hi jl jh p q) (g : IC Γ kd lo hi jl jh q r) : IC Γ kd lo hi jl jh p r := by
  obtain ⟨n, b, b1, b2, b3⟩ := h
  obtain ⟨m, d, d1, d2, d3⟩ := g
  refine ⟨n + m, fun k => if k ≤ n then b k else d (k - n), by dsimp only; rw [if_pos (by omega)]; exact b1, ?_, fun k hk => ?_⟩
  · dsimp only
    by_cases q0 : m = 0
    · rw [if_pos (by omega), q0, Nat.add_zero, b2, ← d2, q0, d1]
    · rw [if_neg (by omega), show n + m - n = m by omega]; exact d2
  · dsimp only
    by_cases q1 : k < n
    · rw [if_pos (by omega), if_pos (by omega)]; exact b3 k q1
    · have := d3 (k - n) (by omega)
      rw [if_neg (show ¬ k + 1 ≤ n by omega), show k + 1 - n = k - n + 1 by omega]
      by_cases q2 : k = n
      · rw [if_pos (by omega), q2, b2, ← d1]
        rw [q2, show n - n = 0 by omega] at this
        rw [show n - n = 0 by omega]; exact this
      · rw [if_neg (by omega)]; exact this
theorem IC_wide {Γ : HS} {lo hi jl jh lo' hi' jl' jh' p q : Nat} (h : IC Γ kd lo hi jl jh p q) (h1 : lo' ≤ lo) (h2 : hi ≤ hi') (h3 : jl' ≤ jl) (h4 : jh ≤ jh') : IC Γ kd lo' hi' jl' jh' p q := by
  obtain ⟨n, b, b1, b2, b3⟩ := h
  exact ⟨n, b, b1, b2, fun k hk => INS_wide (b3 k hk) h1 h2 h3 h4⟩
theorem IC_1 {Γ : HS} {lo hi jl jh p : Nat} {o : Int} (h : op1 Γ p o) (ho : 0 ≤ o ∧ o ≤ 32) : IC Γ kd lo hi jl jh p (p + 1) := IC_one (Or.inl ⟨o, h, ho.1, ho.2, rfl⟩)
theorem IC_3 {Γ : HS} {lo hi jl jh p : Nat} {o v : Int} (h : op3 Γ p o v) (ho : 33 ≤ o ∧ o ≤ 50) (h1 : isNO o → ∃ i : Nat, v = i ∧ lo ≤ i ∧ i < hi ∧ kd i = 2) (h2 : 41 ≤ o → o ≤ 44 → ∃ i : Nat, v = i ∧ jl ≤ i ∧ i ≤ jh) : IC Γ kd lo hi jl jh p (p + 3) := IC_one (Or.inr ⟨o, v, h, ho.1, ho.2, rfl, h1, h2⟩)
theorem IC_3n {Γ : HS} {lo hi jl jh p i : Nat} {o : Int} (h : op3 Γ p o (i : Nat)) (ho : isNO o) (h1 : lo ≤ i) (h2 : i < hi) (h3 : kd i = 2) : IC Γ kd lo hi jl jh p (p + 3) := IC_3 h (by unfold isNO at ho; omega) (fun _ => ⟨i, rfl, h1, h2, h3⟩) (fun a b => by unfold isNO at ho; omega)
theorem IC_3p {Γ : HS} {lo hi jl jh p : Nat} {o v : Int} (h : op3 Γ p o v) (ho : o = 33 ∨ (45 ≤ o ∧ o ≤ 48)) : IC Γ kd lo hi jl jh p (p + 3) := IC_3 h (by omega) (fun hn => by unfold isNO at hn; omega) (fun a b => by omega)
theorem IC_3j {Γ : HS} {lo hi jl jh p i : Nat} {o : Int} (h : op3 Γ p o (i : Nat)) (ho : 41 ≤ o ∧ o ≤ 44) (h1 : jl ≤ i) (h2 : i ≤ jh) : IC Γ kd lo hi jl jh p (p + 3) := IC_3 h (by omega) (fun hn => by unfold isNO at hn; omega) (fun a b => ⟨i, rfl, h1, h2⟩)
theorem LST_ic {σ : MS} {Γ : HS} {E : Nat → Nat → Nat → Nat → Nat → Nat → Nat → Prop} {sep lo hi c i j p q lo' hi' jl jh : Nat} {f : Int} (h : LST kd σ E sep lo hi f c i j p q) (h1 : lo' ≤ i) (h2 : j ≤ hi') (h3 : jl ≤ p) (h4 : q ≤ jh) (hE : ∀ lo hi x i j p q, E lo hi x i j p q → IC Γ kd i j p q p q) : IC Γ kd lo' hi' jl jh p q := by
  obtain ⟨xs, ls, is, js, ps, b1, b2, b3, b4, b5, b6, b7, b8, b9, b10, b11⟩ := h
  have hr := LST_rng b4 b9 b10
  have key : ∀ k, k ≤ c → IC Γ kd lo' hi' jl jh (ps 0) (ps k) := by
    intro k
    induction k with
    | zero => intro _; exact IC_nil
    | succ k ih =>
      intro hk
      have r1 := hr k 0 (by omega)
      have r2 := hr (c - (k + 1)) (k + 1) (by omega)
      rw [show k + 1 + (c - (k + 1)) = c by omega] at r2
      rw [Nat.zero_add] at r1
      have bb9 := b9 k (by omega)
      have bj : js k ≤ is (k + 1) := by rw [bb9.2]; split <;> omega
      exact IC_app (ih (by omega)) (IC_wide (hE _ _ _ _ _ _ _ (b4 k (by omega)).2.2) (by omega) (by omega) (by omega) (by omega))
  rw [← b7, ← b8]
  exact key c (Nat.le_refl _)
theorem EXP_ic {σ : MS} {Γ : HS} : ∀ (n lo hi x i j p q : Nat), EXP kd vl rv pl σ Γ n lo hi x i j p q → IC Γ kd i j p q p q := by
  intro n
  induction n using Nat.strongRecOn with
  | _ n ih =>
    intro lo hi x i j p q h
    have hr := EXP_rng h
    unfold EXP at h
    obtain ⟨b0, b1, b2, b3, b4, h⟩ := h
    rcases h with ⟨a1, a2, a3, a4, a5, a6⟩ | ⟨a1, a2, a3, a3', a4, a5, a6, a7, a8⟩ | ⟨n', hn, f, c, j', q', a1, a2, a3, a4, a5, a6, a7, a8, a9, a10, a11, a12⟩ | ⟨n', hn, y, j', q', a1, a2, a3, a4, a5, a6, a7, a8, a9, a10, a11⟩ | ⟨n', hn, j', lo', a1, a2, a3, a4, a5⟩ | ⟨w, o, a1, a2, a3, a4, a5⟩ | ⟨a1, a2, a3, a4, a5⟩ | ⟨n', hn, w, o, y, q', lo', hi', a1, a2, a3, a4, a5, a6, a7, a8, a9⟩ | ⟨n1, hn1, n2, hn2, w, o, y, z, k, r, q', mm, a1, a2, a3, a4, a5, a6, a7, a8, a9, a10⟩ | ⟨n1, hn1, n2, hn2, w, d, o, y, z, k, r, q', mm, a1, a2, a3, a4, a5, a6, a7, a8, a9, a10⟩ | ⟨n', hn, y, k, q', a1, a2, a3, a4, a5, a6, a7, a8, a9, a10⟩
    · rw [a3]; exact IC_3p a6 (by omega)
    · rw [a4]; exact IC_3n a8 (by unfold isNO; omega) (by omega) (by omega) a1
    · have hl := LST_ic (Γ := Γ) (lo' := i) (hi' := j) (jl := p) (jh := q) a12 (by omega) (by omega) (by omega) (by omega) (fun _ _ _ _ _ _ _ h => ih n' (by omega) _ _ _ _ _ _ _ h)
      have := IC_3n (kd := kd) (lo := i) (hi := j) (jl := p) (jh := q) a11 (by unfold isNO; omega) (Nat.le_refl _) (by omega) a1
      rw [← a5] at this
      exact IC_app hl this
    · have r := EXP_rng a11
      have := IC_3n (kd := kd) (lo := i) (hi := j) (jl := p) (jh := q) a10 (by unfold isNO; omega) (Nat.le_refl _) (by omega) a1
      rw [← a5] at this
      exact IC_app (IC_wide (ih n' (by omega) _ _ _ _ _ _ _ a11) (by omega) (by omega) (Nat.le_refl _) (by omega)) this
    · exact IC_wide (ih n' (by omega) _ _ _ _ _ _ _ a5) (by omega) (by omega) (Nat.le_refl _) (Nat.le_refl _)
    · rw [a3]; exact IC_1 a5 (by unfold zTb at a1; omega)
    · rw [a3]; exact IC_3p a5 (by omega)
    · have r := EXP_rng a9
      have := IC_1 (kd := kd) (lo := i) (hi := j) (jl := p) (jh := q) a5 (by unfold uTb at a1; omega)
      rw [← a2] at this
      exact IC_app (IC_wide (ih n' (by omega) _ _ _ _ _ _ _ a9) (by omega) (Nat.le_refl _) (Nat.le_refl _) (by omega)) this
    · have r1 := EXP_rng a9
      have r2 := EXP_rng a10
      have t1 := IC_3j (kd := kd) (lo := i) (hi := j) (jl := p) (jh := q) a6 (by unfold lTb at a1; omega) (by omega) (Nat.le_refl _)
      have t2 := IC_1 (kd := kd) (lo := i) (hi := j) (jl := p) (jh := q) a7 (by omega)
      rw [← a2] at t2
      exact IC_app (IC_wide (ih n1 hn1 _ _ _ _ _ _ _ a9) (Nat.le_refl _) (by omega) (Nat.le_refl _) (by omega)) (IC_app t1 (IC_app (IC_wide (ih n2 (by omega) _ _ _ _ _ _ _ a10) (by omega) (Nat.le_refl _) (by omega) (by omega)) t2))
    · have r1 := EXP_rng a9
      have r2 := EXP_rng a10
      have t2 := IC_1 (kd := kd) (lo := i) (hi := j) (jl := p) (jh := q) a7 (by unfold bTb at a1; omega)
      rw [← a2] at t2
      exact IC_app (IC_wide (ih n1 hn1 _ _ _ _ _ _ _ a9) (Nat.le_refl _) (by omega) (Nat.le_refl _) (by omega)) (IC_app (IC_wide (ih n2 (by omega) _ _ _ _ _ _ _ a10) (by omega) (Nat.le_refl _) (by omega) (by omega)) t2)
    · have r := EXP_rng a10
      have := IC_3p (kd := kd) (lo := i) (hi := j) (jl := p) (jh := q) a9 (by omega)
      rw [← a5] at this
      exact IC_app (IC_wide (ih n' (by omega) _ _ _ _ _ _ _ a10) (Nat.le_refl _) (by omega) (Nat.le_refl _) (by omega)) this
theorem EX_ic {σ : MS} {Γ : HS} {lo hi x i j p q lo' hi' jl jh : Nat} (h : EX kd vl rv pl σ Γ lo hi x i j p q) (h1 : lo' ≤ i) (h2 : j ≤ hi') (h3 : jl ≤ p) (h4 : q ≤ jh) : IC Γ kd lo' hi' jl jh p q := by
  obtain ⟨n, h, -⟩ := h
  exact IC_wide (EXP_ic _ _ _ _ _ _ _ _ h) h1 h2 h3 h4
theorem PST_ic {σ : MS} {Γ : HS} {hi s i j' p q : Nat} (h : PST kd vl rv pl σ Γ hi s i j' p q) : IC Γ kd i j' p q p q := by
  rcases h with ⟨f, c, a1, a2, a3, a4, a5⟩ | ⟨y, e, q', a1, a2, a3, a4, a5, a6, a7, a8, a9, a10, a11, a12⟩ | ⟨y, e, q', a1, a2, a3, a4, a5, a6, a7, a8, a9, a10, a11⟩ | ⟨y, e, e2, k, m, r, q', a1, a2, a3, a4, a5, a6, a7, a8, a9, a10, a11, a12, a13, a14, a15, a16⟩ | ⟨e, e2, k, m, r, q', a1, a2, a3, a4, a5, a6, a7, a8, a9, a10⟩ | ⟨w, o, e, q', a1, a2, a3, a4, a5, a6⟩ | ⟨d, o, e, k, q', a1, a2, a3, a4, a5, a6, a7, a8, a9, a10, a11⟩ | ⟨w, o, a1, a2, a3, a4, a5⟩ | ⟨f, y, c, k, q', a1, a2, a3, a4, a5, a6, a7, a8, a9, a10, a11, a12, a13, a14, a15⟩
  · refine LST_ic a5 (by omega) (Nat.le_refl _) (Nat.le_refl _) (Nat.le_refl _) (fun lo hi x i j p q h => ?_)
    obtain ⟨b1, b2, b3, b4, h⟩ := h
    rcases h with ⟨c1, c2, c3, c4, c5, c6, c7⟩ | ⟨y, q', c1, c2, c3, c4, c5, c6⟩ | ⟨y, q', c1, c2, c3, c4, c5, c6, c7⟩
    · rw [c3]; exact IC_3p c7 (by omega)
    · have := IC_1 (kd := kd) (lo := i) (hi := j) (jl := p) (jh := q) c5 (by omega)
      rw [← c2] at this
      exact IC_app (EX_ic c6 (by omega) (Nat.le_refl _) (Nat.le_refl _) (by omega)) this
    · have := IC_1 (kd := kd) (lo := i) (hi := j) (jl := p) (jh := q) c6 (by omega)
      rw [← c3] at this
      exact IC_app (EX_ic c7 (by omega) (Nat.le_refl _) (Nat.le_refl _) (by omega)) this
  · have r := EX_rng a12
    have := IC_3n (kd := kd) (lo := i) (hi := j') (jl := p) (jh := q) a11 (by unfold isNO; omega) (by omega) (by omega) a2
    rw [← a4] at this
    exact IC_app (EX_ic a12 (by omega) (Nat.le_refl _) (Nat.le_refl _) (by omega)) this
  · have r := EX_rng a11
    have := IC_3n (kd := kd) (lo := i) (hi := j') (jl := p) (jh := q) a10 (by unfold isNO; omega) (by omega) (by omega) a1
    rw [← a3] at this
    exact IC_app (EX_ic a11 (by omega) (Nat.le_refl _) (Nat.le_refl _) (by omega)) this
  · have r := EX_rng a15
    have r2 := EX_rng a16
    have := IC_3n (kd := kd) (lo := i) (hi := j') (jl := p) (jh := q) a13 (by unfold isNO; omega) (by omega) (by omega) a1
    rw [← a5] at this
    exact IC_app (EX_ic a15 (by omega) (by omega) (Nat.le_refl _) (by omega)) (IC_app (EX_ic a16 (by omega) (Nat.le_refl _) (by omega) (by omega)) this)
  · have r := EX_rng a9
    have r2 := EX_rng a10
    have := IC_1 (kd := kd) (lo := i) (hi := j') (jl := p) (jh := q) a7 (by omega)
    rw [← a3] at this
    exact IC_app (EX_ic a9 (by omega) (by omega) (Nat.le_refl _) (by omega)) (IC_app (EX_ic a10 (by omega) (Nat.le_refl _) (by omega) (by omega)) this)
  · have r := EX_rng a6
    have := IC_1 (kd := kd) (lo := i) (hi := j') (jl := p) (jh := q) a5 (by unfold eTb at a1; omega)
    rw [← a2] at this
    exact IC_app (EX_ic a6 (by omega) (Nat.le_refl _) (Nat.le_refl _) (by omega)) this
  · have r := EX_rng a11
    have := IC_3p (kd := kd) (lo := i) (hi := j') (jl := p) (jh := q) a10 (by unfold gTb at a1; omega)
    rw [← a5] at this
    exact IC_app (EX_ic a11 (by omega) (by omega) (Nat.le_refl _) (by omega)) this
  · rw [a3]; exact IC_1 a5 (by unfold dTb at a1; omega)
  · have t1 := IC_3n (kd := kd) (lo := i) (hi := j') (jl := p) (jh := q) a13 (by unfold isNO; omega) (by omega) (by
      obtain ⟨xs, ls, is, js, ps, b1, b2, b3, b4, b5, b6, b7, b8, b9, b10, b11⟩ := a15
      have hr := LST_rng b4 b9 b10 c 0 (by omega)
      rw [Nat.zero_add] at hr
      omega) a1
    have t2 := IC_1 (kd := kd) (lo := i) (hi := j') (jl := p) (jh := q) a14 (by omega)
    rw [show q' + 3 + 1 = q by omega] at t2
    exact IC_app (LST_ic a15 (by omega) (by omega) (Nat.le_refl _) (by omega) (fun _ _ _ _ _ _ _ h => EX_ic h (Nat.le_refl _) (Nat.le_refl _) (Nat.le_refl _) (Nat.le_refl _))) (IC_app t1 t2)
theorem STX_ic {σ : MS} {Γ : HS} : ∀ (n g lo hi x i j p q : Nat), STX kd vl rv pl σ Γ n g lo hi x i j p q → IC Γ kd i j p q p q := by
  intro n
  induction n with
  | zero => intro g lo hi x i j p q h; exact absurd h (by simp [STX])
  | succ n ih =>
    intro g lo hi x i j p q h
    unfold STX at h
    obtain ⟨b1, b2, b3, b4, h⟩ := h
    rcases h with ⟨g0, hpq, h18, h⟩ | ⟨g1, f, c, j', a1, a2, a3, a4, a5, a6⟩ | ⟨g2, a0, e, b, k, k2, m, m2, r, r2, t, a1, a2, a3, a4, a5, a6, ⟨lo', a7, a8⟩, a9, a10⟩ | ⟨g', g3, a1⟩
    · rcases h with ⟨j', c1, c2, c3⟩ | ⟨c1, c2, c3⟩ | ⟨e, b, k, m, r, q', c1, c2, c3, c4, c5, c6, c7, c8, c9, c10, c11⟩
      · exact IC_wide (PST_ic c3) (Nat.le_refl _) (by omega) (Nat.le_refl _) (Nat.le_refl _)
      · exact IC_wide (ih _ _ _ _ _ _ _ _ c3) (by omega) (Nat.le_refl _) (Nat.le_refl _) (Nat.le_refl _)
      · have r1 := EX_rng c10
        have r2 := STX_rng c11
        have t1 := IC_3j (kd := kd) (lo := i) (hi := j) (jl := p) (jh := q) c6 (by omega) (by omega) (Nat.le_refl _)
        have t2 := IC_1 (kd := kd) (lo := i) (hi := j) (jl := p) (jh := q) c7 (by omega)
        have t3 := IC_3j (kd := kd) (lo := i) (hi := j) (jl := p) (jh := q) c8 (by omega) (Nat.le_refl _) (by omega)
        rw [← c2] at t3
        exact IC_app (EX_ic c10 (by omega) (by omega) (Nat.le_refl _) (by omega)) (IC_app t1 (IC_app t2 (IC_app (IC_wide (ih _ _ _ _ _ _ _ _ c11) (by omega) (Nat.le_refl _) (by omega) (by omega)) t3)))
    · exact LST_ic a6 (by omega) (by omega) (Nat.le_refl _) (Nat.le_refl _) (fun _ _ _ _ _ _ _ h => ih _ _ _ _ _ _ _ _ h)
    · have r1 := EX_rng a8
      have r3 := STX_rng a9
      rcases a10 with ⟨d1, d2, d3, d4, d5⟩ | ⟨d1, d2, d3, y, d4, d5⟩
      · have t1 := IC_3j (kd := kd) (lo := i) (hi := j) (jl := p) (jh := q) a3 (by omega) (by omega) (by omega)
        have := IC_app (EX_ic (lo' := i) (hi' := j) (jl := p) (jh := q) a8 (by omega) (by omega) (Nat.le_refl _) (by omega)) (IC_app t1 (IC_wide (ih _ _ _ _ _ _ _ _ a9) (by omega) (by omega) (by omega) (by omega)))
        rw [← d3] at this; exact this
      · have t2 := fun (hq : r2 ≤ q) => IC_3j (kd := kd) (lo := i) (hi := j) (jl := p) (jh := q) d3 (by omega) (by omega) (Nat.le_refl _)
        rcases d5 with ⟨e1, e2, e3⟩ | ⟨e1, e2⟩
        · have r4 := STX_rng e3
          have t1 := IC_3j (kd := kd) (lo := i) (hi := j) (jl := p) (jh := q) a3 (by omega) (by omega) (by omega)
          exact IC_app (EX_ic a8 (by omega) (by omega) (Nat.le_refl _) (by omega)) (IC_app t1 (IC_app (IC_wide (ih _ _ _ _ _ _ _ _ a9) (by omega) (by omega) (by omega) (by omega)) (IC_app (t2 (by omega)) (IC_wide (ih _ _ _ _ _ _ _ _ e3) (by omega) (Nat.le_refl _) (by omega) (Nat.le_refl _)))))
        · have r4 := STX_rng e2
          have t1 := IC_3j (kd := kd) (lo := i) (hi := j) (jl := p) (jh := q) a3 (by omega) (by omega) (by omega)
          exact IC_app (EX_ic a8 (by omega) (by omega) (Nat.le_refl _) (by omega)) (IC_app t1 (IC_app (IC_wide (ih _ _ _ _ _ _ _ _ a9) (by omega) (by omega) (by omega) (by omega)) (IC_app (t2 (by omega)) (IC_wide (ih _ _ _ _ _ _ _ _ e2) (by omega) (Nat.le_refl _) (by omega) (Nat.le_refl _)))))
    · exact ih _ _ _ _ _ _ _ _ a1
