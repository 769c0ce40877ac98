/-! statements stay what they are when rows and code are added elsewhere -/
variable {kd vl rv : Nat → Int} {pl : Nat → Nat}
theorem PST_ag {σ τ : MS} {Γ Δ : HS} {lo hi s i j' p q : Nat} (hN : agN lo hi s σ τ) (hC : agC i (j' + 1) p q Γ Δ) (h1 : lo ≤ s) (h2 : s < hi) (h : PST kd vl rv pl σ Γ hi s i j' p q) (hij : i < j' + 1) (hpq : p < q) : PST kd vl rv pl τ Δ hi s i j' p q := by
  obtain ⟨e1, e2, e3, e4, e5, -⟩ := hN s h1 h2
  have ne : ∀ {u v : Int}, 0 ≤ u → u < 1000 → 0 ≤ v → v < 1000 → u ≠ v → σ.2 17 s = J u → σ.2 17 s ≠ J v := by
    intro u v u1 u2 v1 v2 huv he hv
    rw [he] at hv; exact J_ne u1 u2 v1 v2 huv hv
  have e4' : ∀ {u : Int}, 0 ≤ u → u < 41 → σ.2 17 s = J u → τ.2 20 s = σ.2 20 s := fun u1 u2 he => e4 (ne u1 (by omega) (by omega) (by omega) (by omega) he)
  have e5' : ∀ {u : Int}, 0 ≤ u → u < 33 → σ.2 17 s = J u → τ.2 21 s = σ.2 21 s := fun u1 u2 he => e5 (ne u1 (by omega) (by omega) (by omega) (by omega) he) (ne u1 (by omega) (by omega) (by omega) (by omega) he) (ne u1 (by omega) (by omega) (by omega) (by omega) he) (ne u1 (by omega) (by omega) (by omega) (by omega) he)
  unfold PST at h ⊢
  rcases h with ⟨f, c, a1, a2, a3, a4, a5⟩ | ⟨y, e, q', a1, a2, a3, a4, a5, a6, a7, a8, a9, a10, a11, a12⟩ | ⟨y, e, q', a1, a2, a3, a4, a5, a6, a7, a8, a9, a10, a11⟩ | ⟨y, e, ee, k, m, r, q', a1, a2, a3, a4, a5, a6, a7, a8, a9, a10, a11, a12, a13, a14, a15, a16⟩ | ⟨e, ee, k, m, r, q', a1, a2, a3, a4, a5, a6, a7, a8, a9, a10⟩ | ⟨w, o, e, q', a1, a2, a3, a4, a5, a6⟩ | ⟨d, o, e, k, q', a1, a2, a3, a4, a5, a6, a7, a8, a9, a10, a11⟩ | ⟨w, o, a1, a2, a3, a4, a5⟩ | ⟨f, y, c, k, q', a1, a2, a3, a4, a5, a6, a7, a8, a9, a10, a11, a12, a13, a14, a15⟩
  · exact Or.inl ⟨f, c, a1, a2, by rw [e1]; exact a3, by rw [e3]; exact a4, LST_ag hN hC a5 (by omega) (by omega) (by omega) (by omega) (by omega) (by omega) (by omega) (fun lo hi x i j p q n1 n2 n3 => TEL_ag n1 n2 n3)⟩
  · have r := EX_rng a12
    exact Or.inr (Or.inl ⟨y, e, q', a1, a2, a3, a4, by rw [e1]; exact a5, by rw [e3]; exact a6, NMN_ag hN a7 (by omega) (by omega), a8, a9, by rw [e4' (by omega) (by omega) a5]; exact a10, op3_ag a11 hC (by omega) (by omega), EX_ag (agN_sub hN (by omega) (by omega) (by omega)) (agC_sub hC (by omega) (by omega) (by omega) (by omega)) a12⟩)
  · have r := EX_rng a11
    exact Or.inr (Or.inr (Or.inl ⟨y, e, q', a1, a2, a3, by rw [e1]; exact a4, by rw [e3]; exact a5, NMN_ag hN a6 (by omega) (by omega), a7, a8, by rw [e4' (by omega) (by omega) a4]; exact a9, op3_ag a10 hC (by omega) (by omega), EX_ag (agN_sub hN (by omega) (by omega) (by omega)) (agC_sub hC (by omega) (by omega) (by omega) (by omega)) a11⟩))
  · have r1 := EX_rng a15
    have r2 := EX_rng a16
    exact Or.inr (Or.inr (Or.inr (Or.inl ⟨y, e, ee, k, m, r, q', a1, a2, a3, a4, a5, by rw [e1]; exact a6, by rw [e3]; exact a7, NMN_ag hN a8 (by omega) (by omega), a9, a10, by rw [e4' (by omega) (by omega) a6]; exact a11, by rw [e5' (by omega) (by omega) a6]; exact a12, op3_ag a13 hC (by omega) (by omega), a14, EX_ag (agN_sub hN (by omega) (by omega) (by omega)) (agC_sub hC (by omega) (by omega) (by omega) (by omega)) a15, EX_ag (agN_sub hN (by omega) (by omega) (by omega)) (agC_sub hC (by omega) (by omega) (by omega) (by omega)) a16⟩)))
  · have r1 := EX_rng a9
    have r2 := EX_rng a10
    exact Or.inr (Or.inr (Or.inr (Or.inr (Or.inl ⟨e, ee, k, m, r, q', a1, a2, a3, by rw [e1]; exact a4, by rw [e3]; exact a5, by rw [e4' (by omega) (by omega) a4]; exact a6, op1_ag a7 hC (by omega) (by omega), a8, EX_ag (agN_sub hN (by omega) (by omega) (by omega)) (agC_sub hC (by omega) (by omega) (by omega) (by omega)) a9, EX_ag (agN_sub hN (by omega) (by omega) (by omega)) (agC_sub hC (by omega) (by omega) (by omega) (by omega)) a10⟩))))
  · have r1 := EX_rng a6
    exact Or.inr (Or.inr (Or.inr (Or.inr (Or.inr (Or.inl ⟨w, o, e, q', a1, a2, by rw [e1]; exact a3, by rw [e3]; exact a4, op1_ag a5 hC (by omega) (by omega), EX_ag (agN_sub hN (by omega) (by omega) (by omega)) (agC_sub hC (by omega) (by omega) (by omega) (by omega)) a6⟩)))))
  · have r1 := EX_rng a11
    exact Or.inr (Or.inr (Or.inr (Or.inr (Or.inr (Or.inr (Or.inl ⟨d, o, e, k, q', a1, a2, a3, a4, a5, by rw [e1]; exact a6, by rw [e3]; exact a7, by rw [e4' (by omega) (by omega) a6]; exact a8, by rw [e5' (by omega) (by omega) a6]; exact a9, op3_ag a10 hC (by omega) (by omega), EX_ag (agN_sub hN (by omega) (by omega) (by omega)) (agC_sub hC (by omega) (by omega) (by omega) (by omega)) a11⟩))))))
  · exact Or.inr (Or.inr (Or.inr (Or.inr (Or.inr (Or.inr (Or.inr (Or.inl ⟨w, o, a1, a2, a3, by rw [e1]; exact a4, op1_ag a5 hC (by omega) (by omega)⟩)))))))
  · obtain ⟨xs, ls, is, js, ps, b1, b2, b3, b4, b5, b6, b7, b8, b9, b10, b11⟩ := id a15
    have hr := LST_rng b4 b9 b10 c 0 (by omega)
    rw [Nat.zero_add] at hr
    exact Or.inr (Or.inr (Or.inr (Or.inr (Or.inr (Or.inr (Or.inr (Or.inr ⟨f, y, c, k, q', a1, a2, a3, a4, a5, by rw [e1]; exact a6, by rw [e3]; exact a7, NMN_ag hN a8 (by omega) (by omega), a9, a10, by rw [e4' (by omega) (by omega) a6]; exact a11, by rw [hC.2 i (by omega) (by omega)]; exact a12, op3_ag a13 hC (by omega) (by omega), op1_ag a14 hC (by omega) (by omega), LST_ag hN hC a15 (by omega) (by omega) (by omega) (by omega) (by omega) (by omega) (by omega) (fun lo hi x i j p q n1 n2 n3 => EX_ag n1 n2 n3)⟩)))))))
theorem STX_rng {σ : MS} {Γ : HS} {n g lo hi x i j p q : Nat} (h : STX kd vl rv pl σ Γ n g lo hi x i j p q) : lo ≤ x ∧ x < hi ∧ i < j ∧ p ≤ q ∧ (g = 0 → p < q) := by
  cases n with
  | zero => exact absurd h (by simp [STX])
  | succ n =>
    unfold STX at h
    refine ⟨h.1, h.2.1, h.2.2.1, h.2.2.2.1, fun hg => ?_⟩
    rcases h.2.2.2.2 with h | h | h | h
    · exact h.2.1
    · omega
    · omega
    · obtain ⟨g', h, -⟩ := h; omega
theorem STX_ag {σ τ : MS} {Γ Δ : HS} : ∀ (n g lo hi x i j p q : Nat), agN lo hi x σ τ → agC i j p q Γ Δ → STX kd vl rv pl σ Γ n g lo hi x i j p q → STX kd vl rv pl τ Δ n g lo hi x i j p q := by
  intro n
  induction n with
  | zero => intro g lo hi x i j p q _ _ h; exact absurd h (by simp [STX])
  | succ n ih =>
    intro g lo hi x i j p q hN hC h
    unfold STX at h ⊢
    obtain ⟨b1, b2, b3, b4, h⟩ := h
    obtain ⟨e1, e2, e3, e4, e5, -⟩ := hN x b1 b2
    have ne : ∀ {u v : Int}, 0 ≤ u → u < 1000 → 0 ≤ v → v < 1000 → u ≠ v → σ.2 17 x = J u → σ.2 17 x ≠ J v := by
      intro u v u1 u2 v1 v2 huv he hv
      rw [he] at hv; exact J_ne u1 u2 v1 v2 huv hv
    have e4' : ∀ {u : Int}, 0 ≤ u → u < 41 → σ.2 17 x = J u → τ.2 20 x = σ.2 20 x := fun u1 u2 he => e4 (ne u1 (by omega) (by omega) (by omega) (by omega) he)
    have e5' : ∀ {u : Int}, 0 ≤ u → u < 33 → σ.2 17 x = J u → τ.2 21 x = σ.2 21 x := fun u1 u2 he => e5 (ne u1 (by omega) (by omega) (by omega) (by omega) he) (ne u1 (by omega) (by omega) (by omega) (by omega) he) (ne u1 (by omega) (by omega) (by omega) (by omega) he) (ne u1 (by omega) (by omega) (by omega) (by omega) he)
    refine ⟨b1, b2, b3, b4, ?_⟩
    rcases h with ⟨g0, hpq, h18, h⟩ | ⟨g1, f, c, j', a1, a2, a3, a4, a5, a6⟩ | ⟨g2, a0, e, b, k, k2, m, m2, r, r2, t, a1, a2, a3, a4, a5, a6, ⟨lo', a7, a8⟩, a9, a10⟩ | ⟨g', g3, a1⟩
    · refine Or.inl ⟨g0, hpq, by rw [e2]; exact h18, ?_⟩
      rcases h with ⟨j', a1, a2, a3⟩ | ⟨a1, a2, a3⟩ | ⟨e, b, k, m, r, q', a1, a2, a3, a4, a5, a6, a7, a8, a9, a10, a11⟩
      · subst a1
        exact Or.inl ⟨j', rfl, a2, PST_ag hN hC b1 b2 a3 (by omega) hpq⟩
      · have r := STX_rng a3
        exact Or.inr (Or.inl ⟨a1, by rw [e1]; exact a2, ih _ _ _ _ _ _ _ _ hN (agC_sub hC (by omega) (by omega) (by omega) (by omega)) a3⟩)
      · have r1 := EX_rng a10
        have r2 := STX_rng a11
        exact Or.inr (Or.inr ⟨e, b, k, m, r, q', a1, a2, by rw [e1]; exact a3, by rw [e3]; exact a4, by rw [e4' (by omega) (by omega) a3]; exact a5, op3_ag a6 hC (by omega) (by omega), op1_ag a7 hC (by omega) (by omega), op3_ag a8 hC (by omega) (by omega), a9, EX_ag (agN_sub hN (by omega) (by omega) (by omega)) (agC_sub hC (by omega) (by omega) (by omega) (by omega)) a10, ih _ _ _ _ _ _ _ _ (agN_sub hN (by omega) (by omega) (by omega)) (agC_sub hC (by omega) (by omega) (by omega) (by omega)) a11⟩)
    · exact Or.inr (Or.inl ⟨g1, f, c, j', a1, a2, a3, by rw [e1]; exact a4, by rw [e3]; exact a5, LST_ag hN hC a6 (by omega) (by omega) (by omega) (by omega) (by omega) (by omega) (by omega) (fun lo hi x i j p q n1 n2 n3 => ih _ _ _ _ _ _ _ _ n1 n2 n3)⟩)
    · have r1 := EX_rng a8
      have r3 := STX_rng a9
      refine Or.inr (Or.inr (Or.inl ⟨g2, by rw [e1]; exact a0, e, b, k, k2, m, m2, r, r2, t, by rw [e3]; exact a1, by rw [e4' (by omega) (by omega) a0]; exact a2, ?_, a4, a5, a6, ?_, ?_, ?_⟩))
      · rcases a10 with ⟨c1, c2, c3, c4, c5⟩ | ⟨c1, c2, c3, y, c4, ⟨c5, c6, c7⟩ | ⟨c5, c6⟩⟩
        · exact op3_ag a3 hC (by omega) (by omega)
        · have := STX_rng c7
          exact op3_ag a3 hC (by omega) (by omega)
        · have := STX_rng c6
          exact op3_ag a3 hC (by omega) (by omega)
      · refine ⟨lo', a7, EX_ag (agN_sub hN (by omega) (by omega) (by omega)) ?_ a8⟩
        rcases a10 with ⟨c1, c2, c3, c4, c5⟩ | ⟨c1, c2, c3, y, c4, ⟨c5, c6, c7⟩ | ⟨c5, c6⟩⟩
        · exact agC_sub hC (by omega) (by omega) (by omega) (by omega)
        · have := STX_rng c7
          exact agC_sub hC (by omega) (by omega) (by omega) (by omega)
        · have := STX_rng c6
          exact agC_sub hC (by omega) (by omega) (by omega) (by omega)
      · refine ih _ _ _ _ _ _ _ _ (agN_sub hN (by omega) (by omega) (by omega)) ?_ a9
        rcases a10 with ⟨c1, c2, c3, c4, c5⟩ | ⟨c1, c2, c3, y, c4, ⟨c5, c6, c7⟩ | ⟨c5, c6⟩⟩
        · exact agC_sub hC (by omega) (by omega) (by omega) (by omega)
        · have := STX_rng c7
          exact agC_sub hC (by omega) (by omega) (by omega) (by omega)
        · have := STX_rng c6
          exact agC_sub hC (by omega) (by omega) (by omega) (by omega)
      · rcases a10 with ⟨c1, c2, c3, c4, c5⟩ | ⟨c1, c2, c3, y, c4, ⟨c5, c6, c7⟩ | ⟨c5, c6⟩⟩
        · exact Or.inl ⟨c1, c2, c3, c4, by rw [e5' (by omega) (by omega) a0]; exact c5⟩
        · have rr := STX_rng c7
          refine Or.inr ⟨c1, c2, op3_ag c3 hC (by omega) (by omega), y, by rw [e5' (by omega) (by omega) a0]; exact c4, Or.inl ⟨c5, ?_, ih _ _ _ _ _ _ _ _ (agN_sub hN (by omega) (by omega) (by omega)) (agC_sub hC (by omega) (by omega) (by omega) (by omega)) c7⟩⟩
          rw [(hN y (by omega) (by omega)).2.1]; exact c6
        · have rr := STX_rng c6
          exact Or.inr ⟨c1, c2, op3_ag c3 hC (by omega) (by omega), y, by rw [e5' (by omega) (by omega) a0]; exact c4, Or.inr ⟨c5, ih _ _ _ _ _ _ _ _ (agN_sub hN (by omega) (by omega) (by omega)) (agC_sub hC (by omega) (by omega) (by omega) (by omega)) c6⟩⟩
    · exact Or.inr (Or.inr (Or.inr ⟨g', g3, ih _ _ _ _ _ _ _ _ hN hC a1⟩))
theorem LST_monoE {σ : MS} {E F : Nat → Nat → Nat → Nat → Nat → Nat → Nat → Prop} {sep lo hi c i j p q : Nat} {f : Int} (h : LST kd σ E sep lo hi f c i j p q) (hE : ∀ lo hi x i j p q, E lo hi x i j p q → F lo hi x i j p q) : LST kd σ F sep lo hi f c i j p q := LST_mono h hE
theorem STX_mono {σ : MS} {Γ : HS} : ∀ (n m : Nat), n ≤ m → ∀ g lo hi x i j p q, STX kd vl rv pl σ Γ n g lo hi x i j p q → STX kd vl rv pl σ Γ m g lo hi x i j p q := by
  intro n
  induction n with
  | zero => intro m _ g lo hi x i j p q h; exact absurd h (by simp [STX])
  | succ n ih =>
    intro m hm g lo hi x i j p q h
    cases m with
    | zero => omega
    | succ m =>
      have ih' := ih m (by omega)
      unfold STX at h ⊢
      refine ⟨h.1, h.2.1, h.2.2.1, h.2.2.2.1, ?_⟩
      rcases h.2.2.2.2 with ⟨g0, hpq, h18, h⟩ | ⟨g1, f, c, j', a1, a2, a3, a4, a5, a6⟩ | ⟨g2, a0, e, b, k, k2, m3, m2, r, r2, t, a1, a2, a3, a4, a5, a6, a7, a9, a10⟩ | ⟨g', g3, a1⟩
      · refine Or.inl ⟨g0, hpq, h18, ?_⟩
        rcases h with h | ⟨a1, a2, a3⟩ | ⟨e, b, k, m3, r, q', a1, a2, a3, a4, a5, a6, a7, a8, a9, a10, a11⟩
        · exact Or.inl h
        · exact Or.inr (Or.inl ⟨a1, a2, ih' _ _ _ _ _ _ _ _ a3⟩)
        · exact Or.inr (Or.inr ⟨e, b, k, m3, r, q', a1, a2, a3, a4, a5, a6, a7, a8, a9, a10, ih' _ _ _ _ _ _ _ _ a11⟩)
      · exact Or.inr (Or.inl ⟨g1, f, c, j', a1, a2, a3, a4, a5, LST_mono a6 (fun lo hi x i j p q hh => ih' _ _ _ _ _ _ _ _ hh)⟩)
      · refine Or.inr (Or.inr (Or.inl ⟨g2, a0, e, b, k, k2, m3, m2, r, r2, t, a1, a2, a3, a4, a5, a6, a7, ih' _ _ _ _ _ _ _ _ a9, ?_⟩))
        rcases a10 with c | ⟨c1, c2, c3, y, c4, ⟨c5, c6, c7⟩ | ⟨c5, c6⟩⟩
        · exact Or.inl c
        · exact Or.inr ⟨c1, c2, c3, y, c4, Or.inl ⟨c5, c6, ih' _ _ _ _ _ _ _ _ c7⟩⟩
        · exact Or.inr ⟨c1, c2, c3, y, c4, Or.inr ⟨c5, ih' _ _ _ _ _ _ _ _ c6⟩⟩
      · exact Or.inr (Or.inr (Or.inr ⟨g', g3, ih' _ _ _ _ _ _ _ _ a1⟩))
theorem STX_w3 {σ : MS} {Γ : HS} {n lo hi x i j p q : Nat} (h : STX kd vl rv pl σ Γ n 1 lo hi x i j p q) : STX kd vl rv pl σ Γ (n + 1) 3 lo hi x i j p q := by
  have r := STX_rng h
  exact ⟨r.1, r.2.1, r.2.2.1, r.2.2.2.1, Or.inr (Or.inr (Or.inr ⟨1, Or.inl ⟨rfl, rfl⟩, h⟩))⟩
theorem STX_w4 {σ : MS} {Γ : HS} {n lo hi x i j p q : Nat} (h : STX kd vl rv pl σ Γ n 2 lo hi x i j p q) : STX kd vl rv pl σ Γ (n + 2) 4 lo hi x i j p q := by
  have r := STX_rng h
  exact ⟨r.1, r.2.1, r.2.2.1, r.2.2.2.1, Or.inr (Or.inr (Or.inr ⟨5, Or.inr (Or.inl ⟨rfl, rfl⟩), r.1, r.2.1, r.2.2.1, r.2.2.2.1, Or.inr (Or.inr (Or.inr ⟨2, Or.inr (Or.inr ⟨rfl, rfl⟩), h⟩))⟩))⟩
