/-! what an expression's words became: a node of the reference, code of the class -/
def op1 (Γ : HS) (p : Nat) (o : Int) : Prop := (Γ 5).2.1 0 p = J o
def op3 (Γ : HS) (p : Nat) (o v : Int) : Prop := (Γ 5).2.1 0 p = J o ∧ (Γ 5).2.1 0 (p + 1) = cb1 v ∧ (Γ 5).2.1 0 (p + 2) = cb2 v
/-- c nodes, one behind the other -/
def CHN (σ : MS) (c : Nat) (xs : Nat → Nat) (f : Int) : Prop := (f = if c = 0 then -1 else (xs 0 : Int)) ∧ ∀ k, k < c → σ.2 22 (xs k) = J (if k + 1 < c then (xs (k + 1) : Int) else -1)
/-- c pieces of a kind, one behind the other, with so many words between -/
def LST (kd : Nat → Int) (σ : MS) (E : Nat → Nat → Nat → Nat → Nat → Nat → Nat → Prop) (sep lo hi : Nat) (f : Int) (c i j p q : Nat) : Prop :=
  ∃ xs ls is js ps : Nat → Nat, CHN σ c xs f ∧ lo ≤ ls 0 ∧ ls c ≤ hi ∧ (∀ k, k < c → ls k ≤ xs k ∧ xs k < ls (k + 1) ∧ E (ls k) (ls (k + 1)) (xs k) (is k) (js k) (ps k) (ps (k + 1))) ∧ is 0 = i ∧ is c = j ∧ ps 0 = p ∧ ps c = q ∧ (∀ k, k < c → is k < js k ∧ is (k + 1) = if k + 1 < c then js k + sep else js k) ∧ (∀ k, k < c → ps k < ps (k + 1)) ∧ ∀ k, k + 1 < c → sep = 1 → kd (js k) = 44
/-- key, node's kind, instruction: what has one side -/
def uTb (k w o : Int) : Prop := (k = 221 ∧ w = 48 ∧ o = 24) ∨ (k = 222 ∧ w = 49 ∧ o = 25) ∨ (k = 223 ∧ w = 50 ∧ o = 26) ∨ (k = 224 ∧ w = 51 ∧ o = 27) ∨ (k = 45 ∧ w = 52 ∧ o = 9) ∨ (k = 218 ∧ w = 53 ∧ o = 8)
/-- what has no side -/
def zTb (k w o : Int) : Prop := (k = 225 ∧ w = 44 ∧ o = 28) ∨ (k = 226 ∧ w = 45 ∧ o = 29) ∨ (k = 227 ∧ w = 46 ∧ o = 30)
/-- sign, node's kind, its how, instruction: what has two sides -/
def bTb (k w d o : Int) : Prop := (k = 43 ∧ w = 56 ∧ d = 43 ∧ o = 10) ∨ (k = 45 ∧ w = 56 ∧ d = 45 ∧ o = 11) ∨ (k = 42 ∧ w = 56 ∧ d = 42 ∧ o = 12) ∨ (k = 47 ∧ w = 56 ∧ d = 47 ∧ o = 13) ∨ (k = 37 ∧ w = 56 ∧ d = 37 ∧ o = 14) ∨ (k = 5 ∧ w = 56 ∧ d = 317 ∧ o = 15) ∨ (k = 6 ∧ w = 56 ∧ d = 289 ∧ o = 16) ∨ (k = 60 ∧ w = 56 ∧ d = 60 ∧ o = 17) ∨ (k = 7 ∧ w = 56 ∧ d = 316 ∧ o = 18) ∨ (k = 62 ∧ w = 56 ∧ d = 62 ∧ o = 19) ∨ (k = 8 ∧ w = 56 ∧ d = 318 ∧ o = 20) ∨ (k = 219 ∧ w = 57 ∧ d = 0 ∧ o = 23)
/-- and, or -/
def lTb (k w o : Int) : Prop := (k = 216 ∧ w = 54 ∧ o = 43) ∨ (k = 217 ∧ w = 55 ∧ o = 44)
def EXP (kd vl rv : Nat → Int) (pl : Nat → Nat) (σ : MS) (Γ : HS) (n lo hi x i j p q : Nat) : Prop := 0 < n ∧ lo ≤ x ∧ x < hi ∧ i < j ∧ p < q ∧ (
    (kd i = 3 ∧ j = i + 1 ∧ q = p + 3 ∧ σ.2 17 x = J 40 ∧ σ.2 19 x = J (vl i) ∧ op3 Γ p 33 (vl i))
    ∨ (kd i = 2 ∧ j = i + 1 ∧ kd j ≠ 40 ∧ kd j ≠ 91 ∧ q = p + 3 ∧ σ.2 17 x = J 41 ∧ σ.2 18 x = J (pl i) ∧ σ.2 19 x = J (rv i) ∧ op3 Γ p 49 i)
    ∨ (∃ (n' : Nat) (_ : n' + 50000 ≤ n) (f : Int) (c j' q' : Nat), kd i = 2 ∧ kd (i + 1) = 40 ∧ kd j' = 41 ∧ j = j' + 1 ∧ q = q' + 3 ∧ σ.2 17 x = J 42 ∧ σ.2 18 x = J (pl i) ∧ σ.2 19 x = J (rv i) ∧ σ.2 20 x = J f ∧ (Γ 1).2.1 6 i = J c ∧ op3 Γ q' 40 i ∧ LST kd σ (fun lo hi x i j p q => EXP kd vl rv pl σ Γ n' lo hi x i j p q) 1 (x + 1) hi f c (i + 2) j' p q')
    ∨ (∃ (n' : Nat) (_ : n' + 2000 ≤ n) (y j' q' : Nat), kd i = 2 ∧ kd (i + 1) = 91 ∧ kd j' = 93 ∧ j = j' + 1 ∧ q = q' + 3 ∧ σ.2 17 x = J 43 ∧ σ.2 18 x = J (pl i) ∧ σ.2 19 x = J (rv i) ∧ σ.2 20 x = J y ∧ op3 Γ q' 36 i ∧ EXP kd vl rv pl σ Γ n' (x + 1) hi y (i + 2) j' p q')
    ∨ (∃ (n' : Nat) (_ : n' < n) (j' lo' : Nat), kd i = 40 ∧ kd j' = 41 ∧ j = j' + 1 ∧ lo ≤ lo' ∧ EXP kd vl rv pl σ Γ n' lo' hi x (i + 1) j' p q)
    ∨ (∃ w o : Int, zTb (kd i) w o ∧ j = i + 1 ∧ q = p + 1 ∧ σ.2 17 x = J w ∧ op1 Γ p o)
    ∨ (kd i = 228 ∧ j = i + 1 ∧ q = p + 3 ∧ σ.2 17 x = J 47 ∧ op3 Γ p 33 1)
    ∨ (∃ (n' : Nat) (_ : n' + 2000 ≤ n) (w o : Int) (y q' lo' hi' : Nat), uTb (kd i) w o ∧ q = q' + 1 ∧ σ.2 17 x = J w ∧ σ.2 19 x = J y ∧ op1 Γ q' o ∧ lo ≤ lo' ∧ hi' ≤ hi ∧ (x < lo' ∨ hi' ≤ x) ∧ EXP kd vl rv pl σ Γ n' lo' hi' y (i + 1) j p q')
    ∨ (∃ (n1 : Nat) (_ : n1 < n) (n2 : Nat) (_ : n2 + 2000 ≤ n) (w o : Int) (y z k r q' m : Nat), lTb (kd k) w o ∧ q = q' + 1 ∧ σ.2 17 x = J w ∧ σ.2 19 x = J y ∧ σ.2 20 x = J z ∧ op3 Γ r o q ∧ op1 Γ q' 7 ∧ m ≤ x ∧ EXP kd vl rv pl σ Γ n1 lo m y i k p r ∧ EXP kd vl rv pl σ Γ n2 m x z (k + 1) j (r + 3) q')
    ∨ (∃ (n1 : Nat) (_ : n1 < n) (n2 : Nat) (_ : n2 + 10000 ≤ n) (w d o : Int) (y z k r q' m : Nat), bTb (kd k) w d o ∧ q = q' + 1 ∧ σ.2 17 x = J w ∧ σ.2 19 x = J y ∧ σ.2 20 x = J z ∧ σ.2 21 x = J d ∧ op1 Γ q' o ∧ m ≤ x ∧ EXP kd vl rv pl σ Γ n1 lo m y i k p r ∧ EXP kd vl rv pl σ Γ n2 m x z (k + 1) j r q')
    ∨ (∃ (n' : Nat) (_ : n' + 2000 ≤ n) (y k q' : Nat), kd k = 220 ∧ 206 ≤ kd (k + 1) ∧ kd (k + 1) ≤ 211 ∧ j = k + 2 ∧ q = q' + 3 ∧ σ.2 17 x = J 58 ∧ σ.2 19 x = J y ∧ σ.2 21 x = J (kd (k + 1) - 206) ∧ op3 Γ q' 46 (kd (k + 1) - 206) ∧ EXP kd vl rv pl σ Γ n' lo x y i k p q'))
termination_by n
decreasing_by all_goals omega
variable {kd vl rv : Nat → Int} {pl : Nat → Nat}
theorem EXP_rng {σ : MS} {Γ : HS} {n lo hi x i j p q : Nat} (h : EXP kd vl rv pl σ Γ n lo hi x i j p q) : lo ≤ x ∧ x < hi ∧ i < j ∧ p < q := by
  unfold EXP at h
  exact ⟨h.2.1, h.2.2.1, h.2.2.2.1, h.2.2.2.2.1⟩
theorem EXP_pos {σ : MS} {Γ : HS} {n lo hi x i j p q : Nat} (h : EXP kd vl rv pl σ Γ n lo hi x i j p q) : 0 < n := by
  unfold EXP at h
  exact h.1
theorem LST_mono {σ : MS} {E F : Nat → Nat → Nat → Nat → Nat → Nat → Nat → Prop} {sep lo hi c i j p q : Nat} {f : Int} (h : LST kd σ E sep lo hi f c i j p q) (hE : ∀ lo hi x i j p q, E lo hi x i j p q → F lo hi x i j p q) : LST kd σ F sep lo hi f c i j p q := by
  obtain ⟨xs, ls, is, js, ps, h1, h2, h3, h4, h5⟩ := h
  exact ⟨xs, ls, is, js, ps, h1, h2, h3, fun k hk => ⟨(h4 k hk).1, (h4 k hk).2.1, hE _ _ _ _ _ _ _ (h4 k hk).2.2⟩, h5⟩
theorem EXP_mono {σ : MS} {Γ : HS} : ∀ (n m : Nat), n ≤ m → ∀ lo hi x i j p q, EXP kd vl rv pl σ Γ n lo hi x i j p q → EXP kd vl rv pl σ Γ m lo hi x i j p q := by
  intro n m hm lo hi x i j p q h
  unfold EXP at h ⊢
  refine ⟨by omega, h.2.1, h.2.2.1, h.2.2.2.1, h.2.2.2.2.1, ?_⟩
  rcases h.2.2.2.2.2 with h | h | ⟨n', hn, h⟩ | ⟨n', hn, h⟩ | ⟨n', hn, h⟩ | h | h | ⟨n', hn, h⟩ | ⟨n1, hn1, n2, hn2, h⟩ | ⟨n1, hn1, n2, hn2, h⟩ | ⟨n', hn, h⟩
  · exact Or.inl h
  · exact Or.inr (Or.inl h)
  · exact Or.inr (Or.inr (Or.inl ⟨n', by omega, h⟩))
  · exact Or.inr (Or.inr (Or.inr (Or.inl ⟨n', by omega, h⟩)))
  · exact Or.inr (Or.inr (Or.inr (Or.inr (Or.inl ⟨n', by omega, h⟩))))
  · exact Or.inr (Or.inr (Or.inr (Or.inr (Or.inr (Or.inl h)))))
  · exact Or.inr (Or.inr (Or.inr (Or.inr (Or.inr (Or.inr (Or.inl h))))))
  · exact Or.inr (Or.inr (Or.inr (Or.inr (Or.inr (Or.inr (Or.inr (Or.inl ⟨n', by omega, h⟩)))))))
  · exact Or.inr (Or.inr (Or.inr (Or.inr (Or.inr (Or.inr (Or.inr (Or.inr (Or.inl ⟨n1, by omega, n2, by omega, h⟩))))))))
  · exact Or.inr (Or.inr (Or.inr (Or.inr (Or.inr (Or.inr (Or.inr (Or.inr (Or.inr (Or.inl ⟨n1, by omega, n2, by omega, h⟩)))))))))
  · exact Or.inr (Or.inr (Or.inr (Or.inr (Or.inr (Or.inr (Or.inr (Or.inr (Or.inr (Or.inr ⟨n', by omega, h⟩)))))))))
/-- the rows of nodes lo .. hi, but the row of what is next of x, and what meanings are put in -/
def agN (lo hi x : Nat) (σ τ : MS) : Prop := ∀ y, lo ≤ y → y < hi → τ.2 17 y = σ.2 17 y ∧ τ.2 18 y = σ.2 18 y ∧ τ.2 19 y = σ.2 19 y ∧ (σ.2 17 y ≠ J 41 → τ.2 20 y = σ.2 20 y) ∧ (σ.2 17 y ≠ J 41 → σ.2 17 y ≠ J 42 → σ.2 17 y ≠ J 43 → σ.2 17 y ≠ J 33 → τ.2 21 y = σ.2 21 y) ∧ (y ≠ x → τ.2 22 y = σ.2 22 y)
def agC (i j p q : Nat) (Γ Δ : HS) : Prop := (∀ r, p ≤ r → r < q → (Δ 5).2.1 0 r = (Γ 5).2.1 0 r) ∧ ∀ t, i ≤ t → t < j → (Δ 1).2.1 6 t = (Γ 1).2.1 6 t
theorem agN_sub {lo hi x lo' hi' y : Nat} {σ τ : MS} (h : agN lo hi x σ τ) (h1 : lo ≤ lo') (h2 : hi' ≤ hi) (h3 : x < lo' ∨ hi' ≤ x ∨ x = y) : agN lo' hi' y σ τ := by
  intro z z1 z2
  obtain ⟨a1, a2, a3, a4, a5, a6⟩ := h z (by omega) (by omega)
  exact ⟨a1, a2, a3, a4, a5, fun hz => a6 (by omega)⟩
theorem agC_sub {i j p q i' j' p' q' : Nat} {Γ Δ : HS} (h : agC i j p q Γ Δ) (h1 : i ≤ i') (h2 : j' ≤ j) (h3 : p ≤ p') (h4 : q' ≤ q) : agC i' j' p' q' Γ Δ := ⟨fun r a b => h.1 r (by omega) (by omega), fun t a b => h.2 t (by omega) (by omega)⟩
theorem op1_ag {i j p q r : Nat} {o : Int} {Γ Δ : HS} (h : op1 Γ r o) (g : agC i j p q Γ Δ) (h1 : p ≤ r) (h2 : r < q) : op1 Δ r o := by unfold op1 at h ⊢; rw [g.1 r h1 h2]; exact h
theorem op3_ag {i j p q r : Nat} {o v : Int} {Γ Δ : HS} (h : op3 Γ r o v) (g : agC i j p q Γ Δ) (h1 : p ≤ r) (h2 : r + 2 < q) : op3 Δ r o v := by
  unfold op3 at h ⊢; rw [g.1 r h1 (by omega), g.1 (r + 1) (by omega) (by omega), g.1 (r + 2) (by omega) h2]; exact h
theorem LST_rng {E : Nat → Nat → Nat → Nat → Nat → Nat → Nat → Prop} {sep c : Nat} {xs ls is js ps : Nat → Nat} (h4 : ∀ k, k < c → ls k ≤ xs k ∧ xs k < ls (k + 1) ∧ E (ls k) (ls (k + 1)) (xs k) (is k) (js k) (ps k) (ps (k + 1))) (h9 : ∀ k, k < c → is k < js k ∧ is (k + 1) = if k + 1 < c then js k + sep else js k) (h10 : ∀ k, k < c → ps k < ps (k + 1)) : ∀ d k, k + d ≤ c → ls k ≤ ls (k + d) ∧ is k ≤ is (k + d) ∧ ps k ≤ ps (k + d) := by
  intro d
  induction d with
  | zero => intro k _; exact ⟨Nat.le_refl _, Nat.le_refl _, Nat.le_refl _⟩
  | succ d ih =>
    intro k hk
    obtain ⟨a1, a2, a3⟩ := ih k (by omega)
    have b1 := h4 (k + d) (by omega)
    have b2 := h9 (k + d) (by omega)
    have b3 := h10 (k + d) (by omega)
    rw [show k + (d + 1) = k + d + 1 by omega]
    refine ⟨by omega, ?_, by omega⟩
    rw [b2.2]; split <;> omega
theorem EXP_ag {σ τ : MS} {Γ Δ : HS} : ∀ (n lo hi x i j p q : Nat), agN lo hi x σ τ → agC i j p q Γ Δ → EXP kd vl rv pl σ Γ n lo hi x i j p q → EXP kd vl rv pl τ Δ n lo hi x i j p q := by
  intro n
  induction n using Nat.strongRecOn with
  | _ n ih =>
    intro lo hi x i j p q hN hC h
    unfold EXP at h ⊢
    obtain ⟨b0, b1, b2, b3, b4, h⟩ := h
    obtain ⟨e1, e2, e3, e4, e5, -⟩ := hN x b1 b2
    have ne : ∀ {u v : Int}, 0 ≤ u → u < 1000 → 0 ≤ v → v < 1000 → u ≠ v → σ.2 17 x = J u → σ.2 17 x ≠ J v := by
      intro u v u1 u2 v1 v2 huv he hv
      rw [he, J_eq (by omega) (by omega) (by omega) (by omega)] at hv; exact huv hv
    refine ⟨b0, b1, b2, b3, b4, ?_⟩
    rcases h with ⟨a1, a2, a3, a4, a5, a6⟩ | ⟨a1, a2, a3, a4, a5, a6, a7, a8, a9⟩ | ⟨n', hn, f, c, j', q', a1, a2, a3, a4, a5, a6, a7, a8, a9, a10, a11, a12⟩ | ⟨n', hn, y, j', q', a1, a2, a3, a4, a5, a6, a7, a8, a9, a10, a11⟩ | ⟨n', hn, j', lo', a1, a2, a3, a4, a5⟩ | ⟨w, o, a1, a2, a3, a4, a5⟩ | ⟨a1, a2, a3, a4, a5⟩ | ⟨n', hn, w, o, y, q', lo', hi', a1, a2, a3, a4, a5, a6, a7, a8, a9⟩ | ⟨n1, hn1, n2, hn2, w, o, y, z, k, r, q', mm, a1, a2, a3, a4, a5, a6, a7, a8, a9, a10⟩ | ⟨n1, hn1, n2, hn2, w, d, o, y, z, k, r, q', mm, a1, a2, a3, a4, a5, a6, a7, a8, a9, a10⟩ | ⟨n', hn, y, k, q', a1, a2, a3, a4, a5, a6, a7, a8, a9, a10⟩
    · exact Or.inl ⟨a1, a2, a3, by rw [e1]; exact a4, by rw [e3]; exact a5, op3_ag a6 hC (by omega) (by omega)⟩
    · exact Or.inr (Or.inl ⟨a1, a2, a3, a4, a5, by rw [e1]; exact a6, by rw [e2]; exact a7, by rw [e3]; exact a8, op3_ag a9 hC (by omega) (by omega)⟩)
    · refine Or.inr (Or.inr (Or.inl ⟨n', hn, f, c, j', q', a1, a2, a3, a4, a5, by rw [e1]; exact a6, by rw [e2]; exact a7, by rw [e3]; exact a8, by rw [e4 (ne (by omega) (by omega) (by omega) (by omega) (by decide) a6)]; exact a9, by rw [hC.2 i (by omega) (by omega)]; exact a10, ?_, ?_⟩))
      · refine op3_ag a11 hC ?_ (by omega)
        obtain ⟨xs, ls, is, js, ps, h1, h2, h3, h4, h5, h6, h7, h8, h9, h10, h11⟩ := a12
        have := LST_rng h4 h9 h10 c 0 (by omega)
        rw [Nat.zero_add] at this; omega
      · obtain ⟨xs, ls, is, js, ps, h1, h2, h3, h4, h5, h6, h7, h8, h9, h10, h11⟩ := a12
        have hr := LST_rng h4 h9 h10
        refine ⟨xs, ls, is, js, ps, ⟨h1.1, fun k hk => ?_⟩, h2, h3, fun k hk => ?_, h5, h6, h7, h8, h9, h10, h11⟩
        · have r1 := hr k 0 (by omega)
          have r2 := hr (c - (k + 1)) (k + 1) (by omega)
          rw [show k + 1 + (c - (k + 1)) = c by omega] at r2
          rw [Nat.zero_add] at r1
          have b := h4 k hk
          rw [(hN (xs k) (by omega) (by omega)).2.2.2.2.2 (by omega)]
          exact h1.2 k hk
        · have r1 := hr k 0 (by omega)
          have r2 := hr (c - (k + 1)) (k + 1) (by omega)
          rw [show k + 1 + (c - (k + 1)) = c by omega] at r2
          rw [Nat.zero_add] at r1
          have b := h4 k hk
          have b9 := h9 k hk
          have b10 := h10 k hk
          have bj : js k ≤ is (k + 1) := by rw [b9.2]; split <;> omega
          refine ⟨b.1, b.2.1, ih n' (by omega) _ _ _ _ _ _ _ (agN_sub hN (by omega) (by omega) (by omega)) (agC_sub hC (by omega) (by omega) (by omega) (by omega)) b.2.2⟩
    · have r := EXP_rng a11
      exact Or.inr (Or.inr (Or.inr (Or.inl ⟨n', hn, y, j', q', a1, a2, a3, a4, a5, by rw [e1]; exact a6, by rw [e2]; exact a7, by rw [e3]; exact a8, by rw [e4 (ne (by omega) (by omega) (by omega) (by omega) (by decide) a6)]; exact a9, op3_ag a10 hC (by omega) (by omega), ih n' (by omega) _ _ _ _ _ _ _ (agN_sub hN (by omega) (by omega) (by omega)) (agC_sub hC (by omega) (by omega) (by omega) (by omega)) a11⟩)))
    · have r := EXP_rng a5
      exact Or.inr (Or.inr (Or.inr (Or.inr (Or.inl ⟨n', hn, j', lo', a1, a2, a3, a4, ih n' (by omega) _ _ _ _ _ _ _ (agN_sub hN (by omega) (by omega) (by omega)) (agC_sub hC (by omega) (by omega) (by omega) (by omega)) a5⟩))))
    · exact Or.inr (Or.inr (Or.inr (Or.inr (Or.inr (Or.inl ⟨w, o, a1, a2, a3, by rw [e1]; exact a4, op1_ag a5 hC (by omega) (by omega)⟩)))))
    · exact Or.inr (Or.inr (Or.inr (Or.inr (Or.inr (Or.inr (Or.inl ⟨a1, a2, a3, by rw [e1]; exact a4, op3_ag a5 hC (by omega) (by omega)⟩))))))
    · have rr := EXP_rng a9
      exact Or.inr (Or.inr (Or.inr (Or.inr (Or.inr (Or.inr (Or.inr (Or.inl ⟨n', hn, w, o, y, q', lo', hi', a1, a2, by rw [e1]; exact a3, by rw [e3]; exact a4, op1_ag a5 hC (by omega) (by omega), a6, a7, a8, ih n' (by omega) _ _ _ _ _ _ _ (agN_sub hN (by omega) (by omega) (by omega)) (agC_sub hC (by omega) (by omega) (by omega) (by omega)) a9⟩)))))))
    · have rr := EXP_rng a9
      have r' := EXP_rng a10
      have hw : σ.2 17 x ≠ J 41 := ne (u := w) (by unfold lTb at a1; omega) (by unfold lTb at a1; omega) (by omega) (by omega) (by unfold lTb at a1; omega) a3
      exact Or.inr (Or.inr (Or.inr (Or.inr (Or.inr (Or.inr (Or.inr (Or.inr (Or.inl ⟨n1, hn1, n2, hn2, w, o, y, z, k, r, q', mm, a1, a2, by rw [e1]; exact a3, by rw [e3]; exact a4, by rw [e4 hw]; exact a5, op3_ag a6 hC (by omega) (by omega), op1_ag a7 hC (by omega) (by omega), a8, ih n1 hn1 _ _ _ _ _ _ _ (agN_sub hN (by omega) (by omega) (by omega)) (agC_sub hC (by omega) (by omega) (by omega) (by omega)) a9, ih n2 (by omega) _ _ _ _ _ _ _ (agN_sub hN (by omega) (by omega) (by omega)) (agC_sub hC (by omega) (by omega) (by omega) (by omega)) a10⟩))))))))
    · have rr := EXP_rng a9
      have r' := EXP_rng a10
      have hw : w = 56 ∨ w = 57 := by unfold bTb at a1; omega
      have hw1 : σ.2 17 x ≠ J 41 := ne (u := w) (by omega) (by omega) (by omega) (by omega) (by omega) a3
      have hw2 : σ.2 17 x ≠ J 42 := ne (u := w) (by omega) (by omega) (by omega) (by omega) (by omega) a3
      have hw3 : σ.2 17 x ≠ J 43 := ne (u := w) (by omega) (by omega) (by omega) (by omega) (by omega) a3
      have hw4 : σ.2 17 x ≠ J 33 := ne (u := w) (by omega) (by omega) (by omega) (by omega) (by omega) a3
      exact Or.inr (Or.inr (Or.inr (Or.inr (Or.inr (Or.inr (Or.inr (Or.inr (Or.inr (Or.inl ⟨n1, hn1, n2, hn2, w, d, o, y, z, k, r, q', mm, a1, a2, by rw [e1]; exact a3, by rw [e3]; exact a4, by rw [e4 hw1]; exact a5, by rw [e5 hw1 hw2 hw3 hw4]; exact a6, op1_ag a7 hC (by omega) (by omega), a8, ih n1 hn1 _ _ _ _ _ _ _ (agN_sub hN (by omega) (by omega) (by omega)) (agC_sub hC (by omega) (by omega) (by omega) (by omega)) a9, ih n2 (by omega) _ _ _ _ _ _ _ (agN_sub hN (by omega) (by omega) (by omega)) (agC_sub hC (by omega) (by omega) (by omega) (by omega)) a10⟩)))))))))
    · have r := EXP_rng a10
      have hw1 : σ.2 17 x ≠ J 41 := ne (by omega) (by omega) (by omega) (by omega) (by decide) a6
      have hw2 : σ.2 17 x ≠ J 42 := ne (by omega) (by omega) (by omega) (by omega) (by decide) a6
      have hw3 : σ.2 17 x ≠ J 43 := ne (by omega) (by omega) (by omega) (by omega) (by decide) a6
      have hw4 : σ.2 17 x ≠ J 33 := ne (by omega) (by omega) (by omega) (by omega) (by decide) a6
      exact Or.inr (Or.inr (Or.inr (Or.inr (Or.inr (Or.inr (Or.inr (Or.inr (Or.inr (Or.inr ⟨n', hn, y, k, q', a1, a2, a3, a4, a5, by rw [e1]; exact a6, by rw [e3]; exact a7, by rw [e5 hw1 hw2 hw3 hw4]; exact a8, op3_ag a9 hC (by omega) (by omega), ih n' (by omega) _ _ _ _ _ _ _ (agN_sub hN (by omega) (by omega) (by omega)) (agC_sub hC (by omega) (by omega) (by omega) (by omega)) a10⟩)))))))))
