/-! what a statement's words became -/
variable {kd vl rv : Nat → Int} {pl : Nat → Nat}
def EX (kd vl rv : Nat → Int) (pl : Nat → Nat) (σ : MS) (Γ : HS) (lo hi x i j p q : Nat) : Prop := ∃ h, EXP kd vl rv pl σ Γ h lo hi x i j p q ∧ h ≤ 2660000
theorem EX_of {σ : MS} {Γ : HS} {h lo hi x i j p q : Nat} (e : EXP kd vl rv pl σ Γ h lo hi x i j p q) (hh : h ≤ 2660000) : EX kd vl rv pl σ Γ lo hi x i j p q := ⟨h, e, hh⟩
/-- a node of a NAME -/
def NMN (rv : Nat → Int) (pl : Nat → Nat) (σ : MS) (y k : Nat) : Prop := σ.2 17 y = J 41 ∧ σ.2 18 y = J (pl k) ∧ σ.2 19 y = J (rv k)
def TEL (kd vl rv : Nat → Int) (pl : Nat → Nat) (σ : MS) (Γ : HS) (lo hi t i j p q : Nat) : Prop := lo ≤ t ∧ t < hi ∧ i < j ∧ p < q ∧ (
  (kd i = 4 ∧ j = i + 1 ∧ q = p + 3 ∧ σ.2 17 t = J 35 ∧ σ.2 18 t = J (pl i) ∧ σ.2 20 t = J (rv i) ∧ op3 Γ p 45 (vl i))
  ∨ (∃ y q' : Nat, kd i = 229 ∧ q = q' + 1 ∧ σ.2 17 t = J 37 ∧ σ.2 19 t = J y ∧ op1 Γ q' 21 ∧ EX kd vl rv pl σ Γ (t + 1) hi y (i + 1) j p q')
  ∨ (∃ y q' : Nat, kd i ≠ 4 ∧ kd i ≠ 229 ∧ q = q' + 1 ∧ σ.2 17 t = J 36 ∧ σ.2 19 t = J y ∧ op1 Γ q' 31 ∧ EX kd vl rv pl σ Γ (t + 1) hi y i j p q'))
/-- done, win, lose -/
def dTb (k w o : Int) : Prop := (k = 252 ∧ w = 30 ∧ o = 4) ∨ (k = 253 ∧ w = 31 ∧ o = 5) ∨ (k = 254 ∧ w = 32 ∧ o = 6)
/-- remove, return -/
def eTb (k w o : Int) : Prop := (k = 245 ∧ w = 25 ∧ o = 22) ∨ (k = 251 ∧ w = 29 ∧ o = 2)
/-- set, clear -/
def gTb (k d o : Int) : Prop := (k = 246 ∧ d = 1 ∧ o = 47) ∨ (k = 247 ∧ d = 0 ∧ o = 48)
/-- statements without blocks -/
def PST (kd vl rv : Nat → Int) (pl : Nat → Nat) (σ : MS) (Γ : HS) (hi s i j' p q : Nat) : Prop :=
  (∃ (f : Int) (c : Nat), kd i = 241 ∧ 0 < c ∧ σ.2 17 s = J 20 ∧ σ.2 19 s = J f ∧ LST kd σ (TEL kd vl rv pl σ Γ) 1 (s + 1) hi f c (i + 1) j' p q)
  ∨ (∃ y e q' : Nat, kd i = 242 ∧ kd (i + 1) = 2 ∧ kd (i + 2) = 61 ∧ q = q' + 3 ∧ σ.2 17 s = J 21 ∧ σ.2 19 s = J y ∧ NMN rv pl σ y (i + 1) ∧ s < y ∧ y < hi ∧ σ.2 20 s = J e ∧ op3 Γ q' 50 (i + 1 : Nat) ∧ EX kd vl rv pl σ Γ (y + 1) hi e (i + 3) j' p q')
  ∨ (∃ y e q' : Nat, kd i = 2 ∧ kd (i + 1) = 61 ∧ q = q' + 3 ∧ σ.2 17 s = J 22 ∧ σ.2 19 s = J y ∧ NMN rv pl σ y i ∧ s < y ∧ y < hi ∧ σ.2 20 s = J e ∧ op3 Γ q' 50 i ∧ EX kd vl rv pl σ Γ (y + 1) hi e (i + 2) j' p q')
  ∨ (∃ y e e2 k m r q' : Nat, kd i = 2 ∧ kd (i + 1) = 91 ∧ kd k = 93 ∧ kd (k + 1) = 61 ∧ q = q' + 3 ∧ σ.2 17 s = J 23 ∧ σ.2 19 s = J y ∧ NMN rv pl σ y i ∧ s < y ∧ y < hi ∧ σ.2 20 s = J e ∧ σ.2 21 s = J e2 ∧ op3 Γ q' 39 i ∧ m ≤ hi ∧ EX kd vl rv pl σ Γ (y + 1) m e (i + 2) k p r ∧ EX kd vl rv pl σ Γ m hi e2 (k + 2) j' r q')
  ∨ (∃ e e2 k m r q' : Nat, kd i = 243 ∧ kd k = 244 ∧ q = q' + 1 ∧ σ.2 17 s = J 24 ∧ σ.2 19 s = J e ∧ σ.2 20 s = J e2 ∧ op1 Γ q' 32 ∧ m ≤ hi ∧ EX kd vl rv pl σ Γ (s + 1) m e (i + 1) k p r ∧ EX kd vl rv pl σ Γ m hi e2 (k + 1) j' r q')
  ∨ (∃ (w o : Int) (e q' : Nat), eTb (kd i) w o ∧ q = q' + 1 ∧ σ.2 17 s = J w ∧ σ.2 19 s = J e ∧ op1 Γ q' o ∧ EX kd vl rv pl σ Γ (s + 1) hi e (i + 1) j' p q')
  ∨ (∃ (d o : Int) (e k q' : Nat), gTb (kd i) d o ∧ 206 ≤ kd k ∧ kd k ≤ 211 ∧ j' = k + 1 ∧ q = q' + 3 ∧ σ.2 17 s = J 26 ∧ σ.2 19 s = J e ∧ σ.2 20 s = J (kd k - 206) ∧ σ.2 21 s = J d ∧ op3 Γ q' o (kd k - 206) ∧ EX kd vl rv pl σ Γ (s + 1) hi e (i + 1) k p q')
  ∨ (∃ w o : Int, dTb (kd i) w o ∧ j' = i + 1 ∧ q = p + 1 ∧ σ.2 17 s = J w ∧ op1 Γ p o)
  ∨ (∃ (f : Int) (y c k q' : Nat), kd i = 2 ∧ kd (i + 1) = 40 ∧ kd k = 41 ∧ j' = k + 1 ∧ q = q' + 4 ∧ σ.2 17 s = J 33 ∧ σ.2 19 s = J y ∧ NMN rv pl σ y i ∧ s < y ∧ y < hi ∧ σ.2 20 s = J f ∧ (Γ 1).2.1 6 i = J c ∧ op3 Γ q' 40 i ∧ op1 Γ (q' + 3) 1 ∧ LST kd σ (EX kd vl rv pl σ Γ) 1 (y + 1) hi f c (i + 2) k p q')
/-- statements (0), blocks (1), what is behind an if (2) -/
def STX (kd vl rv : Nat → Int) (pl : Nat → Nat) (σ : MS) (Γ : HS) : Nat → Nat → Nat → Nat → Nat → Nat → Nat → Nat → Nat → Prop
  | 0, _, _, _, _, _, _, _, _ => False
  | n + 1, g, lo, hi, x, i, j, p, q => lo ≤ x ∧ x < hi ∧ i < j ∧ p ≤ q ∧ (
    (g = 0 ∧ p < q ∧ σ.2 18 x = J (pl i) ∧ (
      (∃ j', j = j' + 1 ∧ kd j' = 59 ∧ PST kd vl rv pl σ Γ hi x i j' p q)
      ∨ (kd i = 248 ∧ σ.2 17 x = J 27 ∧ STX kd vl rv pl σ Γ n 2 lo hi x (i + 1) j p q)
      ∨ (∃ e b k m r q' : Nat, kd i = 250 ∧ q = q' + 3 ∧ σ.2 17 x = J 28 ∧ σ.2 19 x = J e ∧ σ.2 20 x = J b ∧ op3 Γ r 42 q ∧ op1 Γ (r + 3) 3 ∧ op3 Γ q' 41 p ∧ m ≤ hi ∧ EX kd vl rv pl σ Γ (x + 1) m e (i + 1) k p r ∧ STX kd vl rv pl σ Γ n 3 m hi b k j (r + 4) q')))
    ∨ (g = 1 ∧ ∃ (f : Int) (c j' : Nat), kd i = 123 ∧ kd j' = 125 ∧ j = j' + 1 ∧ σ.2 17 x = J 34 ∧ σ.2 19 x = J f ∧ LST kd σ (STX kd vl rv pl σ Γ n 0) 0 lo x f c (i + 1) j' p q)
    ∨ (g = 2 ∧ σ.2 17 x = J 27 ∧ ∃ e b k k2 m m2 r r2 t : Nat, σ.2 19 x = J e ∧ σ.2 20 x = J b ∧ op3 Γ r 42 t ∧ x < m ∧ m ≤ hi ∧ m2 ≤ hi ∧ (∃ lo', x < lo' ∧ EX kd vl rv pl σ Γ lo' m e i k p r) ∧ STX kd vl rv pl σ Γ n 1 m m2 b k k2 (r + 3) r2 ∧ (
      (kd k2 ≠ 249 ∧ j = k2 ∧ q = r2 ∧ t = r2 ∧ σ.2 21 x = J (-1))
      ∨ (kd k2 = 249 ∧ t = r2 + 3 ∧ op3 Γ r2 41 q ∧ ∃ y : Nat, σ.2 21 x = J y ∧ ((kd (k2 + 1) = 248 ∧ σ.2 18 y = J (pl (k2 + 1)) ∧ STX kd vl rv pl σ Γ n 4 m2 hi y (k2 + 2) j (r2 + 3) q) ∨ (kd (k2 + 1) ≠ 248 ∧ STX kd vl rv pl σ Γ n 1 m2 hi y (k2 + 1) j (r2 + 3) q)))))
    ∨ (∃ g' : Nat, ((g = 3 ∧ g' = 1) ∨ (g = 4 ∧ g' = 5) ∨ (g = 5 ∧ g' = 2)) ∧ STX kd vl rv pl σ Γ n g' lo hi x i j p q))
theorem EX_ag {σ τ : MS} {Γ Δ : HS} {lo hi x i j p q : Nat} (h1 : agN lo hi x σ τ) (h2 : agC i j p q Γ Δ) (h : EX kd vl rv pl σ Γ lo hi x i j p q) : EX kd vl rv pl τ Δ lo hi x i j p q := by
  obtain ⟨n, h, hb⟩ := h; exact ⟨n, EXP_ag n lo hi x i j p q h1 h2 h, hb⟩
theorem EX_rng {σ : MS} {Γ : HS} {lo hi x i j p q : Nat} (h : EX kd vl rv pl σ Γ lo hi x i j p q) : lo ≤ x ∧ x < hi ∧ i < j ∧ p < q := by
  obtain ⟨n, h, hb⟩ := h; exact EXP_rng h
theorem J_ne {u v : Int} (u1 : 0 ≤ u) (u2 : u < 1000) (v1 : 0 ≤ v) (v2 : v < 1000) (h : u ≠ v) : J u ≠ J v := fun e => by rw [J_eq (by omega) (by omega) (by omega) (by omega)] at e; exact h e
/-- a list of pieces stays what it is -/
theorem LST_ag {σ τ : MS} {E F : Nat → Nat → Nat → Nat → Nat → Nat → Nat → Prop} {sep lo hi c i j p q x lo0 hi0 i0 j0 p0 q0 : Nat} {f : Int} {Γ Δ : HS} (hN : agN lo0 hi0 x σ τ) (hC : agC i0 j0 p0 q0 Γ Δ) (h : LST kd σ E sep lo hi f c i j p q) (h1 : lo0 ≤ lo) (h2 : hi ≤ hi0) (h3 : x < lo ∨ hi ≤ x) (h4 : i0 ≤ i) (h5 : j ≤ j0) (h6 : p0 ≤ p) (h7 : q ≤ q0) (hE : ∀ lo hi x i j p q, agN lo hi x σ τ → agC i j p q Γ Δ → E lo hi x i j p q → F lo hi x i j p q) : LST kd τ F sep lo hi f c i j p q := by
  obtain ⟨xs, ls, is, js, ps, b1, b2, b3, b4, b5, b6, b7, b8, b9, b10, b11⟩ := h
  have hr := LST_rng b4 b9 b10
  refine ⟨xs, ls, is, js, ps, ⟨b1.1, fun k hk => ?_⟩, b2, b3, fun k hk => ?_, b5, b6, b7, b8, b9, b10, b11⟩
  · have r1 := hr k 0 (by omega)
    have r2 := hr (c - (k + 1)) (k + 1) (by omega)
    rw [show k + 1 + (c - (k + 1)) = c by omega] at r2
    rw [Nat.zero_add] at r1
    have b := b4 k hk
    rw [(hN (xs k) (by omega) (by omega)).2.2.2.2.2 (by omega)]
    exact b1.2 k hk
  · have r1 := hr k 0 (by omega)
    have r2 := hr (c - (k + 1)) (k + 1) (by omega)
    rw [show k + 1 + (c - (k + 1)) = c by omega] at r2
    rw [Nat.zero_add] at r1
    have b := b4 k hk
    have bb9 := b9 k hk
    have bb10 := b10 k hk
    have bj : js k ≤ is (k + 1) := by rw [bb9.2]; split <;> omega
    exact ⟨b.1, b.2.1, hE _ _ _ _ _ _ _ (agN_sub hN (by omega) (by omega) (by omega)) (agC_sub hC (by omega) (by omega) (by omega) (by omega)) b.2.2⟩
theorem TEL_ag {σ τ : MS} {Γ Δ : HS} {lo hi x i j p q : Nat} (hN : agN lo hi x σ τ) (hC : agC i j p q Γ Δ) (h : TEL kd vl rv pl σ Γ lo hi x i j p q) : TEL kd vl rv pl τ Δ lo hi x i j p q := by
  obtain ⟨b1, b2, b3, b4, h⟩ := h
  obtain ⟨e1, e2, e3, e4, e5, -⟩ := hN x b1 b2
  refine ⟨b1, b2, b3, b4, ?_⟩
  rcases h with ⟨a1, a2, a3, a4, a5, a6, a7⟩ | ⟨y, q', a1, a2, a3, a4, a5, a6⟩ | ⟨y, q', a0, a1, a2, a3, a4, a5, a6⟩
  · exact Or.inl ⟨a1, a2, a3, by rw [e1]; exact a4, by rw [e2]; exact a5, by rw [e4 (by rw [a4]; exact J_ne (by omega) (by omega) (by omega) (by omega) (by omega))]; exact a6, op3_ag a7 hC (by omega) (by omega)⟩
  · have r := EX_rng a6
    exact Or.inr (Or.inl ⟨y, q', a1, a2, by rw [e1]; exact a3, by rw [e3]; exact a4, op1_ag a5 hC (by omega) (by omega), EX_ag (agN_sub hN (by omega) (by omega) (by omega)) (agC_sub hC (by omega) (by omega) (by omega) (by omega)) a6⟩)
  · have r := EX_rng a6
    exact Or.inr (Or.inr ⟨y, q', a0, a1, a2, by rw [e1]; exact a3, by rw [e3]; exact a4, op1_ag a5 hC (by omega) (by omega), EX_ag (agN_sub hN (by omega) (by omega) (by omega)) (agC_sub hC (by omega) (by omega) (by omega) (by omega)) a6⟩)
theorem NMN_ag {σ τ : MS} {lo hi x y k : Nat} (hN : agN lo hi x σ τ) (h : NMN rv pl σ y k) (h1 : lo ≤ y) (h2 : y < hi) : NMN rv pl τ y k := by
  obtain ⟨e1, e2, e3, -⟩ := hN y h1 h2
  exact ⟨by rw [e1]; exact h.1, by rw [e2]; exact h.2.1, by rw [e3]; exact h.2.2⟩
