/-! the reference works an expression out: nodes whose sides are known -/
/-- a value is taken from what waits -/
def wtP (σ : MS) (w : Nat) : MS := mI σ 115 (J (w : Nat))
/-- a break -/
def bkS (σ : MS) (n : Int) : MS := mI (mI σ 104 (J 3)) 105 (J n)
theorem r_breaks {σ : MS} {n : Int} (h : σ.1 104 = J 0) : F_X12_breaks (J n) σ = some ((0 : Int32), bkS σ n) := by
  unfold F_X12_breaks
  rw [if_pos (show σ.1 104 = 0 from h), bndE, bndE]; rfl
theorem r_isObj {σ : MS} {nO : Nat} {z : Int} (h : σ.1 104 = J 0) (h78 : σ.1 78 = J (nO : Nat)) (hn : nO ≤ 120) (h1 : -100000 ≤ z) (h2 : z ≤ 100000) : F_X12_isObject (J z) σ = if 1 ≤ z ∧ z ≤ nO then some ((1 : Int32), σ) else some ((0 : Int32), bkS σ 2) := by
  unfold F_X12_isObject
  rw [bndE, show (1 : Int32) = J 1 from rfl, h78]
  by_cases q : z < 1
  · rw [if_pos (by rw [J_lt (by omega) (by omega) (by omega) (by omega)]; exact q), if_neg (by omega)]
    dsimp only
    rw [show F_X12_breaks 2 σ = _ from r_breaks (n := 2) h]; rfl
  · rw [if_neg (by rw [J_lt (by omega) (by omega) (by omega) (by omega)]; exact q)]
    by_cases q2 : (nO : Int) < z
    · rw [if_pos (by rw [J_lt (by omega) (by omega) (by omega) (by omega)]; exact q2), if_neg (by omega)]
      dsimp only
      rw [show F_X12_breaks 2 σ = _ from r_breaks (n := 2) h]; rfl
    · rw [if_neg (by rw [J_lt (by omega) (by omega) (by omega) (by omega)]; exact q2), if_pos (by omega)]
/-- two sides -/
theorem r_binary {σ : MS} {x : Nat} {d o : Int} {l r : Int32} (h : σ.1 104 = J 0) (hx : x < 39990) (h21 : NR σ 21 x = J d) (hb : bTq 56 d o) : F_X12_binary (J (x : Nat)) l r σ = if (o = 13 ∨ o = 14) ∧ r = 0 then some ((0 : Int32), bkS σ 1) else some (numF o l r, σ) := by
  have en := g_en (n := x) (by omega)
  have h21' : σ.2 68 x = J d := h21
  have hbk : F_X12_breaks 1 σ = _ := r_breaks (n := 1) h
  unfold F_X12_binary
  rw [if_pos (show σ.1 104 = 0 from h), if_neg en, J_natN (by omega), h21', bndE]
  simp only [bndE]
  unfold numF
  unfold bTq at hb
  rcases hb with ⟨-, rfl, rfl⟩ | ⟨-, rfl, rfl⟩ | ⟨-, rfl, rfl⟩ | ⟨-, rfl, rfl⟩ | ⟨-, rfl, rfl⟩ | ⟨-, rfl, rfl⟩ | ⟨-, rfl, rfl⟩ | ⟨-, rfl, rfl⟩ | ⟨-, rfl, rfl⟩ | ⟨-, rfl, rfl⟩ | ⟨-, rfl, rfl⟩ | ⟨h0, -⟩
  · rw [if_neg (show ¬ J 43 = 37 by decide), if_neg (show ¬ J 43 = 42 by decide), if_pos (show J 43 = 43 from rfl), if_neg (show ¬ (((10 : Int) = 13 ∨ (10 : Int) = 14) ∧ r = 0) from fun hh => by omega)]; rfl
  · rw [if_neg (show ¬ J 45 = 37 by decide), if_neg (show ¬ J 45 = 42 by decide), if_neg (show ¬ J 45 = 43 by decide), if_pos (show J 45 = 45 from rfl), if_neg (show ¬ (((11 : Int) = 13 ∨ (11 : Int) = 14) ∧ r = 0) from fun hh => by omega)]; rfl
  · rw [if_neg (show ¬ J 42 = 37 by decide), if_pos (show J 42 = 42 from rfl), if_neg (show ¬ (((12 : Int) = 13 ∨ (12 : Int) = 14) ∧ r = 0) from fun hh => by omega)]; rfl
  · rw [if_neg (show ¬ J 47 = 37 by decide), if_neg (show ¬ J 47 = 42 by decide), if_neg (show ¬ J 47 = 43 by decide), if_neg (show ¬ J 47 = 45 by decide), if_pos (show J 47 = 47 from rfl)]
    by_cases q : r = 0
    · rw [if_pos q, if_pos (show ((13 : Int) = 13 ∨ (13 : Int) = 14) ∧ r = 0 from ⟨Or.inl rfl, q⟩), hbk]; rfl
    · rw [if_neg q, if_neg q, if_neg (show ¬ (((13 : Int) = 13 ∨ (13 : Int) = 14) ∧ r = 0) from fun hh => q hh.2)]; rfl
  · rw [if_pos (show J 37 = 37 from rfl)]
    by_cases q : r = 0
    · rw [if_pos q, if_pos (show ((14 : Int) = 13 ∨ (14 : Int) = 14) ∧ r = 0 from ⟨Or.inr rfl, q⟩), hbk]; rfl
    · rw [if_neg q, if_neg q, if_neg (show ¬ (((14 : Int) = 13 ∨ (14 : Int) = 14) ∧ r = 0) from fun hh => q hh.2)]; rfl
  · rw [if_neg (show ¬ J 317 = 37 by decide), if_neg (show ¬ J 317 = 42 by decide), if_neg (show ¬ J 317 = 43 by decide), if_neg (show ¬ J 317 = 45 by decide), if_neg (show ¬ J 317 = 47 by decide), if_neg (show ¬ J 317 = 60 by decide), if_neg (show ¬ J 317 = 62 by decide), if_neg (show ¬ J 317 = 289 by decide), if_neg (show ¬ J 317 = 316 by decide), if_pos (show J 317 = 317 from rfl), if_neg (show ¬ (((15 : Int) = 13 ∨ (15 : Int) = 14) ∧ r = 0) from fun hh => by omega)]
    show _ = some ((if l = r then (1 : Int32) else 0), σ)
    split <;> rfl
  · rw [if_neg (show ¬ J 289 = 37 by decide), if_neg (show ¬ J 289 = 42 by decide), if_neg (show ¬ J 289 = 43 by decide), if_neg (show ¬ J 289 = 45 by decide), if_neg (show ¬ J 289 = 47 by decide), if_neg (show ¬ J 289 = 60 by decide), if_neg (show ¬ J 289 = 62 by decide), if_pos (show J 289 = 289 from rfl), if_neg (show ¬ (((16 : Int) = 13 ∨ (16 : Int) = 14) ∧ r = 0) from fun hh => by omega)]
    show _ = some ((if l = r then (0 : Int32) else 1), σ)
    split <;> rfl
  · rw [if_neg (show ¬ J 60 = 37 by decide), if_neg (show ¬ J 60 = 42 by decide), if_neg (show ¬ J 60 = 43 by decide), if_neg (show ¬ J 60 = 45 by decide), if_neg (show ¬ J 60 = 47 by decide), if_pos (show J 60 = 60 from rfl), if_neg (show ¬ (((17 : Int) = 13 ∨ (17 : Int) = 14) ∧ r = 0) from fun hh => by omega)]
    show _ = some ((if r ≤ l then (0 : Int32) else 1), σ)
    split <;> rfl
  · rw [if_neg (show ¬ J 316 = 37 by decide), if_neg (show ¬ J 316 = 42 by decide), if_neg (show ¬ J 316 = 43 by decide), if_neg (show ¬ J 316 = 45 by decide), if_neg (show ¬ J 316 = 47 by decide), if_neg (show ¬ J 316 = 60 by decide), if_neg (show ¬ J 316 = 62 by decide), if_neg (show ¬ J 316 = 289 by decide), if_pos (show J 316 = 316 from rfl), if_neg (show ¬ (((18 : Int) = 13 ∨ (18 : Int) = 14) ∧ r = 0) from fun hh => by omega)]
    show _ = some ((if r < l then (0 : Int32) else 1), σ)
    split <;> rfl
  · rw [if_neg (show ¬ J 62 = 37 by decide), if_neg (show ¬ J 62 = 42 by decide), if_neg (show ¬ J 62 = 43 by decide), if_neg (show ¬ J 62 = 45 by decide), if_neg (show ¬ J 62 = 47 by decide), if_neg (show ¬ J 62 = 60 by decide), if_pos (show J 62 = 62 from rfl), if_neg (show ¬ (((19 : Int) = 13 ∨ (19 : Int) = 14) ∧ r = 0) from fun hh => by omega)]
    show _ = some ((if l ≤ r then (0 : Int32) else 1), σ)
    split <;> rfl
  · rw [if_neg (show ¬ J 318 = 37 by decide), if_neg (show ¬ J 318 = 42 by decide), if_neg (show ¬ J 318 = 43 by decide), if_neg (show ¬ J 318 = 45 by decide), if_neg (show ¬ J 318 = 47 by decide), if_neg (show ¬ J 318 = 60 by decide), if_neg (show ¬ J 318 = 62 by decide), if_neg (show ¬ J 318 = 289 by decide), if_neg (show ¬ J 318 = 316 by decide), if_neg (show ¬ J 318 = 317 by decide), if_neg (show ¬ (((20 : Int) = 13 ∨ (20 : Int) = 14) ∧ r = 0) from fun hh => by omega)]
    show _ = some ((if l < r then (0 : Int32) else 1), σ)
    split <;> rfl
  · omega
/-- whether l is in r -/
theorem r_isIn {σ : MS} {nO : Nat} {z : Int} {r : Int32} (h : σ.1 104 = J 0) (h78 : σ.1 78 = J (nO : Nat)) (hn : nO ≤ 120) (hz : -32768 ≤ z ∧ z ≤ 32767) : F_X12_isIn (J z) r σ = if 1 ≤ z ∧ z ≤ nO then some (if σ.2 87 z.toNat = r then 1 else 0, σ) else some ((0 : Int32), bkS σ 2) := by
  unfold F_X12_isIn
  rw [if_pos (show σ.1 104 = 0 from h), r_isObj h h78 hn (by omega) (by omega)]
  by_cases q : 1 ≤ z ∧ z ≤ nO
  · have g := g121 (x := z.toNat) (by omega)
    rw [show J (z.toNat : Nat) = J z by congr 1; omega] at g
    rw [if_pos q, if_pos q, Option.bind_some]
    dsimp only
    rw [if_neg (by decide), if_neg g, J_nat (by omega) (by omega)]
    split <;> rfl
  · rw [if_neg q, if_neg q, Option.bind_some]; rfl
/-- cells -/
def REND (σ : MS) (en : Nat → Nat) (nA : Nat) : Prop := nA ≤ 20 ∧ ∀ k, k ≤ nA → σ.2 77 k = J (en k : Nat)
theorem r_cellAt {σ : MS} {en : Nat → Nat} {nA k : Nat} {z : Int} (h : σ.1 104 = J 0) (hA : REND σ en nA) (hk : k < nA) (hm : en k ≤ en (k + 1)) (hb : en (k + 1) ≤ 1000) (hz : -32768 ≤ z ∧ z ≤ 32767) : F_X12_cellAt (J (k : Nat)) (J z) σ = if 0 ≤ z ∧ z < en (k + 1) - en k then some ((1 : Int32), σ) else some ((0 : Int32), bkS σ 4) := by
  obtain ⟨h1, h2⟩ := hA
  have g1 : ¬ (J (k : Nat) < 0 ∨ 21 ≤ (J (k : Nat)).toNatClampNeg) := by rw [J_natN (by omega)]; rintro (a | a); exact J_nlt0 (by omega) (by omega) a; omega
  have g2 : ¬ (J (k + 1 : Nat) < 0 ∨ 21 ≤ (J (k + 1 : Nat)).toNatClampNeg) := by rw [J_natN (by omega)]; rintro (a | a); exact J_nlt0 (by omega) (by omega) a; omega
  have hbk : F_X12_breaks 4 σ = _ := r_breaks (n := 4) h
  have h0 : σ.1 104 = 0 := h
  have hb3 : ¬ ((bkS σ 4).1 104 = 0) := by show ¬ J 3 = 0; decide
  unfold F_X12_cellAt
  rw [if_pos h0, bndE, bndE]
  by_cases q : z < 0
  · rw [if_pos (J_lt0 q (by omega)), if_neg (by omega)]
    dsimp only
    rw [hbk, Option.bind_some]
    dsimp only
    rw [if_neg hb3]
  · rw [if_neg (J_nlt0 (by omega) (by omega)), J_suc, bndE, if_neg g2, if_neg g1, J_natN (by omega), J_natN (by omega), h2 k (by omega), h2 (k + 1) (by omega), J_sub, bndE]
    by_cases q2 : z < (en (k + 1) : Int) - en k
    · rw [if_pos (by rw [J_lt (by omega) (by omega) (by omega) (by omega)]; exact q2), if_pos (by omega)]
      dsimp only
      rw [if_pos h0]
    · rw [if_neg (by rw [J_lt (by omega) (by omega) (by omega) (by omega)]; exact q2), if_neg (by omega)]
      dsimp only
      rw [hbk, Option.bind_some]
      dsimp only
      rw [if_neg hb3]
/-- closing: what waits, then the value -/
theorem cl_bin {σ : MS} {x w0 : Nat} {p1 : Int32} {w v : Int32} {τ : MS} (hx : x < 39990) (h17 : σ.2 64 x = J 56) (h115 : σ.1 115 = J (w0 + 2 : Nat)) (hw0 : w0 + 2 ≤ 9000) (hb : F_X12_binary (J (x : Nat)) (σ.2 114 w0) (σ.2 114 (w0 + 1)) (wtP (wtP σ (w0 + 1)) w0) = some (v, τ)) (hτ : τ.1 115 = J (w0 : Nat)) : F_X12_closes (J (x : Nat)) p1 σ = some ((0 : Int32), wpS τ w0 v) := by
  have en := g_en (n := x) (by omega)
  have e1 : J (w0 + 2 : Nat) - 1 = J (w0 + 1 : Nat) := by rw [show (1 : Int32) = J 1 from rfl, J_sub]; congr 1; omega
  have e2 : J (w0 + 1 : Nat) - 1 = J (w0 : Nat) := by rw [show (1 : Int32) = J 1 from rfl, J_sub]; congr 1; omega
  unfold F_X12_closes
  rw [h115, e1, bndE, bndE, if_neg (g9k (by omega)), J_natN (n := w0 + 1) (by omega), bndE, if_neg en, J_natN (n := x) (by omega), bndE, show (mI σ 115 (J (w0 + 1 : Nat))).2 64 x = J 56 from h17, if_pos (by decide), show (mI σ 115 (J (w0 + 1 : Nat))).1 115 = J (w0 + 1 : Nat) from rfl, e2, bndE, bndE, if_neg (g9k (by omega)), J_natN (n := w0) (by omega)]
  rw [show F_X12_binary (J (x : Nat)) ((mI (mI σ 115 (J (w0 + 1 : Nat))) 115 (J (w0 : Nat))).2 114 w0) ((mI σ 115 (J (w0 + 1 : Nat))).2 114 (w0 + 1)) (mI (mI σ 115 (J (w0 + 1 : Nat))) 115 (J (w0 : Nat))) = some (v, τ) from hb, Option.bind_some]
  dsimp only
  rw [hτ, J_suc, bndE, if_neg (g9k (by omega)), bndE, J_natN (by omega)]; rfl
theorem cl_in {σ : MS} {x w0 : Nat} {p1 : Int32} {v : Int32} {τ : MS} (hx : x < 39990) (h17 : σ.2 64 x = J 57) (h115 : σ.1 115 = J (w0 + 2 : Nat)) (hw0 : w0 + 2 ≤ 9000) (hb : F_X12_isIn (σ.2 114 w0) (σ.2 114 (w0 + 1)) (wtP (wtP σ (w0 + 1)) w0) = some (v, τ)) (hτ : τ.1 115 = J (w0 : Nat)) : F_X12_closes (J (x : Nat)) p1 σ = some ((0 : Int32), wpS τ w0 v) := by
  have en := g_en (n := x) (by omega)
  have e1 : J (w0 + 2 : Nat) - 1 = J (w0 + 1 : Nat) := by rw [show (1 : Int32) = J 1 from rfl, J_sub]; congr 1; omega
  have e2 : J (w0 + 1 : Nat) - 1 = J (w0 : Nat) := by rw [show (1 : Int32) = J 1 from rfl, J_sub]; congr 1; omega
  unfold F_X12_closes
  rw [h115, e1, bndE, bndE, if_neg (g9k (by omega)), J_natN (n := w0 + 1) (by omega), bndE, if_neg en, J_natN (n := x) (by omega), bndE, show (mI σ 115 (J (w0 + 1 : Nat))).2 64 x = J 57 from h17, if_neg (by decide)]
  rw [J_natN (n := x) (by omega)] at en
  rw [if_neg en, if_pos (by decide), show (mI σ 115 (J (w0 + 1 : Nat))).1 115 = J (w0 + 1 : Nat) from rfl, e2, bndE, bndE, if_neg (g9k (by omega)), J_natN (n := w0) (by omega)]
  rw [show F_X12_isIn ((mI (mI σ 115 (J (w0 + 1 : Nat))) 115 (J (w0 : Nat))).2 114 w0) ((mI σ 115 (J (w0 + 1 : Nat))).2 114 (w0 + 1)) (mI (mI σ 115 (J (w0 + 1 : Nat))) 115 (J (w0 : Nat))) = some (v, τ) from hb, Option.bind_some]
  dsimp only
  rw [hτ, J_suc, bndE, if_neg (g9k (by omega)), bndE, J_natN (by omega)]; rfl
theorem cl_un {σ : MS} {x w0 : Nat} {p1 : Int32} {w : Int} {v : Int32} {τ : MS} (hx : x < 39990) (h17 : σ.2 64 x = J w) (hw : 0 ≤ w ∧ w < 1000 ∧ ¬ (54 ≤ w ∧ w ≤ 57)) (h115 : σ.1 115 = J (w0 + 1 : Nat)) (hw0 : w0 + 1 ≤ 9000) (hb : F_X12_unary (J (x : Nat)) (σ.2 114 w0) (wtP σ w0) = some (v, τ)) (hτ : τ.1 115 = J (w0 : Nat)) : F_X12_closes (J (x : Nat)) p1 σ = some ((0 : Int32), wpS τ w0 v) := by
  have en := g_en (n := x) (by omega)
  have e1 : J (w0 + 1 : Nat) - 1 = J (w0 : Nat) := by rw [show (1 : Int32) = J 1 from rfl, J_sub]; congr 1; omega
  unfold F_X12_closes
  rw [h115, e1, bndE, bndE, if_neg (g9k (by omega)), J_natN (n := w0) (by omega), bndE, if_neg en, J_natN (n := x) (by omega), bndE, show (mI σ 115 (J (w0 : Nat))).2 64 x = J w from h17, if_neg (show ¬ J w = 56 from jnE (c := 56) (by omega) (by omega) (by omega))]
  rw [J_natN (n := x) (by omega)] at en
  rw [if_neg en, if_neg (show ¬ J w = 57 from jnE (c := 57) (by omega) (by omega) (by omega)), if_neg en, bndE, if_neg (show ¬ J w = 54 from jnE (c := 54) (by omega) (by omega) (by omega)), if_neg en, if_neg (show ¬ J w = 55 from jnE (c := 55) (by omega) (by omega) (by omega)), show F_X12_unary (J (x : Nat)) ((mI σ 115 (J (w0 : Nat))).2 114 w0) (mI σ 115 (J (w0 : Nat))) = some (v, τ) from hb, Option.bind_some]
  dsimp only
  rw [hτ, J_suc, bndE, if_neg (g9k (by omega)), bndE, J_natN (by omega)]; rfl
/-- and, or: the left side is known (how 1), or the right one (how 2) -/
theorem cl_and {σ : MS} {x y w0 wk how : Nat} {w : Int} (hx : x < 39990) (hy : y < 39990) (h17 : σ.2 64 x = J w) (hw : w = 54 ∨ w = 55) (hh : how = 1 ∨ how = 2) (h115 : σ.1 115 = J (w0 + 1 : Nat)) (hw0 : w0 + 1 ≤ 9000) (h20 : NR σ 20 x = J (y : Nat)) (h113 : σ.1 113 = J (wk : Nat)) (hwk : wk + 1 < 130000) : F_X12_closes (J (x : Nat)) (J (how : Nat)) σ = if how = 1 ∧ (σ.2 114 w0 = 0 ↔ w = 55) then some ((0 : Int32), tdS (tdS (wtP σ w0) wk (4 * x + 2)) (wk + 1) (4 * y)) else some ((0 : Int32), wpS (wtP σ w0) w0 (if σ.2 114 w0 = 0 then 0 else 1)) := by
  have en := g_en (n := x) (by omega)
  have e1 : J (w0 + 1 : Nat) - 1 = J (w0 : Nat) := by rw [show (1 : Int32) = J 1 from rfl, J_sub]; congr 1; omega
  have t1 := r_toDo (σ := wtP σ w0) (x := x) (how := 2) (wk := wk) h113 (by omega) (show x < 40000 by omega) (by omega)
  have t2 := r_toDo (σ := tdS (wtP σ w0) wk (4 * x + 2)) (how := 0) (wk := wk + 1) rfl (by omega) (show y < 40000 by omega) (by omega)
  rw [show 4 * y + 0 = 4 * y from rfl] at t2
  have h20' : (tdS (wtP σ w0) wk (4 * x + 2)).2 67 x = J (y : Nat) := h20
  unfold F_X12_closes
  rw [h115, e1, bndE, bndE, if_neg (g9k (by omega)), J_natN (n := w0) (by omega), bndE, if_neg en, J_natN (n := x) (by omega), bndE, show (mI σ 115 (J (w0 : Nat))).2 64 x = J w from h17, if_neg (show ¬ J w = 56 from jnE (c := 56) (by omega) (by omega) (by omega))]
  rw [J_natN (n := x) (by omega)] at en
  rw [if_neg en, if_neg (show ¬ J w = 57 from jnE (c := 57) (by omega) (by omega) (by omega)), if_neg en, bndE, show (mI σ 115 (J (w0 : Nat))).2 114 w0 = σ.2 114 w0 from rfl]
  have fin : (bnd (fun (t_56 : Int32) (σ_57 : MS) => bnd (mI σ_57 115 (σ_57.1 115 + 1)) fun σ_16 => if σ_57.1 115 < 0 ∨ 9000 ≤ (σ_57.1 115).toNatClampNeg then none else bnd (mA σ_16 114 (upd (σ_16.2 114) (σ_57.1 115).toNatClampNeg t_56)) fun σ_20 => some ((0 : Int32), σ_20)) fun (j_58 : Int32 → MS → MR) => if σ.2 114 w0 = 0 then j_58 0 (mI σ 115 (J (w0 : Nat))) else j_58 1 (mI σ 115 (J (w0 : Nat)))) = some ((0 : Int32), wpS (wtP σ w0) w0 (if σ.2 114 w0 = 0 then 0 else 1)) := by
    rw [bndE]
    have f : ∀ v : Int32, (bnd (mI (mI σ 115 (J (w0 : Nat))) 115 ((mI σ 115 (J (w0 : Nat))).1 115 + 1)) fun σ_16 => if (mI σ 115 (J (w0 : Nat))).1 115 < 0 ∨ 9000 ≤ ((mI σ 115 (J (w0 : Nat))).1 115).toNatClampNeg then none else bnd (mA σ_16 114 (upd (σ_16.2 114) ((mI σ 115 (J (w0 : Nat))).1 115).toNatClampNeg v)) fun σ_20 => some ((0 : Int32), σ_20)) = some ((0 : Int32), wpS (wtP σ w0) w0 v) := fun v => by
      rw [show (mI σ 115 (J (w0 : Nat))).1 115 = J (w0 : Nat) from rfl, J_suc, bndE, if_neg (g9k (by omega)), bndE, J_natN (by omega)]; rfl
    by_cases q : σ.2 114 w0 = 0
    · rw [if_pos q, if_pos q]; exact f 0
    · rw [if_neg q, if_neg q]; exact f 1
  have go : (F_X12_toDo (J (x : Nat)) 2 (mI σ 115 (J (w0 : Nat)))).bind (fun u_80 => if J (x : Nat) < 0 ∨ 40000 ≤ x then none else (F_X12_toDo (u_80.2.2 67 x) 0 u_80.2).bind fun u_84 => some ((0 : Int32), u_84.2)) = some ((0 : Int32), tdS (tdS (wtP σ w0) wk (4 * x + 2)) (wk + 1) (4 * y)) := by
    rw [show F_X12_toDo (J (x : Nat)) 2 (mI σ 115 (J (w0 : Nat))) = _ from t1, Option.bind_some]
    dsimp only
    rw [if_neg en, h20', show F_X12_toDo (J (y : Nat)) 0 _ = _ from t2]; rfl
  have h17' : (mI σ 115 (J (w0 : Nat))).2 64 x = J w := h17
  rcases hw with rfl | rfl
  · rw [if_pos (show J 54 = 54 from rfl)]
    dsimp only
    rw [bndE]
    rcases hh with rfl | rfl
    · rw [if_pos (show J ((1 : Nat) : Int) = 1 from rfl), bndE]
      by_cases q : σ.2 114 w0 = 0
      · rw [if_neg (show ¬ ((1 : Nat) = 1 ∧ (σ.2 114 w0 = 0 ↔ (54 : Int) = 55)) from fun h => absurd (h.2.mp q) (by decide)), if_pos q]
        dsimp only
        rw [if_neg en, bndE, h17', if_pos (show J 54 = 54 from rfl)]
        dsimp only
        rw [if_neg (by decide)]
        exact fin
      · rw [if_pos (show ((1 : Nat) = 1 ∧ (σ.2 114 w0 = 0 ↔ (54 : Int) = 55)) from ⟨rfl, fun h => absurd h q, fun h => absurd h (by decide)⟩), if_neg q]
        dsimp only
        rw [if_neg en, bndE, h17', if_pos (show J 54 = 54 from rfl)]
        dsimp only
        rw [if_pos rfl]
        exact go
    · rw [if_neg (show ¬ J ((2 : Nat) : Int) = 1 by decide), if_neg (show ¬ ((2 : Nat) = 1 ∧ (σ.2 114 w0 = 0 ↔ (54 : Int) = 55)) from fun h => by omega)]
      exact fin
  · rw [if_neg (show ¬ J 55 = 54 by decide), if_neg en, if_pos (show J 55 = 55 from rfl)]
    dsimp only
    rw [bndE]
    rcases hh with rfl | rfl
    · rw [if_pos (show J ((1 : Nat) : Int) = 1 from rfl), bndE]
      by_cases q : σ.2 114 w0 = 0
      · rw [if_pos (show ((1 : Nat) = 1 ∧ (σ.2 114 w0 = 0 ↔ (55 : Int) = 55)) from ⟨rfl, fun _ => rfl, fun _ => q⟩), if_pos q]
        dsimp only
        rw [if_neg en, bndE, h17', if_neg (show ¬ J 55 = 54 by decide)]
        dsimp only
        rw [if_pos rfl]
        exact go
      · rw [if_neg (show ¬ ((1 : Nat) = 1 ∧ (σ.2 114 w0 = 0 ↔ (55 : Int) = 55)) from fun h => q (h.2.mpr rfl)), if_neg q]
        dsimp only
        rw [if_neg en, bndE, h17', if_neg (show ¬ J 55 = 54 by decide)]
        dsimp only
        rw [if_neg (by decide)]
        exact fin
    · rw [if_neg (show ¬ J ((2 : Nat) : Int) = 1 by decide), if_neg (show ¬ ((2 : Nat) = 1 ∧ (σ.2 114 w0 = 0 ↔ (55 : Int) = 55)) from fun h => by omega)]
      exact fin
