/-! the reference works an expression out: one side; calls -/
theorem un_cell {σ : MS} {x k nA : Nat} {en : Nat → Nat} {z : Int} (hx : x < 39990) (h17 : σ.2 64 x = J 43) (h21 : NR σ 21 x = J (k : Nat)) (h : σ.1 104 = J 0) (hA : REND σ en nA) (hk : k < nA) (hm : en k ≤ en (k + 1)) (hb : en (k + 1) ≤ 1000) (hz : -32768 ≤ z ∧ z ≤ 32767) : F_X12_unary (J (x : Nat)) (J z) σ = if 0 ≤ z ∧ z < en (k + 1) - en k then some (σ.2 92 (en k + z).toNat, σ) else some ((0 : Int32), bkS σ 4) := by
  have en' := g_en (n := x) (by omega)
  have hkn := hA.1
  have h21' : σ.2 68 x = J (k : Nat) := h21
  have g1 : ¬ (J (k : Nat) < 0 ∨ 21 ≤ k) := by rintro (a | a); exact J_nlt0 (by omega) (by omega) a; omega
  unfold F_X12_unary
  rw [if_neg en', J_natN (by omega), h17, bndE, if_pos (show J 43 = 43 from rfl)]
  rw [J_natN (by omega)] at en'
  rw [if_neg en', h21', r_cellAt h hA hk hm hb hz]
  by_cases q : 0 ≤ z ∧ z < en (k + 1) - en k
  · rw [if_pos q, if_pos q, Option.bind_some]
    dsimp only
    rw [if_neg (by decide), if_neg en', h21', bndE, J_natN (by omega), if_neg g1, hA.2 k (by omega), J_add, bndE, if_neg (by rw [J_nat (by omega) (by omega)]; rintro (a | a); exact J_nlt0 (by omega) (by omega) a; omega), J_nat (by omega) (by omega)]
  · rw [if_neg q, if_neg q, Option.bind_some]; rfl
theorem un_hfn {σ : MS} {x nO : Nat} {w z : Int} (hx : x < 39990) (h17 : σ.2 64 x = J w) (hw : 48 ≤ w ∧ w ≤ 50) (h : σ.1 104 = J 0) (h78 : σ.1 78 = J (nO : Nat)) (hn : nO ≤ 120) (hz : -32768 ≤ z ∧ z ≤ 32767) : F_X12_unary (J (x : Nat)) (J z) σ = if 1 ≤ z ∧ z ≤ nO then some (σ.2 (w + 39).toNat z.toNat, σ) else some ((0 : Int32), bkS σ 2) := by
  have en' := g_en (n := x) (by omega)
  unfold F_X12_unary
  rw [if_neg en', J_natN (by omega), h17, bndE, r_isObj h h78 hn (by omega) (by omega)]
  have hw' : w = 48 ∨ w = 49 ∨ w = 50 := by omega
  by_cases q : 1 ≤ z ∧ z ≤ nO
  · have g := g121 (x := z.toNat) (by omega)
    rw [show J (z.toNat : Nat) = J z by congr 1; omega] at g
    rw [if_pos q, if_pos q, Option.bind_some]
    dsimp only
    rcases hw' with rfl | rfl | rfl
    · rw [if_neg (show ¬ J 48 = 43 by decide), if_pos (show J 48 = 48 from rfl), if_neg (by decide), if_neg g, J_nat (by omega) (by omega)]; rfl
    · rw [if_neg (show ¬ J 49 = 43 by decide), if_neg (show ¬ J 49 = 48 by decide), if_pos (show J 49 = 49 from rfl), Option.bind_some]; dsimp only; rw [if_neg (by decide), if_neg g, J_nat (by omega) (by omega)]; rfl
    · rw [if_neg (show ¬ J 50 = 43 by decide), if_neg (show ¬ J 50 = 48 by decide), if_neg (show ¬ J 50 = 49 by decide), if_pos (show J 50 = 50 from rfl), Option.bind_some]; dsimp only; rw [if_neg (by decide), if_neg g, J_nat (by omega) (by omega)]; rfl
  · rw [if_neg q, if_neg q, Option.bind_some]
    dsimp only
    rcases hw' with rfl | rfl | rfl
    · rw [if_neg (show ¬ J 48 = 43 by decide), if_pos (show J 48 = 48 from rfl), if_pos (by decide)]
    · rw [if_neg (show ¬ J 49 = 43 by decide), if_neg (show ¬ J 49 = 48 by decide), if_pos (show J 49 = 49 from rfl), Option.bind_some]; dsimp only; rw [if_pos (by decide)]
    · rw [if_neg (show ¬ J 50 = 43 by decide), if_neg (show ¬ J 50 = 48 by decide), if_neg (show ¬ J 50 = 49 by decide), if_pos (show J 50 = 50 from rfl), Option.bind_some]; dsimp only; rw [if_pos (by decide)]
theorem un_rand {σ : MS} {x : Nat} {z : Int} (hx : x < 39990) (h17 : σ.2 64 x = J 51) (hz : -32768 ≤ z ∧ z ≤ 32767) : F_X12_unary (J (x : Nat)) (J z) σ = if 1 ≤ z then some (drV (drS (σ.1 93)) (J z), mI σ 93 (drS (σ.1 93))) else some ((0 : Int32), σ) := by
  have en' := g_en (n := x) (by omega)
  unfold F_X12_unary
  rw [if_neg en', J_natN (by omega), h17, bndE, if_neg (show ¬ J 51 = 43 by decide), if_neg (show ¬ J 51 = 48 by decide), if_neg (show ¬ J 51 = 49 by decide), if_neg (show ¬ J 51 = 50 by decide), if_pos (show J 51 = 51 from rfl)]
  by_cases q : 1 ≤ z
  · obtain ⟨v, v1, v2, v3⟩ := drV_ok (s := drS (σ.1 93)) q hz.2
    rw [if_pos (by rw [show (1 : Int32) = J 1 from rfl, J_le (by omega) (by omega) (by omega) (by omega)]; exact q), if_pos q, bndE, bndE, if_neg (by rw [show (0 : Int32) = J 0 from rfl, J_eq (by omega) (by omega) (by omega) (by omega)]; omega), bndE, bndE]
    have e : (1 + (((drX (drS (σ.1 93))) &&& 32767) - ((drX (drS (σ.1 93))) &&& 32767) / J z * J z)).toInt16.toInt32 = drV (drS (σ.1 93)) (J z) := by
      show (drV (drS (σ.1 93)) (J z)).toInt16.toInt32 = _
      rw [v1, J_short (by omega) (by omega)]
    exact congrArg (fun t => some (t, mI σ 93 (drS (σ.1 93)))) e
  · rw [if_neg (by rw [show (1 : Int32) = J 1 from rfl, J_le (by omega) (by omega) (by omega) (by omega)]; exact q), if_neg q]
theorem un_neg {σ : MS} {x : Nat} {v : Int32} (hx : x < 39990) (h17 : σ.2 64 x = J 52) : F_X12_unary (J (x : Nat)) v σ = some ((-v).toInt16.toInt32, σ) := by
  have en' := g_en (n := x) (by omega)
  unfold F_X12_unary
  rw [if_neg en', J_natN (by omega), h17, bndE, if_neg (show ¬ J 52 = 43 by decide), if_neg (show ¬ J 52 = 48 by decide), if_neg (show ¬ J 52 = 49 by decide), if_neg (show ¬ J 52 = 50 by decide), if_neg (show ¬ J 52 = 51 by decide), if_pos (show J 52 = 52 from rfl), bndE]
theorem un_not {σ : MS} {x : Nat} {v : Int32} (hx : x < 39990) (h17 : σ.2 64 x = J 53) : F_X12_unary (J (x : Nat)) v σ = some (if v = 0 then 1 else 0, σ) := by
  have en' := g_en (n := x) (by omega)
  unfold F_X12_unary
  rw [if_neg en', J_natN (by omega), h17, bndE, if_neg (show ¬ J 53 = 43 by decide), if_neg (show ¬ J 53 = 48 by decide), if_neg (show ¬ J 53 = 49 by decide), if_neg (show ¬ J 53 = 50 by decide), if_neg (show ¬ J 53 = 51 by decide), if_neg (show ¬ J 53 = 52 by decide), if_pos (show J 53 = 53 from rfl)]
  split <;> rfl
theorem un_has {σ : MS} {x nO a : Nat} {z : Int} (hx : x < 39990) (h17 : σ.2 64 x = J 58) (h21 : NR σ 21 x = J (a : Nat)) (ha : a < 7) (h : σ.1 104 = J 0) (h78 : σ.1 78 = J (nO : Nat)) (hn : nO ≤ 120) (hz : -32768 ≤ z ∧ z ≤ 32767) : F_X12_unary (J (x : Nat)) (J z) σ = if 1 ≤ z ∧ z ≤ nO then some (if σ.2 90 (7 * z.toNat + a) = 0 then 0 else 1, σ) else some ((0 : Int32), bkS σ 2) := by
  have en' := g_en (n := x) (by omega)
  have h21' : σ.2 68 x = J (a : Nat) := h21
  unfold F_X12_unary
  rw [if_neg en', J_natN (by omega), h17, bndE, if_neg (show ¬ J 58 = 43 by decide), if_neg (show ¬ J 58 = 48 by decide), if_neg (show ¬ J 58 = 49 by decide), if_neg (show ¬ J 58 = 50 by decide), if_neg (show ¬ J 58 = 51 by decide), if_neg (show ¬ J 58 = 52 by decide), if_neg (show ¬ J 58 = 53 by decide), r_isObj h h78 hn (by omega) (by omega)]
  rw [J_natN (by omega)] at en'
  by_cases q : 1 ≤ z ∧ z ≤ nO
  · rw [if_pos q, if_pos q, Option.bind_some]
    dsimp only
    rw [if_neg (by decide), if_neg en', h21', show (7 : Int32) = J 7 from rfl, J_mul, J_add, show (7 : Int) * z + (a : Nat) = ((7 * z.toNat + a : Nat) : Int) by omega, bndE, if_neg (by rw [J_natN (by omega)]; rintro (b | b); exact J_nlt0 (by omega) (by omega) b; omega), J_natN (by omega)]
    split <;> rfl
  · rw [if_neg q, if_neg q, Option.bind_some]; rfl
/-- a call is come to -/
def ARG (σ : MS) (c : Nat) (xs : Nat → Nat) (f : Int) : Prop := f = (if c = 0 then -1 else (xs 0 : Int)) ∧ ∀ k, k < c → σ.2 69 (xs k) = J (if k + 1 < c then (xs (k + 1) : Int) else -1) ∧ xs k < 39990
theorem fr_tdS {σ : MS} {wk v : Nat} : rMk σ (tdS σ wk v) := rMk_mA (rMk_mI rMk_rfl (by omega)) (by omega)
/-- what is put down for a call, first in order, then turned about -/
def WRK (σ τ : MS) (wk c : Nat) (g : Nat → Nat) : Prop := rMk σ τ ∧ (∀ k, k ≠ 113 → τ.1 k = σ.1 k) ∧ (∀ k, k ≠ 112 → τ.2 k = σ.2 k) ∧ τ.1 113 = J (wk + 1 + c : Nat) ∧ (∀ j, j < wk → τ.2 112 j = σ.2 112 j) ∧ (∀ i, i < c → τ.2 112 (wk + 1 + i) = J (4 * g i : Nat))
theorem Ov1_go {σ : MS} {x wk c : Nat} {xs : Nat → Nat} {f : Int} {x9 : Int32} (hA : ARG σ c xs f) (hwk : wk + c + 2 < 130000) : ∀ (d k n : Nat) (τ : MS), k + d = c → d < n → WRK σ τ wk k xs → τ.2 112 wk = J (4 * x + 1 : Nat) → ∃ υ, loopF (Ov1 x9) n (J (if k < c then (xs k : Int) else -1), τ) = bnd (υ.1 113 - 1) (fun (x_21 : Int32) => loopF Ov2 FU (x9, x_21, υ)) ∧ WRK σ υ wk c xs ∧ υ.2 112 wk = J (4 * x + 1 : Nat) := by
  intro d
  induction d with
  | zero =>
    intro k n τ hk hn hW h0
    obtain ⟨n, rfl⟩ : ∃ e, n = e + 1 := ⟨n - 1, by omega⟩
    obtain rfl : k = c := by omega
    refine ⟨τ, ?_, hW, h0⟩
    rw [if_neg (by omega), Ov1_s, if_pos (by decide)]
  | succ d ih =>
    intro k n τ hk hn hW h0
    obtain ⟨n, rfl⟩ : ∃ e, n = e + 1 := ⟨n - 1, by omega⟩
    obtain ⟨w1, w1b, w1c, w2, w3, w4⟩ := hW
    obtain ⟨a1, a2⟩ := hA.2 k (by omega)
    have t := r_toDo (σ := τ) (x := xs k) (how := 0) (wk := wk + 1 + k) w2 (by omega) (by omega) (by omega)
    rw [show 4 * xs k + 0 = 4 * xs k from rfl] at t
    have en := g_en (n := xs k) (by omega)
    have e69 : (tdS τ (wk + 1 + k) (4 * xs k)).2 69 (xs k) = J (if k + 1 < c then (xs (k + 1) : Int) else -1) := by
      show τ.2 69 (xs k) = _
      rw [w1c 69 (by omega)]; exact a1
    obtain ⟨υ, u1, u2, u3⟩ := ih (k + 1) n (tdS τ (wk + 1 + k) (4 * xs k)) (by omega) (by omega) ⟨rMk_trans w1 fr_tdS, fun j hj => by show upd _ _ _ _ = _; rw [upd_s, if_neg hj]; exact w1b j hj, fun j hj => by unfold tdS; rw [mA_2, if_neg hj]; exact w1c j hj, rfl, fun j hj => by show upd _ _ _ _ = _; rw [upd_s, if_neg (by omega)]; exact w3 j hj, fun i hi => by
      show upd _ _ _ _ = _
      rw [upd_s]
      by_cases e : i = k
      · rw [if_pos (by omega), e]
      · rw [if_neg (by omega)]; exact w4 i (by omega)⟩ (by show upd _ _ _ _ = _; rw [upd_s, if_neg (by omega)]; exact h0)
    refine ⟨υ, ?_, u2, u3⟩
    rw [if_pos (by omega), Ov1_s, if_neg (J_nlt0 (by omega) (by omega)), show F_X12_toDo (J (xs k : Nat)) 0 τ = _ from t, Option.bind_some]
    dsimp only
    rw [if_neg en, J_natN (by omega), e69, bndE, u1]
def rvN (c s : Nat) (xs : Nat → Nat) (i : Nat) : Nat := if i < s ∨ c ≤ i + s then xs (c - 1 - i) else xs i
theorem Ov2_go {σ : MS} {x wk c : Nat} {xs : Nat → Nat} (hwk : wk + c + 2 < 130000) : ∀ (d s n : Nat) (τ : MS), c ≤ 2 * s + d + 1 → d < n → 2 * s ≤ c → WRK σ τ wk c (rvN c s xs) → τ.2 112 wk = J (4 * x + 1 : Nat) → ∃ υ, loopF Ov2 n (J (wk + 1 + s : Nat), J ((wk : Int) + c - s), τ) = some ((0 : Int32), υ) ∧ WRK σ υ wk c (fun i => xs (c - 1 - i)) ∧ υ.2 112 wk = J (4 * x + 1 : Nat) := by
  have done : ∀ (s n : Nat) (τ : MS), c ≤ 2 * s + 1 → 2 * s ≤ c → 0 < n → WRK σ τ wk c (rvN c s xs) → τ.2 112 wk = J (4 * x + 1 : Nat) → ∃ υ, loopF Ov2 n (J (wk + 1 + s : Nat), J ((wk : Int) + c - s), τ) = some ((0 : Int32), υ) ∧ WRK σ υ wk c (fun i => xs (c - 1 - i)) ∧ υ.2 112 wk = J (4 * x + 1 : Nat) := by
    intro s n τ h1 h2 hn hW h0
    obtain ⟨n, rfl⟩ : ∃ e, n = e + 1 := ⟨n - 1, by omega⟩
    obtain ⟨w1, w1b, w1c, w2, w3, w4⟩ := hW
    refine ⟨τ, by rw [Ov2_s, if_pos (by rw [J_le (by omega) (by omega) (by omega) (by omega)]; omega)], ⟨w1, w1b, w1c, w2, w3, fun i hi => ?_⟩, h0⟩
    rw [w4 i hi]
    unfold rvN
    by_cases e : i < s ∨ c ≤ i + s
    · rw [if_pos e]
    · rw [if_neg e]
      have : c - 1 - i = i := by omega
      dsimp only
      rw [this]
  intro d
  induction d with
  | zero => intro s n τ h1 hn h2 hW h0; exact done s n τ h1 h2 hn hW h0
  | succ d ih =>
    intro s n τ h1 hn h2 hW h0
    by_cases q : c ≤ 2 * s + 1
    · exact done s n τ q h2 (by omega) hW h0
    · obtain ⟨n, rfl⟩ : ∃ e, n = e + 1 := ⟨n - 1, by omega⟩
      obtain ⟨w1, w1b, w1c, w2, w3, w4⟩ := hW
      have hb : J ((wk : Int) + c - s) = J (wk + c - s : Nat) := by congr 1; omega
      have e1 : wk + c - s = wk + 1 + (c - 1 - s) := by omega
      have v1 : τ.2 112 (wk + c - s) = J (4 * xs (c - 1 - s) : Nat) := by
        rw [e1, w4 _ (by omega)]; unfold rvN; rw [if_neg (by omega)]
      have v2 : τ.2 112 (wk + 1 + s) = J (4 * xs s : Nat) := by
        rw [w4 _ (by omega)]; unfold rvN; rw [if_neg (by omega)]
      obtain ⟨υ, u1, u2, u3⟩ := ih (s + 1) n (mA (mA τ 112 (upd (τ.2 112) (wk + c - s) (J (4 * xs s : Nat)))) 112 (upd ((mA τ 112 (upd (τ.2 112) (wk + c - s) (J (4 * xs s : Nat)))).2 112) (wk + 1 + s) (J (4 * xs (c - 1 - s) : Nat)))) (by omega) (by omega) (by omega) ⟨rMk_mA (rMk_mA w1 (by omega)) (by omega), w1b, fun j hj => by rw [mA_2, if_neg hj, mA_2, if_neg hj]; exact w1c j hj, w2, fun j hj => by
        show upd (upd _ _ _) _ _ _ = _
        rw [upd_s, if_neg (by omega), upd_s, if_neg (by omega)]; exact w3 j hj, fun i hi => by
        show upd (upd _ _ _) _ _ _ = _
        rw [upd_s, upd_s]
        unfold rvN
        by_cases e : i = s
        · rw [if_pos (by omega), if_pos (by omega), e]
        · rw [if_neg (by omega)]
          by_cases e2 : i = c - 1 - s
          · rw [if_pos (by omega), if_pos (by omega), show c - 1 - i = s by omega]
          · rw [if_neg (by omega), w4 i hi]
            unfold rvN
            by_cases e3 : i < s ∨ c ≤ i + s
            · rw [if_pos e3, if_pos (by omega)]
            · rw [if_neg e3, if_neg (by omega)]⟩ (by show upd (upd _ _ _) _ _ _ = _; rw [upd_s, if_neg (by omega), upd_s, if_neg (by omega)]; exact h0)
      refine ⟨υ, ?_, u2, u3⟩
      rw [Ov2_s, if_neg (by rw [J_le (by omega) (by omega) (by omega) (by omega)]; omega), hb, if_neg (g13k (by omega)), J_natN (by omega), v1, bndE, if_neg (g13k (by omega)), J_natN (n := wk + 1 + s) (by omega), v2, bndE, if_neg (by have := g13k (x := wk + c - s) (by omega); rw [J_natN (by omega)] at this; exact this), bndE, J_suc, bndE, if_neg (by have := g13k (x := wk + 1 + s) (by omega); rw [J_natN (by omega)] at this; exact this), bndE, show J (wk + c - s : Nat) + -1 = J ((wk : Int) + c - (s + 1 : Nat)) by rw [show (-1 : Int32) = J (-1) from rfl, J_add]; congr 1; omega, bndE]
      exact u1
theorem op_call {σ : MS} {x wk c : Nat} {xs : Nat → Nat} {f : Int} {p1 : Int32} (hx : x < 39990) (h17 : σ.2 64 x = J 42) (h20 : NR σ 20 x = J f) (hA : ARG σ c xs f) (h113 : σ.1 113 = J (wk : Nat)) (hwk : wk + c + 2 < 130000) (hc : c ≤ 5000) : ∃ τ, F_X12_opens_ (J (x : Nat)) p1 σ = some ((0 : Int32), τ) ∧ WRK σ τ wk c (fun i => xs (c - 1 - i)) ∧ τ.2 112 wk = J (4 * x + 1 : Nat) := by
  have en := g_en (n := x) (by omega)
  have t1 := r_toDo (how := 1) h113 (by omega) (show x < 40000 by omega) (by omega)
  have h20' : (tdS σ wk (4 * x + 1)).2 67 x = J f := h20
  obtain ⟨υ, u1, u2, u3⟩ := Ov1_go (x := x) (x9 := J (wk + 1 : Nat)) hA hwk c 0 FU (tdS σ wk (4 * x + 1)) (by omega) (FU_gt (by omega)) ⟨fr_tdS, fun j hj => by show upd _ _ _ _ = _; rw [upd_s, if_neg hj], fun j hj => by unfold tdS; rw [mA_2, if_neg hj]; rfl, rfl, fun j hj => by show upd _ _ _ _ = _; rw [upd_s, if_neg (by omega)], fun i hi => by omega⟩ (by show upd _ _ _ _ = _; rw [upd_s, if_pos rfl])
  obtain ⟨φ, f1, f2, f3⟩ := Ov2_go (σ := σ) (x := x) (wk := wk) (c := c) (xs := xs) hwk c 0 FU υ (by omega) (FU_gt (by omega)) (by omega) ⟨u2.1, u2.2.1, u2.2.2.1, u2.2.2.2.1, u2.2.2.2.2.1, fun i hi => by rw [u2.2.2.2.2.2 i hi]; unfold rvN; rw [if_neg (by omega)]⟩ u3
  refine ⟨φ, ?_, f2, f3⟩
  rw [opensv_eq, if_neg en, J_natN (by omega), h17, bndE, if_pos (show J 42 = 42 from rfl), show F_X12_toDo (J (x : Nat)) 1 σ = _ from t1, Option.bind_some]
  rw [J_natN (by omega)] at en
  dsimp only
  rw [show (tdS σ wk (4 * x + 1)).1 113 = J (wk + 1 : Nat) from rfl, bndE, if_neg en, h20', bndE]
  have ef : f = if 0 < c then (xs 0 : Int) else -1 := by
    rw [hA.1]
    by_cases q : c = 0
    · rw [if_pos q, if_neg (by omega)]
    · rw [if_neg q, if_pos (by omega)]
  rw [ef, u1, bndE, u2.2.2.2.1, show J (wk + 1 + c : Nat) - 1 = J ((wk : Int) + c - (0 : Nat)) by rw [show (1 : Int32) = J 1 from rfl, J_sub]; congr 1; omega]
  exact f1
/-- the sides of a call are counted -/
theorem Cv1_go {rec : GF} {x bR c : Nat} {xs : Nat → Nat} {f : Int} {σ : MS} (hA : ARG σ c xs f) : ∀ (d k n : Nat), k + d = c → d < n → loopF (Cv1 rec (J (x : Nat)) (J (bR : Nat))) n (J (k : Nat), J (if k < c then (xs k : Int) else -1), σ) = loopF (Cv1 rec (J (x : Nat)) (J (bR : Nat))) (n - d) (J (c : Nat), -1, σ) := by
  intro d
  induction d with
  | zero =>
    intro k n hk hn
    obtain rfl : k = c := by omega
    rw [if_neg (by omega)]; rfl
  | succ d ih =>
    intro k n hk hn
    obtain ⟨n, rfl⟩ : ∃ e, n = e + 1 := ⟨n - 1, by omega⟩
    obtain ⟨a1, a2⟩ := hA.2 k (by omega)
    rw [if_pos (by omega), Cv1_s, if_neg (J_nlt0 (by omega) (by omega)), bndE, if_neg (g_en (by omega)), J_natN (by omega), a1, bndE, J_suc, ih (k + 1) n (by omega) (by omega), show n + 1 - (d + 1) = n - d by omega]
theorem r_calls {rec : GF} {x bR c z w0 : Nat} {xs : Nat → Nat} {f : Int} {σ : MS} (hx : x < 39990) (h20 : NR σ 20 x = J f) (hA : ARG σ c xs f) (hc : c ≤ 5000) (h21 : NR σ 21 x = J (z : Nat)) (h115 : σ.1 115 = J (w0 + c : Nat)) : F_X12_calls rec (J (x : Nat)) (J (bR : Nat)) σ = (rec 2 (J (z : Nat)) (J (w0 : Nat)) (J (bR : Nat)) σ).bind fun u_13 => bnd (mI u_13.2 115 ((u_13.2.1 115) - J (c : Nat))) fun σ_15 => bnd (mI σ_15 115 ((σ_15.1 115) + 1)) fun σ_17 => if (σ_15.1 115) < 0 ∨ 9000 ≤ (σ_15.1 115).toNatClampNeg then none else bnd (mA σ_17 114 (upd (σ_17.2 114) (σ_15.1 115).toNatClampNeg u_13.1)) fun σ_21 => some (0, σ_21) := by
  have en := g_en (n := x) (by omega)
  have ef : f = if 0 < c then (xs 0 : Int) else -1 := by
    rw [hA.1]
    by_cases q : c = 0
    · rw [if_pos q, if_neg (by omega)]
    · rw [if_neg q, if_pos (by omega)]
  have h20' : σ.2 67 x = J f := h20
  have h21' : σ.2 68 x = J (z : Nat) := h21
  have eF : FU - c = (FU - c - 1) + 1 := by have : 100000 < FU := FU_gt (by omega); omega
  rw [calls_eq, if_neg en, J_natN (by omega), h20', bndE, ef]
  have := Cv1_go (rec := rec) (x := x) (bR := bR) hA c 0 FU (by omega) (FU_gt (by omega))
  rw [show (0 : Int32) = J ((0 : Nat) : Int) from rfl, this, eF, Cv1_s, if_pos (by decide), if_neg en, J_natN (by omega), h21', h115, J_sub, show ((w0 + c : Nat) : Int) - (c : Nat) = ((w0 : Nat) : Int) by omega]; rfl
