/-! the reference lays a built text: all rows are cleared -/
variable {T N : Nat} {kd vl rv : Nat → Int} {pl : Nat → Nat}
def lyS (k : Nat) : Prop := k = 52 ∨ k = 56 ∨ k = 49 ∨ k = 122 ∨ k = 50 ∨ k = 51 ∨ k = 53
theorem frA_trans {S : Nat → Prop} {σ τ υ : MS} (h : frA S σ τ) (i : frA S τ υ) : frA S σ υ := ⟨by rw [i.1, h.1], fun k hk => by rw [i.2 k hk, h.2 k hk]⟩
theorem frA_sub {S R : Nat → Prop} {σ τ : MS} (h : frA S σ τ) (hs : ∀ k, S k → R k) : frA R σ τ := ⟨h.1, fun k hk => h.2 k (fun h' => hk (hs k h'))⟩
theorem lyE {again : Int32 × MS → MR} {i : Nat} (hi : i < 121) (σ : MS) : ∃ τ, loopF (LyE again (J (i : Nat))) FU (0, σ) = again (J (i + 1 : Nat), τ) ∧ frA (fun k => k = 51 ∨ k = 53) σ τ ∧ (∀ x, x < 7 → τ.2 51 (7 * i + x) = 0 ∧ τ.2 53 (7 * i + x) = 0) ∧ ∀ y, y < 7 * i → τ.2 51 y = σ.2 51 y ∧ τ.2 53 y = σ.2 53 y := by
  obtain ⟨τ, e, h⟩ := cnt_loop (F := LyE again (J (i : Nat))) (n := 7) (nx := fun τ => again (J (i + 1 : Nat), τ)) (P := fun m τ => frA (fun k => k = 51 ∨ k = 53) σ τ ∧ (∀ x, x < m → τ.2 51 (7 * i + x) = 0 ∧ τ.2 53 (7 * i + x) = 0) ∧ ∀ y, y < 7 * i → τ.2 51 y = σ.2 51 y ∧ τ.2 53 y = σ.2 53 y) (by omega) (fun again2 τ _ => by
    unfold LyE
    simp only [bndE]
    rw [if_pos (show (7 : Int32) ≤ J ((7 : Nat) : Int) by decide), J_suc]) (fun again2 k τ hk ⟨h1, h2, h3⟩ => by
    unfold LyE
    simp only [bndE]
    have e7 : 7 * J (i : Nat) + J (k : Nat) = J (7 * i + k : Nat) := by rw [show (7 : Int32) = J 7 from rfl, J_mul, J_add]; congr 1
    have g := gNn (k := 7 * i + k) (n := 847) (by omega) (by omega)
    refine ⟨mA (mA τ 51 (upd (τ.2 51) (7 * i + k) 0)) 53 (upd (τ.2 53) (7 * i + k) 0), by rw [if_neg (show ¬ (7 : Int32) ≤ J (k : Nat) from Jle_no (n := 7) hk (by omega)), e7, if_neg g, if_neg g, J_suc, J_natN (by omega)]; rfl, frA_mA (frA_mA h1 (by omega)) (by omega), fun x hx => ?_, fun y hy => ?_⟩
    · rw [mA_2, if_neg (by omega), mA_2, if_pos rfl, mA_2, if_pos rfl, upd_s, upd_s]
      by_cases q : x = k
      · rw [if_pos (by omega), if_pos (by omega)]; exact ⟨rfl, rfl⟩
      · rw [if_neg (by omega), if_neg (by omega)]; exact h2 x (by omega)
    · rw [mA_2, if_neg (by omega), mA_2, if_pos rfl, mA_2, if_pos rfl, upd_s, upd_s, if_neg (by omega), if_neg (by omega)]
      exact h3 y hy) (τ := σ) ⟨frA_rfl, fun x hx => by omega, fun _ _ => ⟨rfl, rfl⟩⟩
  exact ⟨τ, e, h⟩
/-- the rows of objects, cleared -/
def ZRO (n : Nat) (τ : MS) : Prop := (∀ x, x < n → τ.2 52 x = 0 ∧ τ.2 56 x = 0 ∧ τ.2 49 x = 0 ∧ τ.2 122 x = 0 ∧ τ.2 50 x = 0) ∧ ∀ y, y < 7 * n → τ.2 51 y = 0 ∧ τ.2 53 y = 0
theorem lyD (σ : MS) : ∃ τ, loopF LyD FU (0, σ) = LyI τ ∧ frA lyS σ τ ∧ ZRO 121 τ := by
  obtain ⟨τ, e, h⟩ := cnt_loop (F := LyD) (n := 121) (nx := LyI) (P := fun m τ => frA lyS σ τ ∧ ZRO m τ) (by omega) (fun again τ _ => by
    unfold LyD
    rw [if_pos (show (121 : Int32) ≤ J ((121 : Nat) : Int) by decide)]) (fun again k τ hk ⟨h1, h2, h3⟩ => by
    have g := gNn (k := k) (n := 121) (by omega) (by omega)
    generalize hτ1 : mA (mA (mA (mA (mA τ 52 (upd (τ.2 52) k 0)) 56 (upd (τ.2 56) k 0)) 49 (upd (τ.2 49) k 0)) 122 (upd (τ.2 122) k 0)) 50 (upd (τ.2 50) k 0) = τ1
    have f1 : frA lyS τ τ1 := by
      rw [← hτ1]
      exact frA_mA (frA_mA (frA_mA (frA_mA (frA_mA frA_rfl (by unfold lyS; omega)) (by unfold lyS; omega)) (by unfold lyS; omega)) (by unfold lyS; omega)) (by unfold lyS; omega)
    have v : ∀ j, (j = 52 ∨ j = 56 ∨ j = 49 ∨ j = 122 ∨ j = 50) → τ1.2 j = upd (τ.2 j) k 0 := fun j hj => by
      rw [← hτ1]
      rcases hj with rfl | rfl | rfl | rfl | rfl <;> rfl
    have w : ∀ j, (j = 51 ∨ j = 53) → τ1.2 j = τ.2 j := fun j hj => by
      rw [← hτ1]
      rcases hj with rfl | rfl <;> rfl
    obtain ⟨τ', e, i1, i2, i3⟩ := lyE (again := again) (i := k) hk τ1
    refine ⟨τ', ?_, frA_trans h1 (frA_trans f1 (frA_sub i1 (fun k hk => by unfold lyS; omega))), fun x hx => ?_, fun y hy => ?_⟩
    · rw [← e]
      unfold LyD
      simp only [bndE]
      rw [if_neg (show ¬ (121 : Int32) ≤ J (k : Nat) from Jle_no (n := 121) hk (by omega)), if_neg g, if_neg g, if_neg g, if_neg g, if_neg g, J_natN (by omega), ← hτ1]
      rfl
    · have z : ∀ j, (j = 52 ∨ j = 56 ∨ j = 49 ∨ j = 122 ∨ j = 50) → τ'.2 j x = if x = k then 0 else τ.2 j x := fun j hj => by
        rw [i1.2 j (by omega), v j hj, upd_s]
      rw [z 52 (by omega), z 56 (by omega), z 49 (by omega), z 122 (by omega), z 50 (by omega)]
      by_cases q : x = k
      · simp only [if_pos q, and_self]
      · simp only [if_neg q]; exact h2 x (by omega)
    · by_cases q : y < 7 * k
      · obtain ⟨a, b⟩ := i3 y q
        rw [a, b, w 51 (by omega), w 53 (by omega)]; exact h3 y q
      · have := i2 (y - 7 * k) (by omega)
        rw [show 7 * k + (y - 7 * k) = y by omega] at this; exact this) (τ := σ) ⟨frA_rfl, fun x hx => by omega, fun y hy => by omega⟩
  exact ⟨τ, e, h⟩
/-- what stands when the rows were cleared -/
def LY0 (b : Nat → Int) (L n : Nat) (σ τ : MS) : Prop := (τ.1 44 = 1 ∧ τ.1 86 = 0 ∧ τ.1 78 = σ.1 35 ∧ τ.1 79 = σ.1 36 ∧ τ.1 80 = σ.1 37 ∧ τ.1 81 = σ.1 38 ∧ τ.1 82 = σ.1 40 ∧ τ.1 83 = 0 ∧ τ.1 84 = 0 ∧ τ.1 63 = 0) ∧ (∀ k, k ≠ 44 → k ≠ 86 → ¬ (78 ≤ k ∧ k ≤ 84) → k ≠ 63 → τ.1 k = σ.1 k) ∧ (∀ k, k ≠ 100 → k ≠ 45 → ¬ (64 ≤ k ∧ k ≤ 69) → ¬ lyS k → τ.2 k = σ.2 k) ∧ (∀ x, x < 4 → τ.2 100 x = 0) ∧ (∀ x, x < L → τ.2 45 x = J (b x)) ∧ (∀ x, x < n → ∀ k, 17 ≤ k → k ≤ 22 → τ.2 (k + 47) x = σ.2 k x) ∧ ZRO 121 τ
theorem r_lay0 {σ : MS} {L n : Nat} {b : Nat → Int} (h6 : σ.1 6 = J (L : Nat)) (hL : L ≤ 4096) (h5 : ∀ i, i < L → σ.2 5 i = J (b i)) (hb : ∀ i, i < L → b i = 10 ∨ (32 ≤ b i ∧ b i ≤ 126)) (h23 : σ.1 23 = J (n : Nat)) (hn : n < 40000) : ∃ τ, F_X12_lay σ = LyI τ ∧ LY0 b L n σ τ := by
  rw [lay_eq, bndE, bndE]
  have o : ∀ k, k ≠ 44 → k ≠ 86 → (mI (mI σ 44 1) 86 0).1 k = σ.1 k := fun k a b => by rw [mI_1, if_neg b, mI_1, if_neg a]
  obtain ⟨τ1, a1, a2, a3⟩ := lyA (mI (mI σ 44 1) 86 0)
  obtain ⟨τ2, b1, b2, b3⟩ := lyB (σ := τ1) (L := L) (b := b) (by rw [a2.1, o 6 (by omega) (by omega)]; exact h6) hL (fun i hi => by rw [a2.2 5 (by omega)]; exact h5 i hi) hb
  obtain ⟨τ3, c1, c2, c3⟩ := lyC (σ := τ2) (n := n) (by rw [b2.1, a2.1, o 23 (by omega) (by omega)]; exact h23) hn
  have i3 : ∀ k, τ3.1 k = (mI (mI σ 44 1) 86 0).1 k := fun k => by rw [c2.1, b2.1, a2.1]
  generalize hτ4 : mI (mI (mI (mI (mI (mI (mI (mI τ3 78 (τ3.1 35)) 79 (τ3.1 36)) 80 (τ3.1 37)) 81 (τ3.1 38)) 82 (τ3.1 40)) 83 0) 84 0) 63 0 = τ4
  obtain ⟨τ5, d1, d2, d3⟩ := lyD τ4
  have e4 : τ4.2 = τ3.2 := by rw [← hτ4]; rfl
  refine ⟨τ5, ?_, ⟨?_, ?_, ?_, ?_, ?_, ?_, ?_, ?_, ?_, ?_⟩, fun k k44 k86 k78 k63 => ?_, fun k k1 k2 k3 k4 => ?_, fun x hx => ?_, fun x hx => ?_, fun x hx k k1 k2 => ?_, d3⟩
  · rw [a1, b1, c1, ← d1]
    unfold LyK
    simp only [bndE]
    refine congrArg (fun z => loopF LyD FU ((0 : Int32), z)) ?_
    rw [← hτ4]; rfl
  · rw [d2.1, ← hτ4]; show τ3.1 44 = 1; rw [i3]; rfl
  · rw [d2.1, ← hτ4]; show τ3.1 86 = 0; rw [i3]; rfl
  · rw [d2.1, ← hτ4]; show τ3.1 35 = _; rw [i3]; rfl
  · rw [d2.1, ← hτ4]; show τ3.1 36 = _; rw [i3]; rfl
  · rw [d2.1, ← hτ4]; show τ3.1 37 = _; rw [i3]; rfl
  · rw [d2.1, ← hτ4]; show τ3.1 38 = _; rw [i3]; rfl
  · rw [d2.1, ← hτ4]; show τ3.1 40 = _; rw [i3]; rfl
  · rw [d2.1, ← hτ4]; rfl
  · rw [d2.1, ← hτ4]; rfl
  · rw [d2.1, ← hτ4]; rfl
  · rw [d2.1, ← hτ4, mI_1, if_neg k63, mI_1, if_neg (by omega), mI_1, if_neg (by omega), mI_1, if_neg (by omega), mI_1, if_neg (by omega), mI_1, if_neg (by omega), mI_1, if_neg (by omega), mI_1, if_neg (by omega), i3, o k k44 k86]
  · rw [d2.2 k k4, e4, c2.2 k k3, b2.2 k k2, a2.2 k k1]; rfl
  · rw [d2.2 100 (by unfold lyS; omega), e4, c2.2 100 (by omega), b2.2 100 (by omega)]; exact a3 x hx
  · rw [d2.2 45 (by unfold lyS; omega), e4, c2.2 45 (by omega)]; exact b3 x hx
  · rw [d2.2 (k + 47) (by unfold lyS; omega), e4, c3 x hx k k1 k2, b2.2 k (by omega), a2.2 k (by omega)]; rfl
