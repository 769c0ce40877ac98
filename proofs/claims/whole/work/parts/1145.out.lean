/-! what is told: the reference -/
def OR (σ : MS) (w : List Int) : Prop := OL (σ.2 102) (σ.1 103) w
/-- only what is told changes -/
def oR3 (σ τ : MS) : Prop := (∀ k, k ≠ 103 → τ.1 k = σ.1 k) ∧ ∀ k, k ≠ 102 → τ.2 k = σ.2 k
theorem oR3_rfl {σ : MS} : oR3 σ σ := ⟨fun _ _ => rfl, fun _ _ => rfl⟩
theorem oR3_trans {σ τ υ : MS} (h : oR3 σ τ) (g : oR3 τ υ) : oR3 σ υ := ⟨fun k hk => by rw [g.1 k hk, h.1 k hk], fun k hk => by rw [g.2 k hk, h.2 k hk]⟩
theorem rt_put {σ : MS} {w : List Int} {c : Int} (h : OR σ w) (hc : 0 ≤ c ∧ c < 128) : ∃ τ, F_X12_put (J c) σ = some ((0 : Int32), τ) ∧ oR3 σ τ ∧ OR τ (apO w [c]) := by
  obtain ⟨h1, h2, h3⟩ := h
  unfold F_X12_put
  rw [h1]
  by_cases q : w.length = 3000
  · rw [if_pos (by rw [show (3000 : Int32) = J 3000 from rfl, J_le (by omega) (by omega) (by omega) (by omega)]; omega)]
    exact ⟨_, rfl, oR3_rfl, by rw [apO_full q]; exact ⟨h1, h2, h3⟩⟩
  · rw [if_neg (by rw [show (3000 : Int32) = J 3000 from rfl, J_le (by omega) (by omega) (by omega) (by omega)]; omega), bndE, bndE, if_neg (by rw [J_natN (by omega)]; rintro (a | a); exact J_nlt0 (by omega) (by omega) a; omega), bndE, J_natN (by omega), J_i8 (by omega) (by omega), J_byte (by omega) (by omega), J_suc]
    refine ⟨_, rfl, ⟨fun k hk => by rw [mA_1, mI_1, if_neg hk], fun k hk => by rw [mA_2, if_neg hk]; rfl⟩, ?_⟩
    exact OL_one (by omega) h3 hc
def Sy1 (b0 : List Int32) : ((Int32 × MS) → MR) → Int32 × MS → MR := (fun (again_2 : (Int32 × MS) → MR) (s_1 : Int32 × MS) => ( bnd ((Int32.ofNat (b0).length)) fun (x_5 : Int32) => if x_5 ≤ s_1.1 then ( some (0, s_1.2) ) else ( if s_1.1 < 0 ∨ Int32.ofNat (b0).length ≤ s_1.1 then none else bnd ((g_chr ((b0).getD s_1.1.toNatClampNeg 0))) fun (x_12 : Int32) => (F_X12_put x_12 s_1.2).bind fun u_14 => bnd (s_1.1 + 1) fun (x_16 : Int32) => again_2 (x_16, u_14.2) ) ))
theorem rsay_eq (b0 : List Int32) (σ : MS) : F_X12_say b0 σ = loopF (Sy1 b0) FU (0, σ) := rfl
theorem Sy1_s (b0 : List Int32) (n : Nat) (a : Int32) (σ : MS) : loopF (Sy1 b0) (n + 1) (a, σ) = ( bnd ((Int32.ofNat (b0).length)) fun (x_5 : Int32) => if x_5 ≤ a then ( some (0, σ) ) else ( if a < 0 ∨ Int32.ofNat (b0).length ≤ a then none else bnd ((g_chr ((b0).getD a.toNatClampNeg 0))) fun (x_12 : Int32) => (F_X12_put x_12 σ).bind fun u_14 => bnd (a + 1) fun (x_16 : Int32) => loopF (Sy1 b0) n (x_16, u_14.2) ) ) := rfl
theorem rt_say {S : List Int32} {v : List Int} (hS : TXL S v) {σ : MS} {w : List Int} (h : OR σ w) : ∃ τ, F_X12_say S σ = some ((0 : Int32), τ) ∧ oR3 σ τ ∧ OR τ (apO w v) := by
  obtain ⟨s1, s2, s3⟩ := hS
  have key : ∀ (d k : Nat) (σ : MS) (w : List Int), k + d = v.length → OR σ w → ∀ n, d < n → ∃ τ, loopF (Sy1 S) n (J (k : Nat), σ) = some ((0 : Int32), τ) ∧ oR3 σ τ ∧ OR τ (apO w (v.drop k)) := by
    intro d
    induction d with
    | zero =>
      intro k σ w hk h n hn
      obtain ⟨n, rfl⟩ : ∃ e, n = e + 1 := ⟨n - 1, by omega⟩
      rw [Sy1_s, bndE, J_ofNat, if_pos (by rw [J_le (by omega) (by omega) (by omega) (by omega)]; omega), List.drop_of_length_le (by omega), apO_nil h.2.1]
      exact ⟨_, rfl, oR3_rfl, h⟩
    | succ d ih =>
      intro k σ w hk h n hn
      obtain ⟨n, rfl⟩ : ∃ e, n = e + 1 := ⟨n - 1, by omega⟩
      obtain ⟨c1, c2, c3⟩ := s3 k (by omega)
      obtain ⟨τ, e1, e2, e3⟩ := rt_put h (c := v.getD k 0) ⟨c2, c3⟩
      obtain ⟨υ, f1, f2, f3⟩ := ih (k + 1) τ _ (by omega) e3 n (by omega)
      rw [Sy1_s, bndE, J_ofNat, if_neg (by rw [J_le (by omega) (by omega) (by omega) (by omega)]; omega), if_neg (by rw [J_le (by omega) (by omega) (by omega) (by omega)]; rintro (a | a); exact J_nlt0 (by omega) (by omega) a; omega), J_natN (by omega), c1, bndE, e1, Option.bind_some, bndE, J_suc, f1]
      refine ⟨υ, rfl, oR3_trans e2 f2, ?_⟩
      rw [take_one (show k < v.length by omega), show v.getD k 0 :: v.drop (k + 1) = [v.getD k 0] ++ v.drop (k + 1) from rfl, ← apO_apO]
      exact f3
  rw [rsay_eq]
  have := key v.length 0 σ w (by omega) h FU (FU_gt (by omega))
  rw [List.drop_zero] at this
  exact this
theorem rt_line {S : List Int32} {v : List Int} (hS : TXL S v) {σ : MS} {w : List Int} (h : OR σ w) : ∃ τ, F_X12_line S σ = some ((0 : Int32), τ) ∧ oR3 σ τ ∧ OR τ (apO w (v ++ [10])) := by
  obtain ⟨τ, e1, e2, e3⟩ := rt_say hS h
  obtain ⟨υ, f1, f2, f3⟩ := rt_put e3 (c := 10) (by omega)
  unfold F_X12_line
  rw [e1, Option.bind_some]
  dsimp only
  rw [show F_X12_put 10 τ = _ from f1]
  exact ⟨υ, rfl, oR3_trans e2 f2, by rw [← apO_apO]; exact f3⟩
/-- a STRING of the source -/
def Sx1 (p0 p1 : Int32) : ((Int32 × MS) → MR) → Int32 × MS → MR := (fun (again_2 : (Int32 × MS) → MR) (s_1 : Int32 × MS) => ( if p1 ≤ s_1.1 then ( some (0, s_1.2) ) else ( bnd ((p0 + s_1.1)) fun (x_8 : Int32) => if x_8 < 0 ∨ 16000 ≤ x_8.toNatClampNeg then none else bnd (fun (t_12 : Int32) (σ_13 : MS) => ( (F_X12_put t_12 σ_13).bind fun u_17 => bnd (s_1.1 + 1) fun (x_19 : Int32) => again_2 (x_19, u_17.2) ) : Int32 → MS → MR) fun j_14 => if (s_1.2.2 45 x_8.toNatClampNeg) = 94 then ( j_14 10 s_1.2 ) else ( bnd ((p0 + s_1.1)) fun (x_24 : Int32) => if x_24 < 0 ∨ 16000 ≤ x_24.toNatClampNeg then none else j_14 (s_1.2.2 45 x_24.toNatClampNeg) s_1.2 ) ) ))
theorem sayText_eq (p0 p1 : Int32) (σ : MS) : F_X12_sayText p0 p1 σ = loopF (Sx1 p0 p1) FU (0, σ) := rfl
theorem Sx1_s (p0 p1 : Int32) (n : Nat) (a : Int32) (σ : MS) : loopF (Sx1 p0 p1) (n + 1) (a, σ) = ( if p1 ≤ a then ( some (0, σ) ) else ( bnd ((p0 + a)) fun (x_8 : Int32) => if x_8 < 0 ∨ 16000 ≤ x_8.toNatClampNeg then none else bnd (fun (t_12 : Int32) (σ_13 : MS) => ( (F_X12_put t_12 σ_13).bind fun u_17 => bnd (a + 1) fun (x_19 : Int32) => loopF (Sx1 p0 p1) n (x_19, u_17.2) ) : Int32 → MS → MR) fun j_14 => if (σ.2 45 x_8.toNatClampNeg) = 94 then ( j_14 10 σ ) else ( bnd ((p0 + a)) fun (x_24 : Int32) => if x_24 < 0 ∨ 16000 ≤ x_24.toNatClampNeg then none else j_14 (σ.2 45 x_24.toNatClampNeg) σ ) ) ) := rfl
/-- text from place a on is told as v -/
def STX1 (σ : MS) (a : Nat) (v : List Int) : Prop := v.length ≤ 200 ∧ a + v.length < 4200 ∧ ∀ k, k < v.length → ∃ c : Int, σ.2 45 (a + k) = J c ∧ 0 ≤ c ∧ c < 128 ∧ v.getD k 0 = if c = 94 then 10 else c
theorem rt_text {σ : MS} {w v : List Int} {a : Nat} (hS : STX1 σ a v) (h : OR σ w) : ∃ τ, F_X12_sayText (J (a : Nat)) (J (v.length : Nat)) σ = some ((0 : Int32), τ) ∧ oR3 σ τ ∧ OR τ (apO w v) := by
  obtain ⟨s1, s2, s3⟩ := hS
  have key : ∀ (d k : Nat) (τ : MS) (w : List Int), k + d = v.length → oR3 σ τ → OR τ w → ∀ n, d < n → ∃ υ, loopF (Sx1 (J (a : Nat)) (J (v.length : Nat))) n (J (k : Nat), τ) = some ((0 : Int32), υ) ∧ oR3 τ υ ∧ OR υ (apO w (v.drop k)) := by
    intro d
    induction d with
    | zero =>
      intro k τ w hk hf h n hn
      obtain ⟨n, rfl⟩ : ∃ e, n = e + 1 := ⟨n - 1, by omega⟩
      rw [Sx1_s, if_pos (by rw [J_le (by omega) (by omega) (by omega) (by omega)]; omega), List.drop_of_length_le (by omega), apO_nil h.2.1]
      exact ⟨_, rfl, oR3_rfl, h⟩
    | succ d ih =>
      intro k τ w hk hf h n hn
      obtain ⟨n, rfl⟩ : ∃ e, n = e + 1 := ⟨n - 1, by omega⟩
      obtain ⟨c, c1, c2, c3, c4⟩ := s3 k (by omega)
      have hv : 0 ≤ v.getD k 0 ∧ v.getD k 0 < 128 := by rw [c4]; split <;> omega
      obtain ⟨υ, e1, e2, e3⟩ := rt_put h (c := v.getD k 0) hv
      obtain ⟨φ, f1, f2, f3⟩ := ih (k + 1) υ _ (by omega) (oR3_trans hf e2) e3 n (by omega)
      have g : ¬ (J (a + k : Nat) < 0 ∨ 16000 ≤ (J (a + k : Nat)).toNatClampNeg) := by
        rw [J_natN (by omega)]; rintro (q | q); exact J_nlt0 (by omega) (by omega) q; omega
      have e94 : (J c = 94) = (c = 94) := J_eq (a := c) (b := 94) (by omega) (by omega) (by omega) (by omega)
      have hout : ∀ x : Int32, x = J (v.getD k 0) → ((F_X12_put x τ).bind fun u_17 => bnd (J (k : Nat) + 1) fun (x_19 : Int32) => loopF (Sx1 (J (a : Nat)) (J (v.length : Nat))) n (x_19, u_17.2)) = some ((0 : Int32), φ) := fun x hx => by
        rw [hx, e1, Option.bind_some, bndE, J_suc, f1]
      refine ⟨φ, ?_, oR3_trans e2 f2, ?_⟩
      · rw [Sx1_s, if_neg (by rw [J_le (by omega) (by omega) (by omega) (by omega)]; omega), J_add, show ((a : Nat) : Int) + (k : Nat) = ((a + k : Nat) : Int) by omega, bndE, if_neg g, bndE, J_natN (by omega), hf.2 45 (by omega), c1]
        by_cases q : c = 94
        · rw [if_pos (by rw [e94]; exact q)]
          exact hout _ (by rw [c4, if_pos q]; rfl)
        · rw [J_natN (by omega)] at g
          rw [if_neg (by rw [e94]; exact q), bndE, J_natN (by omega), if_neg g, c1]
          exact hout _ (by rw [c4, if_neg q])
      · rw [take_one (show k < v.length by omega), show v.getD k 0 :: v.drop (k + 1) = [v.getD k 0] ++ v.drop (k + 1) from rfl, ← apO_apO]
        exact f3
  rw [sayText_eq]
  have := key v.length 0 σ w (by omega) oR3_rfl h FU (FU_gt (by omega))
  rw [List.drop_zero] at this
  exact this
/-! a number -/
/-- its digits from unit 10^k down -/
def dgN (n : Nat) : Nat → List Int
  | 0 => [48 + (n % 10 : Nat)]
  | k + 1 => (48 + (n / 10 ^ (k + 1) % 10 : Nat) : Int) :: dgN n k
def dgK (n : Nat) : Nat := if n < 10 then 0 else if n < 100 then 1 else if n < 1000 then 2 else if n < 10000 then 3 else 4
def numL (z : Int) : List Int := if z < 0 then 45 :: dgN z.natAbs (dgK z.natAbs) else dgN z.natAbs (dgK z.natAbs)
theorem J_quo {a b : Nat} (ha : a < 1000000) (hb : 0 < b) (hb2 : b < 1000000) : J (a : Nat) / J (b : Nat) = J (a / b : Nat) := J_div (by omega) (by omega) hb
theorem J_mod10 {a : Nat} (ha : a < 1000000) : J (a : Nat) - J (a : Nat) / 10 * 10 = J (a % 10 : Nat) := by
  rw [show (10 : Int32) = J ((10 : Nat) : Int) from rfl, J_quo ha (by omega) (by omega), J_mul, J_sub]; congr 1; omega
