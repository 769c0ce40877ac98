/-! a number told, in both -/
def Nc1 (x_5 : Int32) : ((Int32 × HS) → HR) → Int32 × HS → HR := (fun (again_8 : (Int32 × HS) → HR) (s_7 : Int32 × HS) => ( if s_7.1 ≤ 0 then ( some (0, s_7.2) ) else ( bnd (fun  (σ_14 : HS) => ( bnd ((s_7.1 / 10)) fun (x_18 : Int32) => again_8 (x_18, σ_14) ) : HS → HR) fun j_15 => bnd (fun  (σ_20 : HS) => ( if s_7.1 = 0 then none else bnd ((x_5 / s_7.1)) fun (x_26 : Int32) => bnd ((x_26 - x_26 / 10 * 10)) fun (x_28 : Int32) => (F_X5_sign (48 + x_28) σ_20).bind fun u_30 => j_15  u_30.2 ) : HS → HR) fun j_21 => if s_7.1 ≤ x_5 then ( j_21  s_7.2 ) else ( if s_7.1 = 1 then ( j_21  s_7.2 ) else ( j_15  s_7.2 ) ) ) ))
theorem cnum_eq (p0 : Int32) (Γ : HS) : F_X5_number p0 Γ = bnd (fun  (σ_1 : HS) => ( bnd ((if p0 < 0 then -p0 else p0)) fun (x_5 : Int32) => loopF (Nc1 x_5) FU (10000, σ_1) ) : HS → HR) fun j_2 => if 0 ≤ p0 then ( j_2  Γ ) else ( (F_X5_sign 45 Γ).bind fun u_41 => j_2  u_41.2 ) := rfl
theorem Nc1_s (x_5 : Int32) (n : Nat) (a : Int32) (Γ : HS) : loopF (Nc1 x_5) (n + 1) (a, Γ) = ( if a ≤ 0 then ( some (0, Γ) ) else ( bnd (fun  (σ_14 : HS) => ( bnd ((a / 10)) fun (x_18 : Int32) => loopF (Nc1 x_5) n (x_18, σ_14) ) : HS → HR) fun j_15 => bnd (fun  (σ_20 : HS) => ( if a = 0 then none else bnd ((x_5 / a)) fun (x_26 : Int32) => bnd ((x_26 - x_26 / 10 * 10)) fun (x_28 : Int32) => (F_X5_sign (48 + x_28) σ_20).bind fun u_30 => j_15  u_30.2 ) : HS → HR) fun j_21 => if a ≤ x_5 then ( j_21  Γ ) else ( if a = 1 then ( j_21  Γ ) else ( j_15  Γ ) ) ) ) := rfl
theorem Jp_no {u : Nat} (h : 0 < u) (h2 : u < 1000000) : ¬ J (u : Nat) ≤ 0 ∧ ¬ J (u : Nat) = 0 := by
  refine ⟨?_, ?_⟩
  · rw [show (0 : Int32) = J 0 from rfl, J_le (by omega) (by omega) (by omega) (by omega)]; omega
  · rw [show (0 : Int32) = J 0 from rfl, J_eq (by omega) (by omega) (by omega) (by omega)]; omega
theorem J_q10 {u : Nat} (h : u < 1000000) : J (u : Nat) / 10 = J (u / 10 : Nat) := J_quo (b := 10) h (by omega) (by omega)
theorem J48 (d : Nat) : (48 : Int32) + J (d : Nat) = J (48 + (d : Nat)) := by rw [show (48 : Int32) = J 48 from rfl, J_add]
/-- one digit -/
theorem cn_dig {x u n : Nat} {Γ : HS} {w : List Int} (hx : x < 100000) (hu : 0 < u) (hu2 : u < 1000000) (h : OC Γ w) (hp : u ≤ x ∨ u = 1) : ∃ Δ, loopF (Nc1 (J (x : Nat))) (n + 1) (J (u : Nat), Γ) = loopF (Nc1 (J (x : Nat))) n (J (u / 10 : Nat), Δ) ∧ o8 Γ Δ ∧ OC Δ (apO w [(48 + (x / u % 10 : Nat) : Int)]) := by
  obtain ⟨Δ, e1, e2, e3⟩ := ot_sign h (c := 48 + (x / u % 10 : Nat)) (by omega)
  have hd := Nat.div_le_self x u
  have eS : bnd ((J (x : Nat) / J (u : Nat))) (fun (x_26 : Int32) => bnd ((x_26 - x_26 / 10 * 10)) fun (x_28 : Int32) => (F_X5_sign (48 + x_28) Γ).bind fun u_30 => bnd ((J (u : Nat) / 10)) fun (x_18 : Int32) => loopF (Nc1 (J (x : Nat))) n (x_18, u_30.2)) = loopF (Nc1 (J (x : Nat))) n (J (u / 10 : Nat), Δ) := by
    rw [J_quo (by omega) hu hu2, bndE, J_mod10 (by omega), bndE, J48, e1, Option.bind_some, bndE, J_q10 hu2]
  refine ⟨Δ, ?_, e2, e3⟩
  rw [Nc1_s, if_neg (Jp_no hu hu2).1, bndE, bndE]
  by_cases q : u ≤ x
  · rw [if_pos (by rw [J_le (by omega) (by omega) (by omega) (by omega)]; omega)]
    dsimp only
    rw [if_neg (Jp_no hu hu2).2]
    exact eS
  · rw [if_neg (by rw [J_le (by omega) (by omega) (by omega) (by omega)]; omega), if_pos (by rw [show (1 : Int32) = J 1 from rfl, J_eq (by omega) (by omega) (by omega) (by omega)]; omega)]
    dsimp only
    rw [if_neg (Jp_no hu hu2).2]
    exact eS
theorem cn_skip {x u n : Nat} {Γ : HS} (hx : x < 100000) (hu : 1 < u) (hu2 : u < 1000000) (hp : x < u) : loopF (Nc1 (J (x : Nat))) (n + 1) (J (u : Nat), Γ) = loopF (Nc1 (J (x : Nat))) n (J (u / 10 : Nat), Γ) := by
  rw [Nc1_s, if_neg (Jp_no (by omega) hu2).1, bndE, bndE, if_neg (by rw [J_le (by omega) (by omega) (by omega) (by omega)]; omega), if_neg (by rw [show (1 : Int32) = J 1 from rfl, J_eq (by omega) (by omega) (by omega) (by omega)]; omega)]
  dsimp only
  rw [bndE, J_q10 hu2]
theorem pow_lt {k : Nat} (h : k ≤ 4) : 0 < 10 ^ k ∧ 10 ^ k < 1000000 := by
  have : k = 0 ∨ k = 1 ∨ k = 2 ∨ k = 3 ∨ k = 4 := by omega
  rcases this with rfl | rfl | rfl | rfl | rfl <;> decide
theorem pow_div (k : Nat) : 10 ^ (k + 1) / 10 = 10 ^ k := by rw [Nat.pow_succ]; omega
theorem cn_digs {x : Nat} (hx : x < 100000) : ∀ (k : Nat), k ≤ 4 → (10 ^ k ≤ x ∨ k = 0) → ∀ (n : Nat) (Γ : HS) (w : List Int), k + 1 < n → OC Γ w → ∃ Δ, loopF (Nc1 (J (x : Nat))) n (J (10 ^ k : Nat), Γ) = some ((0 : Int32), Δ) ∧ o8 Γ Δ ∧ OC Δ (apO w (dgN x k)) := by
  intro k
  induction k with
  | zero =>
    intro _ _ n Γ w hn h
    obtain ⟨n, rfl⟩ : ∃ e, n = e + 2 := ⟨n - 2, by omega⟩
    obtain ⟨Δ, e1, e2, e3⟩ := cn_dig (n := n + 1) hx (show 0 < 10 ^ 0 by decide) (by decide) h (Or.inr rfl)
    refine ⟨Δ, ?_, e2, ?_⟩
    · rw [show n + 2 = n + 1 + 1 from rfl, e1, Nc1_s, if_pos (by decide)]
    · rw [show (10 : Nat) ^ 0 = 1 from rfl, Nat.div_one] at e3; exact e3
  | succ k ih =>
    intro hk hp n Γ w hn h
    obtain ⟨n, rfl⟩ : ∃ e, n = e + 1 := ⟨n - 1, by omega⟩
    have hpw := pow_lt hk
    have hp1 : 10 ^ (k + 1) ≤ x := by
      rcases hp with hp | hp
      · exact hp
      · omega
    obtain ⟨Δ, e1, e2, e3⟩ := cn_dig (n := n) hx hpw.1 hpw.2 h (Or.inl hp1)
    have hle : 10 ^ k ≤ x := Nat.le_trans (Nat.pow_le_pow_right (by omega) (by omega)) hp1
    obtain ⟨Θ, f1, f2, f3⟩ := ih (by omega) (Or.inl hle) n Δ _ (by omega) e3
    rw [pow_div k] at e1
    refine ⟨Θ, by rw [e1, f1], o8_trans e2 f2, ?_⟩
    rw [apO_apO] at f3
    exact f3
theorem cn_all {x : Nat} (hx : x < 100000) {Γ : HS} {w : List Int} (h : OC Γ w) : ∃ Δ, loopF (Nc1 (J (x : Nat))) FU (10000, Γ) = some ((0 : Int32), Δ) ∧ o8 Γ Δ ∧ OC Δ (apO w (dgN x (dgK x))) := by
  have skip : ∀ (k n : Nat), k < 4 → x < 10 ^ (k + 1) → loopF (Nc1 (J (x : Nat))) (n + 1) (J (10 ^ (k + 1) : Nat), Γ) = loopF (Nc1 (J (x : Nat))) n (J (10 ^ k : Nat), Γ) := fun k n hk hp => by
    have hpw := pow_lt (show k + 1 ≤ 4 by omega)
    rw [cn_skip hx (by rw [Nat.pow_succ]; have := (pow_lt (show k ≤ 4 by omega)).1; omega) hpw.2 hp, pow_div]
  have e4 : (10000 : Int32) = J (10 ^ 4 : Nat) := rfl
  have eF : FU = FU - 5 + 1 + 1 + 1 + 1 + 1 := by decide +kernel
  have eF2 : 100 < FU - 5 := by decide +kernel
  rw [e4]
  unfold dgK
  by_cases q4 : x < 10000
  · rw [eF, skip 3 _ (by omega) q4]
    by_cases q3 : x < 1000
    · rw [skip 2 _ (by omega) q3]
      by_cases q2 : x < 100
      · rw [skip 1 _ (by omega) q2]
        by_cases q1 : x < 10
        · rw [skip 0 _ (by omega) q1, if_pos q1]
          exact cn_digs hx 0 (by omega) (Or.inr rfl) _ Γ w (by omega) h
        · rw [if_neg q1, if_pos q2]
          exact cn_digs hx 1 (by omega) (Or.inl (by omega)) _ Γ w (by omega) h
      · rw [if_neg (by omega), if_neg q2, if_pos q3]
        exact cn_digs hx 2 (by omega) (Or.inl (by omega)) _ Γ w (by omega) h
    · rw [if_neg (by omega), if_neg (by omega), if_neg q3, if_pos q4]
      exact cn_digs hx 3 (by omega) (Or.inl (by omega)) _ Γ w (by omega) h
  · rw [if_neg (by omega), if_neg (by omega), if_neg (by omega), if_neg q4]
    exact cn_digs hx 4 (by omega) (Or.inl (by omega)) _ Γ w (FU_gt (by omega)) h
theorem ot_num {z : Int} (hz : -32768 ≤ z ∧ z ≤ 32767) {Γ : HS} {w : List Int} (h : OC Γ w) : ∃ Δ, F_X5_number (J z) Γ = some ((0 : Int32), Δ) ∧ o8 Γ Δ ∧ OC Δ (apO w (numL z)) := by
  rw [cnum_eq, bndE]
  unfold numL
  by_cases q : z < 0
  · obtain ⟨Δ, e1, e2, e3⟩ := ot_sign h (c := 45) (by omega)
    obtain ⟨Θ, f1, f2, f3⟩ := cn_all (x := z.natAbs) (by omega) e3
    rw [if_pos q, if_neg (by rw [show (0 : Int32) = J 0 from rfl, J_le (by omega) (by omega) (by omega) (by omega)]; omega), show F_X5_sign 45 Γ = _ from e1, Option.bind_some]
    dsimp only
    rw [if_pos (J_lt0 q (by omega)), bndE, J_neg, show -z = ((z.natAbs : Nat) : Int) by omega, f1]
    exact ⟨Θ, rfl, o8_trans e2 f2, by rw [apO_apO] at f3; exact f3⟩
  · obtain ⟨Θ, f1, f2, f3⟩ := cn_all (x := z.natAbs) (by omega) h
    rw [if_neg q, if_pos (by rw [show (0 : Int32) = J 0 from rfl, J_le (by omega) (by omega) (by omega) (by omega)]; omega)]
    dsimp only
    rw [if_neg (J_nlt0 (by omega) (by omega)), bndE, show J z = J (z.natAbs : Nat) by congr 1; omega, f1]
    exact ⟨Θ, rfl, f2, f3⟩
/-! the reference -/
def Nr2 (t_1 : Int32) : ((Int32 × MS) → MR) → Int32 × MS → MR := (fun (again_21 : (Int32 × MS) → MR) (s_20 : Int32 × MS) => ( if s_20.1 ≤ 0 then ( some (0, s_20.2) ) else ( if s_20.1 = 0 then none else bnd ((t_1 / s_20.1)) fun (x_29 : Int32) => bnd ((x_29 - x_29 / 10 * 10)) fun (x_31 : Int32) => (F_X12_put (48 + x_31) s_20.2).bind fun u_33 => bnd ((s_20.1 / 10)) fun (x_35 : Int32) => again_21 (x_35, u_33.2) ) ))
def Nr1 (t_1 : Int32) : ((Int32 × MS) → MR) → Int32 × MS → MR := (fun (again_11 : (Int32 × MS) → MR) (s_10 : Int32 × MS) => ( if s_10.1 = 0 then none else bnd ((t_1 / s_10.1)) fun (x_16 : Int32) => if x_16 ≤ 9 then ( loopF (Nr2 t_1) FU (s_10.1, s_10.2) ) else ( bnd ((s_10.1 * 10)) fun (x_38 : Int32) => again_11 (x_38, s_10.2) ) ))
theorem rnum_eq (p0 : Int32) (σ : MS) : F_X12_sayNumber p0 σ = bnd (fun (t_1 : Int32) (σ_2 : MS) => ( bnd (fun  (σ_6 : MS) => ( loopF (Nr1 t_1) FU (1, σ_6) ) : MS → MR) fun j_7 => if 0 ≤ p0 then ( j_7  σ_2 ) else ( (F_X12_put 45 σ_2).bind fun u_43 => j_7  u_43.2 ) ) : Int32 → MS → MR) fun j_3 => if 0 ≤ p0 then ( j_3 p0 σ ) else ( j_3 (-p0) σ ) := rfl
theorem Nr2_s (t_1 : Int32) (n : Nat) (a : Int32) (σ : MS) : loopF (Nr2 t_1) (n + 1) (a, σ) = ( if a ≤ 0 then ( some (0, σ) ) else ( if a = 0 then none else bnd ((t_1 / a)) fun (x_29 : Int32) => bnd ((x_29 - x_29 / 10 * 10)) fun (x_31 : Int32) => (F_X12_put (48 + x_31) σ).bind fun u_33 => bnd ((a / 10)) fun (x_35 : Int32) => loopF (Nr2 t_1) n (x_35, u_33.2) ) ) := rfl
theorem Nr1_s (t_1 : Int32) (n : Nat) (a : Int32) (σ : MS) : loopF (Nr1 t_1) (n + 1) (a, σ) = ( if a = 0 then none else bnd ((t_1 / a)) fun (x_16 : Int32) => if x_16 ≤ 9 then ( loopF (Nr2 t_1) FU (a, σ) ) else ( bnd ((a * 10)) fun (x_38 : Int32) => loopF (Nr1 t_1) n (x_38, σ) ) ) := rfl
theorem rn_digs {x : Nat} (hx : x < 100000) : ∀ (k : Nat), k ≤ 4 → ∀ (n : Nat) (σ : MS) (w : List Int), k + 1 < n → OR σ w → ∃ τ, loopF (Nr2 (J (x : Nat))) n (J (10 ^ k : Nat), σ) = some ((0 : Int32), τ) ∧ oR3 σ τ ∧ OR τ (apO w (dgN x k)) := by
  have one : ∀ (k n : Nat) (σ : MS) (w : List Int), k ≤ 4 → OR σ w → ∃ τ, loopF (Nr2 (J (x : Nat))) (n + 1) (J (10 ^ k : Nat), σ) = loopF (Nr2 (J (x : Nat))) n (J (10 ^ k / 10 : Nat), τ) ∧ oR3 σ τ ∧ OR τ (apO w [(48 + (x / 10 ^ k % 10 : Nat) : Int)]) := fun k n σ w hk h => by
    have hpw := pow_lt hk
    obtain ⟨τ, e1, e2, e3⟩ := rt_put h (c := 48 + (x / 10 ^ k % 10 : Nat)) (by omega)
    have hd := Nat.div_le_self x (10 ^ k)
    refine ⟨τ, ?_, e2, e3⟩
    rw [Nr2_s, if_neg (Jp_no hpw.1 hpw.2).1, if_neg (Jp_no hpw.1 hpw.2).2, J_quo (by omega) hpw.1 hpw.2, bndE, J_mod10 (by omega), bndE, J48, e1, Option.bind_some, bndE, J_q10 hpw.2]
  intro k
  induction k with
  | zero =>
    intro _ n σ w hn h
    obtain ⟨n, rfl⟩ : ∃ e, n = e + 2 := ⟨n - 2, by omega⟩
    obtain ⟨τ, e1, e2, e3⟩ := one 0 (n + 1) σ w (by omega) h
    refine ⟨τ, ?_, e2, ?_⟩
    · rw [show n + 2 = n + 1 + 1 from rfl, e1, Nr2_s, if_pos (by decide)]
    · rw [show (10 : Nat) ^ 0 = 1 from rfl, Nat.div_one] at e3; exact e3
  | succ k ih =>
    intro hk n σ w hn h
    obtain ⟨n, rfl⟩ : ∃ e, n = e + 1 := ⟨n - 1, by omega⟩
    obtain ⟨τ, e1, e2, e3⟩ := one (k + 1) n σ w hk h
    obtain ⟨υ, f1, f2, f3⟩ := ih (by omega) n τ _ (by omega) e3
    rw [pow_div k] at e1
    refine ⟨υ, by rw [e1, f1], oR3_trans e2 f2, ?_⟩
    rw [apO_apO] at f3
    exact f3
theorem rn_all {x : Nat} (hx : x < 100000) {σ : MS} {w : List Int} (h : OR σ w) : ∃ τ, loopF (Nr1 (J (x : Nat))) FU (1, σ) = some ((0 : Int32), τ) ∧ oR3 σ τ ∧ OR τ (apO w (dgN x (dgK x))) := by
  have up : ∀ (k n : Nat), k < 4 → 10 ^ (k + 1) ≤ x → loopF (Nr1 (J (x : Nat))) (n + 1) (J (10 ^ k : Nat), σ) = loopF (Nr1 (J (x : Nat))) n (J (10 ^ (k + 1) : Nat), σ) := fun k n hk hp => by
    have hpw := pow_lt (show k ≤ 4 by omega)
    have hd := Nat.div_le_self x (10 ^ k)
    have hge : 10 ≤ x / 10 ^ k := by
      rw [Nat.le_div_iff_mul_le hpw.1]
      rw [Nat.pow_succ] at hp; omega
    rw [Nr1_s, if_neg (Jp_no hpw.1 hpw.2).2, J_quo (by omega) hpw.1 hpw.2, bndE, if_neg (by rw [show (9 : Int32) = J 9 from rfl, J_le (by omega) (by omega) (by omega) (by omega)]; omega), bndE, show (10 : Int32) = J 10 from rfl, J_mul, show ((10 ^ k : Nat) : Int) * 10 = ((10 ^ (k + 1) : Nat) : Int) by rw [Nat.pow_succ]; omega]
  have stop : ∀ (k n : Nat), k ≤ 4 → x < 10 ^ (k + 1) → loopF (Nr1 (J (x : Nat))) (n + 1) (J (10 ^ k : Nat), σ) = loopF (Nr2 (J (x : Nat))) FU (J (10 ^ k : Nat), σ) := fun k n hk hp => by
    have hpw := pow_lt hk
    have hd := Nat.div_le_self x (10 ^ k)
    have hge : x / 10 ^ k < 10 := by
      rw [Nat.div_lt_iff_lt_mul hpw.1]
      rw [Nat.pow_succ] at hp; omega
    have hnn : (0 : Int) ≤ ((x / 10 ^ k : Nat) : Int) := Int.natCast_nonneg _
    rw [Nr1_s, if_neg (Jp_no hpw.1 hpw.2).2, J_quo (by omega) hpw.1 hpw.2, bndE, if_pos (by rw [show (9 : Int32) = J 9 from rfl, J_le (by omega) (by omega) (by omega) (by omega)]; omega)]
  have e0 : (1 : Int32) = J (10 ^ 0 : Nat) := rfl
  have eF : FU = FU - 5 + 1 + 1 + 1 + 1 + 1 := by decide +kernel
  have fin : ∀ k, k ≤ 4 → ∃ τ, loopF (Nr2 (J (x : Nat))) FU (J (10 ^ k : Nat), σ) = some ((0 : Int32), τ) ∧ oR3 σ τ ∧ OR τ (apO w (dgN x k)) := fun k hk => rn_digs hx k hk FU σ w (FU_gt (by omega)) h
  unfold dgK
  by_cases q1 : x < 10
  · rw [if_pos q1, e0, show loopF (Nr1 (J (x : Nat))) FU (J (10 ^ 0 : Nat), σ) = loopF (Nr1 (J (x : Nat))) (FU - 5 + 1 + 1 + 1 + 1 + 1) (J (10 ^ 0 : Nat), σ) from congrArg (fun z => loopF (Nr1 (J (x : Nat))) z (J (10 ^ 0 : Nat), σ)) eF, stop 0 _ (by omega) q1]
    exact fin 0 (by omega)
  rw [if_neg q1, e0, show loopF (Nr1 (J (x : Nat))) FU (J (10 ^ 0 : Nat), σ) = loopF (Nr1 (J (x : Nat))) (FU - 5 + 1 + 1 + 1 + 1 + 1) (J (10 ^ 0 : Nat), σ) from congrArg (fun z => loopF (Nr1 (J (x : Nat))) z (J (10 ^ 0 : Nat), σ)) eF, up 0 _ (by omega) (by omega)]
  by_cases q2 : x < 100
  · rw [if_pos q2, stop 1 _ (by omega) q2]
    exact fin 1 (by omega)
  rw [if_neg q2, up 1 _ (by omega) (by omega)]
  by_cases q3 : x < 1000
  · rw [if_pos q3, stop 2 _ (by omega) q3]
    exact fin 2 (by omega)
  rw [if_neg q3, up 2 _ (by omega) (by omega)]
  by_cases q4 : x < 10000
  · rw [if_pos q4, stop 3 _ (by omega) q4]
    exact fin 3 (by omega)
  rw [if_neg q4, up 3 _ (by omega) (by omega), stop 4 _ (by omega) (by omega)]
  exact fin 4 (by omega)
theorem rt_num {z : Int} (hz : -32768 ≤ z ∧ z ≤ 32767) {σ : MS} {w : List Int} (h : OR σ w) : ∃ τ, F_X12_sayNumber (J z) σ = some ((0 : Int32), τ) ∧ oR3 σ τ ∧ OR τ (apO w (numL z)) := by
  rw [rnum_eq, bndE]
  unfold numL
  by_cases q : z < 0
  · obtain ⟨τ, e1, e2, e3⟩ := rt_put h (c := 45) (by omega)
    obtain ⟨υ, f1, f2, f3⟩ := rn_all (x := z.natAbs) (by omega) e3
    have hn : ¬ (0 : Int32) ≤ J z := by rw [show (0 : Int32) = J 0 from rfl, J_le (by omega) (by omega) (by omega) (by omega)]; omega
    rw [if_pos q, if_neg hn]
    dsimp only
    rw [bndE, if_neg hn, show F_X12_put 45 σ = _ from e1, Option.bind_some]
    dsimp only
    rw [J_neg, show -z = ((z.natAbs : Nat) : Int) by omega, f1]
    exact ⟨υ, rfl, oR3_trans e2 f2, by rw [apO_apO] at f3; exact f3⟩
  · obtain ⟨υ, f1, f2, f3⟩ := rn_all (x := z.natAbs) (by omega) h
    have hn : (0 : Int32) ≤ J z := by rw [show (0 : Int32) = J 0 from rfl, J_le (by omega) (by omega) (by omega) (by omega)]; omega
    rw [if_neg q, if_pos hn]
    dsimp only
    rw [bndE, if_pos hn]
    dsimp only
    rw [show J z = J (z.natAbs : Nat) by congr 1; omega, f1]
    exact ⟨υ, rfl, f2, f3⟩
