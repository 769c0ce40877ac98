/-! feeding the tape: loops of the reference -/
def FdW (p0 : Int64) (p1 : Int32) : ((Int32 × MS) → MR) → Int32 × MS → MR := (fun (again_24 : (Int32 × MS) → MR) (s_23 : Int32 × MS) => ( if p1 ≤ s_23.1 then ( some ((s_23.2.1 4), s_23.2) ) else ( bnd (mI s_23.2 4 ((s_23.2.1 4) + 1)) fun σ_30 => bnd (((p0.toUInt64 >>> ((8 * s_23.1).toInt64.toUInt64 &&& Int64.toUInt64 63)).toInt64).toInt32) fun (x_32 : Int32) => bnd (x_32.toInt8.toInt32) fun (x_34 : Int32) => if (s_23.2.1 4) < 0 ∨ 16000 ≤ (s_23.2.1 4).toNatClampNeg then none else bnd (mA σ_30 3 (upd (σ_30.2 3) (s_23.2.1 4).toNatClampNeg (vp_nar .byte x_34))) fun σ_38 => bnd (s_23.1 + 1) fun (x_40 : Int32) => again_24 (x_40, σ_38) ) ))
theorem FdW_s (p0 : Int64) (p1 : Int32) (n : Nat) (a : Int32) (X : MS) : loopF (FdW p0 p1) (n + 1) (a, X) = ( if p1 ≤ a then ( some ((X.1 4), X) ) else ( bnd (mI X 4 ((X.1 4) + 1)) fun σ_30 => bnd (((p0.toUInt64 >>> ((8 * a).toInt64.toUInt64 &&& Int64.toUInt64 63)).toInt64).toInt32) fun (x_32 : Int32) => bnd (x_32.toInt8.toInt32) fun (x_34 : Int32) => if (X.1 4) < 0 ∨ 16000 ≤ (X.1 4).toNatClampNeg then none else bnd (mA σ_30 3 (upd (σ_30.2 3) (X.1 4).toNatClampNeg (vp_nar .byte x_34))) fun σ_38 => bnd (a + 1) fun (x_40 : Int32) => loopF (FdW p0 p1) n (x_40, σ_38) ) ) := rfl
def FdC (p0 : Int64) (p1 : Int32) : ((Int32 × Int32 × MS) → MR) → Int32 × Int32 × MS → MR := (fun (again_7 : (Int32 × Int32 × MS) → MR) (s_6 : Int32 × Int32 × MS) => ( bnd (fun  (σ_10 : MS) => ( bnd (fun (t_14 : Int32) (σ_15 : MS) => ( (F_X12_refuses t_14 σ_15).bind fun u_19 => if u_19.1 = 0 then ( loopF (FdW p0 p1) FU (0, u_19.2) ) else ( some (0, u_19.2) ) ) : Int32 → MS → MR) fun j_16 => if s_6.1 = 0 then ( j_16 1 σ_10 ) else ( if ((σ_10.1 4) + p1) ≤ 16000 then ( j_16 0 σ_10 ) else ( j_16 2 σ_10 ) ) ) : MS → MR) fun j_11 => if p1 ≤ s_6.2.1 then ( j_11  s_6.2.2 ) else ( if s_6.1 = 0 then ( j_11  s_6.2.2 ) else ( bnd (((p0.toUInt64 >>> ((8 * s_6.2.1).toInt64.toUInt64 &&& Int64.toUInt64 63)).toInt64).toInt32) fun (x_55 : Int32) => bnd ((x_55 &&& 255)) fun (x_57 : Int32) => bnd (fun (t_59 : Int32) (σ_60 : MS) => ( bnd (s_6.2.1 + 1) fun (x_64 : Int32) => again_7 (t_59, x_64, σ_60) ) : Int32 → MS → MR) fun j_61 => bnd (fun  (σ_66 : MS) => ( j_61 1 σ_66 ) : MS → MR) fun j_67 => if x_57 = 10 then ( j_67  s_6.2.2 ) else ( bnd (fun  (σ_73 : MS) => ( j_61 0 σ_73 ) : MS → MR) fun j_74 => if x_57 < 32 then ( j_74  s_6.2.2 ) else ( if 126 < x_57 then ( j_74  s_6.2.2 ) else ( j_67  s_6.2.2 ) ) ) ) ) ))
theorem FdC_s (p0 : Int64) (p1 : Int32) (n : Nat) (a b : Int32) (X : MS) : loopF (FdC p0 p1) (n + 1) (a, b, X) = ( bnd (fun  (σ_10 : MS) => ( bnd (fun (t_14 : Int32) (σ_15 : MS) => ( (F_X12_refuses t_14 σ_15).bind fun u_19 => if u_19.1 = 0 then ( loopF (FdW p0 p1) FU (0, u_19.2) ) else ( some (0, u_19.2) ) ) : Int32 → MS → MR) fun j_16 => if a = 0 then ( j_16 1 σ_10 ) else ( if ((σ_10.1 4) + p1) ≤ 16000 then ( j_16 0 σ_10 ) else ( j_16 2 σ_10 ) ) ) : MS → MR) fun j_11 => if p1 ≤ b then ( j_11  X ) else ( if a = 0 then ( j_11  X ) else ( bnd (((p0.toUInt64 >>> ((8 * b).toInt64.toUInt64 &&& Int64.toUInt64 63)).toInt64).toInt32) fun (x_55 : Int32) => bnd ((x_55 &&& 255)) fun (x_57 : Int32) => bnd (fun (t_59 : Int32) (σ_60 : MS) => ( bnd (b + 1) fun (x_64 : Int32) => loopF (FdC p0 p1) n (t_59, x_64, σ_60) ) : Int32 → MS → MR) fun j_61 => bnd (fun  (σ_66 : MS) => ( j_61 1 σ_66 ) : MS → MR) fun j_67 => if x_57 = 10 then ( j_67  X ) else ( bnd (fun  (σ_73 : MS) => ( j_61 0 σ_73 ) : MS → MR) fun j_74 => if x_57 < 32 then ( j_74  X ) else ( if 126 < x_57 then ( j_74  X ) else ( j_67  X ) ) ) ) ) ) := rfl
theorem feed_eq (p0 : Int64) (p1 : Int32) (σ : MS) : F_X12_feed p0 p1 σ = bnd (fun (t_1 : Int32) (σ_2 : MS) => loopF (FdC p0 p1) FU (t_1, 0, σ_2) : Int32 → MS → MR) fun j_3 => if p1 < 1 then j_3 0 σ else if 8 < p1 then j_3 0 σ else j_3 1 σ := rfl
/-- byte i of a row -/
def rwB (p : Int64) (i : Nat) : Int32 := ((p.toUInt64 >>> ((8 * J (i : Nat)).toInt64.toUInt64 &&& Int64.toUInt64 63)).toInt64).toInt32
/-- a byte of the tape's -/
abbrev isT (x : Int32) : Prop := x = 10 ∨ (¬ x < 32 ∧ ¬ 126 < x)
/-- what is fed, by both: L bytes on the tape -/
def TPD (L : Nat) (σ : MS) (Γ : HS) : Prop := L ≤ 16000 ∧ σ.1 4 = J (L : Nat) ∧ (Γ 0).1 1 = J (L : Nat) ∧ ∀ j, j < L → ∃ v : Nat, σ.2 3 j = J (v : Nat) ∧ (Γ 13).2.1 0 j = J (v : Nat) ∧ (v = 10 ∨ (32 ≤ v ∧ v ≤ 126))
def fdT (p : Int64) (L n : Nat) (f : Nat → Int32) : Nat → Int32 := fun j => if L ≤ j ∧ j < L + n then (rwB p (j - L) &&& 255).toInt8.toInt32 else f j
def H_feed (p : Int64) (n : Int32) (T : TS) : HA := if n < 1 then some ((1, 0), T) else if 8 < n then some ((1, 0), T) else if ∀ i, i < n.toNatClampNeg → isT (rwB p i &&& 255) then (if 16000 < (T.1 0).1 1 + n then some ((2, 0), T) else some ((0, (T.1 0).1 1 + n), (cI' (cA' T.1 13 0 (fdT p ((T.1 0).1 1).toNatClampNeg n.toNatClampNeg ((T.1 13).2.1 0))) 0 1 ((T.1 0).1 1 + n), T.2))) else some ((1, 0), T)
theorem s255 : ∀ s, s < 256 → J ((s : Nat) - 128 : Int) &&& 255 = J ((s + 128) % 256 : Nat) := by decide +kernel
theorem i8_of {x : Int32} {c : Nat} (h : x &&& 255 = J (c : Nat)) (hc : c < 128) : x.toInt8.toInt32 = J (c : Nat) := by
  have e := and255 x
  have l : -128 ≤ x.toInt8.toInt32.toInt ∧ x.toInt8.toInt32.toInt < 128 := by
    rw [Int8.toInt_toInt32]
    exact ⟨x.toInt8.le_toInt, x.toInt8.toInt_lt⟩
  have r := (J_of x.toInt8.toInt32).symm
  rw [h] at e
  generalize x.toInt8.toInt32 = y at e l r
  generalize y.toInt = z at l r
  subst r
  have t := s255 (z + 128).toNat (by omega)
  rw [show (((z + 128).toNat : Nat) : Int) - 128 = z by omega, e, J_eqN (by omega) (by omega)] at t
  congr 1
  omega
theorem isT_J {x : Int32} (h : isT (x &&& 255)) : ∃ c : Nat, x &&& 255 = J (c : Nat) ∧ (c = 10 ∨ (32 ≤ c ∧ c ≤ 126)) := by
  rcases h with h | ⟨h1, h2⟩
  · exact ⟨10, h, Or.inl rfl⟩
  · have r := J_rng (x &&& 255)
    have e := (J_of (x &&& 255)).symm
    generalize (x &&& 255).toInt = z at r e
    rw [e] at h1 h2 ⊢
    rw [show (32 : Int32) = J 32 from rfl, J_lt (by omega) (by omega) (by omega) (by omega)] at h1
    rw [show (126 : Int32) = J 126 from rfl, J_lt (by omega) (by omega) (by omega) (by omega)] at h2
    exact ⟨z.toNat, by congr 1; omega, Or.inr (by omega)⟩
/-- what the bytes are that both write down -/
theorem byt_ok {x : Int32} (h : isT (x &&& 255)) : ∃ c : Nat, vp_nar .byte (x.toInt8.toInt32) = J (c : Nat) ∧ (x &&& 255).toInt8.toInt32 = J (c : Nat) ∧ (c = 10 ∨ (32 ≤ c ∧ c ≤ 126)) := by
  obtain ⟨c, e, hc⟩ := isT_J h
  have e2 := i8_of e (by omega)
  exact ⟨c, by rw [e2]; exact J_byte (by omega) (by omega), by rw [e]; exact J_i8 (by omega) (by omega), hc⟩
theorem fdW_ok (p : Int64) {n L : Nat} (hn : n ≤ 8) (hL : L + n ≤ 16000) : ∀ (d i m : Nat) (X : MS), i + d = n → d < m → X.1 4 = J (L + i : Nat) → ∃ Y, loopF (FdW p (J (n : Nat))) m (J (i : Nat), X) = some (J (L + n : Nat), Y) ∧ Y.1 4 = J (L + n : Nat) ∧ (∀ k, k ≠ 4 → Y.1 k = X.1 k) ∧ (∀ k, k ≠ 3 → Y.2 k = X.2 k) ∧ ∀ j, Y.2 3 j = if L + i ≤ j ∧ j < L + n then vp_nar .byte ((rwB p (j - L)).toInt8.toInt32) else X.2 3 j := by
  intro d
  induction d with
  | zero =>
    intro i m X hi hm h4
    obtain ⟨m, rfl⟩ : ∃ q, m = q + 1 := ⟨m - 1, by omega⟩
    rw [FdW_s, if_pos (show J (n : Nat) ≤ J (i : Nat) by rw [J_leN (by omega) (by omega)]; omega), h4, show L + i = L + n by omega]
    exact ⟨X, rfl, by rw [h4, show L + i = L + n by omega], fun _ _ => rfl, fun _ _ => rfl, fun j => by rw [if_neg (by omega)]⟩
  | succ d ih =>
    intro i m X hi hm h4
    obtain ⟨m, rfl⟩ : ∃ q, m = q + 1 := ⟨m - 1, by omega⟩
    have ei : J (i : Nat) + 1 = J (i + 1 : Nat) := by rw [show (1 : Int32) = J 1 from rfl, J_add]; congr 1
    have e4 : J (L + i : Nat) + 1 = J (L + (i + 1) : Nat) := by rw [show (1 : Int32) = J 1 from rfl, J_add]; congr 1
    rw [FdW_s, if_neg (show ¬ J (n : Nat) ≤ J (i : Nat) by rw [J_leN (by omega) (by omega)]; omega), bndE, bndE, bndE, h4, if_neg (gNn (by omega) (by omega)), J_natN (by omega), bndE, bndE, ei, e4]
    obtain ⟨Y, y1, y2, y3, y4, y5⟩ := ih (i + 1) m (mA (mI X 4 (J (L + (i + 1) : Nat))) 3 (upd (X.2 3) (L + i) (vp_nar .byte ((rwB p i).toInt8.toInt32)))) (by omega) (by omega) rfl
    refine ⟨Y, y1, y2, fun k hk => ?_, fun k hk => ?_, fun j => ?_⟩
    · rw [y3 k hk]
      show (mI X 4 (J (L + (i + 1) : Nat))).1 k = _
      rw [mI_1, if_neg hk]
    · rw [y4 k hk, mA_2, if_neg hk]; rfl
    · rw [y5]
      by_cases q : L + i = j
      · rw [if_neg (by omega), if_pos (by omega)]
        show upd (X.2 3) (L + i) _ j = _
        rw [upd_s, if_pos q.symm, show j - L = i by omega]
      · by_cases q2 : L + (i + 1) ≤ j ∧ j < L + n
        · rw [if_pos q2, if_pos (by omega)]
        · rw [if_neg q2, if_neg (by omega)]
          show upd (X.2 3) (L + i) _ j = _
          rw [upd_s, if_neg (by omega)]
theorem fdC_0 (p : Int64) (n : Int32) (b : Int32) (m : Nat) (X : MS) : loopF (FdC p n) (m + 1) (0, b, X) = some (0, mI X 0 1) := by
  rw [FdC_s, bndE]
  dsimp only
  rw [bndE, if_pos rfl, if_pos rfl]
  dsimp only
  rw [r_ref1 (by decide), Option.bind_some]
  dsimp only
  rw [if_neg (show ¬ (1 : Int32) = 0 by decide)]
  split <;> rfl
/-- the bytes are looked at: all the tape's, or not -/
theorem fdC_ok (p : Int64) {n : Nat} (hn : n ≤ 8) (X : MS) : ∀ (d i m : Nat), i + d = n → d + 1 < m → loopF (FdC p (J (n : Nat))) m (1, J (i : Nat), X) = if ∀ j, j < n → i ≤ j → isT (rwB p j &&& 255) then (if X.1 4 + J (n : Nat) ≤ 16000 then loopF (FdW p (J (n : Nat))) FU (0, mI X 0 0) else some (0, mI X 0 2)) else some (0, mI X 0 1) := by
  intro d
  induction d with
  | zero =>
    intro i m hi hm
    obtain ⟨m, rfl⟩ : ∃ q, m = q + 1 := ⟨m - 1, by omega⟩
    rw [FdC_s, bndE]
    dsimp only
    rw [bndE, if_pos (show J (n : Nat) ≤ J (i : Nat) by rw [J_leN (by omega) (by omega)]; omega), if_neg (show ¬ (1 : Int32) = 0 by decide), if_pos (show ∀ j, j < n → i ≤ j → isT (rwB p j &&& 255) from fun j a b => by omega)]
    dsimp only
    rw [r_ref0, r_ref1 (by decide), Option.bind_some, Option.bind_some]
    rfl
  | succ d ih =>
    intro i m hi hm
    obtain ⟨m, rfl⟩ : ∃ q, m = q + 1 := ⟨m - 1, by omega⟩
    have ei : J (i : Nat) + 1 = J (i + 1 : Nat) := by rw [show (1 : Int32) = J 1 from rfl, J_add]; congr 1
    have nx := ih (i + 1) m (by omega) (by omega)
    obtain ⟨m, rfl⟩ : ∃ q, m = q + 1 := ⟨m - 1, by omega⟩
    rw [FdC_s, bndE]
    dsimp only
    rw [if_neg (show ¬ J (n : Nat) ≤ J (i : Nat) by rw [J_leN (by omega) (by omega)]; omega), if_neg (show ¬ (1 : Int32) = 0 by decide), bndE, show ((p.toUInt64 >>> ((8 * J (i : Nat)).toInt64.toUInt64 &&& Int64.toUInt64 63)).toInt64).toInt32 = rwB p i from rfl, bndE, bndE, bndE]
    dsimp only
    rw [bndE]
    rw [bndE, ei, nx]
    dsimp only
    rw [bndE, fdC_0]
    by_cases q : isT (rwB p i &&& 255)
    · have g : (∀ j, j < n → i + 1 ≤ j → isT (rwB p j &&& 255)) = (∀ j, j < n → i ≤ j → isT (rwB p j &&& 255)) := propext ⟨fun h j a b => by
        by_cases c : j = i
        · rw [c]; exact q
        · exact h j a (by omega), fun h j a b => h j a (by omega)⟩
      simp only [g]
      rcases q with q | ⟨q1, q2⟩
      · rw [if_pos q]
      · rw [if_neg q1, if_neg q2]
        split <;> rfl
    · rw [if_neg (show ¬ ∀ j, j < n → i ≤ j → isT (rwB p j &&& 255) from fun h => q (h i (by omega) (Nat.le_refl _)))]
      by_cases q1 : rwB p i &&& 255 = 10
      · exact absurd (Or.inl q1) q
      · rw [if_neg q1]
        by_cases q2 : rwB p i &&& 255 < 32
        · rw [if_pos q2]
        · rw [if_neg q2]
          by_cases q3 : 126 < rwB p i &&& 255
          · rw [if_pos q3]
          · exact absurd (Or.inr ⟨q2, q3⟩) q
/-- bytes are fed, to both -/
theorem W_feed {L : Nat} {σ : MS} {T : TS} (h : TPD L σ T.1) (hL : L + 8 ≤ 16000) (p : Int64) (x : Int32) : ALK (fun σ' T' => (∃ L', L' ≤ L + 8 ∧ TPD L' σ' T'.1) ∧ (∀ k, k ≠ 0 → k ≠ 4 → σ'.1 k = σ.1 k) ∧ (∀ k, k ≠ 3 → σ'.2 k = σ.2 k) ∧ (∀ r, r ≠ 0 → r ≠ 13 → T'.1 r = T.1 r) ∧ (∀ j, j ≠ 1 → (T'.1 0).1 j = (T.1 0).1 j) ∧ (T'.1 0).2 = (T.1 0).2 ∧ T'.2 = T.2) (F_X12_feed p x σ) (H_feed p x T) := by
  obtain ⟨h1, h2, h3, h4⟩ := id h
  have no : ∀ {mR : MR} {mC : HA}, mR = some (0, mI σ 0 1) → mC = some ((1, 0), T) → ALK (fun σ' T' => (∃ L', L' ≤ L + 8 ∧ TPD L' σ' T'.1) ∧ (∀ k, k ≠ 0 → k ≠ 4 → σ'.1 k = σ.1 k) ∧ (∀ k, k ≠ 3 → σ'.2 k = σ.2 k) ∧ (∀ r, r ≠ 0 → r ≠ 13 → T'.1 r = T.1 r) ∧ (∀ j, j ≠ 1 → (T'.1 0).1 j = (T.1 0).1 j) ∧ (T'.1 0).2 = (T.1 0).2 ∧ T'.2 = T.2) mR mC := fun e1 e2 =>
    ⟨0, 0, 1, mI σ 0 1, T, e1, e2, rfl, fun c => absurd c (by decide), ⟨L, by omega, h⟩, fun k a _ => by rw [mI_1, if_neg a], fun _ _ => rfl, fun _ _ _ => rfl, fun _ _ => rfl, rfl, rfl⟩
  have c0 : ∀ b : Int32, loopF (FdC p x) FU (0, b, σ) = some (0, mI σ 0 1) := fun b => fdC_0 p x b (FU - 1) σ
  rw [feed_eq, bndE]
  unfold H_feed
  dsimp only
  rw [c0]
  rcases i32_n x with hx | ⟨n, rfl, hn⟩
  · rw [if_pos (lt1 hx), if_pos (lt1 hx)]
    exact no rfl rfl
  by_cases q1 : J (n : Nat) < 1
  · rw [if_pos q1, if_pos q1]
    exact no rfl rfl
  rw [if_neg q1, if_neg q1]
  by_cases q8 : 8 < J (n : Nat)
  · rw [if_pos q8, if_pos q8]
    exact no rfl rfl
  rw [if_neg q8, if_neg q8]
  rw [show (1 : Int32) = J ((1 : Nat) : Int) from rfl, J_ltN hn (by omega)] at q1
  rw [show (8 : Int32) = J ((8 : Nat) : Int) from rfl, J_ltN (by omega) hn] at q8
  have cc := fdC_ok p (n := n) (by omega) σ n 0 FU (by omega) (by have : 20 < FU := (by decide); omega)
  rw [show loopF (FdC p (J (n : Nat))) FU (1, 0, σ) = _ from cc, J_natN hn, h2, h3, J_natN (by omega)]
  by_cases q : ∀ i, i < n → isT (rwB p i &&& 255)
  rotate_left
  · rw [if_neg q, if_neg (fun c => q (fun i hi => c i hi (Nat.zero_le _)))]
    exact no rfl rfl
  have eN : J (L : Nat) + J (n : Nat) = J (L + n : Nat) := by rw [J_add]; congr 1
  rw [if_pos q, if_pos (fun i hi _ => q i hi), eN, if_pos (show J (L + n : Nat) ≤ 16000 by rw [show (16000 : Int32) = J ((16000 : Nat) : Int) from rfl, J_leN (by omega) (by omega)]; omega), if_neg (show ¬ 16000 < J (L + n : Nat) by rw [show (16000 : Int32) = J ((16000 : Nat) : Int) from rfl, J_ltN (by omega) (by omega)]; omega)]
  obtain ⟨Y, y1, y2, y3, y4, y5⟩ := fdW_ok p (n := n) (L := L) (by omega) (by omega) n 0 FU (mI σ 0 0) (by omega) (by have : 20 < FU := (by decide); omega) h2
  refine ⟨J (L + n : Nat), J (L + n : Nat), 0, Y, _, y1, rfl, by rw [y3 0 (by omega)]; rfl, fun _ => rfl, ⟨L + n, by omega, by omega, y2, rfl, fun j hj => ?_⟩, fun k a b => by rw [y3 k b, mI_1, if_neg a], fun k hk => by rw [y4 k hk]; rfl, fun r r0 r13 => ?_, fun j hj => ?_, rfl, rfl⟩
  · rw [y5 j]
    show ∃ v : Nat, _ = J (v : Nat) ∧ fdT p L n ((T.1 13).2.1 0) j = J (v : Nat) ∧ _
    unfold fdT
    by_cases c : L ≤ j ∧ j < L + n
    · rw [if_pos (by omega), if_pos c]
      obtain ⟨v, v1, v2, v3⟩ := byt_ok (q (j - L) (by omega))
      exact ⟨v, v1, v2, v3⟩
    · rw [if_neg (by omega), if_neg c]
      exact h4 j (by omega)
  · show (cI' (cA' T.1 13 0 _) 0 1 _) r = _
    rw [cI_r, if_neg r0, cA_r, if_neg r13]
  · show upd (T.1 0).1 1 _ j = _
    rw [upd_s, if_neg hj]
