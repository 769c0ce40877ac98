/-! what there is: asked of both -/
variable {nO nV nC nA : Nat} {room : Nat → Bool} {en : Nat → Nat}
/-- a story is built, perhaps played -/
def QB (nO : Nat) (room : Nat → Bool) (nV nC nA : Nat) (en : Nat → Nat) (σ : MS) (Γ : HS) : Prop := (σ.1 44 = 1 ∧ (Γ 0).1 7 = 1) ∧ (σ.1 78 = J (nO : Nat) ∧ (Γ 4).2.1 0 0 = J (nO : Nat) ∧ nO ≤ 120) ∧ (σ.1 80 = J (nV : Nat) ∧ (Γ 4).2.1 0 2 = J (nV : Nat) ∧ nV ≤ 100) ∧ (σ.1 81 = J (nA : Nat) ∧ (Γ 4).2.1 0 3 = J (nA : Nat)) ∧ (REND σ en nA ∧ AEND Γ en nA ∧ en 0 = 0 ∧ (∀ k, k < nA → en k ≤ en (k + 1) ∧ en (k + 1) ≤ nC) ∧ nC ≤ 1000) ∧ ((σ.1 86 = 0 ∧ (Γ 0).1 8 = 0) ∨ (σ.1 86 = 1 ∧ (Γ 0).1 8 = 1 ∧ PL nO room nV nC σ Γ))
def QU (σ : MS) (Γ : HS) : Prop := σ.1 44 = 0 ∧ (Γ 0).1 7 = 0
def QQ (σ : MS) (Γ : HS) : Prop := QU σ Γ ∨ ∃ (nO : Nat) (room : Nat → Bool) (nV nC nA : Nat) (en : Nat → Nat), QB nO room nV nC nA en σ Γ
/-- answered alike, nothing changed -/
abbrev RQ (σ : MS) (T : TS) (mR : MR) (mC : HA) : Prop := ALK (fun σ' T' => rTh σ σ' ∧ T' = T) mR mC
theorem RQ_no {σ : MS} {T : TS} {mR : MR} {mC : HA} {k : Int32} (hk : k ≠ 0) (e1 : mR = some (0, mI σ 0 k)) (e2 : mC = some ((k, 0), T)) : RQ σ T mR mC := ⟨0, 0, k, mI σ 0 k, T, e1, e2, rfl, fun h => absurd h hk, rTh_i, rfl⟩
theorem RQ_yes {σ : MS} {T : TS} {mR : MR} {mC : HA} {v : Int32} (e1 : mR = some (v, mI σ 0 0)) (e2 : mC = some ((0, v), T)) : RQ σ T mR mC := ⟨v, v, 0, mI σ 0 0, T, e1, e2, rfl, fun _ => rfl, rTh_i, rfl⟩
theorem i32_n (p : Int32) : p < 0 ∨ ∃ k : Nat, p = J (k : Nat) ∧ k < 2147483648 := by
  have r := J_rng p
  have e := (J_of p).symm
  generalize p.toInt = z at r e
  subst e
  by_cases q : z < 0
  · exact Or.inl (by rw [show (0 : Int32) = J 0 from rfl, J_lt (by omega) (by omega) (by omega) (by omega)]; exact q)
  · exact Or.inr ⟨z.toNat, by congr 1; omega, by omega⟩
theorem lt1 {p : Int32} (h : p < 0) : p < 1 := by
  have r := J_rng p
  have e := (J_of p).symm
  generalize p.toInt = z at r e
  subst e
  rw [show (0 : Int32) = J 0 from rfl, J_lt (by omega) (by omega) (by omega) (by omega)] at h
  rw [show (1 : Int32) = J 1 from rfl, J_lt (by omega) (by omega) (by omega) (by omega)]; omega
theorem J_leN {a b : Nat} (ha : a < 2147483648) (hb : b < 2147483648) : (J (a : Nat) ≤ J (b : Nat)) = (a ≤ b) := by
  rw [J_le (by omega) (by omega) (by omega) (by omega)]; exact propext ⟨fun h => by omega, fun h => by omega⟩
theorem J_ltN {a b : Nat} (ha : a < 2147483648) (hb : b < 2147483648) : (J (a : Nat) < J (b : Nat)) = (a < b) := by
  rw [J_lt (by omega) (by omega) (by omega) (by omega)]; exact propext ⟨fun h => by omega, fun h => by omega⟩
/-- whether there is such an object: 1 no, 2 nothing is played, 0 yes -/
def H_obj (x : Int32) (T : TS) : Int32 := if (T.1 0).1 7 = 0 then 1 else if x < 1 then 1 else if (T.1 4).2.1 0 0 < x then 1 else if (T.1 0).1 8 = 0 then 2 else 0
theorem r_noObj {σ : MS} {T : TS} (h : QQ σ T.1) (x : Int32) : F_X12_noObject x σ = some (if H_obj x T = 0 then 0 else 1, mI σ 0 (H_obj x T)) ∧ (H_obj x T = 0 → ∃ (nO : Nat) (room : Nat → Bool) (nV nC nA : Nat) (en : Nat → Nat) (k : Nat), QB nO room nV nC nA en σ T.1 ∧ PL nO room nV nC σ T.1 ∧ 1 ≤ k ∧ k ≤ nO ∧ x = J (k : Nat)) := by
  have ref : ∀ t : Int32, t ≠ 0 → ((F_X12_refuses t σ).bind fun u_6 => if ¬ (u_6.1 = 0 ∨ u_6.1 = 1) then none else some (u_6.1, u_6.2)) = some ((1 : Int32), mI σ 0 t) := fun t ht => by
    rw [r_ref1 ht, Option.bind_some]
    dsimp only
    rw [if_neg (by decide)]
  have ref0 : ((F_X12_refuses 0 σ).bind fun u_6 => if ¬ (u_6.1 = 0 ∨ u_6.1 = 1) then none else some (u_6.1, u_6.2)) = some ((0 : Int32), mI σ 0 0) := by
    rw [r_ref0, Option.bind_some]
    dsimp only
    rw [if_neg (by decide)]
  unfold F_X12_noObject H_obj
  rw [bndE, bndE]
  rcases h with ⟨h1, h2⟩ | ⟨nO, room, nV, nC, nA, en, hQ⟩
  · rw [if_pos h1, if_pos h2]
    exact ⟨ref 1 (by decide), fun h => absurd h (by decide)⟩
  · obtain ⟨⟨h1, h2⟩, ⟨h3, h4, h5⟩, -, -, -, h6⟩ := id hQ
    rw [if_neg (show ¬ σ.1 44 = 0 by rw [h1]; decide), if_neg (show ¬ (T.1 0).1 7 = 0 by rw [h2]; decide), h3, h4]
    by_cases q1 : x < 1
    · rw [if_pos q1, if_pos q1]
      exact ⟨ref 1 (by decide), fun h => absurd h (by decide)⟩
    rw [if_neg q1, if_neg q1]
    obtain ⟨k, rfl, hk⟩ : ∃ k : Nat, x = J (k : Nat) ∧ k < 2147483648 := by
      rcases i32_n x with h | h
      · exact absurd (lt1 h) q1
      · exact h
    have k1 : 1 ≤ k := by
      rw [show (1 : Int32) = J ((1 : Nat) : Int) from rfl, J_ltN hk (by omega)] at q1; omega
    by_cases q2 : k ≤ nO
    · rw [if_pos (by rw [J_leN hk (by omega)]; exact q2), if_neg (show ¬ J (nO : Nat) < J (k : Nat) by rw [J_ltN (by omega) hk]; omega)]
      rcases h6 with ⟨h6, h7⟩ | ⟨h6, h7, h8⟩
      · rw [if_pos h6, if_pos h7]
        exact ⟨ref 2 (by decide), fun h => absurd h (by decide)⟩
      · rw [if_neg (show ¬ σ.1 86 = 0 by rw [h6]; decide), if_neg (show ¬ (T.1 0).1 8 = 0 by rw [h7]; decide)]
        exact ⟨ref0, fun _ => ⟨nO, room, nV, nC, nA, en, k, hQ, h8, k1, q2, rfl⟩⟩
    · rw [if_neg (show ¬ J (k : Nat) ≤ J (nO : Nat) by rw [J_leN hk (by omega)]; exact q2), if_pos (show J (nO : Nat) < J (k : Nat) by rw [J_ltN (by omega) hk]; omega)]
      exact ⟨ref 1 (by decide), fun h => absurd h (by decide)⟩
def H_holder (x : Int32) (T : TS) : HA := if H_obj x T = 0 then some ((0, g_at 121 ((T.1 9).2.1 0) x), T) else some ((H_obj x T, 0), T)
def H_first (x nx : Int32) (T : TS) : HA := if H_obj x T = 0 then some ((0, if nx = 0 then g_at 121 ((T.1 9).2.1 1) x else g_at 121 ((T.1 9).2.1 2) x), T) else some ((H_obj x T, 0), T)
theorem W_holder {σ : MS} {T : TS} (h : QQ σ T.1) (x : Int32) : RQ σ T (F_X12_holder x σ) (H_holder x T) := by
  obtain ⟨e1, e2⟩ := r_noObj h x
  unfold F_X12_holder H_holder
  rw [e1, Option.bind_some]
  dsimp only
  by_cases q : H_obj x T = 0
  · obtain ⟨nO, room, nV, nC, nA, en, k, -, hP, k1, k2, rfl⟩ := e2 q
    obtain ⟨pa, fi, nx, ch, tr, P⟩ := hP
    have tn := P.1.1
    rw [if_pos q, if_pos q, if_pos rfl, if_neg (gNn (by omega) (by omega)), J_natN (by omega), q]
    refine RQ_yes (v := J (pa k : Nat)) ?_ ?_
    · rw [show (mI σ 0 0).2 87 k = J (pa k : Nat) from (P.2.1 k (by omega)).1]
    · rw [q_g_at_in (by omega) (by omega) (by omega), Int.toNat_natCast, (P.2.2.1 k (by omega)).1]
  · rw [if_neg q, if_neg q, if_neg (by decide)]
    exact RQ_no q rfl rfl
theorem W_first {σ : MS} {T : TS} (h : QQ σ T.1) (x nxt : Int32) : RQ σ T (F_X12_first x nxt σ) (H_first x nxt T) := by
  obtain ⟨e1, e2⟩ := r_noObj h x
  unfold F_X12_first H_first
  rw [e1, Option.bind_some]
  dsimp only
  by_cases q : H_obj x T = 0
  · obtain ⟨nO, room, nV, nC, nA, en, k, -, hP, k1, k2, rfl⟩ := e2 q
    obtain ⟨pa, fi, nx, ch, tr, P⟩ := hP
    have tn := P.1.1
    rw [if_pos q, if_pos q, if_pos rfl, if_neg (gNn (by omega) (by omega)), J_natN (by omega), q]
    by_cases c : nxt = 0
    · rw [if_pos c, if_pos c]
      refine RQ_yes (v := J (fi k : Nat)) ?_ ?_
      · rw [show (mI σ 0 0).2 88 k = J (fi k : Nat) from (P.2.1 k (by omega)).2.1]
      · rw [q_g_at_in (by omega) (by omega) (by omega), Int.toNat_natCast, (P.2.2.1 k (by omega)).2.1]
    · rw [if_neg c, if_neg c]
      refine RQ_yes (v := J (nx k : Nat)) ?_ ?_
      · rw [if_neg (show ¬ (J (k : Nat) < 0 ∨ 121 ≤ k) from fun h => h.elim (fun c => J_nlt0 (by omega) (by omega) c) (fun c => by omega)), show (mI σ 0 0).2 89 k = J (nx k : Nat) from (P.2.1 k (by omega)).2.2]
      · rw [q_g_at_in (by omega) (by omega) (by omega), Int.toNat_natCast, (P.2.2.1 k (by omega)).2.2]
  · rw [if_neg q, if_neg q, if_neg (by decide)]
    exact RQ_no q rfl rfl
def H_has (x a : Int32) (T : TS) : HA := if (T.1 0).1 7 = 0 then some ((1, 0), T) else if x < 1 then some ((1, 0), T) else if (T.1 4).2.1 0 0 < x then some ((1, 0), T) else if a < 0 ∨ 6 < a then some ((2, 0), T) else if (T.1 0).1 8 = 0 then some ((3, 0), T) else (F_X6_bears x a T.1).bind fun u => bnd ((mrg (fun j => j == 9) T.1 u.2, T.2) : TS) fun T1 => if ¬ (u.1 = 0 ∨ u.1 = 1) then none else some ((0, u.1), T1)
theorem W_has {σ : MS} {T : TS} (h : QQ σ T.1) (x a : Int32) : RQ σ T (F_X12_has_ x a σ) (H_has x a T) := by
  have ref : ∀ t : Int32, t ≠ 0 → ((F_X12_refuses t σ).bind fun u_6 => if u_6.1 = 0 then ( bnd (((7 * x) + a)) fun (x_10 : Int32) => if x_10 < 0 ∨ 847 ≤ x_10.toNatClampNeg then none else if (u_6.2.2 90 x_10.toNatClampNeg) = 0 then ( some (0, u_6.2) ) else ( some (1, u_6.2) ) ) else ( some (0, u_6.2) )) = some ((0 : Int32), mI σ 0 t) := fun t ht => by
    rw [r_ref1 ht, Option.bind_some]
    dsimp only
    rw [if_neg (by decide)]
  unfold F_X12_has_ H_has
  rw [bndE, bndE]
  rcases h with ⟨h1, h2⟩ | ⟨nO, room, nV, nC, nA, en, hQ⟩
  · rw [if_pos h1, if_pos h2]
    exact RQ_no (k := 1) (by decide) (ref 1 (by decide)) rfl
  · obtain ⟨⟨h1, h2⟩, ⟨h3, h4, h5⟩, -, -, -, h6⟩ := id hQ
    rw [if_neg (show ¬ σ.1 44 = 0 by rw [h1]; decide), if_neg (show ¬ (T.1 0).1 7 = 0 by rw [h2]; decide), h3, h4]
    by_cases q1 : x < 1
    · rw [if_pos q1, if_pos q1]
      exact RQ_no (k := 1) (by decide) (ref 1 (by decide)) rfl
    rw [if_neg q1, if_neg q1]
    obtain ⟨k, rfl, hk⟩ : ∃ k : Nat, x = J (k : Nat) ∧ k < 2147483648 := by
      rcases i32_n x with h | h
      · exact absurd (lt1 h) q1
      · exact h
    have k1 : 1 ≤ k := by
      rw [show (1 : Int32) = J ((1 : Nat) : Int) from rfl, J_ltN hk (by omega)] at q1; omega
    by_cases q2 : k ≤ nO
    rotate_left
    · rw [if_neg (show ¬ J (k : Nat) ≤ J (nO : Nat) by rw [J_leN hk (by omega)]; exact q2), if_pos (show J (nO : Nat) < J (k : Nat) by rw [J_ltN (by omega) hk]; omega)]
      exact RQ_no (k := 1) (by decide) (ref 1 (by decide)) rfl
    rw [if_pos (by rw [J_leN hk (by omega)]; exact q2), if_neg (show ¬ J (nO : Nat) < J (k : Nat) by rw [J_ltN (by omega) hk]; omega), bndE]
    rcases i32_n a with ha | ⟨b, rfl, hb⟩
    · rw [if_pos ha, if_pos (Or.inl ha)]
      exact RQ_no (k := 2) (by decide) (ref 2 (by decide)) rfl
    rw [if_neg (J_nlt0 (by omega) (by omega))]
    by_cases q3 : b ≤ 6
    rotate_left
    · rw [if_neg (show ¬ J (b : Nat) ≤ 6 by rw [show (6 : Int32) = J ((6 : Nat) : Int) from rfl, J_leN hb (by omega)]; exact q3), if_pos (Or.inr (by rw [show (6 : Int32) = J ((6 : Nat) : Int) from rfl, J_ltN (by omega) hb]; omega))]
      exact RQ_no (k := 2) (by decide) (ref 2 (by decide)) rfl
    rw [if_pos (show J (b : Nat) ≤ 6 by rw [show (6 : Int32) = J ((6 : Nat) : Int) from rfl, J_leN hb (by omega)]; exact q3), if_neg (show ¬ (J (b : Nat) < 0 ∨ 6 < J (b : Nat)) by
      rintro (c | c)
      · exact J_nlt0 (by omega) (by omega) c
      · rw [show (6 : Int32) = J ((6 : Nat) : Int) from rfl, J_ltN (by omega) hb] at c; omega)]
    rcases h6 with ⟨h6, h7⟩ | ⟨h6, h7, h8⟩
    · rw [if_pos h6, if_pos h7]
      exact RQ_no (k := 3) (by decide) (ref 3 (by decide)) rfl
    · obtain ⟨pa, fi, nx, ch, tr, P⟩ := h8
      have e7 : 7 * J (k : Nat) + J (b : Nat) = J (7 * k + b : Nat) := by
        rw [show (7 : Int32) = J (7 : Int) from rfl, J_mul, J_add]; congr 1
      rw [if_neg (show ¬ σ.1 86 = 0 by rw [h6]; decide), if_neg (show ¬ (T.1 0).1 8 = 0 by rw [h7]; decide), c_bears P (by omega) (by omega), Option.bind_some]
      dsimp only
      rw [r_ref0, Option.bind_some]
      dsimp only
      rw [if_pos rfl, e7, bndE, if_neg (gNn (by omega) (by omega)), J_natN (by omega), show (mI σ 0 0).2 90 (7 * k + b) = if (tr k).testBit b = true then 1 else 0 from (P.2.2.2.1 k (by omega)).2.2 b (by omega)]
      rw [mrg_self, bndE, if_neg (show ¬ ¬ ((if trB tr b k = true then (1 : Int32) else 0) = 0 ∨ (if trB tr b k = true then (1 : Int32) else 0) = 1) from fun h => h (by
        by_cases c : trB tr b k = true
        · rw [if_pos c]; exact Or.inr rfl
        · rw [if_neg c]; exact Or.inl rfl))]
      refine RQ_yes (v := if (tr k).testBit b = true then 1 else 0) ?_ rfl
      by_cases c : (tr k).testBit b = true
      · rw [if_pos c, if_neg (by decide)]
      · rw [if_neg c, if_pos rfl]
def H_value (x : Int32) (T : TS) : HA := if (T.1 0).1 7 = 0 then some ((1, 0), T) else if x < 0 then some ((1, 0), T) else if (T.1 4).2.1 0 2 ≤ x then some ((1, 0), T) else if (T.1 0).1 8 = 0 then some ((2, 0), T) else some ((0, g_at 100 ((T.1 9).2.1 4) x), T)
theorem W_value {σ : MS} {T : TS} (h : QQ σ T.1) (x : Int32) : RQ σ T (F_X12_value x σ) (H_value x T) := by
  have ref : ∀ t : Int32, t ≠ 0 → ((F_X12_refuses t σ).bind fun u_6 => if u_6.1 = 0 then ( if x < 0 ∨ 100 ≤ x.toNatClampNeg then none else some ((u_6.2.2 91 x.toNatClampNeg), u_6.2) ) else ( some (0, u_6.2) )) = some ((0 : Int32), mI σ 0 t) := fun t ht => by
    rw [r_ref1 ht, Option.bind_some]
    dsimp only
    rw [if_neg (by decide)]
  unfold F_X12_value H_value
  rw [bndE, bndE]
  rcases h with ⟨h1, h2⟩ | ⟨nO, room, nV, nC, nA, en, hQ⟩
  · rw [if_pos h1, if_pos h2]
    exact RQ_no (k := 1) (by decide) (ref 1 (by decide)) rfl
  · obtain ⟨⟨h1, h2⟩, -, ⟨h3, h4, h5⟩, -, -, h6⟩ := id hQ
    rw [if_neg (show ¬ σ.1 44 = 0 by rw [h1]; decide), if_neg (show ¬ (T.1 0).1 7 = 0 by rw [h2]; decide), h3, h4]
    rcases i32_n x with hx | ⟨k, rfl, hk⟩
    · rw [if_pos hx, if_pos hx]
      exact RQ_no (k := 1) (by decide) (ref 1 (by decide)) rfl
    rw [if_neg (J_nlt0 (by omega) (by omega)), if_neg (J_nlt0 (by omega) (by omega))]
    by_cases q2 : k < nV
    rotate_left
    · rw [if_neg (show ¬ J (k : Nat) < J (nV : Nat) by rw [J_ltN hk (by omega)]; exact q2), if_pos (show J (nV : Nat) ≤ J (k : Nat) by rw [J_leN (by omega) hk]; omega)]
      exact RQ_no (k := 1) (by decide) (ref 1 (by decide)) rfl
    rw [if_pos (by rw [J_ltN hk (by omega)]; exact q2), if_neg (show ¬ J (nV : Nat) ≤ J (k : Nat) by rw [J_leN (by omega) hk]; omega)]
    rcases h6 with ⟨h6, h7⟩ | ⟨h6, h7, h8⟩
    · rw [if_pos h6, if_pos h7]
      exact RQ_no (k := 2) (by decide) (ref 2 (by decide)) rfl
    · obtain ⟨pa, fi, nx, ch, tr, P⟩ := h8
      rw [if_neg (show ¬ σ.1 86 = 0 by rw [h6]; decide), if_neg (show ¬ (T.1 0).1 8 = 0 by rw [h7]; decide)]
      dsimp only
      rw [r_ref0, Option.bind_some]
      dsimp only
      rw [if_pos rfl, if_neg (gNn (by omega) (by omega)), J_natN (by omega)]
      refine RQ_yes (v := σ.2 91 k) rfl ?_
      rw [q_g_at_in (by omega) (by omega) (by omega), Int.toNat_natCast, (P.2.2.2.2.1 k q2).1]
