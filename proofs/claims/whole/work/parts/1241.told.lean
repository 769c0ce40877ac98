/-! cell, told, size, out, place: asked of both -/
variable {nO nV nC nA : Nat} {room : Nat → Bool} {en : Nat → Nat}
theorem c_cellG {Γ : HS} {k : Nat} {p : Int32} (h : AEND Γ en nA) (hk : k < nA) (h0 : en 0 = 0) (hm : en k ≤ en (k + 1)) (hb : en (k + 1) ≤ 1000) : (∃ i : Nat, p = J (i : Nat) ∧ i < en (k + 1) - en k ∧ F_X7_cellOf (J (k : Nat)) p Γ = some (J (en k + i : Nat), Γ)) ∨ ((p < 0 ∨ J (en (k + 1) - en k : Nat) ≤ p) ∧ F_X7_cellOf (J (k : Nat)) p Γ = some (-1, Γ)) := by
  obtain ⟨h1, h2⟩ := h
  have eq : F_X7_cellOf (J (k : Nat)) p Γ = if p < 0 then some (-1, Γ) else if J (en (k + 1) - en k : Nat) ≤ p then some (-1, Γ) else some (J (en k : Nat) + p, Γ) := by
    have e1 : g_at 20 ((Γ 4).2.1 12) (J (k : Nat)) - J (en k : Nat) = J (en (k + 1) - en k : Nat) := by
      rw [q_g_at_in (by omega) (by omega) (by omega), show ((k : Nat) : Int).toNat = k by omega, h2 k hk, J_sub]; congr 1; omega
    unfold F_X7_cellOf
    rw [bndE]
    by_cases q : k = 0
    · rw [if_pos (show J (k : Nat) ≤ 0 by rw [q]; decide)]
      rw [show (J (en k : Nat) : Int32) = 0 by rw [q, h0]; rfl] at e1 ⊢
      dsimp only
      rw [bndE, bndE, e1]
    · rw [if_neg (by rw [show (0 : Int32) = J 0 from rfl, J_le (by omega) (by omega) (by omega) (by omega)]; omega), bndE, bndE, show J (k : Nat) - 1 = J (k - 1 : Nat) by rw [show (1 : Int32) = J 1 from rfl, J_sub]; congr 1; omega, q_g_at_in (n := 20) (i := ((k - 1 : Nat) : Int)) (by omega) (by omega) (by omega), show (((k - 1 : Nat) : Int)).toNat = k - 1 by omega, h2 (k - 1) (by omega), show k - 1 + 1 = k by omega]
      dsimp only
      rw [bndE, bndE, e1]
  rw [eq]
  rcases i32_n p with hp | ⟨i, rfl, hi⟩
  · exact Or.inr ⟨Or.inl hp, if_pos hp⟩
  · rw [if_neg (J_nlt0 (by omega) (by omega))]
    by_cases q : i < en (k + 1) - en k
    · exact Or.inl ⟨i, rfl, q, by rw [if_neg (show ¬ J (en (k + 1) - en k : Nat) ≤ J (i : Nat) by rw [J_leN (by omega) hi]; omega), J_add]; congr 1⟩
    · have g : J (en (k + 1) - en k : Nat) ≤ J (i : Nat) := by rw [J_leN (by omega) hi]; omega
      exact Or.inr ⟨Or.inr g, if_pos g⟩
theorem jm1 : (-1 : Int32) = J (-1) := rfl
theorem J_nm1' {a : Nat} (h : a < 100000) : ¬ J (a : Nat) = -1 := by
  rw [jm1, J_eq (by omega) (by omega) (by omega) (by omega)]; omega
abbrev bD : Nat → Bool := fun j => j == 4 || j == 5 || j == 6 || j == 7
def H_cell (k i : Int32) (T : TS) : HA := if (T.1 0).1 7 = 0 then some ((1, 0), T) else if k < 0 then some ((1, 0), T) else if (T.1 4).2.1 0 3 ≤ k then some ((1, 0), T) else (F_X7_cellOf k i T.1).bind fun u => bnd ((mrg bD T.1 u.2, T.2) : TS) fun T1 => if u.1 = -1 then some ((1, 0), T1) else if (T1.1 0).1 8 = 0 then some ((2, 0), T1) else (F_X7_cellOf k i T1.1).bind fun u2 => bnd ((mrg bD T1.1 u2.2, T1.2) : TS) fun T2 => some ((0, g_at 1000 ((T2.1 9).2.1 5) u2.1), T2)
theorem W_cell {σ : MS} {T : TS} (h : QQ σ T.1) (x i : Int32) : RQ σ T (F_X12_cell x i σ) (H_cell x i T) := by
  have ref : ∀ t : Int32, t ≠ 0 → ((F_X12_refuses t σ).bind fun u_6 => if u_6.1 = 0 then ( if x < 0 ∨ 21 ≤ x.toNatClampNeg then none else bnd (((u_6.2.2 77 x.toNatClampNeg) + i)) fun (x_12 : Int32) => if x_12 < 0 ∨ 1000 ≤ x_12.toNatClampNeg then none else some ((u_6.2.2 92 x_12.toNatClampNeg), u_6.2) ) else ( some (0, u_6.2) )) = some ((0 : Int32), mI σ 0 t) := fun t ht => by
    rw [r_ref1 ht, Option.bind_some]
    dsimp only
    rw [if_neg (by decide)]
  unfold F_X12_cell H_cell
  rw [bndE, bndE]
  rcases h with ⟨h1, h2⟩ | ⟨nO, room, nV, nC, nA, en, hQ⟩
  · rw [if_pos h1, if_pos h2]
    exact RQ_no (k := 1) (by decide) (ref 1 (by decide)) rfl
  · obtain ⟨⟨h1, h2⟩, -, -, ⟨h3, h4⟩, ⟨hr, ha, h0, hm, hc⟩, h6⟩ := id hQ
    have hn := hr.1
    rw [if_neg (show ¬ σ.1 44 = 0 by rw [h1]; decide), if_neg (show ¬ (T.1 0).1 7 = 0 by rw [h2]; decide), h3, h4]
    rcases i32_n x with hx | ⟨k, rfl, hk⟩
    · rw [if_pos hx, if_pos hx]
      exact RQ_no (k := 1) (by decide) (ref 1 (by decide)) rfl
    rw [if_neg (J_nlt0 (by omega) (by omega)), if_neg (J_nlt0 (by omega) (by omega))]
    by_cases q2 : k < nA
    rotate_left
    · rw [if_pos (show J (nA : Nat) ≤ J (k : Nat) by rw [J_leN (by omega) hk]; omega), if_pos (show J (nA : Nat) ≤ J (k : Nat) by rw [J_leN (by omega) hk]; omega)]
      exact RQ_no (k := 1) (by decide) (ref 1 (by decide)) rfl
    have hmk := hm k q2
    have refo := ref
    rw [J_natN (by omega)] at ref
    have e1000 : en (k + 1) ≤ 1000 := by
      have g : ∀ d, k + 1 + d ≤ nA → en (k + 1) ≤ en (k + 1 + d) := by
        intro d
        induction d with
        | zero => intro _; exact Nat.le_refl _
        | succ d ih => intro hd; exact Nat.le_trans (ih (by omega)) (hm (k + 1 + d) (by omega)).1
      omega
    rw [if_neg (show ¬ J (nA : Nat) ≤ J (k : Nat) by rw [J_leN (by omega) hk]; omega), if_neg (show ¬ J (nA : Nat) ≤ J (k : Nat) by rw [J_leN (by omega) hk]; omega)]
    have e77 : ∀ j, j ≤ nA → σ.2 77 j = J (en j : Nat) := hr.2
    have es : J (en (k + 1) : Nat) - J (en k : Nat) = J (en (k + 1) - en k : Nat) := by rw [J_sub]; congr 1; omega
    have ek : J (k : Nat) + 1 = J (k + 1 : Nat) := by rw [show (1 : Int32) = J 1 from rfl, J_add]; congr 1
    rcases c_cellG (p := i) ha q2 h0 hmk.1 e1000 with ⟨j, rfl, hj, e⟩ | ⟨hp, e⟩
    · rw [if_neg (J_nlt0 (by omega) (by omega)), bndE, ek, if_neg (gNn (by omega) (by omega)), if_neg (gNn (by omega) (by omega)), J_natN (by omega), J_natN (by omega), e77 _ (by omega), e77 _ (by omega), es, bndE, if_pos (show J (j : Nat) < J (en (k + 1) - en k : Nat) by rw [J_ltN (by omega) (by omega)]; exact hj), e, Option.bind_some]
      dsimp only
      rw [mrg_self, bndE, if_neg (J_nm1' (a := en k + j) (by omega))]
      dsimp only
      rcases h6 with ⟨h6, h7⟩ | ⟨h6, h7, h8⟩
      · rw [if_pos h6, if_pos h7]
        refine RQ_no (k := 2) (by decide) ?_ rfl
        exact ref 2 (by decide)
      · obtain ⟨pa, fi, nx, ch, tr, P⟩ := h8
        rw [if_neg (show ¬ σ.1 86 = 0 by rw [h6]; decide), if_neg (show ¬ (T.1 0).1 8 = 0 by rw [h7]; decide), r_ref0, Option.bind_some]
        dsimp only
        rw [if_pos rfl, if_neg (show ¬ (J (k : Nat) < 0 ∨ 21 ≤ k) from fun h => h.elim (fun c => J_nlt0 (by omega) (by omega) c) (fun c => by omega)), show (mI σ 0 0).2 77 k = J (en k : Nat) from e77 k (by omega), J_add, bndE, show ((en k : Int) + (j : Int)) = ((en k + j : Nat) : Int) by omega, if_neg (gNn (by omega) (by omega)), J_natN (by omega)]
        refine RQ_yes (v := σ.2 92 (en k + j)) rfl ?_
        rw [e, Option.bind_some]
        dsimp only
        rw [mrg_self, bndE]
        dsimp only
        rw [q_g_at_in (by omega) (by omega) (by omega), Int.toNat_natCast, (P.2.2.2.2.2.1 (en k + j) (by omega)).1]
    · rw [e, Option.bind_some]
      dsimp only
      rw [mrg_self, bndE (T.1, T.2), if_pos rfl]
      refine RQ_no (k := 1) (by decide) ?_ rfl
      by_cases q : i < 0
      · rw [if_pos q]; exact refo 1 (by decide)
      · have q3 : ¬ i < J (en (k + 1) - en k : Nat) := by
          rcases hp with c | c
          · exact absurd c q
          · rcases i32_n i with d | ⟨j, rfl, hj⟩
            · exact absurd d q
            · rw [J_leN (by omega) hj] at c
              rw [J_ltN hj (by omega)]; omega
        rw [if_neg q, bndE, ek, if_neg (gNn (by omega) (by omega)), if_neg (gNn (by omega) (by omega)), J_natN (by omega), J_natN (by omega), e77 _ (by omega), e77 _ (by omega), es, bndE, if_neg q3]
        exact ref 1 (by decide)
/-- the story's counts are told alike -/
def CN7S (σ : MS) (Γ : HS) : Prop := ∀ q, q < 7 → (Γ 4).2.1 0 q = σ.1 (78 + q)
def QT (σ : MS) (Γ : HS) : Prop := QU σ Γ ∨ ((σ.1 44 = 1 ∧ (Γ 0).1 7 = 1) ∧ CN7S σ Γ ∧ ((σ.1 86 = 0 ∧ (Γ 0).1 8 = 0) ∨ (σ.1 86 = 1 ∧ (Γ 0).1 8 = 1 ∧ (Γ 9).1 8 = σ.1 93 ∧ (Γ 9).1 9 = σ.1 94 ∧ (Γ 9).1 10 = σ.1 95 ∧ (Γ 9).1 11 = σ.1 96 ∧ (Γ 0).1 18 = σ.1 101)))
def H_told (q : Int32) (T : TS) : HA := if q < 0 then some ((1, 0), T) else if 11 < q then some ((1, 0), T) else if (T.1 0).1 7 = 0 then some ((0, 0), T) else if q < 7 then some ((0, g_at 7 ((T.1 4).2.1 0) q), T) else if (T.1 0).1 8 = 0 then some ((0, 0), T) else if q = 7 then some ((0, (T.1 9).1 9), T) else if q = 8 then some ((0, (T.1 9).1 10), T) else if q = 9 then some ((0, (T.1 9).1 11), T) else if q = 10 then some ((0, (T.1 0).1 18), T) else some ((0, (T.1 9).1 8), T)
theorem is_p {c : Prop} [Decidable c] {a b : Int32} {τ : MS} : (if c then some (a, τ) else some (b, τ)) = some (if c then a else b, τ) := by split <;> rfl
def toldR (σ : MS) (p0 : Int32) : Int32 := if p0 = 0 then σ.1 78 else if p0 = 1 then σ.1 79 else if p0 = 2 then σ.1 80 else if p0 = 3 then σ.1 81 else if p0 = 4 then σ.1 82 else if p0 = 5 then σ.1 83 else if p0 = 6 then σ.1 84 else if p0 = 7 then σ.1 94 else if p0 = 8 then σ.1 95 else if p0 = 9 then σ.1 96 else if p0 = 10 then σ.1 101 else σ.1 93
theorem F_told_eq (p0 : Int32) (σ : MS) : F_X12_told p0 σ = if p0 < 0 then some (0, mI σ 0 1) else if p0 ≤ 11 then (if σ.1 44 = 0 then some (0, mI σ 0 0) else if p0 ≤ 6 then some (toldR σ p0, mI σ 0 0) else if σ.1 86 = 0 then some (0, mI σ 0 0) else some (toldR σ p0, mI σ 0 0)) else some (0, mI σ 0 1) := by
  have tl : ∀ τ : MS, (∀ k, k ≠ 0 → τ.1 k = σ.1 k) → (if p0 = 0 then some (τ.1 78, τ) else if p0 = 1 then some (τ.1 79, τ) else if p0 = 2 then some (τ.1 80, τ) else if p0 = 3 then some (τ.1 81, τ) else if p0 = 4 then some (τ.1 82, τ) else if p0 = 5 then some (τ.1 83, τ) else if p0 = 6 then some (τ.1 84, τ) else if p0 = 7 then some (τ.1 94, τ) else if p0 = 8 then some (τ.1 95, τ) else if p0 = 9 then some (τ.1 96, τ) else if p0 = 10 then some (τ.1 101, τ) else some (τ.1 93, τ)) = some (toldR σ p0, τ) := fun τ h => by
    unfold toldR
    rw [h 78 (by omega), h 79 (by omega), h 80 (by omega), h 81 (by omega), h 82 (by omega), h 83 (by omega), h 84 (by omega), h 94 (by omega), h 95 (by omega), h 96 (by omega), h 101 (by omega), h 93 (by omega)]
    simp only [is_p]
  unfold F_X12_told
  rw [bndE, bndE]
  dsimp only
  rw [r_ref1 (by decide), r_ref0, Option.bind_some, Option.bind_some]
  dsimp only
  rw [if_neg (show ¬ (1 : Int32) = 0 by decide), if_pos rfl, bndE]
  dsimp only
  rw [tl (mI σ 0 0) (fun k hk => by rw [mI_1, if_neg hk])]
  rfl
theorem W_told {σ : MS} {T : TS} (h : QT σ T.1) (x : Int32) : RQ σ T (F_X12_told x σ) (H_told x T) := by
  rw [F_told_eq]
  unfold H_told
  rcases i32_n x with hx | ⟨k, rfl, hk⟩
  · rw [if_pos hx, if_pos hx]
    exact RQ_no (k := 1) (by decide) rfl rfl
  rw [if_neg (J_nlt0 (by omega) (by omega)), if_neg (J_nlt0 (by omega) (by omega))]
  by_cases q : k ≤ 11
  rotate_left
  · rw [if_neg (show ¬ J (k : Nat) ≤ 11 by rw [show (11 : Int32) = J ((11 : Nat) : Int) from rfl, J_leN hk (by omega)]; exact q), if_pos (show 11 < J (k : Nat) by rw [show (11 : Int32) = J ((11 : Nat) : Int) from rfl, J_ltN (by omega) hk]; omega)]
    exact RQ_no (k := 1) (by decide) rfl rfl
  rw [if_pos (show J (k : Nat) ≤ 11 by rw [show (11 : Int32) = J ((11 : Nat) : Int) from rfl, J_leN hk (by omega)]; exact q), if_neg (show ¬ 11 < J (k : Nat) by rw [show (11 : Int32) = J ((11 : Nat) : Int) from rfl, J_ltN (by omega) hk]; omega)]
  rcases h with ⟨h1, h2⟩ | ⟨⟨h1, h2⟩, h3, h4⟩
  · rw [if_pos h1, if_pos h2]
    exact RQ_yes rfl rfl
  rw [if_neg (show ¬ σ.1 44 = 0 by rw [h1]; decide), if_neg (show ¬ (T.1 0).1 7 = 0 by rw [h2]; decide)]
  by_cases q6 : k < 7
  · have e : g_at 7 ((T.1 4).2.1 0) (J (k : Nat)) = toldR σ (J (k : Nat)) := by
      rw [q_g_at_in (by omega) (by omega) (by omega), Int.toNat_natCast, h3 k q6]
      rcases (by omega : k = 0 ∨ k = 1 ∨ k = 2 ∨ k = 3 ∨ k = 4 ∨ k = 5 ∨ k = 6) with rfl | rfl | rfl | rfl | rfl | rfl | rfl <;> rfl
    rw [if_pos (show J (k : Nat) ≤ 6 by rw [show (6 : Int32) = J ((6 : Nat) : Int) from rfl, J_leN hk (by omega)]; omega), if_pos (show J (k : Nat) < 7 by rw [show (7 : Int32) = J ((7 : Nat) : Int) from rfl, J_ltN hk (by omega)]; omega), e]
    exact RQ_yes rfl rfl
  rw [if_neg (show ¬ J (k : Nat) ≤ 6 by rw [show (6 : Int32) = J ((6 : Nat) : Int) from rfl, J_leN hk (by omega)]; omega), if_neg (show ¬ J (k : Nat) < 7 by rw [show (7 : Int32) = J ((7 : Nat) : Int) from rfl, J_ltN hk (by omega)]; omega)]
  rcases h4 with ⟨h4, h5⟩ | ⟨h4, h5, p1, p2, p3, p4, p5⟩
  · rw [if_pos h4, if_pos h5]
    exact RQ_yes rfl rfl
  rw [if_neg (show ¬ σ.1 86 = 0 by rw [h4]; decide), if_neg (show ¬ (T.1 0).1 8 = 0 by rw [h5]; decide), p1, p2, p3, p4, p5]
  rcases (by omega : k = 7 ∨ k = 8 ∨ k = 9 ∨ k = 10 ∨ k = 11) with rfl | rfl | rfl | rfl | rfl
  · exact RQ_yes (v := σ.1 94) rfl rfl
  · exact RQ_yes (v := σ.1 95) rfl rfl
  · exact RQ_yes (v := σ.1 96) rfl rfl
  · exact RQ_yes (v := σ.1 101) rfl rfl
  · exact RQ_yes (v := σ.1 93) rfl rfl
def H_size (T : TS) : HA := some ((0, (T.1 8).1 1), T)
theorem W_size {σ : MS} {T : TS} (h : OUT σ T.1) : RQ σ T (F_X12_size σ) (H_size T) := by
  obtain ⟨w, ⟨o1, _⟩, ⟨o2, _⟩⟩ := h
  unfold F_X12_size H_size
  rw [bndE, o2]
  refine RQ_yes (v := J (w.length : Nat)) ?_ rfl
  rw [show (mI σ 0 0).1 103 = _ from o1]
theorem and255s : ∀ w, w < 128 → J (w : Nat) &&& 255 = J (w : Nat) := by decide +kernel
def H_out (i : Int32) (T : TS) : HA := if i < 0 then some ((1, 0), T) else if (T.1 8).1 1 ≤ i then some ((1, 0), T) else if i < 0 ∨ 3000 ≤ i.toNatClampNeg then none else some ((0, (T.1 8).2.1 0 i.toNatClampNeg), T)
theorem W_outR {σ : MS} {T : TS} (h : OUT σ T.1) (x : Int32) : RQ σ T (F_X12_out x σ) (H_out x T) := by
  obtain ⟨w, ⟨o1, o3, o4⟩, ⟨o2, _, o5⟩⟩ := h
  have ref : ((F_X12_refuses 1 σ).bind fun u_6 => if u_6.1 = 0 then ( if x < 0 ∨ 3000 ≤ x.toNatClampNeg then none else some (((u_6.2.2 102 x.toNatClampNeg) &&& 255), u_6.2) ) else ( some (0, u_6.2) )) = some ((0 : Int32), mI σ 0 1) := by
    rw [r_ref1 (by decide), Option.bind_some]
    dsimp only
    rw [if_neg (by decide)]
  unfold F_X12_out H_out
  rw [bndE, bndE, o1, o2]
  rcases i32_n x with hx | ⟨k, rfl, hk⟩
  · rw [if_pos hx, if_pos hx]
    exact RQ_no (k := 1) (by decide) ref rfl
  rw [if_neg (J_nlt0 (by omega) (by omega)), if_neg (J_nlt0 (by omega) (by omega))]
  by_cases q : J (w.length : Nat) ≤ J (k : Nat)
  · rw [if_pos q, if_pos q]
    exact RQ_no (k := 1) (by decide) ref rfl
  · rw [if_neg q, if_neg q]
    dsimp only
    rw [r_ref0, Option.bind_some]
    dsimp only
    rw [J_leN (by omega) hk] at q
    have b := o4 k (by omega)
    have e : w.getD k 0 = ((w.getD k 0).toNat : Nat) := by omega
    rw [if_pos rfl, if_neg (gNn (by omega) (by omega)), if_neg (gNn (by omega) (by omega)), J_natN (by omega), show (mI σ 0 0).2 102 k = J (w.getD k 0) from b.1, (o5 k (by omega)).1, e, and255s _ (by omega)]
    exact RQ_yes rfl rfl
def H_place (T : TS) : HA := some ((0, (T.1 0).1 9), T)
theorem W_place {σ : MS} {T : TS} (h : (T.1 0).1 9 = σ.1 16) : RQ σ T (F_X12_place_ σ) (H_place T) := by
  unfold F_X12_place_ H_place
  rw [bndE, h]
  exact RQ_yes (v := σ.1 16) rfl rfl
