/-! the dictionary -/
theorem J_div2 {a : Nat} (h : a < 2147483648) : J (a : Int) / 2 = J ((a / 2 : Nat) : Int) := by
  apply Int32.toInt_inj.1
  rw [Int32.toInt_div, J_toInt (by omega) (by omega), J_toInt (by omega) (by omega), show (2 : Int32).toInt = 2 from rfl]
  rw [Int.tdiv_eq_ediv_of_nonneg (by omega)]
  rw [Int.bmod_eq_of_le (by omega) (by omega)]
  omega
theorem lgJ_le {a b : Int} (h1 : 0 ≤ a) (h2 : a < 9223372036854775808) (h3 : 0 ≤ b) (h4 : b < 9223372036854775808) : (0 ≤ lg_cmp (L64 a) (L64 b)) = (b ≤ a) := by
  have e1 : (L64 a < L64 b) = (a < b) := by rw [Int64.lt_iff_toInt_lt, L_toInt (by omega) h2, L_toInt (by omega) h4]
  have e2 : (L64 a = L64 b) = (a = b) := by rw [← Int64.toInt_inj, L_toInt (by omega) h2, L_toInt (by omega) h4]
  have e3 : (L64 a > L64 b) = (b < a) := by show (L64 b < L64 a) = _; rw [Int64.lt_iff_toInt_lt, L_toInt (by omega) h2, L_toInt (by omega) h4]
  unfold lg_cmp
  by_cases q : b < a
  · rw [if_pos (by rw [e3]; exact q)]
    have : b ≤ a := by omega
    simp only [this]; decide
  · rw [if_neg (by rw [e3]; exact q)]
    by_cases q2 : a = b
    · have : b ≤ a := by omega
      rw [if_pos (by rw [e2]; exact q2)]; simp only [this]; decide
    · have : ¬ b ≤ a := by omega
      rw [if_neg (by rw [e2]; exact q2)]; simp only [this]; decide
/-- the words of the dictionary by their numbers, and where they stand -/
def DOp (Γ : HS) (W : List Int) (p : Nat → Nat) : Prop := (Γ 7).1 2 = J (W.length : Nat) ∧ W.length < 2000 ∧ (∀ m, m < W.length → 0 ≤ W.getD m 0 ∧ W.getD m 0 < 9223372036854775808) ∧ (∀ i, i < W.length → p i < W.length ∧ (Γ 7).2.1 1 i = J (p i : Nat) ∧ (Γ 7).2.2 0 i = L64 (W.getD (p i) 0)) ∧ (∀ i j, i < j → j < W.length → W.getD (p i) 0 < W.getD (p j) 0) ∧ (∀ m, m < W.length → ∃ i, i < W.length ∧ p i = m)
def DOK (Γ : HS) (W : List Int) : Prop := ∃ p, DOp Γ W p
theorem d_place {Γ : HS} {W : List Int} {p : Nat → Nat} {t : Int} (h : DOp Γ W p) (h0 : 0 ≤ t) (h1 : t < 9223372036854775808) : ∃ q : Nat, F_X1_placeOf (L64 t) Γ = some (J (q : Nat), Γ) ∧ q ≤ W.length ∧ (∀ i, i < q → W.getD (p i) 0 < t) ∧ (∀ i, q ≤ i → i < W.length → t ≤ W.getD (p i) 0) := by
  obtain ⟨a1, a2, a3, a4, a5, a6⟩ := h
  have key : Ok (F_X1_placeOf (L64 t) Γ) (fun u => ∃ q : Nat, u = (J (q : Nat), Γ) ∧ q ≤ W.length ∧ (∀ i, i < q → W.getD (p i) 0 < t) ∧ (∀ i, q ≤ i → i < W.length → t ≤ W.getD (p i) 0)) := by
    unfold F_X1_placeOf
    refine Ok_bnd ?_
    rw [a1]
    refine Ok_loop (P := fun s k => ∃ lo hi n : Nat, s = (J (lo : Nat), J (hi : Nat), J (n : Nat), Γ) ∧ lo ≤ hi ∧ hi ≤ W.length ∧ n + (hi - lo) ≤ W.length ∧ (∀ i, i < lo → W.getD (p i) 0 < t) ∧ (∀ i, hi ≤ i → i < W.length → t ≤ W.getD (p i) 0) ∧ k = hi - lo) ?_ FU _ W.length (FU_gt (by omega)) ⟨0, W.length, 0, rfl, by omega, Nat.le_refl _, by omega, fun i hi => by omega, fun i h1 h2 => by omega, by omega⟩
    rintro again s k ⟨lo, hi, n, rfl, b1, b2, b3, b4, b5, rfl⟩ ih
    dsimp only
    refine Ok_neg (by rw [show (2000 : Int32) = J 2000 from rfl, J_le (by omega) (by omega) (by omega) (by omega)]; omega) ?_
    refine Ok_ite (fun q => Ok_some ?_) (fun q => ?_)
    · rw [J_le (by omega) (by omega) (by omega) (by omega)] at q
      exact ⟨lo, rfl, by omega, b4, fun i c1 c2 => b5 i (by omega) c2⟩
    · rw [J_le (by omega) (by omega) (by omega) (by omega)] at q
      rw [J_add, show ((lo : Int) + (hi : Int)) = ((lo + hi : Nat) : Int) by omega, J_div2 (by omega)]
      refine Ok_bnd ?_
      have hm : (lo + hi) / 2 < W.length := by omega
      have hm1 : lo ≤ (lo + hi) / 2 := by omega
      have hm2 : (lo + hi) / 2 < hi := by omega
      generalize (lo + hi) / 2 = m at hm hm1 hm2
      simp only [bndE]
      rw [if_neg (J_nlt0 (by omega) (by omega)), if_neg (show ¬ (2000 : Int32) ≤ J (m : Nat) by rw [show (2000 : Int32) = J 2000 from rfl, J_le (by omega) (by omega) (by omega) (by omega)]; omega)]
      rw [if_neg (show ¬ (J (m : Nat) < 0 ∨ 2000 ≤ (J (m : Nat)).toNatClampNeg) by rintro (c | c); exact J_nlt0 (by omega) (by omega) c; rw [J_natN (by omega)] at c; omega), J_natN (by omega)]
      obtain ⟨c1, c2, c3⟩ := a4 m hm
      have c4 := a3 (p m) c1
      rw [c3]
      have e1 : J (n : Nat) + 1 = J (n + 1 : Nat) := by rw [J_lit, J_add]; rfl
      refine Ok_ite (fun g => ?_) (fun g => ?_)
      · rw [lgJ_le c4.1 c4.2 h0 h1] at g
        refine ih _ (m - lo) (by omega) ⟨lo, m, n + 1, by rw [e1], by omega, by omega, by omega, b4, fun i d1 d2 => ?_, rfl⟩
        rcases Nat.lt_or_ge m i with r | r
        · have := a5 m i r d2; omega
        · rw [show i = m by omega]; exact g
      · rw [lgJ_le c4.1 c4.2 h0 h1] at g
        refine ih _ (hi - (m + 1)) (by omega) ⟨m + 1, hi, n + 1, by rw [e1, show J (m : Nat) + 1 = J (m + 1 : Nat) by rw [J_lit, J_add]; rfl], by omega, by omega, by omega, fun i d1 => ?_, b5, rfl⟩
        rcases Nat.lt_or_ge i m with r | r
        · have := a5 i m r hm; omega
        · rw [show i = m by omega]; omega
  obtain ⟨u, hu, q, rfl, r⟩ := key
  exact ⟨q, hu, r⟩
theorem d_termAt {Γ : HS} {W : List Int} {p : Nat → Nat} {i : Nat} (h : DOp Γ W p) (hi : i < W.length) : F_X1_termAt (J (i : Nat)) Γ = some (L64 (W.getD (p i) 0), Γ) := by
  obtain ⟨a1, a2, a3, a4, a5, a6⟩ := h
  unfold F_X1_termAt
  simp only [bndE]
  rw [if_neg (J_nlt0 (by omega) (by omega)), a1, if_neg (show ¬ J (W.length : Nat) ≤ J (i : Nat) by rw [J_le (by omega) (by omega) (by omega) (by omega)]; omega), if_neg (show ¬ (2000 : Int32) ≤ J (i : Nat) by rw [show (2000 : Int32) = J 2000 from rfl, J_le (by omega) (by omega) (by omega) (by omega)]; omega), if_neg (show ¬ (J (i : Nat) < 0 ∨ 2000 ≤ (J (i : Nat)).toNatClampNeg) by rintro (c | c); exact J_nlt0 (by omega) (by omega) c; rw [J_natN (by omega)] at c; omega), J_natN (by omega), (a4 i hi).2.2]
/-- a word's number, or -1 -/
theorem d_find {Γ : HS} {W : List Int} {t : Int} (h : DOK Γ W) (h0 : 0 ≤ t) (h1 : t < 9223372036854775808) : (∃ m : Nat, m < W.length ∧ W.getD m 0 = t ∧ F_X1_find (L64 t) Γ = some (J (m : Nat), Γ)) ∨ ((∀ m, m < W.length → W.getD m 0 ≠ t) ∧ F_X1_find (L64 t) Γ = some (J (-1), Γ)) := by
  obtain ⟨p, h⟩ := h
  obtain ⟨q, e1, e2, e3, e4⟩ := d_place h h0 h1
  obtain ⟨a1, a2, a3, a4, a5, a6⟩ := id h
  unfold F_X1_find
  rw [e1, Option.bind_some]
  dsimp only
  have no : (∀ i, q ≤ i → i < W.length → t ≠ W.getD (p i) 0) → ∀ m, m < W.length → W.getD m 0 ≠ t := by
    intro hq m hm e
    obtain ⟨i, i1, rfl⟩ := a6 m hm
    rcases Nat.lt_or_ge i q with r | r
    · have := e3 i r; omega
    · exact hq i r i1 e.symm
  rw [a1]
  rcases Nat.lt_or_ge q W.length with r | r
  · rw [if_neg (show ¬ J (W.length : Nat) ≤ J (q : Nat) by rw [J_le (by omega) (by omega) (by omega) (by omega)]; omega), d_termAt h r, Option.bind_some, bndE]
    obtain ⟨c1, c2, c3⟩ := a4 q r
    have c4 := a3 _ c1
    by_cases z : W.getD (p q) 0 = t
    · rw [if_pos (lg_cmp0.mpr (by rw [z])), bndE]
      left
      refine ⟨p q, c1, z, ?_⟩
      dsimp only
      rw [q_g_at_in (n := 2000) (i := (q : Nat)) (by omega) (by omega) (by omega), Int.toNat_natCast, c2]
    · rw [if_neg (fun c => z ((L_inj c4.1 c4.2 h0 h1).mp (lg_cmp0.mp c)))]
      right
      refine ⟨no fun i i1 i2 e => ?_, rfl⟩
      rcases Nat.lt_or_ge q i with s | s
      · have := a5 q i s i2
        have := e4 q (Nat.le_refl _) r
        omega
      · rw [show i = q by omega] at e; exact z e.symm
  · rw [if_pos (show J (W.length : Nat) ≤ J (q : Nat) by rw [J_le (by omega) (by omega) (by omega) (by omega)]; omega)]
    right
    exact ⟨no fun i i1 i2 => by omega, rfl⟩
/-- the list of words with one more, if it is not there -/
def lrnW (W : List Int) (t : Int) (V : List Int) (m : Nat) : Prop := m < V.length ∧ V.getD m 0 = t ∧ ((V = W ∧ m < W.length) ∨ ((∀ m, m < W.length → W.getD m 0 ≠ t) ∧ V = W ++ [t] ∧ m = W.length))
theorem getD_app {W : List Int} {t : Int} {m : Nat} (h : m < W.length) : (W ++ [t]).getD m 0 = W.getD m 0 := by
  rw [List.getD_eq_getElem?_getD, List.getD_eq_getElem?_getD, List.getElem?_append_left h]
theorem getD_end {W : List Int} {t : Int} : (W ++ [t]).getD W.length 0 = t := by
  rw [List.getD_eq_getElem?_getD, List.getElem?_append_right (Nat.le_refl _)]; simp
/-- a new word put where it stands -/
def dlS (Γ : HS) (q n : Nat) (t : Int) : HS := cI' (cA' (cL' (cA' (cL' Γ 7 0 (va_cpy ((Γ 7).2.2 0) ((Γ 7).2.2 0) q (q + 1) (n - q))) 7 1 (va_cpy ((Γ 7).2.1 1) ((Γ 7).2.1 1) q (q + 1) (n - q))) 7 0 (vp_updL (va_cpy ((Γ 7).2.2 0) ((Γ 7).2.2 0) q (q + 1) (n - q)) q (L64 t))) 7 1 (upd (va_cpy ((Γ 7).2.1 1) ((Γ 7).2.1 1) q (q + 1) (n - q)) q ((Γ 7).1 2))) 7 2 ((Γ 7).1 2 + 1)
theorem d_learn {Γ : HS} {W : List Int} {t : Int} (h : DOK Γ W) (h0 : 0 ≤ t) (h1 : t < 9223372036854775808) (hW : W.length < 1999) : ∃ (V : List Int) (m : Nat) (Δ : HS), F_X1_learn (L64 t) Γ = some (J (m : Nat), Δ) ∧ (∀ r, r ≠ 7 → Δ r = Γ r) ∧ DOK Δ V ∧ lrnW W t V m := by
  obtain ⟨p, h⟩ := h
  obtain ⟨q, e1, e2, e3, e4⟩ := d_place h h0 h1
  obtain ⟨a1, a2, a3, a4, a5, a6⟩ := id h
  have qn : q < 2147483648 := by omega
  have new : (∀ m, m < W.length → W.getD m 0 ≠ t) → ∃ (V : List Int) (m : Nat) (Δ : HS), (if (J (q : Nat)) < 0 then some ((-1), Γ) else if J (W.length : Nat) < J (q : Nat) then some ((-1), Γ) else if (J (W.length : Nat) + 1) < 2000 then (if J (q : Nat) < 0 ∨ (J (q : Nat) + 1) < 0 ∨ (J (W.length : Nat) - J (q : Nat)) < 0 ∨ 2000 < (J (q : Nat)).toNatClampNeg + (J (W.length : Nat) - J (q : Nat)).toNatClampNeg ∨ 2000 < (J (q : Nat) + 1).toNatClampNeg + (J (W.length : Nat) - J (q : Nat)).toNatClampNeg then none else bnd (cL' Γ 7 0 (va_cpy ((Γ 7).2.2 0) ((Γ 7).2.2 0) (J (q : Nat)).toNatClampNeg (J (q : Nat) + 1).toNatClampNeg (J (W.length : Nat) - J (q : Nat)).toNatClampNeg)) fun σ_19 => bnd ((((σ_19 7).1 2) - J (q : Nat))) fun (x_21 : Int32) => if J (q : Nat) < 0 ∨ (J (q : Nat) + 1) < 0 ∨ x_21 < 0 ∨ 2000 < (J (q : Nat)).toNatClampNeg + x_21.toNatClampNeg ∨ 2000 < (J (q : Nat) + 1).toNatClampNeg + x_21.toNatClampNeg then none else bnd (cA' σ_19 7 1 (va_cpy ((σ_19 7).2.1 1) ((σ_19 7).2.1 1) (J (q : Nat)).toNatClampNeg (J (q : Nat) + 1).toNatClampNeg x_21.toNatClampNeg)) fun σ_25 => if J (q : Nat) < 0 ∨ 2000 ≤ (J (q : Nat)).toNatClampNeg then none else bnd (cL' σ_25 7 0 (vp_updL ((σ_25 7).2.2 0) (J (q : Nat)).toNatClampNeg (L64 t))) fun σ_29 => if J (q : Nat) < 0 ∨ 2000 ≤ (J (q : Nat)).toNatClampNeg then none else bnd (cA' σ_29 7 1 (upd ((σ_29 7).2.1 1) (J (q : Nat)).toNatClampNeg ((σ_29 7).1 2))) fun σ_33 => bnd (cI' σ_33 7 2 (((σ_33 7).1 2) + 1)) fun σ_35 => some ((((σ_35 7).1 2) - 1), σ_35)) else some ((-1), Γ)) = some (J (m : Nat), Δ) ∧ (∀ r, r ≠ 7 → Δ r = Γ r) ∧ DOK Δ V ∧ lrnW W t V m := by
    intro hno
    have j1 : J (q : Nat) + 1 = J (q + 1 : Nat) := by rw [J_lit, J_add]; rfl
    have j2 : J (W.length : Nat) - J (q : Nat) = J (W.length - q : Nat) := by rw [J_sub]; congr 1; omega
    have j3 : J (W.length : Nat) + 1 = J (W.length + 1 : Nat) := by rw [J_lit, J_add]; rfl
    have j4 : (J (W.length + 1 : Nat) : Int32) - 1 = J (W.length : Nat) := by rw [J_lit, J_sub]; congr 1; omega
    rw [j1, j2, j3, if_neg (J_nlt0 (by omega) (by omega)), if_neg (show ¬ J (W.length : Nat) < J (q : Nat) by rw [J_lt (by omega) (by omega) (by omega) (by omega)]; omega), if_pos (show J (W.length + 1 : Nat) < 2000 by rw [show (2000 : Int32) = J 2000 from rfl, J_lt (by omega) (by omega) (by omega) (by omega)]; omega)]
    have g1 : ¬ (J (q : Nat) < 0 ∨ J (q + 1 : Nat) < 0 ∨ J (W.length - q : Nat) < 0 ∨ 2000 < (J (q : Nat)).toNatClampNeg + (J (W.length - q : Nat)).toNatClampNeg ∨ 2000 < (J (q + 1 : Nat)).toNatClampNeg + (J (W.length - q : Nat)).toNatClampNeg) := by
      rintro (c | c | c | c | c)
      · exact J_nlt0 (by omega) (by omega) c
      · exact J_nlt0 (by omega) (by omega) c
      · exact J_nlt0 (by omega) (by omega) c
      · rw [J_natN (by omega), J_natN (by omega)] at c; omega
      · rw [J_natN (by omega), J_natN (by omega)] at c; omega
    have g2 : ¬ (J (q : Nat) < 0 ∨ 2000 ≤ (J (q : Nat)).toNatClampNeg) := by
      rintro (c | c)
      · exact J_nlt0 (by omega) (by omega) c
      · rw [J_natN (by omega)] at c; omega
    rw [if_neg g1]
    simp only [bndE]
    rw [show ((cL' Γ 7 0 (va_cpy ((Γ 7).2.2 0) ((Γ 7).2.2 0) (J (q : Nat)).toNatClampNeg (J (q + 1 : Nat)).toNatClampNeg (J (W.length - q : Nat)).toNatClampNeg)) 7).1 2 = J (W.length : Nat) from a1, j2, if_neg g1, if_neg g2, if_neg g2, J_natN (by omega), J_natN (by omega), J_natN (by omega)]
    refine ⟨W ++ [t], W.length, dlS Γ q W.length t, ?_, ?_, ⟨fun i => if i < q then p i else if i = q then W.length else p (i - 1), ?_⟩, by rw [List.length_append, List.length_singleton]; omega, getD_end, Or.inr ⟨hno, rfl, rfl⟩⟩
    · show some ((((Γ 7).1 2 + 1) - 1 : Int32), dlS Γ q W.length t) = _
      rw [a1, j3, j4]
    · intro r hr
      unfold dlS
      simp only [cI_r, cA_r, cL_r, if_neg hr]
    · have hl : (W ++ [t]).length = W.length + 1 := by rw [List.length_append, List.length_singleton]
      refine ⟨?_, by rw [hl]; omega, fun m hm => ?_, fun i hi => ?_, fun i j hij hj => ?_, fun m hm => ?_⟩
      · show (Γ 7).1 2 + 1 = _
        rw [a1, j3, hl]
      · rw [hl] at hm
        rcases Nat.lt_or_ge m W.length with r | r
        · rw [getD_app r]; exact a3 m r
        · rw [show m = W.length by omega, getD_end]; exact ⟨h0, h1⟩
      · rw [hl] at hi
        have nm : ((dlS Γ q W.length t) 7).2.1 1 i = (if i < q then (Γ 7).2.1 1 i else if i = q then J (W.length : Nat) else (Γ 7).2.1 1 (i - 1)) := by
          show (upd (va_cpy ((Γ 7).2.1 1) ((Γ 7).2.1 1) q (q + 1) (W.length - q)) q ((Γ 7).1 2)) i = _
          rw [upd_s, a1]
          unfold va_cpy
          rcases Nat.lt_trichotomy i q with r | r | r
          · rw [if_neg (show ¬ i = q by omega), if_neg (show ¬ (q + 1 ≤ i ∧ _) by omega), if_pos r]
          · rw [if_pos r, if_neg (show ¬ i < q by omega), if_pos r]
          · rw [if_neg (show ¬ i = q by omega), if_pos (show (q + 1 ≤ i ∧ i < q + 1 + (W.length - q)) by omega), if_neg (show ¬ i < q by omega), if_neg (show ¬ i = q by omega), show q + (i - (q + 1)) = i - 1 by omega]
        have nl : ((dlS Γ q W.length t) 7).2.2 0 i = (if i < q then (Γ 7).2.2 0 i else if i = q then L64 t else (Γ 7).2.2 0 (i - 1)) := by
          show (vp_updL (va_cpy ((Γ 7).2.2 0) ((Γ 7).2.2 0) q (q + 1) (W.length - q)) q (L64 t)) i = _
          unfold vp_updL va_cpy
          rcases Nat.lt_trichotomy i q with r | r | r
          · rw [if_neg (show ¬ i = q by omega), if_neg (show ¬ (q + 1 ≤ i ∧ _) by omega), if_pos r]
          · rw [if_pos r, if_neg (show ¬ i < q by omega), if_pos r]
          · rw [if_neg (show ¬ i = q by omega), if_pos (show (q + 1 ≤ i ∧ i < q + 1 + (W.length - q)) by omega), if_neg (show ¬ i < q by omega), if_neg (show ¬ i = q by omega), show q + (i - (q + 1)) = i - 1 by omega]
        dsimp only
        rcases Nat.lt_trichotomy i q with r | r | r
        · rw [if_pos r]
          obtain ⟨c1, c2, c3⟩ := a4 i (by omega)
          refine ⟨by omega, ?_, ?_⟩
          · refine nm.trans ?_; rw [if_pos r, c2]
          · refine nl.trans ?_; rw [if_pos r, c3, getD_app c1]
        · rw [if_neg (show ¬ i < q by omega), if_pos r]
          refine ⟨by omega, ?_, ?_⟩
          · refine nm.trans ?_; rw [if_neg (show ¬ i < q by omega), if_pos r]
          · refine nl.trans ?_; rw [if_neg (show ¬ i < q by omega), if_pos r, getD_end]
        · rw [if_neg (show ¬ i < q by omega), if_neg (show ¬ i = q by omega)]
          obtain ⟨c1, c2, c3⟩ := a4 (i - 1) (by omega)
          refine ⟨by omega, ?_, ?_⟩
          · refine nm.trans ?_; rw [if_neg (show ¬ i < q by omega), if_neg (show ¬ i = q by omega), c2]
          · refine nl.trans ?_; rw [if_neg (show ¬ i < q by omega), if_neg (show ¬ i = q by omega), c3, getD_app c1]
      · rw [hl] at hj
        have lo : ∀ i, i < q → (W ++ [t]).getD (p i) 0 = W.getD (p i) 0 ∧ W.getD (p i) 0 < t := fun i hi => ⟨getD_app (a4 i (by omega)).1, e3 i hi⟩
        have up : ∀ i, q ≤ i → i < W.length → (W ++ [t]).getD (p i) 0 = W.getD (p i) 0 ∧ t < W.getD (p i) 0 := fun i hi h2 => ⟨getD_app (a4 i h2).1, by
          have x1 := e4 i hi h2
          have x2 := hno (p i) (a4 i h2).1
          omega⟩
        dsimp only
        rcases Nat.lt_trichotomy i q with r | r | r
        · rw [if_pos r, (lo i r).1]
          rcases Nat.lt_trichotomy j q with s | s | s
          · rw [if_pos s, (lo j s).1]; exact a5 i j hij (by omega)
          · rw [if_neg (show ¬ j < q by omega), if_pos s, getD_end]; exact (lo i r).2
          · rw [if_neg (show ¬ j < q by omega), if_neg (show ¬ j = q by omega), (up (j - 1) (by omega) (by omega)).1]
            exact a5 i (j - 1) (by omega) (by omega)
        · rw [if_neg (show ¬ i < q by omega), if_pos r, getD_end, if_neg (show ¬ j < q by omega), if_neg (show ¬ j = q by omega), (up (j - 1) (by omega) (by omega)).1]
          exact (up (j - 1) (by omega) (by omega)).2
        · rw [if_neg (show ¬ i < q by omega), if_neg (show ¬ i = q by omega), (up (i - 1) (by omega) (by omega)).1, if_neg (show ¬ j < q by omega), if_neg (show ¬ j = q by omega), (up (j - 1) (by omega) (by omega)).1]
          exact a5 (i - 1) (j - 1) (by omega) (by omega)
      · rw [hl] at hm
        rcases Nat.lt_or_ge m W.length with r | r
        · obtain ⟨i, i1, i2⟩ := a6 m r
          rcases Nat.lt_or_ge i q with s | s
          · exact ⟨i, by rw [hl]; omega, by dsimp only; rw [if_pos s]; exact i2⟩
          · exact ⟨i + 1, by rw [hl]; omega, by dsimp only; rw [if_neg (show ¬ i + 1 < q by omega), if_neg (show ¬ i + 1 = q by omega)]; exact i2⟩
        · exact ⟨q, by rw [hl]; omega, by dsimp only; rw [if_neg (show ¬ q < q by omega), if_pos rfl]; omega⟩
  have no : (∀ i, q ≤ i → i < W.length → t ≠ W.getD (p i) 0) → ∀ m, m < W.length → W.getD m 0 ≠ t := by
    intro hq m hm e
    obtain ⟨i, i1, rfl⟩ := a6 m hm
    rcases Nat.lt_or_ge i q with r | r
    · have := e3 i r; omega
    · exact hq i r i1 e.symm
  unfold F_X1_learn
  rw [e1, Option.bind_some]
  dsimp only
  rw [bndE, a1]
  rcases Nat.lt_or_ge q W.length with r | r
  · rw [if_neg (show ¬ J (W.length : Nat) ≤ J (q : Nat) by rw [J_le (by omega) (by omega) (by omega) (by omega)]; omega), d_termAt h r, Option.bind_some]
    obtain ⟨c1, c2, c3⟩ := a4 q r
    have c4 := a3 _ c1
    simp only [bndE]
    by_cases z : W.getD (p q) 0 = t
    · rw [if_pos (lg_cmp0.mpr (by rw [z]))]
      refine ⟨W, p q, Γ, ?_, fun _ _ => rfl, ⟨p, h⟩, c1, z, Or.inl ⟨rfl, c1⟩⟩
      rw [q_g_at_in (n := 2000) (i := (q : Nat)) (by omega) (by omega) (by omega), Int.toNat_natCast, c2]
    · rw [if_neg (fun c => z ((L_inj c4.1 c4.2 h0 h1).mp (lg_cmp0.mp c)))]
      have := new (no fun i i1 i2 e => by
        rcases Nat.lt_or_ge q i with s | s
        · have := a5 q i s i2
          have := e4 q (Nat.le_refl _) r
          omega
        · rw [show i = q by omega] at e; exact z e.symm)
      simp only [bndE] at this
      rw [a1]
      exact this
  · rw [if_pos (show J (W.length : Nat) ≤ J (q : Nat) by rw [J_le (by omega) (by omega) (by omega) (by omega)]; omega)]
    have := new (no fun i i1 i2 => by omega)
    simp only [bndE] at this ⊢
    rw [a1]
    exact this
theorem d_learnA {Γ : HS} {W : List Int} {t : Int} (h : DOK Γ W) (h0 : 0 ≤ t) (h1 : t < 9223372036854775808) : ∃ (V : List Int) (m : Int32) (Δ : HS), F_X1_learn (L64 t) Γ = some (m, Δ) ∧ (∀ r, r ≠ 7 → Δ r = Γ r) ∧ DOK Δ V ∧ (W.length < 1999 → ∃ k : Nat, m = J (k : Nat) ∧ lrnW W t V k) := by
  by_cases hW : W.length < 1999
  · obtain ⟨V, m, Δ, a, b, c, d⟩ := d_learn h h0 h1 hW
    exact ⟨V, J (m : Nat), Δ, a, b, c, fun _ => ⟨m, rfl, d⟩⟩
  · obtain ⟨p, h⟩ := h
    obtain ⟨q, e1, e2, e3, e4⟩ := d_place h h0 h1
    obtain ⟨a1, a2, a3, a4, a5, a6⟩ := id h
    have full : (if J (q : Nat) < 0 then some ((-1 : Int32), Γ) else if J (W.length : Nat) < J (q : Nat) then some ((-1), Γ) else if (J (W.length : Nat) + 1) < 2000 then none else some ((-1), Γ)) = some ((-1 : Int32), Γ) := by
      rw [if_neg (J_nlt0 (by omega) (by omega)), if_neg (show ¬ J (W.length : Nat) < J (q : Nat) by rw [J_lt (by omega) (by omega) (by omega) (by omega)]; omega), if_neg (show ¬ J (W.length : Nat) + 1 < 2000 by rw [J_lit, J_lit, J_add, J_lt (by omega) (by omega) (by omega) (by omega)]; omega)]
    have full2 : ∀ A : HR, (if J (q : Nat) < 0 then some ((-1 : Int32), Γ) else if J (W.length : Nat) < J (q : Nat) then some ((-1), Γ) else if (J (W.length : Nat) + 1) < 2000 then A else some ((-1), Γ)) = some ((-1 : Int32), Γ) := by
      intro A
      rw [if_neg (J_nlt0 (by omega) (by omega)), if_neg (show ¬ J (W.length : Nat) < J (q : Nat) by rw [J_lt (by omega) (by omega) (by omega) (by omega)]; omega), if_neg (show ¬ J (W.length : Nat) + 1 < 2000 by rw [J_lit, J_lit, J_add, J_lt (by omega) (by omega) (by omega) (by omega)]; omega)]
    unfold F_X1_learn
    rw [e1, Option.bind_some]
    dsimp only
    rw [bndE, a1]
    rcases Nat.lt_or_ge q W.length with r | r
    · rw [if_neg (show ¬ J (W.length : Nat) ≤ J (q : Nat) by rw [J_le (by omega) (by omega) (by omega) (by omega)]; omega), d_termAt h r, Option.bind_some]
      obtain ⟨c1, c2, c3⟩ := a4 q r
      have c4 := a3 _ c1
      rw [bndE]
      by_cases z : W.getD (p q) 0 = t
      · rw [if_pos (lg_cmp0.mpr (by rw [z])), bndE]
        exact ⟨W, _, Γ, rfl, fun _ _ => rfl, ⟨p, h⟩, fun hw => absurd hw hW⟩
      · rw [if_neg (fun c => z ((L_inj c4.1 c4.2 h0 h1).mp (lg_cmp0.mp c)))]
        dsimp only
        rw [a1, full2]
        exact ⟨W, _, Γ, rfl, fun _ _ => rfl, ⟨p, h⟩, fun hw => absurd hw hW⟩
    · rw [if_pos (show J (W.length : Nat) ≤ J (q : Nat) by rw [J_le (by omega) (by omega) (by omega) (by omega)]; omega)]
      dsimp only
      rw [a1, full2]
      exact ⟨W, _, Γ, rfl, fun _ _ => rfl, ⟨p, h⟩, fun hw => absurd hw hW⟩
