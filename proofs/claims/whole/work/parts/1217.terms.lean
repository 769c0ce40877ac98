/-! the terms of a line -/
/-- where the terms are: from, behind -/
def tmg (L : Nat → Int) : Nat → Nat → Nat → List (Nat × Nat)
  | 0, k, f => if f < k then [(f, k)] else []
  | d + 1, k, f => if isLt (L k) = true then tmg L d (k + 1) f else (if f < k then [(f, k)] else []) ++ tmg L d (k + 1) (k + 1)
theorem tmg_run {L : Nat → Int} : ∀ j d k f, (∀ x, k ≤ x → x < k + j → isLt (L x) = true) → tmg L (j + d) k f = tmg L d (k + j) f := by
  intro j
  induction j with
  | zero => intro d k f _; rw [Nat.zero_add, Nat.add_zero]
  | succ j ih =>
    intro d k f h
    rw [show j + 1 + d = (j + d) + 1 by omega]
    show (if isLt (L k) = true then tmg L (j + d) (k + 1) f else (if f < k then [(f, k)] else []) ++ tmg L (j + d) (k + 1) (k + 1)) = _
    rw [if_pos (h k (Nat.le_refl _) (by omega)), ih d (k + 1) f (fun x h1 h2 => h x (by omega) (by omega)), show k + 1 + j = k + (j + 1) by omega]
theorem tmg_end {L : Nat → Int} {d e k : Nat} (hk : k < e) (h : d = 0 ∨ isLt (L e) = false) : tmg L d e k = (k, e) :: tmg L d e e := by
  cases d with
  | zero => unfold tmg; rw [if_pos hk, if_neg (by omega)]
  | succ d =>
    have hl : ¬ isLt (L e) = true := by
      rcases h with h | h
      · omega
      · rw [h]; decide
    unfold tmg
    rw [if_neg hl, if_neg hl, if_pos hk, if_neg (by omega)]; rfl
/-- terms lie in the line, of letters alone -/
def TMK (L : Nat → Int) (n : Nat) (p : Nat × Nat) : Prop := p.1 < p.2 ∧ p.2 ≤ n ∧ ∀ x, p.1 ≤ x → x < p.2 → isLt (L x) = true
theorem tmg_ok {L : Nat → Int} {n : Nat} : ∀ d k f, k + d = n → f ≤ k → (∀ x, f ≤ x → x < k → isLt (L x) = true) → ∀ p, p ∈ tmg L d k f → TMK L n p := by
  intro d
  induction d with
  | zero =>
    intro k f hk hf h p hp
    unfold tmg at hp
    by_cases q : f < k
    · rw [if_pos q, List.mem_singleton] at hp
      subst hp; exact ⟨q, by omega, h⟩
    · rw [if_neg q] at hp; cases hp
  | succ d ih =>
    intro k f hk hf h p hp
    unfold tmg at hp
    by_cases q : isLt (L k) = true
    · rw [if_pos q] at hp
      refine ih (k + 1) f (by omega) (by omega) (fun x x1 x2 => ?_) p hp
      by_cases e : x = k
      · rw [e]; exact q
      · exact h x x1 (by omega)
    · rw [if_neg q] at hp
      rcases List.mem_append.mp hp with hp | hp
      · by_cases q : f < k
        · rw [if_pos q, List.mem_singleton] at hp
          subst hp; exact ⟨q, by omega, h⟩
        · rw [if_neg q] at hp; cases hp
      · exact ih (k + 1) (k + 1) (by omega) (Nat.le_refl _) (fun x x1 x2 => by omega) p hp
theorem tk12 {P Q : List (Nat × Nat)} (h : P.length = 12) : (P ++ Q).take 12 = P := by
  rw [← h]; exact List.take_left
theorem getD_ap1 {P : List (Nat × Nat)} {p : Nat × Nat} {i : Nat} (h : i < P.length) : (P ++ [p]).getD i (0, 0) = P.getD i (0, 0) := by
  rw [List.getD_eq_getElem?_getD, List.getElem?_append_left h, ← List.getD_eq_getElem?_getD]
theorem getD_ap2 {P : List (Nat × Nat)} {p : Nat × Nat} : (P ++ [p]).getD P.length (0, 0) = p := by
  rw [List.getD_eq_getElem?_getD, List.getElem?_append_right (Nat.le_refl _), Nat.sub_self]; rfl
/-- nine letters of a term count -/
def tmn (p : Nat × Nat) : Nat := if p.2 - p.1 < 9 then p.2 - p.1 else 9
def twd (L : Nat → Int) (p : Nat × Nat) : List Int := (List.range (tmn p)).map (fun k => L (p.1 + k))
theorem twd_len (L : Nat → Int) (p : Nat × Nat) : (twd L p).length = tmn p := by unfold twd; rw [List.length_map, List.length_range]
theorem twd_get (L : Nat → Int) (p : Nat × Nat) {k : Nat} (h : k < tmn p) : (twd L p).getD k 0 = L (p.1 + k) := by
  unfold twd
  rw [List.getD_eq_getElem?_getD, List.getElem?_map, List.getElem?_range h]; rfl
/-- a term as a word: one to nine letters -/
def TW (w : List Int) : Prop := 1 ≤ w.length ∧ w.length ≤ 9 ∧ ∀ k, k < w.length → isLt (w.getD k 0) = true
theorem twd_TW {L : Nat → Int} {n : Nat} {p : Nat × Nat} (h : TMK L n p) : TW (twd L p) := by
  obtain ⟨h1, h2, h3⟩ := h
  have : 1 ≤ tmn p ∧ tmn p ≤ 9 ∧ tmn p ≤ p.2 - p.1 := by unfold tmn; split <;> omega
  refine ⟨by rw [twd_len]; omega, by rw [twd_len]; omega, fun k hk => ?_⟩
  rw [twd_len] at hk
  rw [twd_get L p hk]; exact h3 _ (by omega) (by omega)
theorem TW_nmW {w : List Int} (h : TW w) : nmW w := ⟨by have := h.1; omega, by have := h.2.1; omega, fun k hk => by unfold isLF; rw [h.2.2 k hk]; rfl⟩
/-! the reference reads the terms -/
def RTS (σ : MS) (P : List (Nat × Nat)) : Prop := σ.1 120 = J (P.length : Nat) ∧ P.length ≤ 12 ∧ ∀ i, i < P.length → σ.2 118 i = J ((P.getD i (0, 0)).1 : Nat) ∧ σ.2 119 i = J (tmn (P.getD i (0, 0)) : Nat)
def rRd (σ τ : MS) : Prop := (∀ k, k ≠ 120 → τ.1 k = σ.1 k) ∧ ∀ k, k ≠ 118 → k ≠ 119 → τ.2 k = σ.2 k
theorem rRd_rfl {σ : MS} : rRd σ σ := ⟨fun _ _ => rfl, fun _ _ _ => rfl⟩
theorem rRd_trans {σ τ υ : MS} (h : rRd σ τ) (g : rRd τ υ) : rRd σ υ := ⟨fun k a => by rw [g.1 k a, h.1 k a], fun k a b => by rw [g.2 k a b, h.2 k a b]⟩
/-- a line: n bytes -/
def LIN (σ : MS) (L : Nat → Int) (n : Nat) : Prop := n ≤ 120 ∧ σ.1 117 = J (n : Nat) ∧ ∀ i, i < n → σ.2 116 i = J (L i) ∧ 0 ≤ L i ∧ L i ≤ 126
theorem LIN_rd {σ τ : MS} {L : Nat → Int} {n : Nat} (h : LIN σ L n) (g : rRd σ τ) : LIN τ L n := ⟨h.1, by rw [g.1 117 (by omega)]; exact h.2.1, fun i hi => by rw [g.2 116 (by omega) (by omega)]; exact h.2.2 i hi⟩
theorem RdI_go {L : Nat → Int} {n : Nat} (K : Int32 → MS → MR) {σ : MS} (h : LIN σ L n) : ∀ (d e m : Nat), e + d = n → d < m → ∃ f : Nat, e ≤ f ∧ f ≤ n ∧ (∀ x, e ≤ x → x < f → isLt (L x) = true) ∧ (n - f = 0 ∨ isLt (L f) = false) ∧ (isLt (L e) = true → e < n → e < f) ∧ loopF (RdI K) m (J (e : Nat), σ) = K (J (f : Nat)) σ := by
  obtain ⟨h1, h2, h3⟩ := h
  intro d
  induction d with
  | zero =>
    intro e m he hm
    obtain ⟨m, rfl⟩ : ∃ k, m = k + 1 := ⟨m - 1, by omega⟩
    refine ⟨e, Nat.le_refl _, by omega, fun x x1 x2 => by omega, Or.inl (by omega), fun _ h => by omega, ?_⟩
    rw [RdI_s, bndE, h2, if_pos (by rw [J_le (by omega) (by omega) (by omega) (by omega)]; omega)]
  | succ d ih =>
    intro e m he hm
    obtain ⟨m, rfl⟩ : ∃ k, m = k + 1 := ⟨m - 1, by omega⟩
    obtain ⟨a1, a2, a3⟩ := h3 e (by omega)
    have s := RdI_s K m (J (e : Nat)) σ
    rw [bndE, h2, if_neg (by rw [J_le (by omega) (by omega) (by omega) (by omega)]; omega), if_neg (gNn (by omega) (by omega)), J_natN (by omega), a1, r_small (by omega), Option.bind_some] at s
    by_cases q : isLt (L e) = true
    · obtain ⟨f, f1, f2, f3, f4, f5, f6⟩ := ih (e + 1) m (by omega) (by omega)
      refine ⟨f, by omega, f2, fun x x1 x2 => ?_, f4, fun _ _ => by omega, ?_⟩
      · by_cases c : x = e
        · rw [c]; exact q
        · exact f3 x (by omega) x2
      · rw [if_pos q] at s
        dsimp only at s
        rw [if_neg (by decide), bndE, J_suc] at s
        rw [s]; exact f6
    · refine ⟨e, Nat.le_refl _, by omega, fun x x1 x2 => by omega, Or.inr (Bool.eq_false_iff.mpr q), fun h => absurd h q, ?_⟩
      rw [if_neg q] at s
      dsimp only at s
      rw [if_pos (by decide)] at s
      exact s
theorem RdB_go {L : Nat → Int} {n : Nat} : ∀ (D d k m : Nat) (P : List (Nat × Nat)) (σ : MS), d ≤ D → k + d = n → d < m → LIN σ L n → RTS σ P → ∃ τ, loopF RdB m (J (k : Nat), σ) = some (0, τ) ∧ RTS τ ((P ++ tmg L d k k).take 12) ∧ rRd σ τ := by
  intro D
  induction D with
  | zero =>
    intro d k m P σ hD hk hm hL hP
    obtain ⟨m, rfl⟩ : ∃ j, m = j + 1 := ⟨m - 1, by omega⟩
    obtain rfl : d = 0 := by omega
    refine ⟨σ, ?_, ?_, rRd_rfl⟩
    · rw [RdB_s, hL.2.1, if_pos (by have := hL.1; rw [J_le (by omega) (by omega) (by omega) (by omega)]; omega)]
    · have e : tmg L 0 k k = [] := by unfold tmg; rw [if_neg (by omega)]
      rw [e, List.append_nil, List.take_of_length_le hP.2.1]; exact hP
  | succ D ih =>
    intro d k m P σ hD hk hm hL hP
    rcases Nat.lt_or_ge D d with c | c
    rotate_left
    · exact ih d k m P σ c hk hm hL hP
    obtain rfl : d = D + 1 := by omega
    obtain ⟨m, rfl⟩ : ∃ j, m = j + 1 := ⟨m - 1, by omega⟩
    obtain ⟨h1, h2, h3⟩ := hL
    obtain ⟨p1, p2, p3⟩ := hP
    obtain ⟨a1, a2, a3⟩ := h3 k (by omega)
    have s := RdB_s m (J (k : Nat)) σ
    rw [h2, if_neg (by rw [J_le (by omega) (by omega) (by omega) (by omega)]; omega), p1] at s
    by_cases q12 : P.length = 12
    · refine ⟨σ, ?_, ?_, rRd_rfl⟩
      · rw [s, if_pos (by rw [show (12 : Int32) = J ((12 : Nat) : Int) from rfl, J_le (by omega) (by omega) (by omega) (by omega)]; omega)]
      · rw [tk12 q12]; exact ⟨p1, p2, p3⟩
    rw [if_neg (by rw [show (12 : Int32) = J ((12 : Nat) : Int) from rfl, J_le (by omega) (by omega) (by omega) (by omega)]; omega), if_neg (gNn (by omega) (by omega)), J_natN (by omega), a1, r_small (by omega), Option.bind_some] at s
    by_cases q : isLt (L k) = true
    · rw [if_pos q] at s
      dsimp only at s
      rw [if_neg (by decide)] at s
      obtain ⟨f, f1, f2, f3, f4, f5, f6⟩ := RdI_go (L := L) (n := n) (RdK (J (k : Nat)) (loopF RdB m)) (σ := σ) ⟨h1, h2, h3⟩ (D + 1) k FU hk (FU_gt (by omega))
      have kf := f5 q (by omega)
      rw [f6] at s
      unfold RdK at s
      rw [p1, if_neg (gNn (by omega) (by omega)), J_natN (by omega), bndE, show (mA σ 118 (upd (σ.2 118) P.length (J (k : Nat)))).1 120 = J (P.length : Nat) from p1, bndE, J_suc, bndE, if_neg (gNn (by omega) (by omega)), J_natN (by omega), bndE] at s
      have e9 : (if J (f : Nat) - J (k : Nat) < 9 then J (f : Nat) - J (k : Nat) else (9 : Int32)) = J (tmn (k, f) : Nat) := by
        rw [J_sub, show ((f : Int) - (k : Int)) = ((f - k : Nat) : Int) by omega]
        unfold tmn
        dsimp only
        by_cases c : f - k < 9
        · rw [if_pos c, if_pos (by rw [show (9 : Int32) = J ((9 : Nat) : Int) from rfl, J_lt (by omega) (by omega) (by omega) (by omega)]; omega)]
        · rw [if_neg c, if_neg (by rw [show (9 : Int32) = J ((9 : Nat) : Int) from rfl, J_lt (by omega) (by omega) (by omega) (by omega)]; omega)]; rfl
      rw [e9] at s
      have hR : RTS (mA (mI (mA σ 118 (upd (σ.2 118) P.length (J (k : Nat)))) 120 (J (P.length + 1 : Nat))) 119 (upd (σ.2 119) P.length (J (tmn (k, f) : Nat)))) (P ++ [(k, f)]) := by
        refine ⟨by rw [List.length_append]; rfl, by rw [List.length_append]; show P.length + 1 ≤ 12; omega, fun i hi => ?_⟩
        rw [List.length_append] at hi
        have hi : i < P.length + 1 := hi
        show upd (σ.2 118) P.length (J (k : Nat)) i = _ ∧ upd (σ.2 119) P.length (J (tmn (k, f) : Nat)) i = _
        rw [upd_s, upd_s]
        by_cases c : i = P.length
        · rw [if_pos c, if_pos c, c, getD_ap2]; exact ⟨rfl, rfl⟩
        · rw [if_neg c, if_neg c, getD_ap1 (by omega)]; exact p3 i (by omega)
      obtain ⟨τ, t1, t2, t3⟩ := ih (n - f) f m (P ++ [(k, f)]) _ (by omega) (by omega) (by omega) (show LIN (mA (mI (mA σ 118 (upd (σ.2 118) P.length (J (k : Nat)))) 120 (J (P.length + 1 : Nat))) 119 (upd (σ.2 119) P.length (J (tmn (k, f) : Nat)))) L n from ⟨h1, h2, h3⟩) hR
      refine ⟨τ, s.trans t1, ?_, rRd_trans (τ := mA (mI (mA σ 118 (upd (σ.2 118) P.length (J (k : Nat)))) 120 (J (P.length + 1 : Nat))) 119 (upd (σ.2 119) P.length (J (tmn (k, f) : Nat)))) ⟨fun k hk => by show (mI _ 120 _).1 k = _; rw [mI_1, if_neg hk]; rfl, fun k h8 h9 => by rw [mA_2, if_neg h9]; show (mA _ 118 _).2 k = _; rw [mA_2, if_neg h8]⟩ t3⟩
      have e1 : tmg L (D + 1) k k = (k, f) :: tmg L (n - f) f f := by
        have := tmg_run (f - k) (n - f) k k (fun x x1 x2 => f3 x x1 (by omega))
        rw [show f - k + (n - f) = D + 1 by omega, show k + (f - k) = f by omega] at this
        rw [this]
        exact tmg_end kf f4
      rw [e1]
      rw [List.append_assoc] at t2
      exact t2
    · rw [if_neg q] at s
      dsimp only at s
      rw [if_pos (by decide), bndE, J_suc] at s
      obtain ⟨τ, t1, t2, t3⟩ := ih D (k + 1) m P σ (Nat.le_refl _) (by omega) (by omega) ⟨h1, h2, h3⟩ ⟨p1, p2, p3⟩
      refine ⟨τ, s.trans t1, ?_, t3⟩
      have e1 : tmg L (D + 1) k k = tmg L D (k + 1) (k + 1) := by
        show (if isLt (L k) = true then tmg L D (k + 1) k else (if k < k then [(k, k)] else []) ++ tmg L D (k + 1) (k + 1)) = _
        rw [if_neg q, if_neg (by omega)]; rfl
      rw [e1]; exact t2
theorem r_readTerms {σ : MS} {L : Nat → Int} {n : Nat} (h : LIN σ L n) : ∃ τ, F_X12_readTerms σ = some (0, τ) ∧ RTS τ ((tmg L n 0 0).take 12) ∧ rRd σ τ := by
  obtain ⟨τ, t1, t2, t3⟩ := RdB_go n n 0 FU [] (mI σ 120 0) (Nat.le_refl _) (by omega) (FU_gt (by have := h.1; omega)) (show LIN (mI σ 120 0) L n from h) ⟨rfl, by decide, fun i hi => absurd hi (Nat.not_lt_zero _)⟩
  exact ⟨τ, by rw [read_eq, bndE]; exact t1, t2, rRd_trans (τ := mI σ 120 0) ⟨fun k hk => by rw [mI_1, if_neg hk], fun _ _ _ => rfl⟩ t3⟩
