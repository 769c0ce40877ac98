/-! the reference's words -/
def rsrc (b : Nat → Int) (L : Nat) (σ : MS) : Prop := L ≤ 4096 ∧ σ.1 6 = J L ∧ (∀ i, i < L → σ.2 5 i = J (b i)) ∧ ∀ i, i < L → b i = 10 ∨ (32 ≤ b i ∧ b i ≤ 126)
/-- a word more -/
def tokS (σ : MS) (t : Nat) (k a v : Int) : MS := mA (mI (mA (mA σ 7 (upd (σ.2 7) t (J k))) 8 (upd (σ.2 8) t (J a))) 10 (J (t+1))) 9 (upd (σ.2 9) t (J v))
theorem rtok {σ : MS} {t : Nat} (k a v : Int) (h : σ.1 10 = J t) (hn : t < 16010) : F_X12_token (J k) (J a) (J v) σ = some (J 0, tokS σ t k a v) := rtoken σ t k a v h hn
theorem r_small {c : Int} {σ : MS} (h : -1000 ≤ c ∧ c ≤ 1000) : F_X12_small (J c) σ = some (J (if isLt c then 1 else 0), σ) := by
  unfold F_X12_small isLt
  simp (disch := omega) only [J_lit, J_add, J_sub, J_mul, J_neg, J_lt, J_le, J_eq, J_natN, J_nat, Int.toNat_natCast, tnl, tnc, Bool.and_eq_true, decide_eq_true_eq]
  by_cases q : c < 97
  · rw [if_pos q, if_neg (by omega)]
  · rw [if_neg q]
    by_cases q2 : 122 < c
    · rw [if_pos q2, if_neg (by omega)]
    · rw [if_neg q2, if_pos (by omega)]
theorem r_figure {c : Int} {σ : MS} (h : -1000 ≤ c ∧ c ≤ 1000) : F_X12_figure (J c) σ = some (J (if isFg c then 1 else 0), σ) := by
  unfold F_X12_figure isFg
  simp (disch := omega) only [J_lit, J_add, J_sub, J_mul, J_neg, J_lt, J_le, J_eq, J_natN, J_nat, Int.toNat_natCast, tnl, tnc, Bool.and_eq_true, decide_eq_true_eq]
  by_cases q : c < 48
  · rw [if_pos q, if_neg (by omega)]
  · rw [if_neg q]
    by_cases q2 : 57 < c
    · rw [if_pos q2, if_neg (by omega)]
    · rw [if_neg q2, if_pos (by omega)]
theorem isFg_iff {c : Int} : isFg c = true ↔ 48 ≤ c ∧ c ≤ 57 := by unfold isFg; simp
theorem isLt_iff {c : Int} : isLt c = true ↔ 97 ≤ c ∧ c ≤ 122 := by unfold isLt; simp
theorem r_number {b : Nat → Int} {L t i : Nat} {σ : MS} (hs : rsrc b L σ) (ht : σ.1 10 = J t) (htn : t < 16010) (hi : i < L) : Ok (F_X12_number (J i) σ) fun u => (valN b i (endF isFg b L i - i) ≤ 32767 → u = (J (endF isFg b L i), tokS σ t 3 i (valN b i (endF isFg b L i - i)))) ∧ (¬ valN b i (endF isFg b L i - i) ≤ 32767 → u = (J (-1), σ)) := by
  obtain ⟨hL, h6, h5, hb⟩ := hs
  unfold F_X12_number
  have hle : endF isFg b L i ≤ L := endF_le (by omega)
  have hv : ∀ j, i ≤ j → j ≤ endF isFg b L i → 0 ≤ valN b i (j - i) := by
    intro j h1 h2
    exact valN_ge _ (fun k hk => (endF_in (p := isFg) (b := b) (L := L) (i := i) (j := i + k) (by omega) (by omega)).2)
  refine Ok_loop (P := fun s k => ∃ j : Nat, i ≤ j ∧ j ≤ endF isFg b L i ∧ k = L - j ∧ s = (J (if valN b i (j - i) < 40000 then valN b i (j - i) else 40000), J j, σ)) ?_ FU _ (L - i) (FU_gt (by omega)) ⟨i, by omega, endF_ge i, rfl, by simp only [Nat.sub_self, valN]; rfl⟩
  rintro a s k ⟨j, h1, h2, rfl, rfl⟩ ih
  have hvj := hv j h1 h2
  by_cases q : j < endF isFg b L i
  · obtain ⟨q1, q2⟩ := endF_in (p := isFg) (b := b) (L := L) (i := i) h1 q
    have hbj := isFg_iff.mp q2
    have hfig := r_figure (c := b j) (σ := σ) (by omega)
    rw [if_pos q2] at hfig
    have e1 : valN b i (j + 1 - i) = valN b i (j - i) * 10 + (b j - 48) := by
      rw [show j + 1 - i = (j - i) + 1 by omega]; show valN b i (j - i) * 10 + (b (i + (j - i)) - 48) = _
      rw [show i + (j - i) = j by omega]
    have ih' := ih (J (if valN b i (j + 1 - i) < 40000 then valN b i (j + 1 - i) else 40000), J (j + 1 : Nat), σ) (L - (j + 1)) (by omega) ⟨j + 1, by omega, by omega, rfl, rfl⟩
    have e2 : (if 10 * (if valN b i (j - i) < 40000 then valN b i (j - i) else 40000) + b j - 48 < 40000 then 10 * (if valN b i (j - i) < 40000 then valN b i (j - i) else 40000) + b j - 48 else 40000) = (if valN b i (j + 1 - i) < 40000 then valN b i (j + 1 - i) else 40000) := by
      rw [e1]; split <;> split <;> split <;> omega
    have hc : (if valN b i (j - i) < 40000 then valN b i (j - i) else 40000) ≤ 40000 ∧ 0 ≤ (if valN b i (j - i) < 40000 then valN b i (j - i) else 40000) := by split <;> omega
    generalize (if valN b i (j - i) < 40000 then valN b i (j - i) else 40000) = w at *
    rw [← e2, Int.natCast_add] at ih'
    simp (disch := omega) only [bnd, h6, J_lit, J_add, J_sub, J_mul, J_neg, J_lt, J_le, J_eq, J_natN, J_nat, Int.toNat_natCast, tnl, tnc, h5, hfig, Option.bind_some, if_neg]
    rw [apply_ite J] at ih'
    exact ih'
  · have hej : endF isFg b L i = j := by omega
    have hend := endF_end (p := isFg) (b := b) (L := L) i
    rw [hej] at hend ⊢
    generalize valN b i (j - i) = w at *
    have hfin : Ok (if J (if w < 40000 then w else 40000) ≤ 32767 then (F_X12_token 3 (J i) (J (if w < 40000 then w else 40000)) σ).bind (fun u_11 => some (J (j : Int), u_11.2)) else some (-1, σ)) fun u => (w ≤ 32767 → u = (J j, tokS σ t 3 i w)) ∧ (¬ w ≤ 32767 → u = (J (-1), σ)) := by
      by_cases q3 : w ≤ 32767
      · have e : (if w < 40000 then w else 40000) = w := if_pos (by omega)
        rw [e]
        simp (disch := omega) only [J_lit, J_add, J_sub, J_mul, J_neg, J_lt, J_le, J_eq, J_natN, J_nat, Int.toNat_natCast, tnl, tnc, if_pos, rtok _ _ _ ht htn, Option.bind_some]
        exact Ok_some ⟨fun _ => rfl, fun h => absurd q3 h⟩
      · have e : ¬ (if w < 40000 then w else 40000) ≤ 32767 := by split <;> omega
        have e3 : (if w < 40000 then w else 40000) ≤ 40000 ∧ 0 ≤ (if w < 40000 then w else 40000) := by split <;> omega
        simp (disch := omega) only [J_lit, J_add, J_sub, J_mul, J_neg, J_lt, J_le, J_eq, J_natN, J_nat, Int.toNat_natCast, tnl, tnc, if_neg]
        exact Ok_some ⟨fun h => absurd h q3, fun _ => rfl⟩
    by_cases q2 : j < L
    · have q4 : ¬ isFg (b j) = true := fun h => hend ⟨q2, h⟩
      have hbj := hb j q2
      have hfig := r_figure (c := b j) (σ := σ) (by omega)
      rw [if_neg q4] at hfig
      simp (disch := omega) only [bnd, h6, h5, hfig, Option.bind_some, J_le, J_lit, J_lt, J_natN, if_neg, if_pos, reduceIte] at hfin ⊢
      exact hfin
    · simp (disch := omega) only [bnd, h6, J_le, if_pos]
      exact hfin
theorem r_string {b : Nat → Int} {L t i : Nat} {σ : MS} (hs : rsrc b L σ) (ht : σ.1 10 = J t) (htn : t < 16010) (hi : i < L) : Ok (F_X12_string (J i) σ) fun u => ((byt b L (endF inStr b L (i + 1)) = 34 ∧ endF inStr b L (i + 1) - i - 1 ≤ 200) → u = (J (endF inStr b L (i + 1) + 1 : Nat), tokS σ t 4 i ((endF inStr b L (i + 1) - i - 1 : Nat) : Int))) ∧ (¬ (byt b L (endF inStr b L (i + 1)) = 34 ∧ endF inStr b L (i + 1) - i - 1 ≤ 200) → u = (J (-1), σ)) := by
  obtain ⟨hL, h6, h5, hb⟩ := hs
  unfold F_X12_string
  have hle : endF inStr b L (i + 1) ≤ L := endF_le (by omega)
  have hend := endF_end (p := inStr) (b := b) (L := L) (i + 1)
  have hge := endF_ge (p := inStr) (b := b) (L := L) (i + 1)
  generalize he : endF inStr b L (i + 1) = e at *
  rw [J_lit, J_add]
  refine Ok_loop (P := fun s k => ∃ j : Nat, i + 1 ≤ j ∧ j ≤ e ∧ j - i ≤ 202 ∧ k = L + 1 - j ∧ s = (J j, σ)) ?_ FU _ (L - i) (FU_gt (by omega)) ⟨i + 1, by omega, by omega, by omega, by omega, by rw [Int.natCast_add]; rfl⟩
  rintro a s k ⟨j, h1, h2, h3, rfl, rfl⟩ ih
  by_cases q : j < e
  · obtain ⟨q1, q2⟩ := endF_in (p := inStr) (b := b) (L := L) (i := i + 1) h1 (by rw [he]; exact q)
    have hbj := hb j q1
    unfold inStr at q2
    simp only [Bool.and_eq_true, Bool.not_eq_true', decide_eq_false_iff_not] at q2
    obtain ⟨q2, q3⟩ := q2
    by_cases q4 : j - i ≤ 201
    · have ih' := ih (J (j + 1 : Nat), σ) (L + 1 - (j + 1)) (by omega) ⟨j + 1, by omega, by omega, by omega, rfl, rfl⟩
      rw [Int.natCast_add] at ih'
      simp (disch := omega) only [bnd, h6, J_lit, J_add, J_sub, J_mul, J_neg, J_lt, J_le, J_eq, J_natN, J_nat, Int.toNat_natCast, tnl, tnc, h5, if_neg]
      exact ih'
    · simp (disch := omega) only [bnd, h6, J_lit, J_add, J_sub, J_mul, J_neg, J_lt, J_le, J_eq, J_natN, J_nat, Int.toNat_natCast, tnl, tnc, h5, if_neg, if_pos]
      exact Ok_some ⟨fun h => by omega, fun _ => rfl⟩
  · have hej : e = j := by omega
    subst hej
    have hfin : Ok (if J L ≤ J e then some ((-1 : Int32), σ) else if (J e) < 0 ∨ 16000 ≤ (J e).toNatClampNeg then none else if (σ.2 5 (J e).toNatClampNeg) = 34 then (if ((J e - J i) - 1) ≤ 200 then ((F_X12_token 4 (J i) ((J e - J i) - 1) σ).bind fun u_18 => some ((J e + 1), u_18.2)) else some ((-1), σ)) else some ((-1), σ)) fun u => ((byt b L e = 34 ∧ e - i - 1 ≤ 200) → u = (J (e + 1 : Nat), tokS σ t 4 i ((e - i - 1 : Nat) : Int))) ∧ (¬ (byt b L e = 34 ∧ e - i - 1 ≤ 200) → u = (J (-1), σ)) := by
      unfold byt
      by_cases q2 : e < L
      · rw [if_pos q2]
        have hbj := hb e q2
        by_cases q3 : b e = 34
        · by_cases q4 : e - i - 1 ≤ 200
          · simp (disch := omega) only [bnd, h6, J_lit, J_add, J_sub, J_mul, J_neg, J_lt, J_le, J_eq, J_natN, J_nat, Int.toNat_natCast, tnl, tnc, h5, if_neg, if_pos, rtok _ _ _ ht htn, Option.bind_some]
            refine Ok_some ⟨fun _ => ?_, fun h => absurd ⟨q3, q4⟩ h⟩
            rw [Int.natCast_add, show ((e - i - 1 : Nat) : Int) = (e : Int) - i - 1 by omega]; rfl
          · simp (disch := omega) only [bnd, h6, J_lit, J_add, J_sub, J_mul, J_neg, J_lt, J_le, J_eq, J_natN, J_nat, Int.toNat_natCast, tnl, tnc, h5, if_neg, if_pos]
            exact Ok_some ⟨fun h => absurd h.2 q4, fun _ => rfl⟩
        · simp (disch := omega) only [bnd, h6, J_lit, J_add, J_sub, J_mul, J_neg, J_lt, J_le, J_eq, J_natN, J_nat, Int.toNat_natCast, tnl, tnc, h5, if_neg]
          exact Ok_some ⟨fun h => absurd h.1 q3, fun _ => rfl⟩
      · rw [if_neg q2]
        simp (disch := omega) only [bnd, h6, J_le, if_pos]
        exact Ok_some ⟨fun h => by omega, fun _ => rfl⟩
    by_cases q2 : e < L
    · have hbj := hb e q2
      have q4 : ¬ inStr (b e) = true := fun h => hend ⟨q2, h⟩
      have q5 : b e = 34 ∨ b e = 10 := by
        unfold inStr at q4
        simp only [Bool.and_eq_true, Bool.not_eq_true', decide_eq_false_iff_not] at q4
        omega
      rcases q5 with q5 | q5
      · simp (disch := omega) only [bnd, h6, h5, J_le, J_lt, J_eq, J_lit, J_natN, if_neg, if_pos] at hfin ⊢
        exact hfin
      · simp (disch := omega) only [bnd, h6, h5, J_le, J_lt, J_eq, J_lit, J_natN, if_neg, if_pos] at hfin ⊢
        exact hfin
    · simp (disch := omega) only [bnd, h6, J_le, if_pos] at hfin ⊢
      exact hfin
