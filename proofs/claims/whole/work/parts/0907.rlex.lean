/-! the reference's lexing -/
theorem rlxF_rfl {σ : MS} : rlxF σ σ := ⟨fun _ _ _ => rfl, fun _ _ _ _ _ _ => rfl⟩
theorem rlxF_trans {σ τ υ : MS} (h : rlxF σ τ) (i : rlxF τ υ) : rlxF σ υ := ⟨fun k a b => by rw [i.1 k a b, h.1 k a b], fun k a b c d e => by rw [i.2 k a b c d e, h.2 k a b c d e]⟩
/-- what a word's taking gives -/
def rNx (b : Nat → Int) (L t : Nat) (σ : MS) (u : Int32 × MS) : Prop := (wOk b L (posW b L t) → u.1 = J (wEnd b L (posW b L t)) ∧ ∃ m nm, rLx b L (t + 1) m nm u.2 ∧ rlxF σ u.2) ∧ (¬ wOk b L (posW b L t) → u = (J (-1), σ))
theorem kixF_lt {w : List Int} : ∀ (c k : Nat), kixF w c k < k + c ∧ -1 ≤ kixF w c k := by
  intro c
  induction c with
  | zero => intro k; unfold kixF; omega
  | succ c ih =>
    intro k; unfold kixF; split
    · omega
    · have := ih (k + 1); omega
theorem r_word {b : Nat → Int} {L t m : Nat} {nm : Nat → List Int} {σ : MS} (h : rLx b L t m nm σ) (htn : t < 8000) (hi : posW b L t < L) (hq : isLt (b (posW b L t)) = true) : Ok (F_X12_word (J (posW b L t)) σ) (rNx b L t σ) := by
  have hh := h
  obtain ⟨hs, h10, hnm, hmt, -⟩ := h
  have hs0 := hs
  obtain ⟨hL, h6, h5, hb⟩ := hs
  unfold F_X12_word
  simp only [bnd]
  have hew : wEnd b L (posW b L t) = endF isLF b L (posW b L t) := by unfold wEnd; rw [if_pos hq]
  have hok : wOk b L (posW b L t) ↔ endF isLF b L (posW b L t) - posW b L t ≤ 12 := by unfold wOk; rw [if_pos hq]
  unfold rNx
  rw [hew]
  have hwd : wd b L (posW b L t) = wl b (posW b L t) (endF isLF b L (posW b L t) - posW b L t) := by unfold wd; rw [hew]
  have hmono : ∀ (k v : Int) (τ : MS) (m' : Nat) (nm' : Nat → List Int), (∀ k, k ≠ 13 → τ.1 k = σ.1 k) → (∀ k, k ≠ 11 → k ≠ 12 → τ.2 k = σ.2 k) → rnam m' nm' τ → m ≤ m' → m' ≤ t + 1 → (∀ r, r < m → nm' r = nm r) → rTk b L m' nm' (J k) (J v) (posW b L t) → ∃ m nm, rLx b L (t + 1) m nm (tokS τ t k (posW b L t) v) ∧ rlxF σ (tokS τ t k (posW b L t) v) := by
    intro k v τ m' nm' a1 a2 a3 a4 a5 a6 a7
    refine ⟨m', nm', rLx_tok hh a1 a2 a3 a4 a5 a6 a7, rlxF_tok ⟨fun k _ h2 => a1 k h2, fun k _ _ _ h2 h3 => a2 k h2 h3⟩⟩
  have hle : endF isLF b L (posW b L t) ≤ L := endF_le (by omega)
  have hlt : posW b L t < endF isLF b L (posW b L t) := endF_lt hi (by unfold isLF; rw [hq]; rfl)
  have hin : ∀ j, posW b L t ≤ j → j < endF isLF b L (posW b L t) → j < L ∧ isLF (b j) = true := fun j h1 h2 => endF_in h1 h2
  have hend := endF_end (p := isLF) (b := b) (L := L) (posW b L t)
  generalize hp : posW b L t = p at *
  generalize he : endF isLF b L p = e at *
  refine Ok_loop (P := fun s k => ∃ j : Nat, p ≤ j ∧ j ≤ e ∧ k = e - j ∧ s = (J j, σ)) ?_ FU _ (e - p) (FU_gt (by omega)) ⟨p, by omega, by omega, rfl, rfl⟩
  rintro a s k ⟨j, h1, h2, rfl, rfl⟩ ih
  by_cases q : j < e
  · obtain ⟨q1, q2⟩ := hin j h1 q
    have hbj := hb j q1
    have ih' := ih (J (j + 1 : Nat), σ) (e - (j + 1)) (by omega) ⟨j + 1, by omega, by omega, rfl, rfl⟩
    rw [show J ((j + 1 : Nat) : Int) = J (j : Nat) + 1 by rw [J_lit, J_add]; rfl] at ih'
    refine Ok_neg (by rw [h6]; simp (disch := omega) only [J_lit, J_add, J_sub, J_mul, J_neg, J_lt, J_le, J_eq, J_natN, J_nat, Int.toNat_natCast, tnl, tnc] <;> omega) ?_
    refine Ok_neg (by simp (disch := omega) only [J_lit, J_add, J_sub, J_mul, J_neg, J_lt, J_le, J_eq, J_natN, J_nat, Int.toNat_natCast, tnl, tnc] <;> omega) ?_
    dsimp only
    rw [J_natN (by omega), h5 j q1, r_small (by omega), Option.bind_some]
    by_cases q3 : isLt (b j) = true
    · rw [if_pos q3]
      exact Ok_neg J1_ne ih'
    · rw [if_neg q3]
      refine Ok_pos J0_eq ?_
      refine Ok_neg (by simp (disch := omega) only [J_lit, J_add, J_sub, J_mul, J_neg, J_lt, J_le, J_eq, J_natN, J_nat, Int.toNat_natCast, tnl, tnc] <;> omega) ?_
      dsimp only
      have q4 : isFg (b j) = true := by
        unfold isLF at q2; rw [Bool.or_eq_true] at q2; rcases q2 with q2 | q2
        · exact absurd q2 q3
        · exact q2
      rw [h5 j q1, r_figure (by omega), Option.bind_some, if_pos q4]
      exact Ok_neg J1_ne ih'
  · have hje : j = e := by omega
    subst hje
    have hfin : Ok (if J (j : Nat) - J (p : Nat) ≤ 12 then
          (F_X12_keyOf (J p) (J j - J p) σ).bind fun u_11 =>
            if u_11.1 < 0 then (F_X12_intern (J p) (J j - J p) u_11.2).bind fun u_15 => (F_X12_token 2 (J p) u_15.1 u_15.2).bind fun u_17 => some (J j, u_17.2)
            else (F_X12_token 1 (J p) u_11.1 u_11.2).bind fun u_20 => some (J j, u_20.2)
        else some (-1, σ)) fun u => (wOk b L p → u.1 = J j ∧ ∃ m nm, rLx b L (t + 1) m nm u.2 ∧ rlxF σ u.2) ∧ (¬ wOk b L p → u = (J (-1), σ)) := by
      rw [J_sub, show (j : Int) - (p : Int) = ((j - p : Nat) : Int) by omega]
      by_cases q2 : j - p ≤ 12
      · refine Ok_pos (by simp (disch := omega) only [J_lit, J_add, J_sub, J_mul, J_neg, J_lt, J_le, J_eq, J_natN, J_nat, Int.toNat_natCast, tnl, tnc] <;> omega) ?_
        refine Ok_bind ?_
        refine Ok_mono (r_keyOf hs0 (by omega)) ?_
        rintro u rfl
        have hkl := kixF_lt (w := wl b p (j - p)) 57 0
        have hkk : kix (wl b p (j - p)) = kixF (wl b p (j - p)) 57 0 := rfl
        by_cases q3 : 0 ≤ kix (wl b p (j - p))
        · refine Ok_neg (by show ¬ (J _ < 0); exact J_nlt0 q3 (by omega)) ?_
          dsimp only
          rw [show (1 : Int32) = J 1 from rfl, rtok _ _ _ h10 (by omega), Option.bind_some]
          refine Ok_some ⟨fun _ => ⟨rfl, ?_⟩, fun h => absurd (hok.mpr q2) h⟩
          exact hmono 1 _ σ m nm (fun _ _ => rfl) (fun _ _ _ => rfl) hnm (by omega) (by omega) (fun _ _ => rfl) (by
            unfold rTk; rw [if_pos hq, hwd, if_pos q3]; exact ⟨rfl, rfl⟩)
        · refine Ok_pos (by show J _ < 0; exact J_lt0 (by omega) (by omega)) ?_
          refine Ok_bind ?_
          have hnw : nmW (wl b p (j - p)) := by
            refine ⟨by rw [wl_len]; omega, by rw [wl_len]; omega, fun k hk => ?_⟩
            rw [wl_len] at hk
            rw [wl_get hk]; exact (hin (p + k) (by omega) (by omega)).2
          refine Ok_mono (r_intern hs0 hnm (by omega) hnw (by omega)) ?_
          rintro ⟨u1, τ⟩ ⟨r, m', nm', rfl, y1, y2, y3, y4, y5, y6, y7, y8⟩
          dsimp only at y3 y7 y8 ⊢
          rw [show (2 : Int32) = J 2 from rfl, rtok _ _ _ (by rw [y7 10 (by omega)]; exact h10) (by omega), Option.bind_some]
          refine Ok_some ⟨fun _ => ⟨rfl, ?_⟩, fun h => absurd (hok.mpr q2) h⟩
          exact hmono 2 r τ m' nm' y7 y8 y3 y4 (by omega) y6 (by
            unfold rTk; rw [if_pos hq, hwd, if_neg q3]; exact ⟨rfl, r, y1, rfl, y2⟩)
      · refine Ok_neg (by simp (disch := omega) only [J_lit, J_add, J_sub, J_mul, J_neg, J_lt, J_le, J_eq, J_natN, J_nat, Int.toNat_natCast, tnl, tnc] <;> omega) ?_
        exact Ok_some ⟨fun h => absurd (hok.mp h) q2, fun _ => rfl⟩
    by_cases q2 : j < L
    · have hbj := hb j q2
      have q3 : ¬ isLF (b j) = true := fun h => hend ⟨q2, h⟩
      have q4 : ¬ isLt (b j) = true := fun h => q3 (by unfold isLF; rw [h]; rfl)
      have q5 : ¬ isFg (b j) = true := fun h => q3 (by unfold isLF; rw [h, Bool.or_true])
      refine Ok_neg (by rw [h6]; simp (disch := omega) only [J_lit, J_add, J_sub, J_mul, J_neg, J_lt, J_le, J_eq, J_natN, J_nat, Int.toNat_natCast, tnl, tnc] <;> omega) ?_
      refine Ok_neg (by simp (disch := omega) only [J_lit, J_add, J_sub, J_mul, J_neg, J_lt, J_le, J_eq, J_natN, J_nat, Int.toNat_natCast, tnl, tnc] <;> omega) ?_
      dsimp only
      rw [J_natN (by omega), h5 j q2, r_small (by omega), Option.bind_some, if_neg q4]
      refine Ok_pos J0_eq ?_
      refine Ok_neg (by simp (disch := omega) only [J_lit, J_add, J_sub, J_mul, J_neg, J_lt, J_le, J_eq, J_natN, J_nat, Int.toNat_natCast, tnl, tnc] <;> omega) ?_
      dsimp only
      rw [h5 j q2, r_figure (by omega), Option.bind_some, if_neg q5]
      exact Ok_pos J0_eq hfin
    · refine Ok_pos (by rw [h6]; simp (disch := omega) only [J_lit, J_add, J_sub, J_mul, J_neg, J_lt, J_le, J_eq, J_natN, J_nat, Int.toNat_natCast, tnl, tnc] <;> omega) ?_
      exact hfin
theorem r_next {b : Nat → Int} {L t m : Nat} {nm : Nat → List Int} {σ : MS} (h : rLx b L t m nm σ) (htn : t < 8000) (hi : posW b L t < L) : (isLt (b (posW b L t)) = true → Ok (F_X12_word (J (posW b L t)) σ) (rNx b L t σ)) ∧ (¬ isLt (b (posW b L t)) = true → isFg (b (posW b L t)) = true → Ok (F_X12_number (J (posW b L t)) σ) (rNx b L t σ)) ∧ (¬ isLt (b (posW b L t)) = true → ¬ isFg (b (posW b L t)) = true → b (posW b L t) = 34 → Ok (F_X12_string (J (posW b L t)) σ) (rNx b L t σ)) ∧ (¬ isLt (b (posW b L t)) = true → ¬ isFg (b (posW b L t)) = true → b (posW b L t) ≠ 34 → Ok (F_X12_sign (J (posW b L t)) σ) (rNx b L t σ)) := by
  have hs := h.1
  have h10 := h.2.1
  have hmono : ∀ (k v : Int), rTk b L m nm (J k) (J v) (posW b L t) → ∃ m nm, rLx b L (t + 1) m nm (tokS σ t k (posW b L t) v) ∧ rlxF σ (tokS σ t k (posW b L t) v) := by
    intro k v a7
    exact ⟨m, nm, rLx_tok h (fun _ _ => rfl) (fun _ _ _ => rfl) h.2.2.1 (by omega) (by have := h.2.2.2.1; omega) (fun _ _ => rfl) a7, rlxF_tok rlxF_rfl⟩
  refine ⟨fun q => r_word h htn hi q, fun q1 q2 => ?_, fun q1 q2 q3 => ?_, fun q1 q2 q3 => ?_⟩
  · refine Ok_mono (r_number hs h10 (by omega) hi) ?_
    rintro u ⟨y1, y2⟩
    unfold rNx wOk
    rw [if_neg q1, if_pos q2]
    have hew : wEnd b L (posW b L t) = endF isFg b L (posW b L t) := by unfold wEnd; rw [if_neg q1, if_pos q2]
    refine ⟨fun hk => ?_, fun hk => y2 hk⟩
    rw [y1 hk, hew]
    exact ⟨rfl, hmono _ _ (by unfold rTk; rw [if_neg q1, if_pos q2, hew]; exact ⟨rfl, rfl⟩)⟩
  · refine Ok_mono (r_string hs h10 (by omega) hi) ?_
    rintro u ⟨y1, y2⟩
    unfold rNx wOk
    rw [if_neg q1, if_neg q2, if_pos q3]
    have hew : wEnd b L (posW b L t) = endF inStr b L (posW b L t + 1) + 1 := by unfold wEnd; rw [if_neg q1, if_neg q2, if_pos q3]
    refine ⟨fun hk => ?_, fun hk => y2 hk⟩
    rw [y1 hk, hew]
    exact ⟨rfl, hmono _ _ (by unfold rTk; rw [if_neg q1, if_neg q2, if_pos q3, hew]; exact ⟨rfl, by rw [show endF inStr b L (posW b L t + 1) + 1 - posW b L t - 2 = endF inStr b L (posW b L t + 1) - posW b L t - 1 by omega]⟩)⟩
  · refine Ok_mono (r_sign hs h10 (by omega) hi) ?_
    rintro u ⟨y1, y2, y3⟩
    unfold rNx wOk
    rw [if_neg q1, if_neg q2, if_neg q3]
    have hew : wEnd b L (posW b L t) = if dbl (b (posW b L t)) = true ∧ byt b L (posW b L t + 1) = 61 then posW b L t + 2 else posW b L t + 1 := by unfold wEnd; rw [if_neg q1, if_neg q2, if_neg q3]
    refine ⟨fun hk => ?_, fun hk => ?_⟩
    · by_cases q4 : dbl (b (posW b L t)) = true ∧ byt b L (posW b L t + 1) = 61
      · rw [y1 q4, hew, if_pos q4]
        exact ⟨rfl, hmono _ _ (by unfold rTk; rw [if_neg q1, if_neg q2, if_neg q3, if_pos q4]; exact ⟨rfl, rfl⟩)⟩
      · have q5 : sgnOk (b (posW b L t)) = true := hk.resolve_left q4
        rw [y2 q4 q5, hew, if_neg q4]
        exact ⟨rfl, hmono _ _ (by unfold rTk; rw [if_neg q1, if_neg q2, if_neg q3, if_neg q4]; exact ⟨rfl, rfl⟩)⟩
    · exact y3 (fun h => hk (Or.inl h)) (fun h => hk (Or.inr h))
theorem posW_ge {b : Nat → Int} {L : Nat} : ∀ t, (∀ j, j < t → posW b L j < L) → t ≤ posW b L t := by
  intro t
  induction t with
  | zero => intro _; omega
  | succ t ih =>
    intro h
    have h1 := ih (fun j hj => h j (by omega))
    have h2 := wEnd_gt (b := b) (h t (by omega))
    have h3 := skp_ge (b := b) (L := L) (wEnd b L (posW b L t))
    show _ ≤ skp b L (wEnd b L (posW b L t)); omega
theorem posW_le {b : Nat → Int} {L : Nat} : ∀ t, (∀ j, j < t → posW b L j < L ∧ wOk b L (posW b L j)) → posW b L t ≤ L := by
  intro t h
  cases t with
  | zero => exact skp_le (by omega)
  | succ t => exact skp_le (wEnd_le (h t (by omega)).1 (h t (by omega)).2)
/-- all words are cut -/
def rLex (b : Nat → Int) (L T m : Nat) (nm : Nat → List Int) (σ : MS) : Prop := (∀ t, t < T → posW b L t < L ∧ wOk b L (posW b L t)) ∧ ¬ (posW b L T < L ∧ wOk b L (posW b L T)) ∧ rsrc b L σ ∧ σ.1 10 = J (T + 1 : Nat) ∧ rnam m nm σ ∧ m ≤ T ∧ (∀ j, j < T → σ.2 8 j = J (posW b L j) ∧ rTk b L m nm (σ.2 7 j) (σ.2 9 j) (posW b L j)) ∧ σ.2 8 T = J (posW b L T) ∧ σ.2 7 T = J (if posW b L T < L then 6 else 0) ∧ σ.2 9 T = J 0
theorem rLex_end {b : Nat → Int} {L T m : Nat} {nm : Nat → List Int} {σ : MS} {k : Int} (h : rLx b L T m nm σ) (h1 : ∀ t, t < T → posW b L t < L ∧ wOk b L (posW b L t)) (h2 : ¬ (posW b L T < L ∧ wOk b L (posW b L T))) (hk : k = if posW b L T < L then 6 else 0) : rLex b L T m nm (tokS σ T k (posW b L T) 0) := by
  obtain ⟨⟨hL, h6, h5, hb⟩, h10, hn, hm, htk⟩ := h
  have e8 : ∀ j, (tokS σ T k (posW b L T) 0).2 8 j = if j = T then J (posW b L T) else σ.2 8 j := fun j => rfl
  have e7 : ∀ j, (tokS σ T k (posW b L T) 0).2 7 j = if j = T then J k else σ.2 7 j := fun j => rfl
  have e9 : ∀ j, (tokS σ T k (posW b L T) 0).2 9 j = if j = T then J 0 else σ.2 9 j := fun j => rfl
  refine ⟨h1, h2, ⟨hL, h6, h5, hb⟩, rfl, hn, hm, fun j hj => ?_, ?_, ?_, ?_⟩
  · rw [e8, e7, e9, if_neg (by omega), if_neg (by omega), if_neg (by omega)]; exact htk j hj
  · rw [e8, if_pos rfl]
  · rw [e7, if_pos rfl, hk]
  · rw [e9, if_pos rfl]
theorem r_lex {b : Nat → Int} {L : Nat} {σ : MS} (hs : rsrc b L σ) : Ok (F_X12_lex σ) fun u => ∃ T m nm, rLex b L T m nm u.2 ∧ rlxF σ u.2 := by
  unfold F_X12_lex
  simp only [bnd]
  have hs0 := hs
  obtain ⟨hL, h6, h5, hb⟩ := hs
  refine Ok_loop (P := fun s k => ∃ (t m j : Nat) (nm : Nat → List Int) (τ : MS), s = (J j, τ) ∧ j ≤ L ∧ k = L - j ∧ skp b L j = posW b L t ∧ (∀ x, x < t → posW b L x < L ∧ wOk b L (posW b L x)) ∧ rLx b L t m nm τ ∧ rlxF σ τ) ?_ FU _ L (FU_gt (by omega)) ⟨0, 0, 0, fun _ => [], _, rfl, by omega, rfl, rfl, fun x hx => by omega, ⟨⟨hL, h6, h5, hb⟩, rfl, ⟨rfl, fun r hr => by omega, fun r s hr => by omega⟩, by omega, fun j hj => by omega⟩, ⟨fun k h1 h2 => by simp only [mI_1, if_neg h1, if_neg h2], fun k _ _ _ _ _ => rfl⟩⟩
  rintro a s k ⟨t, m, j, nm, τ, rfl, hj, rfl, hsk, hgood, hlx, hfr⟩ ih
  have hlx0 := hlx
  obtain ⟨⟨-, g6, g5, -⟩, g10, gn, gm, gt⟩ := hlx0
  have htL : t ≤ L := by
    have := posW_ge t (fun x hx => (hgood x hx).1)
    have := posW_le t hgood
    omega
  by_cases q : j < L
  · refine Ok_neg (by dsimp only; rw [g6]; simp (disch := omega) only [J_lit, J_add, J_sub, J_mul, J_neg, J_lt, J_le, J_eq, J_natN, J_nat, Int.toNat_natCast, tnl, tnc] <;> omega) ?_
    refine Ok_neg (by simp (disch := omega) only [J_lit, J_add, J_sub, J_mul, J_neg, J_lt, J_le, J_eq, J_natN, J_nat, Int.toNat_natCast, tnl, tnc] <;> omega) ?_
    have hbj := hb j q
    dsimp only
    rw [J_natN (by omega), g5 j q]
    have hskj := skp_eq (b := b) (L := L) j
    rw [if_pos q] at hskj
    have hblank : b j = 32 ∨ b j = 10 → Ok (a (J (j : Nat) + 1, τ)) fun u => ∃ T m nm, rLex b L T m nm u.2 ∧ rlxF σ u.2 := by
      intro hq
      rw [if_pos hq] at hskj
      rw [show J (j : Nat) + 1 = J (j + 1 : Nat) by rw [J_lit, J_add]; rfl]
      exact ih _ (L - (j + 1)) (by omega) ⟨t, m, j + 1, nm, τ, rfl, by omega, rfl, by rw [← hskj]; exact hsk, hgood, hlx, hfr⟩
    refine Ok_ite (fun q2 => ?_) (fun q2 => ?_)
    · simp (disch := omega) only [J_lit, J_add, J_sub, J_mul, J_neg, J_lt, J_le, J_eq, J_natN, J_nat, Int.toNat_natCast, tnl, tnc] at q2; exact hblank (Or.inl q2)
    simp (disch := omega) only [J_lit, J_add, J_sub, J_mul, J_neg, J_lt, J_le, J_eq, J_natN, J_nat, Int.toNat_natCast, tnl, tnc] at q2
    refine Ok_ite (fun q3 => ?_) (fun q3 => ?_)
    · simp (disch := omega) only [J_lit, J_add, J_sub, J_mul, J_neg, J_lt, J_le, J_eq, J_natN, J_nat, Int.toNat_natCast, tnl, tnc] at q3; exact hblank (Or.inr q3)
    simp (disch := omega) only [J_lit, J_add, J_sub, J_mul, J_neg, J_lt, J_le, J_eq, J_natN, J_nat, Int.toNat_natCast, tnl, tnc] at q3
    rw [if_neg (by omega)] at hskj
    refine Ok_ite (fun q4 => ?_) (fun q4 => ?_)
    · simp (disch := omega) only [J_lit, J_add, J_sub, J_mul, J_neg, J_lt, J_le, J_eq, J_natN, J_nat, Int.toNat_natCast, tnl, tnc] at q4
      rw [if_pos q4] at hskj
      have he0 : endF no10 b L j = endF no10 b L (j + 1) := endF_step q (by unfold no10; rw [q4]; rfl)
      have he1 := endF_ge (p := no10) (b := b) (L := L) (j + 1)
      have he2 : endF no10 b L j ≤ L := endF_le (by omega)
      refine Ok_loop (P := fun s k => ∃ i : Nat, j ≤ i ∧ i ≤ endF no10 b L j ∧ k = L - i ∧ s = (J i, τ)) ?_ FU _ (L - j) (FU_gt (by omega)) ⟨j, by omega, by omega, rfl, rfl⟩
      rintro a2 s k ⟨i, hi1, hi2, rfl, rfl⟩ ih2
      have hout : i = endF no10 b L j → Ok (a (J i, τ)) fun u => ∃ T m nm, rLex b L T m nm u.2 ∧ rlxF σ u.2 := by
        intro hi
        exact ih _ (L - i) (by omega) ⟨t, m, i, nm, τ, rfl, by omega, rfl, by rw [hi, he0, ← hskj]; exact hsk, hgood, hlx, hfr⟩
      have hend := endF_end (p := no10) (b := b) (L := L) j
      by_cases qi : i < L
      · refine Ok_neg (by dsimp only; rw [g6]; simp (disch := omega) only [J_lit, J_add, J_sub, J_mul, J_neg, J_lt, J_le, J_eq, J_natN, J_nat, Int.toNat_natCast, tnl, tnc] <;> omega) ?_
        refine Ok_neg (by simp (disch := omega) only [J_lit, J_add, J_sub, J_mul, J_neg, J_lt, J_le, J_eq, J_natN, J_nat, Int.toNat_natCast, tnl, tnc] <;> omega) ?_
        have hbi := hb i qi
        dsimp only
        rw [J_natN (by omega), g5 i qi]
        refine Ok_ite (fun q5 => ?_) (fun q5 => ?_)
        · simp (disch := omega) only [J_lit, J_add, J_sub, J_mul, J_neg, J_lt, J_le, J_eq, J_natN, J_nat, Int.toNat_natCast, tnl, tnc] at q5
          apply hout
          by_cases qe : i < endF no10 b L j
          · have := (endF_in (p := no10) (b := b) (L := L) hi1 qe).2
            unfold no10 at this; simp at this; omega
          · omega
        · simp (disch := omega) only [J_lit, J_add, J_sub, J_mul, J_neg, J_lt, J_le, J_eq, J_natN, J_nat, Int.toNat_natCast, tnl, tnc] at q5
          have qe : i ≠ endF no10 b L j := by
            intro hi; apply hend; rw [← hi]; exact ⟨qi, by unfold no10; simp; exact q5⟩
          rw [show J (i : Nat) + 1 = J (i + 1 : Nat) by rw [J_lit, J_add]; rfl]
          exact ih2 _ (L - (i + 1)) (by omega) ⟨i + 1, by omega, by omega, rfl, rfl⟩
      · refine Ok_pos (by dsimp only; rw [g6]; simp (disch := omega) only [J_lit, J_add, J_sub, J_mul, J_neg, J_lt, J_le, J_eq, J_natN, J_nat, Int.toNat_natCast, tnl, tnc] <;> omega) ?_
        exact hout (by omega)
    · simp (disch := omega) only [J_lit, J_add, J_sub, J_mul, J_neg, J_lt, J_le, J_eq, J_natN, J_nat, Int.toNat_natCast, tnl, tnc] at q4
      rw [if_neg q4] at hskj
      have hpj : posW b L t = j := by rw [← hsk, hskj]
      have hn := r_next hlx (by omega) (by omega)
      rw [hpj] at hn
      obtain ⟨n1, n2, n3, n4⟩ := hn
      rw [r_small (by omega), Option.bind_some]
      have hgo : ∀ u : Int32 × MS, rNx b L t τ u → Ok (if 0 ≤ u.1 then a (u.1, u.2) else (F_X12_token 6 (J j) 0 u.2).bind fun u_62 => some (0, u_62.2)) fun u => ∃ T m nm, rLex b L T m nm u.2 ∧ rlxF σ u.2 := by
        rintro u ⟨y1, y2⟩
        rw [hpj] at y1 y2
        by_cases qk : wOk b L j
        · obtain ⟨z1, m', nm', z2, z3⟩ := y1 qk
          have := wEnd_gt (b := b) q
          have := wEnd_le q qk
          refine Ok_pos (by rw [z1, show (0 : Int32) = J 0 from rfl, J_le (by omega) (by omega) (by omega) (by omega)]; omega) ?_
          rw [z1]
          refine ih _ (L - wEnd b L j) (by omega) ⟨t + 1, m', wEnd b L j, nm', u.2, rfl, by omega, rfl, by show _ = skp b L (wEnd b L (posW b L t)); rw [hpj], fun x hx => ?_, z2, rlxF_trans hfr z3⟩
          by_cases qx : x = t
          · rw [qx, hpj]; exact ⟨q, qk⟩
          · exact hgood x (by omega)
        · rw [y2 qk]
          refine Ok_neg (by dsimp only; rw [show (0 : Int32) = J 0 from rfl, J_le (by omega) (by omega) (by omega) (by omega)]; omega) ?_
          dsimp only
          rw [show (6 : Int32) = J 6 from rfl, show (0 : Int32) = J 0 from rfl, rtok _ _ _ g10 (by omega)]
          refine Ok_some ⟨t, m, nm, ?_, ?_⟩
          · have := rLex_end (k := 6) hlx hgood (by rw [hpj]; exact fun h => qk h.2) (by rw [hpj, if_pos q])
            rw [hpj] at this; exact this
          · exact rlxF_tok hfr
      by_cases w1 : isLt (b j) = true
      · rw [if_pos w1]
        refine Ok_neg J1_ne (Ok_bind (Ok_mono (n1 w1) hgo))
      · rw [if_neg w1]
        refine Ok_pos J0_eq ?_
        dsimp only
        rw [r_figure (by omega), Option.bind_some]
        by_cases w2 : isFg (b j) = true
        · rw [if_pos w2]
          exact Ok_neg J1_ne (Ok_bind (Ok_mono (n2 w1 w2) hgo))
        · rw [if_neg w2]
          refine Ok_pos J0_eq ?_
          by_cases w3 : b j = 34
          · refine Ok_pos (by simp (disch := omega) only [J_lit, J_add, J_sub, J_mul, J_neg, J_lt, J_le, J_eq, J_natN, J_nat, Int.toNat_natCast, tnl, tnc] <;> omega) (Ok_bind (Ok_mono (n3 w1 w2 w3) hgo))
          · refine Ok_neg (by simp (disch := omega) only [J_lit, J_add, J_sub, J_mul, J_neg, J_lt, J_le, J_eq, J_natN, J_nat, Int.toNat_natCast, tnl, tnc] <;> omega) (Ok_bind (Ok_mono (n4 w1 w2 w3) hgo))
  · have hjL : j = L := by omega
    subst hjL
    refine Ok_pos (by dsimp only; rw [g6]; exact Int32.le_refl _) ?_
    dsimp only
    have hpj : posW b j t = j := by rw [← hsk, skp_eq, if_neg (by omega)]
    rw [g6, show (0 : Int32) = J 0 from rfl, rtok _ _ _ g10 (by omega)]
    refine Ok_some ⟨t, m, nm, ?_, rlxF_tok hfr⟩
    have := rLex_end (k := 0) hlx hgood (by omega) (by rw [if_neg (by omega)])
    rw [hpj] at this; exact this
