/-! the class's cutting -/
theorem c_skip {b : Nat → Int} {L i : Nat} {Γ : HS} (h : csrc b L Γ) (hi : i ≤ L) : Ok (F_X10_skip (J i) Γ) fun u => u = (J (skp b L i), Γ) := by
  obtain ⟨hL, h1, h0, hb⟩ := h
  unfold F_X10_skip
  have e0 : (if (0 : Int32) < J (i : Int) then J (i : Int) else 0) = J (i : Int) := by
    by_cases q : i = 0
    · subst q; rfl
    · rw [if_pos (by rw [show (0 : Int32) = J 0 from rfl, J_lt (by omega) (by omega) (by omega) (by omega)]; omega)]
  refine Ok_bnd ?_
  rw [e0]
  simp only [bnd]
  refine Ok_loop (P := fun s k => ∃ (f : Int) (j : Nat), j ≤ L ∧ k = L - j ∧ s = (J f, J j, Γ) ∧ ((f = 0 ∧ skp b L j = skp b L i) ∨ (f = 1 ∧ skp b L (endF no10 b L j) = skp b L i))) ?_ FU _ (L - i) (FU_gt (by omega)) ⟨0, i, hi, rfl, rfl, Or.inl ⟨rfl, rfl⟩⟩
  rintro a s k ⟨f, j, hj, rfl, rfl, hf⟩ ih
  by_cases q : j < L
  · have hbj := hb j q
    refine Ok_neg (by dsimp only; rw [h1]; simp (disch := omega) only [J_lit, J_add, J_sub, J_mul, J_neg, J_lt, J_le, J_eq, J_natN, J_nat, Int.toNat_natCast, tnl, tnc] <;> omega) ?_
    refine Ok_neg (by simp (disch := omega) only [J_lit, J_add, J_sub, J_mul, J_neg, J_lt, J_le, J_eq, J_natN, J_nat, Int.toNat_natCast, tnl, tnc] <;> omega) ?_
    refine Ok_neg (by simp (disch := omega) only [J_lit, J_add, J_sub, J_mul, J_neg, J_lt, J_le, J_eq, J_natN, J_nat, Int.toNat_natCast, tnl, tnc] <;> omega) ?_
    dsimp only
    rw [J_natN (by omega), h0 j q]
    have hskj := skp_eq (b := b) (L := L) j
    rw [if_pos q] at hskj
    have hgo : ∀ f' : Int, ((f' = 0 ∧ skp b L (j + 1) = skp b L i) ∨ (f' = 1 ∧ skp b L (endF no10 b L (j + 1)) = skp b L i)) → Ok (a (J f', J (j : Nat) + 1, Γ)) fun u => u = (J (skp b L i), Γ) := by
      intro f' hf'
      rw [show J (j : Nat) + 1 = J (j + 1 : Nat) by rw [J_lit, J_add]; rfl]
      exact ih _ (L - (j + 1)) (by omega) ⟨f', j + 1, by omega, rfl, rfl, hf'⟩
    have hno : b j ≠ 10 → endF no10 b L j = endF no10 b L (j + 1) := fun hne => endF_step q (by unfold no10; simp; exact hne)
    have hyes : b j = 10 → endF no10 b L j = j := fun he => endF_stop (fun h => by rw [he] at h; exact absurd h.2 (by decide))
    refine Ok_ite (fun q2 => ?_) (fun q2 => ?_)
    · simp (disch := omega) only [J_lit, J_add, J_sub, J_mul, J_neg, J_lt, J_le, J_eq, J_natN, J_nat, Int.toNat_natCast, tnl, tnc] at q2
      rw [if_pos (Or.inr q2)] at hskj
      refine hgo 0 (Or.inl ⟨rfl, ?_⟩)
      rcases hf with ⟨_, h2⟩ | ⟨_, h2⟩
      · rw [← hskj]; exact h2
      · rw [hyes q2, hskj] at h2; exact h2
    simp (disch := omega) only [J_lit, J_add, J_sub, J_mul, J_neg, J_lt, J_le, J_eq, J_natN, J_nat, Int.toNat_natCast, tnl, tnc] at q2
    refine Ok_ite (fun q3 => ?_) (fun q3 => ?_)
    · simp (disch := omega) only [J_lit, J_add, J_sub, J_mul, J_neg, J_lt, J_le, J_eq, J_natN, J_nat, Int.toNat_natCast, tnl, tnc] at q3
      rw [if_neg (by omega), if_pos q3] at hskj
      refine hgo 1 (Or.inr ⟨rfl, ?_⟩)
      rcases hf with ⟨_, h2⟩ | ⟨_, h2⟩
      · rw [← hskj]; exact h2
      · rw [hno q2] at h2; exact h2
    simp (disch := omega) only [J_lit, J_add, J_sub, J_mul, J_neg, J_lt, J_le, J_eq, J_natN, J_nat, Int.toNat_natCast, tnl, tnc] at q3
    refine Ok_ite (fun q4 => ?_) (fun q4 => ?_)
    · simp (disch := omega) only [J_lit, J_add, J_sub, J_mul, J_neg, J_lt, J_le, J_eq, J_natN, J_nat, Int.toNat_natCast, tnl, tnc] at q4
      rw [if_pos (Or.inl q4)] at hskj
      refine hgo f ?_
      rcases hf with ⟨hf0, h2⟩ | ⟨hf0, h2⟩
      · exact Or.inl ⟨hf0, by rw [← hskj]; exact h2⟩
      · exact Or.inr ⟨hf0, by rw [← hno q2]; exact h2⟩
    simp (disch := omega) only [J_lit, J_add, J_sub, J_mul, J_neg, J_lt, J_le, J_eq, J_natN, J_nat, Int.toNat_natCast, tnl, tnc] at q4
    rw [if_neg (by omega), if_neg (by omega)] at hskj
    rcases hf with ⟨rfl, h2⟩ | ⟨rfl, h2⟩
    · refine Ok_pos J0_eq (Ok_some ?_)
      rw [← h2, hskj]
    · refine Ok_neg J1_ne ?_
      exact hgo 1 (Or.inr ⟨rfl, by rw [← hno q2]; exact h2⟩)
  · have hjL : j = L := by omega
    subst hjL
    refine Ok_pos (by dsimp only; rw [h1]; exact Int32.le_refl _) (Ok_some ?_)
    dsimp only
    rw [h1]
    have e1 : skp b j j = j := by rw [skp_eq, if_neg (by omega)]
    rcases hf with ⟨rfl, h2⟩ | ⟨rfl, h2⟩
    · rw [← h2, e1]
    · rw [endF_stop (by omega), e1] at h2; rw [← h2]
theorem c_word {b : Nat → Int} {L t : Nat} {cl : List Int} {Γ : HS} (h : cLx b L t cl Γ) (htn : t < 4200) (hi : posW b L t < L) : Ok (F_X10_word (J (posW b L t)) Γ) (cNx b L t cl Γ) := by
  have hs := h.1
  have hL := hs.1
  have hb := hs.2.2.2 _ hi
  have hby : byt b L (posW b L t) = b (posW b L t) := if_pos hi
  unfold F_X10_word
  rw [c_signAt hs (by omega), Option.bind_some, hby, c_isLetter (by omega), Option.bind_some]
  have heta : ∀ {m : HR}, Ok m (cNx b L t cl Γ) → Ok (m.bind fun u => some (u.1, u.2)) (cNx b L t cl Γ) := by
    intro m hm
    exact Ok_bind (Ok_mono hm (fun r hr => Ok_some hr))
  by_cases w1 : isLt (b (posW b L t)) = true
  · rw [if_pos w1]
    exact Ok_neg J1_ne (heta (c_name h htn hi w1))
  · rw [if_neg w1]
    refine Ok_pos J0_eq ?_
    rw [c_isFigure (by omega), Option.bind_some]
    by_cases w2 : isFg (b (posW b L t)) = true
    · rw [if_pos w2]
      exact Ok_neg J1_ne (heta (c_number h (by omega) hi w1 w2))
    · rw [if_neg w2]
      refine Ok_pos J0_eq ?_
      by_cases w3 : b (posW b L t) = 34
      · exact Ok_pos (by simp (disch := omega) only [J_lit, J_add, J_sub, J_mul, J_neg, J_lt, J_le, J_eq, J_natN, J_nat, Int.toNat_natCast, tnl, tnc] <;> omega) (heta (c_string h (by omega) hi w3))
      · exact Ok_neg (by simp (disch := omega) only [J_lit, J_add, J_sub, J_mul, J_neg, J_lt, J_le, J_eq, J_natN, J_nat, Int.toNat_natCast, tnl, tnc] <;> omega) (heta (c_sign h (by omega) hi w1 w2 w3))
/-- all words are cut, in the class -/
def cLex (b : Nat → Int) (L T : Nat) (cl : List Int) (Γ : HS) : Prop := (∀ t, t < T → posW b L t < L ∧ wOk b L (posW b L t)) ∧ ¬ (posW b L T < L ∧ wOk b L (posW b L T)) ∧ csrc b L Γ ∧ (Γ 1).1 2 = J (if posW b L T < L then T + 2 else T + 1 : Nat) ∧ cnam cl Γ ∧ 67 ≤ cl.length ∧ cl.length ≤ 67 + T ∧ (∀ c, c < 67 → cl.getD c 0 = pk (KWC.getD c [])) ∧ (∀ j, j < T → cTk b L cl ((Γ 1).2.1 3 j) ((Γ 1).2.1 4 j) ((Γ 1).2.1 5 j) ((Γ 1).2.1 6 j) ((Γ 1).2.1 7 j) (posW b L j) (strN b L j))
  ∧ (Γ 1).2.1 3 T = J (if posW b L T < L then 1 else 0) ∧ (Γ 1).2.1 4 T = J (posW b L T) ∧ (Γ 1).2.1 5 T = J 0 ∧ (Γ 1).2.1 6 T = J 0 ∧ (Γ 1).2.1 7 T = J 0 ∧ (posW b L T < L → (Γ 1).2.1 3 (T + 1) = J 0 ∧ (Γ 1).2.1 4 (T + 1) = J L ∧ (Γ 1).2.1 5 (T + 1) = J 0 ∧ (Γ 1).2.1 6 (T + 1) = J 0 ∧ (Γ 1).2.1 7 (T + 1) = J 0)
theorem ctS_I {Γ : HS} {t : Nat} {k p v : Int} (j : Nat) : (ctS Γ t k p v 1).1 j = if j = 2 then J (t + 1 : Nat) else (Γ 1).1 j := rfl
theorem ctS_A {Γ : HS} {t : Nat} {k p v : Int} (j : Nat) : (ctS Γ t k p v 1).2.1 j = if j = 7 then upd ((Γ 1).2.1 7) t 0 else if j = 6 then upd ((Γ 1).2.1 6) t 0 else if j = 5 then upd ((Γ 1).2.1 5) t (J v) else if j = 4 then upd ((Γ 1).2.1 4) t (J p) else if j = 3 then upd ((Γ 1).2.1 3) t (J k) else (Γ 1).2.1 j := rfl
theorem cLex_end {b : Nat → Int} {L T : Nat} {cl : List Int} {Θ : HS} (h : cLx b L T cl Θ) (hg : ∀ t, t < T → posW b L t < L ∧ wOk b L (posW b L t)) (he : posW b L T = L) : cLex b L T cl (ctS Θ T 0 L 0) := by
  obtain ⟨hs, h2, h11, hcn, hl1, hl2, hl3, htk⟩ := h
  refine ⟨hg, by omega, ⟨hs.1, hs.2.1, hs.2.2.1, hs.2.2.2⟩, by rw [if_neg (by omega)]; rfl, cnam_congr hcn rfl rfl rfl, hl1, hl2, hl3, fun j hj => ?_, ?_, ?_, ?_, ?_, ?_, fun h => by omega⟩
  · simp [ctS_A, upd_s, show ¬ j = T by omega]; exact htk j hj
  · rw [if_neg (by omega)]; simp [ctS_A, upd_s]
  · rw [he]; simp [ctS_A, upd_s]
  · simp [ctS_A, upd_s]
  · simp [ctS_A, upd_s]; rfl
  · simp [ctS_A, upd_s]; rfl
theorem cLex_bad {b : Nat → Int} {L T : Nat} {cl : List Int} {Θ : HS} (h : cLx b L T cl Θ) (hg : ∀ t, t < T → posW b L t < L ∧ wOk b L (posW b L t)) (he : posW b L T < L) (hk : ¬ wOk b L (posW b L T)) : cLex b L T cl (ctS (ctS Θ T 1 (posW b L T) 0) (T + 1) 0 L 0) := by
  obtain ⟨hs, h2, h11, hcn, hl1, hl2, hl3, htk⟩ := h
  refine ⟨hg, fun h => hk h.2, ⟨hs.1, hs.2.1, hs.2.2.1, hs.2.2.2⟩, by rw [if_pos he]; rfl, cnam_congr hcn rfl rfl rfl, hl1, hl2, hl3, fun j hj => ?_, ?_, ?_, ?_, ?_, ?_, fun h => ?_⟩
  · simp [ctS_A, upd_s, show ¬ j = T by omega, show ¬ j = T + 1 by omega]; exact htk j hj
  · rw [if_pos he]; simp [ctS_A, upd_s]
  · simp [ctS_A, upd_s]
  · simp [ctS_A, upd_s]
  · simp [ctS_A, upd_s]; rfl
  · simp [ctS_A, upd_s]; rfl
  · simp [ctS_A, upd_s]; exact rfl
theorem mrg1 {Γ Δ : HS} (h : oth1 Γ Δ) : mrg (fun j => j == 1) Γ Δ = Δ := by
  funext r
  rw [mrg_r]
  by_cases q : r = 1
  · subst q; rfl
  · rw [show (r == 1) = false by simp [q], cond_false, h r q]
theorem c_cut {b : Nat → Int} {L : Nat} {Γ : HS} (hL : L ≤ 4096) (h13 : ∀ i, i < L → (Γ 13).2.1 0 i = J (b i)) (hb : ∀ i, i < L → b i = 10 ∨ (32 ≤ b i ∧ b i ≤ 126)) : Ok (F_X10_cut (J L) Γ) fun u => ∃ T cl, cLex b L T cl u.2 ∧ oth1 Γ u.2 := by
  unfold F_X10_cut
  refine Ok_bnd (Ok_bnd (Ok_bnd ?_))
  rw [show (if (16000 : Nat) < 16000 then (16000 : Int32) else 16000) = 16000 from rfl, if_neg (show ¬ ((16000 : Int32) < J (L : Int)) by rw [show (16000 : Int32) = J 16000 from rfl, J_lt (by omega) (by omega) (by omega) (by omega)]; omega)]
  have e0 : (if (0 : Int32) < J (L : Int) then J (L : Int) else 0) = J (L : Int) := by
    by_cases q : L = 0
    · subst q; rfl
    · rw [if_pos (by rw [show (0 : Int32) = J 0 from rfl, J_lt (by omega) (by omega) (by omega) (by omega)]; omega)]
  rw [e0]
  refine Ok_bnd (Ok_bnd ?_)
  have e1 : ((cI' Γ 1 1 (J (L : Int))) 1).1 1 = J L := rfl
  rw [e1]
  refine Ok_neg ?_ ?_
  · rw [J_natN (by omega), show ((0 : Int32).toNatClampNeg) = 0 from rfl]
    rintro (h | h | h | h | h | h)
    · exact absurd h (by decide)
    · exact absurd h (by decide)
    · exact J_nlt0 (by omega) (by omega) h
    · omega
    · omega
    · refine h (fun z hz => ?_)
      rw [show 0 + z = z by omega]
      show vp_nar .byte ((Γ 13).2.1 0 z) = (Γ 13).2.1 0 z
      rw [h13 z hz]
      have := hb z hz
      exact J_byte (by omega) (by omega)
  rw [J_natN (by omega), show ((0 : Int32).toNatClampNeg) = 0 from rfl]
  refine Ok_bnd (Ok_bnd (Ok_bnd (Ok_bnd (Ok_bnd ?_))))
  -- the state ahead of the lists
  have hΔ : ∀ f g : Nat → Int32, (∀ i, i < L → f i = J (b i)) → (∀ i, i < 8192 → g i = J 0) → csrc b L (cA' (cI' (cI' (cI' (cA' (cI' Γ 1 1 (J (L : Int))) 1 0 f) 1 2 0) 1 11 0) 1 10 0) 1 9 g) ∧ cnam [] (cA' (cI' (cI' (cI' (cA' (cI' Γ 1 1 (J (L : Int))) 1 0 f) 1 2 0) 1 11 0) 1 10 0) 1 9 g) ∧ oth1 Γ (cA' (cI' (cI' (cI' (cA' (cI' Γ 1 1 (J (L : Int))) 1 0 f) 1 2 0) 1 11 0) 1 10 0) 1 9 g) ∧ ((cA' (cI' (cI' (cI' (cA' (cI' Γ 1 1 (J (L : Int))) 1 0 f) 1 2 0) 1 11 0) 1 10 0) 1 9 g) 1).1 2 = J 0 ∧ ((cA' (cI' (cI' (cI' (cA' (cI' Γ 1 1 (J (L : Int))) 1 0 f) 1 2 0) 1 11 0) 1 10 0) 1 9 g) 1).1 11 = J 0 := by
    intro f g hf hg
    refine ⟨⟨hL, rfl, hf, hb⟩, ⟨rfl, fun c hc => absurd hc (Nat.not_lt_zero c), fun c e hc => absurd hc (Nat.not_lt_zero c), fun i hi => ⟨0, hg i hi, Nat.le_refl _⟩, fun i j hi hj _ hne => absurd (hg i hi) hne, fun c hc => absurd hc (Nat.not_lt_zero c)⟩, fun r hr => ?_, rfl, rfl⟩
    simp only [cA_r, cI_r, if_neg hr]
  have hD := hΔ (va_cpy (((cI' Γ 1 1 (J (L : Int))) 13).2.1 0) (((cI' Γ 1 1 (J (L : Int))) 1).2.1 0) 0 0 L) (g_fill 8192 (((cI' (cI' (cI' (cA' (cI' Γ 1 1 (J (L : Int))) 1 0 (va_cpy (((cI' Γ 1 1 (J (L : Int))) 13).2.1 0) (((cI' Γ 1 1 (J (L : Int))) 1).2.1 0) 0 0 L)) 1 2 0) 1 11 0) 1 10 0) 1).2.1 9) 0) (fun i hi => by
      unfold va_cpy; rw [if_pos (by omega), show 0 + (i - 0) = i by omega]
      exact h13 i hi) (fun i hi => by unfold g_fill; rw [if_pos hi]; rfl)
  clear hΔ
  revert hD
  generalize cA' (cI' (cI' (cI' (cA' (cI' Γ 1 1 (J (L : Int))) 1 0 (va_cpy (((cI' Γ 1 1 (J (L : Int))) 13).2.1 0) (((cI' Γ 1 1 (J (L : Int))) 1).2.1 0) 0 0 L)) 1 2 0) 1 11 0) 1 10 0) 1 9 (g_fill 8192 (((cI' (cI' (cI' (cA' (cI' Γ 1 1 (J (L : Int))) 1 0 (va_cpy (((cI' Γ 1 1 (J (L : Int))) 13).2.1 0) (((cI' Γ 1 1 (J (L : Int))) 1).2.1 0) 0 0 L)) 1 2 0) 1 11 0) 1 10 0) 1).2.1 9) 0) = Δ
  rintro ⟨d1, d2, d3, d4, d5⟩
  have hlearn : ∀ {S : List Int32} {W : List (List Int)} {s : List Nat} {cl : List Int} {Θ : HS} {f : HS → HR} {Q : Int32 × HS → Prop}, lstOk S W s → csrc b L Θ → cnam cl Θ → cl.length < 1000 → oth1 Γ Θ → (Θ 1).1 2 = J 0 → (Θ 1).1 11 = J 0 → (∀ Ξ, csrc b L Ξ → cnam (lrnF cl (W.map pk)) Ξ → oth1 Γ Ξ → (Ξ 1).1 2 = J 0 → (Ξ 1).1 11 = J 0 → Ok (f Ξ) Q) → Ok ((F_X10_learn S Θ).bind fun u => bnd (mrg (fun j => j == 1) Θ u.2) f) Q := by
    intro S W s cl Θ f Q hS hc hn hl ho h2 h11 hf
    refine Ok_bind (Ok_mono (c_learn hS hn hl) ?_)
    rintro u ⟨y1, y2, y3, y4⟩
    refine Ok_bnd ?_
    rw [mrg1 (fun r hr => y2 r hr)]
    refine hf u.2 ⟨hc.1, by rw [y3 1 (by omega)]; exact hc.2.1, fun i hi => by rw [y4 0 (by omega)]; exact hc.2.2.1 i hi, hc.2.2.2⟩ y1 (fun r hr => by rw [y2 r hr, ho r hr]) (by rw [y3 2 (by omega)]; exact h2) (by rw [y3 11 (by omega)]; exact h11)
  have len1 : (lrnF [] (KS1w.map pk)).length < 1000 := by decide +kernel
  have len2 : (lrnF (lrnF [] (KS1w.map pk)) (KS2w.map pk)).length < 1000 := by decide +kernel
  have len3 : (lrnF (lrnF (lrnF [] (KS1w.map pk)) (KS2w.map pk)) (KS3w.map pk)).length < 1000 := by decide +kernel
  have len4 : (lrnF (lrnF (lrnF (lrnF [] (KS1w.map pk)) (KS2w.map pk)) (KS3w.map pk)) (KS4w.map pk)).length < 1000 := by decide +kernel
  refine hlearn KS1_ok d1 d2 (by decide) d3 d4 d5 ?_
  clear d1 d2 d3 d4 d5
  intro Δ d1 d2 d3 d4 d5
  refine hlearn KS2_ok d1 d2 len1 d3 d4 d5 ?_
  clear d1 d2 d3 d4 d5
  intro Δ d1 d2 d3 d4 d5
  refine hlearn KS3_ok d1 d2 len2 d3 d4 d5 ?_
  clear d1 d2 d3 d4 d5
  intro Δ d1 d2 d3 d4 d5
  refine hlearn KS4_ok d1 d2 len3 d3 d4 d5 ?_
  clear d1 d2 d3 d4 d5
  intro Δ d1 d2 d3 d4 d5
  refine hlearn KS5_ok d1 d2 len4 d3 d4 d5 ?_
  clear d1 d2 d3 d4 d5
  intro Δ d1 d2 d3 d4 d5
  rw [KWC_all] at d2
  clear hlearn len1 len2 len3 len4
  refine Ok_bind (Ok_mono (c_skip (i := 0) d1 (by omega)) ?_)
  rintro u rfl
  refine Ok_bnd ?_
  rw [mrg1 (fun _ _ => rfl)]
  simp only [bnd]
  have hkwc : (KWC.map pk).length = 67 := by decide
  have hget : ∀ c, c < 67 → (KWC.map pk).getD c 0 = pk (KWC.getD c []) := by
    intro c hc
    have : c < KWC.length := by rw [List.length_map] at hkwc; omega
    rw [List.getD_eq_getElem?_getD, List.getElem?_map, List.getElem?_eq_getElem this, List.getD_eq_getElem?_getD, List.getElem?_eq_getElem this]; rfl
  refine Ok_loop (P := fun s k => ∃ (t : Nat) (cl : List Int) (Θ : HS), (∀ x, x < t → posW b L x < L ∧ wOk b L (posW b L x)) ∧ oth1 Γ Θ ∧ cLx b L t cl Θ ∧ ((s = (J (posW b L t), J t, Θ) ∧ k = L - posW b L t) ∨ (s = (J L, J (t + 1 : Nat), ctS Θ t 1 (posW b L t) 0) ∧ k = 0 ∧ posW b L t < L ∧ ¬ wOk b L (posW b L t)))) ?_ FU _ (L - posW b L 0) (FU_gt (by omega)) ⟨0, KWC.map pk, Δ, fun x hx => by omega, d3, ⟨d1, d4, d5, d2, by omega, by omega, hget, fun j hj => by omega⟩, Or.inl ⟨rfl, rfl⟩⟩
  rintro a s k ⟨t, cl, Θ, hgood, hoth, hlx, hcase⟩ ih
  have hlx0 := hlx
  obtain ⟨hs, h2, h11, hcn, hl1, hl2, hl3, htk⟩ := hlx0
  have htL : t ≤ posW b L t := posW_ge t (fun x hx => (hgood x hx).1)
  have hpL : posW b L t ≤ L := posW_le t hgood
  have hend : ∀ (Ξ : HS) (T : Nat), (Ξ 1).1 1 = J L → (Ξ 1).1 2 = J T → T < 5000 → Ok ((F_X10_add 0 ((Ξ 1).1 1) 0 Ξ).bind fun u_60 => some ((0 : Int32), mrg (fun j => j == 1) Ξ u_60.2)) fun u => u = (J 0, ctS Ξ T 0 L 0) := by
    intro Ξ T x1 x2 x3
    rw [x1, show (0 : Int32) = J 0 from rfl, c_add _ _ _ x2 (by omega), Option.bind_some]
    dsimp only
    rw [mrg1 (oth1_ctS (fun _ _ => rfl))]
    exact Ok_some rfl
  rcases hcase with ⟨rfl, rfl⟩ | ⟨rfl, rfl, qb, qk⟩
  rotate_left
  · have hfin : Ok ((F_X10_add 0 (((ctS Θ t 1 (posW b L t) 0) 1).1 1) 0 (ctS Θ t 1 (posW b L t) 0)).bind fun u_60 => some ((0 : Int32), mrg (fun j => j == 1) (ctS Θ t 1 (posW b L t) 0) u_60.2)) fun u => ∃ T cl, cLex b L T cl u.2 ∧ oth1 Γ u.2 := by
      refine Ok_mono (hend (ctS Θ t 1 (posW b L t) 0) (t + 1) hs.2.1 rfl (by omega)) ?_
      rintro u rfl
      exact ⟨t, cl, cLex_bad hlx hgood qb qk, oth1_ctS (oth1_ctS hoth)⟩
    refine Ok_ite (fun _ => hfin) (fun _ => ?_)
    refine Ok_pos (by show ((ctS Θ t 1 (posW b L t) 0) 1).1 1 ≤ J L; rw [show ((ctS Θ t 1 (posW b L t) 0) 1).1 1 = (Θ 1).1 1 from rfl, hs.2.1]; exact Int32.le_refl _) hfin
  by_cases q : posW b L t < L
  · have hw := c_word hlx (by omega) q
    refine Ok_neg (by dsimp only; rw [hs.2.1]; simp (disch := omega) only [J_lit, J_add, J_sub, J_mul, J_neg, J_lt, J_le, J_eq, J_natN, J_nat, Int.toNat_natCast, tnl, tnc] <;> omega) ?_
    refine Ok_neg (by dsimp only; rw [hs.2.1]; simp (disch := omega) only [J_lit, J_add, J_sub, J_mul, J_neg, J_lt, J_le, J_eq, J_natN, J_nat, Int.toNat_natCast, tnl, tnc] <;> omega) ?_
    refine Ok_bind (Ok_mono hw ?_)
    rintro u ⟨y1, y2⟩
    by_cases qk : wOk b L (posW b L t)
    · obtain ⟨z1, cl', z2, z3⟩ := y1 qk
      rw [mrg1 z3, z1]
      have hwl := wEnd_le q qk
      have hwg := wEnd_gt (b := b) q
      refine Ok_bind (Ok_mono (c_skip z2.1 hwl) ?_)
      rintro v rfl
      dsimp only
      rw [mrg1 (fun _ _ => rfl), show J (t : Nat) + 1 = J (t + 1 : Nat) by rw [J_lit, J_add]; rfl]
      have hge := skp_ge (b := b) (L := L) (wEnd b L (posW b L t))
      refine ih _ (L - posW b L (t + 1)) (by show L - skp b L (wEnd b L (posW b L t)) < _; omega) ⟨t + 1, cl', u.2, fun x hx => ?_, fun r hr => by rw [z3 r hr, hoth r hr], z2, Or.inl ⟨rfl, rfl⟩⟩
      by_cases qx : x = t
      · rw [qx]; exact ⟨q, qk⟩
      · exact hgood x (by omega)
    · rw [y2 qk]
      have hb1 : csrc b L (ctS Θ t 1 (posW b L t) 0) := ⟨hs.1, hs.2.1, hs.2.2.1, hs.2.2.2⟩
      dsimp only
      rw [mrg1 (oth1_ctS (fun _ _ => rfl))]
      refine Ok_bind (Ok_mono (c_skip hb1 (Nat.le_refl _)) ?_)
      rintro v rfl
      dsimp only
      rw [mrg1 (fun _ _ => rfl), show J (t : Nat) + 1 = J (t + 1 : Nat) by rw [J_lit, J_add]; rfl, show skp b L L = L by rw [skp_eq, if_neg (by omega)]]
      exact ih _ 0 (by omega) ⟨t, cl, Θ, hgood, hoth, hlx, Or.inr ⟨rfl, rfl, q, qk⟩⟩
  · have hpe : posW b L t = L := by omega
    have hfin : Ok ((F_X10_add 0 ((Θ 1).1 1) 0 Θ).bind fun u_60 => some ((0 : Int32), mrg (fun j => j == 1) Θ u_60.2)) fun u => ∃ T cl, cLex b L T cl u.2 ∧ oth1 Γ u.2 := by
      refine Ok_mono (hend Θ t hs.2.1 h2 (by omega)) ?_
      rintro u rfl
      exact ⟨t, cl, cLex_end hlx hgood hpe, oth1_ctS hoth⟩
    refine Ok_ite (fun _ => hfin) (fun _ => ?_)
    refine Ok_pos (by dsimp only; rw [hs.2.1, hpe]; exact Int32.le_refl _) hfin
