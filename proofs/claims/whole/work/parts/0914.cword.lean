/-! the class's words: texts, signs, names -/
theorem c_string {b : Nat → Int} {L t : Nat} {cl : List Int} {Γ : HS} (h : cLx b L t cl Γ) (htn : t < 8000) (hi : posW b L t < L) (w3 : b (posW b L t) = 34) : Ok (F_X10_string (J (posW b L t)) Γ) (cNx b L t cl Γ) := by
  have w1 : ¬ isLt (b (posW b L t)) = true := by rw [w3]; decide
  have w2 : ¬ isFg (b (posW b L t)) = true := by rw [w3]; decide
  have hbad := c_bad h htn
  have hh := h
  obtain ⟨hs, h2, h11, -⟩ := h
  have hs0 := hs
  obtain ⟨hL, h1, h0, hb⟩ := hs
  have hew : wEnd b L (posW b L t) = endF inStr b L (posW b L t + 1) + 1 := by unfold wEnd; rw [if_neg w1, if_neg w2, if_pos w3]
  have e1 : J (strN b L t : Nat) + 1 = J (strN b L (t + 1) : Nat) := by rw [J_lit, J_add, strN_yes w3]; rfl
  have hq : strN b L t ≤ t := strN_le t
  have hok : cLx b L (t + 1) cl (ctS (cI' Γ 1 11 (J (strN b L (t + 1) : Nat))) t 4 (posW b L t) (strN b L t)) := by
    refine cLx_tok hh (fun k _ h11 => ?_) rfl (fun _ _ => rfl) (cnam_congr hh.2.2.2.1 rfl rfl rfl) (Nat.le_refl _) (by omega) (fun _ _ => rfl) ⟨rfl, rfl, rfl, by rw [if_neg w1, if_neg w2, if_pos w3]; exact ⟨rfl, rfl⟩⟩
    simp only [cI_r, if_true, upd_s, if_neg h11]
  have hoth : oth1 Γ (ctS (cI' Γ 1 11 (J (strN b L (t + 1) : Nat))) t 4 (posW b L t) (strN b L t)) := oth1_ctS (fun r hr => by simp only [cI_r, if_neg hr])
  unfold cNx wOk
  rw [if_neg w1, if_neg w2, if_pos w3, hew]
  unfold F_X10_string
  simp only [bnd]
  have hle : endF inStr b L (posW b L t + 1) ≤ L := endF_le (by omega)
  have hge := endF_ge (p := inStr) (b := b) (L := L) (posW b L t + 1)
  have hin : ∀ j, posW b L t + 1 ≤ j → j < endF inStr b L (posW b L t + 1) → j < L ∧ inStr (b j) = true := fun j a c => endF_in a c
  have hend := endF_end (p := inStr) (b := b) (L := L) (posW b L t + 1)
  generalize hp : posW b L t = i at *
  generalize he : endF inStr b L (i + 1) = e at *
  rw [show J (i : Nat) + 1 = J (i + 1 : Nat) by rw [J_lit, J_add]; rfl]
  refine Ok_loop (P := fun s k => ∃ j : Nat, i + 1 ≤ j ∧ j ≤ e ∧ j - i ≤ 201 ∧ k = e - j ∧ s = (J j, Γ)) ?_ FU _ (e - (i + 1)) (FU_gt (by omega)) ⟨i + 1, by omega, by omega, by omega, rfl, rfl⟩
  rintro a s k ⟨j, g1, g2, g3, rfl, rfl⟩ ih
  by_cases q : j < e
  · obtain ⟨q1, q2⟩ := hin j g1 q
    have hbj := hb j q1
    unfold inStr at q2
    simp only [Bool.and_eq_true, Bool.not_eq_true', decide_eq_false_iff_not] at q2
    obtain ⟨q2, q3⟩ := q2
    have hby : byt b L j = b j := if_pos q1
    refine Ok_neg (by dsimp only; rw [h1]; simp (disch := omega) only [J_lit, J_add, J_sub, J_mul, J_neg, J_lt, J_le, J_eq, J_natN, J_nat, Int.toNat_natCast, tnl, tnc] <;> omega) ?_
    dsimp only
    rw [c_signAt hs0 (by omega), Option.bind_some, hby]
    refine Ok_neg (by simp (disch := omega) only [J_lit, J_add, J_sub, J_mul, J_neg, J_lt, J_le, J_eq, J_natN, J_nat, Int.toNat_natCast, tnl, tnc] <;> omega) ?_
    rw [c_signAt hs0 (by omega), Option.bind_some, hby]
    refine Ok_neg (by simp (disch := omega) only [J_lit, J_add, J_sub, J_mul, J_neg, J_lt, J_le, J_eq, J_natN, J_nat, Int.toNat_natCast, tnl, tnc] <;> omega) ?_
    by_cases q4 : j - i ≤ 200
    · refine Ok_pos (by simp (disch := omega) only [J_lit, J_add, J_sub, J_mul, J_neg, J_lt, J_le, J_eq, J_natN, J_nat, Int.toNat_natCast, tnl, tnc] <;> omega) ?_
      rw [show J (j : Nat) + 1 = J (j + 1 : Nat) by rw [J_lit, J_add]; rfl]
      exact ih _ (e - (j + 1)) (by omega) ⟨j + 1, by omega, by omega, by omega, rfl, rfl⟩
    · refine Ok_neg (by simp (disch := omega) only [J_lit, J_add, J_sub, J_mul, J_neg, J_lt, J_le, J_eq, J_natN, J_nat, Int.toNat_natCast, tnl, tnc] <;> omega) ?_
      rw [hbad, Option.bind_some]
      exact Ok_some ⟨fun h => by omega, fun _ => rfl⟩
  · have hje : j = e := by omega
    subst hje
    have hfin : Ok ((F_X10_signAt (J (j : Nat)) Γ).bind fun u_9 => if u_9.1 = 34 then ((F_X10_add 4 (J (i : Nat)) ((((cI' u_9.2 1 11 (((u_9.2 1).1 11) + 1)) 1).1 11) - 1) (cI' u_9.2 1 11 (((u_9.2 1).1 11) + 1))).bind fun u_15 => some ((((u_15.1 + J (j : Nat)) + 1) - J (i : Nat)), u_15.2)) else ((F_X10_bad (J (i : Nat)) u_9.2).bind fun u_18 => some (u_18.1, u_18.2))) fun u => ((byt b L j = 34 ∧ j - i - 1 ≤ 200) → u.1 = J (j + 1 : Nat) ∧ ∃ cl', cLx b L (t + 1) cl' u.2 ∧ oth1 Γ u.2) ∧ (¬ (byt b L j = 34 ∧ j - i - 1 ≤ 200) → u = (J L, ctS Γ t 1 i 0)) := by
      have hr := byt_rng hs0 j
      rw [c_signAt hs0 (by omega), Option.bind_some]
      by_cases q3 : byt b L j = 34
      · refine Ok_pos (by simp (disch := omega) only [J_lit, J_add, J_sub, J_mul, J_neg, J_lt, J_le, J_eq, J_natN, J_nat, Int.toNat_natCast, tnl, tnc] <;> omega) ?_
        dsimp only
        rw [h11, e1]
        have e2 : ((cI' Γ 1 11 (J (strN b L (t + 1) : Nat))) 1).1 11 - 1 = J (strN b L t : Nat) := by
          show J (strN b L (t + 1) : Nat) - 1 = _
          rw [← e1, J_lit, J_add, J_sub]; exact congrArg J (by omega)
        rw [e2, show (4 : Int32) = J 4 from rfl, c_add (Γ := cI' Γ 1 11 (J (strN b L (t + 1) : Nat))) _ _ _ h2 (by omega), Option.bind_some]
        refine Ok_some ⟨fun _ => ⟨?_, cl, hok, hoth⟩, fun h => absurd ⟨q3, by omega⟩ h⟩
        dsimp only
        rw [J_lit, J_add, J_add, J_sub]; exact congrArg J (by show (i : Int) + j + 1 - i = _; omega)
      · refine Ok_neg (by simp (disch := omega) only [J_lit, J_add, J_sub, J_mul, J_neg, J_lt, J_le, J_eq, J_natN, J_nat, Int.toNat_natCast, tnl, tnc] <;> omega) ?_
        rw [hbad, Option.bind_some]
        exact Ok_some ⟨fun h => absurd h.1 q3, fun _ => rfl⟩
    by_cases q2 : j < L
    · have q4 : ¬ inStr (b j) = true := fun h => hend ⟨q2, h⟩
      have hbj := hb j q2
      have hby : byt b L j = b j := if_pos q2
      have q5 : b j = 34 ∨ b j = 10 := by
        unfold inStr at q4
        simp only [Bool.and_eq_true, Bool.not_eq_true', decide_eq_false_iff_not] at q4
        omega
      refine Ok_neg (by dsimp only; rw [h1]; simp (disch := omega) only [J_lit, J_add, J_sub, J_mul, J_neg, J_lt, J_le, J_eq, J_natN, J_nat, Int.toNat_natCast, tnl, tnc] <;> omega) ?_
      dsimp only
      rcases q5 with q5 | q5
      · rw [c_signAt hs0 (by omega), Option.bind_some, hby]
        refine Ok_pos (by simp (disch := omega) only [J_lit, J_add, J_sub, J_mul, J_neg, J_lt, J_le, J_eq, J_natN, J_nat, Int.toNat_natCast, tnl, tnc] <;> omega) ?_
        rw [c_signAt hs0 (by omega), Option.bind_some, hby] at hfin ⊢
        exact hfin
      · rw [c_signAt hs0 (by omega), Option.bind_some, hby]
        refine Ok_neg (by simp (disch := omega) only [J_lit, J_add, J_sub, J_mul, J_neg, J_lt, J_le, J_eq, J_natN, J_nat, Int.toNat_natCast, tnl, tnc] <;> omega) ?_
        rw [c_signAt hs0 (by omega), Option.bind_some, hby]
        refine Ok_pos (by simp (disch := omega) only [J_lit, J_add, J_sub, J_mul, J_neg, J_lt, J_le, J_eq, J_natN, J_nat, Int.toNat_natCast, tnl, tnc] <;> omega) ?_
        rw [c_signAt hs0 (by omega), Option.bind_some, hby] at hfin ⊢
        exact hfin
    · refine Ok_pos (by dsimp only; rw [h1]; simp (disch := omega) only [J_lit, J_add, J_sub, J_mul, J_neg, J_lt, J_le, J_eq, J_natN, J_nat, Int.toNat_natCast, tnl, tnc] <;> omega) ?_
      exact hfin
theorem char_of {c : Int} (h : 0 ≤ c) (h2 : c < 128) : (((J c).toUInt32 % 65536).toInt32) = J c := by
  have := (show ∀ n : Nat, n < 128 → (((J n).toUInt32 % 65536).toInt32) = J n by decide +kernel) c.toNat (by omega)
  rwa [show ((c.toNat : Nat) : Int) = c by omega] at this
theorem c_sign {b : Nat → Int} {L t : Nat} {cl : List Int} {Γ : HS} (h : cLx b L t cl Γ) (htn : t < 8000) (hi : posW b L t < L) (w1 : ¬ isLt (b (posW b L t)) = true) (w2 : ¬ isFg (b (posW b L t)) = true) (w3 : b (posW b L t) ≠ 34) : Ok (F_X10_sign (J (posW b L t)) Γ) (cNx b L t cl Γ) := by
  have hbad := c_bad h htn
  have hh := h
  obtain ⟨hs, h2, h11, -⟩ := h
  have hs0 := hs
  obtain ⟨hL, h1, h0, hb⟩ := hs
  have hok : ∀ k : Int, k = (if dbl (b (posW b L t)) = true ∧ byt b L (posW b L t + 1) = 61 then (if b (posW b L t) = 61 then 5 else if b (posW b L t) = 33 then 6 else if b (posW b L t) = 60 then 7 else 8) else b (posW b L t)) → cLx b L (t + 1) cl (ctS Γ t k (posW b L t) 0) := by
    intro k hk
    refine cLx_tok hh (fun _ _ _ => rfl) (by rw [h11, strN_no w3]) (fun _ _ => rfl) hh.2.2.2.1 (Nat.le_refl _) (by omega) (fun _ _ => rfl) ⟨rfl, rfl, rfl, by rw [if_neg w1, if_neg w2, if_neg w3, hk]; exact ⟨rfl, rfl⟩⟩
  have hoth : ∀ k : Int, oth1 Γ (ctS Γ t k (posW b L t) 0) := fun k => oth1_ctS (fun _ _ => rfl)
  have hew : wEnd b L (posW b L t) = if dbl (b (posW b L t)) = true ∧ byt b L (posW b L t + 1) = 61 then posW b L t + 2 else posW b L t + 1 := by unfold wEnd; rw [if_neg w1, if_neg w2, if_neg w3]
  unfold cNx wOk
  rw [if_neg w1, if_neg w2, if_neg w3, hew]
  generalize hp : posW b L t = i at *
  have hbi := hb i hi
  have hr := byt_rng hs0 (i + 1)
  have hd : dbl (b i) = true ↔ (b i = 61 ∨ b i = 33 ∨ b i = 60 ∨ b i = 62) := by
    unfold dbl; simp [or_assoc]
  have hby : byt b L i = b i := if_pos hi
  unfold F_X10_sign
  simp only [bnd]
  rw [c_signAt hs0 (by omega), Option.bind_some]
  dsimp only
  rw [show J (i : Nat) + 1 = J (i + 1 : Nat) by rw [J_lit, J_add]; rfl, c_signAt hs0 (by omega), Option.bind_some, hby, show ([123, 125, 40, 41, 91, 93, 59, 44, 61, 60, 62, 43, 45, 42, 47, 37] : List Int32) = SGN from rfl, char_of (by omega) (by omega)]
  have hone : ¬ (dbl (b i) = true ∧ byt b L (i + 1) = 61) → Ok (if tx_ixOf SGN (J (b i)) < 0 then (F_X10_bad (J i) Γ).bind fun u_16 => some (u_16.1, u_16.2) else (F_X10_add (J (b i)) (J i) 0 Γ).bind fun u_19 => some (u_19.1 + 1, u_19.2)) fun u => ((dbl (b i) = true ∧ byt b L (i + 1) = 61 ∨ sgnOk (b i) = true) → u.1 = J (if dbl (b i) = true ∧ byt b L (i + 1) = 61 then i + 2 else i + 1 : Nat) ∧ ∃ cl', cLx b L (t + 1) cl' u.2 ∧ oth1 Γ u.2) ∧ (¬ (dbl (b i) = true ∧ byt b L (i + 1) = 61 ∨ sgnOk (b i) = true) → u = (J L, ctS Γ t 1 i 0)) := by
    intro hn
    have hsg := sgn_ix (c := b i) (by omega) (by omega)
    by_cases q : sgnOk (b i) = true
    · refine Ok_neg (by have := hsg.mpr q; exact Int32.not_lt.mpr this) ?_
      rw [show (0 : Int32) = J 0 from rfl, c_add _ _ _ h2 (by omega), Option.bind_some]
      refine Ok_some ⟨fun _ => ⟨?_, cl, hok _ (by rw [if_neg hn]), hoth _⟩, fun h => absurd (Or.inr q) h⟩
      rw [if_neg hn]; dsimp only; rw [J_lit, J_add]; rfl
    · refine Ok_pos (by have := fun h => q (hsg.mp h); exact Int32.not_le.mp this) ?_
      rw [hbad, Option.bind_some]
      exact Ok_some ⟨fun h => by rcases h with h | h; exact absurd h hn; exact absurd h q, fun _ => rfl⟩
  have htwo : (dbl (b i) = true ∧ byt b L (i + 1) = 61) → ∀ k : Int, k = (if b i = 61 then 5 else if b i = 33 then 6 else if b i = 60 then 7 else 8) → Ok ((F_X10_add (J k) (J i) 0 Γ).bind fun u_31 => some (u_31.1 + 2, u_31.2)) fun u => ((dbl (b i) = true ∧ byt b L (i + 1) = 61 ∨ sgnOk (b i) = true) → u.1 = J (if dbl (b i) = true ∧ byt b L (i + 1) = 61 then i + 2 else i + 1 : Nat) ∧ ∃ cl', cLx b L (t + 1) cl' u.2 ∧ oth1 Γ u.2) ∧ (¬ (dbl (b i) = true ∧ byt b L (i + 1) = 61 ∨ sgnOk (b i) = true) → u = (J L, ctS Γ t 1 i 0)) := by
    intro hy k hk
    rw [show (0 : Int32) = J 0 from rfl, c_add _ _ _ h2 (by omega), Option.bind_some]
    refine Ok_some ⟨fun _ => ⟨?_, cl, hok _ (by rw [if_pos hy]; exact hk), hoth _⟩, fun h => absurd (Or.inl hy) h⟩
    rw [if_pos hy]; dsimp only; rw [J_lit, J_add]; rfl
  by_cases q : byt b L (i + 1) = 61
  · refine Ok_pos (by simp (disch := omega) only [J_lit, J_add, J_sub, J_mul, J_neg, J_lt, J_le, J_eq, J_natN, J_nat, Int.toNat_natCast, tnl, tnc] <;> omega) ?_
    refine Ok_ite (fun q2 => ?_) (fun q2 => ?_)
    · simp (disch := omega) only [J_lit, J_add, J_sub, J_mul, J_neg, J_lt, J_le, J_eq, J_natN, J_nat, Int.toNat_natCast, tnl, tnc] at q2
      exact Ok_neg (by decide) (htwo ⟨hd.mpr (by omega), q⟩ 5 (by rw [if_pos q2]))
    simp (disch := omega) only [J_lit, J_add, J_sub, J_mul, J_neg, J_lt, J_le, J_eq, J_natN, J_nat, Int.toNat_natCast, tnl, tnc] at q2
    refine Ok_ite (fun q3 => ?_) (fun q3 => ?_)
    · simp (disch := omega) only [J_lit, J_add, J_sub, J_mul, J_neg, J_lt, J_le, J_eq, J_natN, J_nat, Int.toNat_natCast, tnl, tnc] at q3
      exact Ok_neg (by decide) (htwo ⟨hd.mpr (by omega), q⟩ 6 (by rw [if_neg q2, if_pos q3]))
    simp (disch := omega) only [J_lit, J_add, J_sub, J_mul, J_neg, J_lt, J_le, J_eq, J_natN, J_nat, Int.toNat_natCast, tnl, tnc] at q3
    refine Ok_ite (fun q4 => ?_) (fun q4 => ?_)
    · simp (disch := omega) only [J_lit, J_add, J_sub, J_mul, J_neg, J_lt, J_le, J_eq, J_natN, J_nat, Int.toNat_natCast, tnl, tnc] at q4
      exact Ok_neg (by decide) (htwo ⟨hd.mpr (by omega), q⟩ 7 (by rw [if_neg q2, if_neg q3, if_pos q4]))
    simp (disch := omega) only [J_lit, J_add, J_sub, J_mul, J_neg, J_lt, J_le, J_eq, J_natN, J_nat, Int.toNat_natCast, tnl, tnc] at q4
    refine Ok_ite (fun q5 => ?_) (fun q5 => ?_)
    · simp (disch := omega) only [J_lit, J_add, J_sub, J_mul, J_neg, J_lt, J_le, J_eq, J_natN, J_nat, Int.toNat_natCast, tnl, tnc] at q5
      exact Ok_neg (by decide) (htwo ⟨hd.mpr (by omega), q⟩ 8 (by rw [if_neg q2, if_neg q3, if_neg q4]))
    simp (disch := omega) only [J_lit, J_add, J_sub, J_mul, J_neg, J_lt, J_le, J_eq, J_natN, J_nat, Int.toNat_natCast, tnl, tnc] at q5
    refine Ok_pos trivial (hone (fun h => ?_))
    have := hd.mp h.1; omega
  · exact Ok_neg (by simp (disch := omega) only [J_lit, J_add, J_sub, J_mul, J_neg, J_lt, J_le, J_eq, J_natN, J_nat, Int.toNat_natCast, tnl, tnc] <;> omega) (hone (fun h => q h.2))
theorem c_name {b : Nat → Int} {L t : Nat} {cl : List Int} {Γ : HS} (h : cLx b L t cl Γ) (htn : t < 4200) (hi : posW b L t < L) (w1 : isLt (b (posW b L t)) = true) : Ok (F_X10_name (J (posW b L t)) Γ) (cNx b L t cl Γ) := by
  have hbad := c_bad h (by omega)
  have hh := h
  obtain ⟨hs, h2, h11, hcn, hl1, hl2, -⟩ := h
  have hs0 := hs
  obtain ⟨hL, h1, h0, hb⟩ := hs
  have hew : wEnd b L (posW b L t) = endF isLF b L (posW b L t) := by unfold wEnd; rw [if_pos w1]
  have hwd : wd b L (posW b L t) = wl b (posW b L t) (endF isLF b L (posW b L t) - posW b L t) := by unfold wd; rw [hew]
  have hok : ∀ (c : Nat) (cl' : List Int) (Δ : HS) , wfrN Γ Δ → cnam cl' Δ → cl.length ≤ cl'.length → cl'.length ≤ cl.length + 1 → (∀ c, c < cl.length → cl'.getD c 0 = cl.getD c 0) → c < cl'.length → cl'.getD c 0 = pk (wd b L (posW b L t)) → cLx b L (t + 1) cl' (ctS Δ t (if c < 57 then 200 + c else 2) (posW b L t) c) := by
    intro c cl' Δ f1 f2 f3 f4 f5 f6 f7
    refine cLx_tok hh (fun k a _ => f1.2.1 k a) (by rw [f1.2.1 11 (by omega), h11, strN_no (by intro q; rw [q] at w1; exact absurd w1 (by decide))]) (fun k a => f1.2.2 k a) f2 f3 f4 f5 ⟨rfl, rfl, rfl, by rw [if_pos w1]; exact ⟨c, f6, f7, rfl, rfl⟩⟩
  unfold cNx wOk
  rw [if_pos w1, hew]
  unfold F_X10_name
  simp only [bnd]
  have hle : endF isLF b L (posW b L t) ≤ L := endF_le (by omega)
  have hlt : posW b L t < endF isLF b L (posW b L t) := endF_lt hi (by unfold isLF; rw [w1]; rfl)
  have hin : ∀ j, posW b L t ≤ j → j < endF isLF b L (posW b L t) → j < L ∧ isLF (b j) = true := fun j h1 h2 => endF_in h1 h2
  have hend := endF_end (p := isLF) (b := b) (L := L) (posW b L t)
  generalize hp : posW b L t = i at *
  generalize he : endF isLF b L i = e at *
  refine Ok_loop (P := fun s k => ∃ j : Nat, i ≤ j ∧ j ≤ e ∧ k = e - j ∧ s = (J j, L64 (dgF (fun x => nsg (b (i + x))) (j - i)), Γ)) ?_ FU _ (e - i) (FU_gt (by omega)) ⟨i, by omega, by omega, rfl, by rw [Nat.sub_self]; rfl⟩
  rintro a s k ⟨j, g1, g2, rfl, rfl⟩ ih
  by_cases q : j < e
  · obtain ⟨q1, q2⟩ := hin j g1 q
    have hbj := hb j q1
    have hby : byt b L j = b j := if_pos q1
    have hns := nsg_rng q2
    have ih' := ih (J (j + 1 : Nat), L64 (dgF (fun x => nsg (b (i + x))) (j + 1 - i)), Γ) (e - (j + 1)) (by omega) ⟨j + 1, by omega, by omega, rfl, rfl⟩
    have e1 : dgF (fun x => nsg (b (i + x))) (j + 1 - i) = dgF (fun x => nsg (b (i + x))) (j - i) * 37 + nsg (b j) := by
      rw [show j + 1 - i = (j - i) + 1 by omega]; show dgF _ (j - i) * 37 + nsg (b (i + (j - i))) = _
      rw [show i + (j - i) = j by omega]
    have hgo : Ok ((F_X10_signAt (J (j : Nat)) Γ).bind fun u_50 => (F_X11_nameSign u_50.1 u_50.2).bind fun u_52 => a (J (j : Nat) + 1, L64 (dgF (fun x => nsg (b (i + x))) (j - i)) * 37 + u_52.1.toInt64, u_50.2)) fun u => (e - i ≤ 12 → u.1 = J e ∧ ∃ cl', cLx b L (t + 1) cl' u.2 ∧ oth1 Γ u.2) ∧ (¬ e - i ≤ 12 → u = (J L, ctS Γ t 1 i 0)) := by
      rw [c_signAt hs0 (by omega), Option.bind_some, hby, c_nameSign (by omega), Option.bind_some]
      dsimp only
      rw [J_64 (by omega) (by omega), show (37 : Int64) = L64 37 from rfl, L_mul, L_add, ← e1, show J (j : Nat) + 1 = J (j + 1 : Nat) by rw [J_lit, J_add]; rfl]
      exact ih'
    refine Ok_neg (by dsimp only; rw [h1]; simp (disch := omega) only [J_lit, J_add, J_sub, J_mul, J_neg, J_lt, J_le, J_eq, J_natN, J_nat, Int.toNat_natCast, tnl, tnc] <;> omega) ?_
    dsimp only
    rw [c_signAt hs0 (by omega), Option.bind_some, hby, c_isLetter (by omega), Option.bind_some]
    by_cases q3 : isLt (b j) = true
    · rw [if_pos q3]
      exact Ok_neg J1_ne hgo
    · rw [if_neg q3]
      refine Ok_pos J0_eq ?_
      rw [c_signAt hs0 (by omega), Option.bind_some, hby, c_isFigure (by omega), Option.bind_some]
      have q4 : isFg (b j) = true := by
        unfold isLF at q2; rw [Bool.or_eq_true] at q2; rcases q2 with q2 | q2
        · exact absurd q2 q3
        · exact q2
      rw [if_pos q4]
      exact Ok_neg J1_ne hgo
  · have hje : j = e := by omega
    subst hje
    have hnw : j - i ≤ 12 → nmW (wl b i (j - i)) := by
      intro q2
      refine ⟨by rw [wl_len]; omega, by rw [wl_len]; omega, fun k hk => ?_⟩
      rw [wl_len] at hk
      rw [wl_get hk]; exact (hin (i + k) (by omega) (by omega)).2
    have hfin : Ok (if J (j : Nat) - J (i : Nat) ≤ 12 then loopF (fun (again_14 : (Int64 × Int32 × HS) → HR) (s_13 : Int64 × Int32 × HS) => if 12 ≤ s_13.2.1 then (F_X10_numberOf s_13.1 s_13.2.2).bind fun u_19 => if 57 ≤ u_19.1 then (F_X10_add 2 (J i) u_19.1 u_19.2).bind fun u_26 => some (u_26.1 + J (j : Nat) - J (i : Nat), u_26.2) else (F_X10_add (200 + u_19.1) (J i) u_19.1 u_19.2).bind fun u_26 => some (u_26.1 + J (j : Nat) - J (i : Nat), u_26.2) else again_14 (s_13.1 * 37, s_13.2.1 + 1, s_13.2.2)) FU (L64 (dgF (fun x => nsg (b (i + x))) (j - i)), J (j : Nat) - J (i : Nat), Γ) else (F_X10_bad (J i) Γ).bind fun u_37 => some (u_37.1, u_37.2)) fun u => (j - i ≤ 12 → u.1 = J j ∧ ∃ cl', cLx b L (t + 1) cl' u.2 ∧ oth1 Γ u.2) ∧ (¬ j - i ≤ 12 → u = (J L, ctS Γ t 1 i 0)) := by
      rw [J_sub, show (j : Int) - (i : Int) = ((j - i : Nat) : Int) by omega]
      by_cases q2 : j - i ≤ 12
      · refine Ok_pos (by simp (disch := omega) only [J_lit, J_add, J_sub, J_mul, J_neg, J_lt, J_le, J_eq, J_natN, J_nat, Int.toNat_natCast, tnl, tnc] <;> omega) ?_
        have hw := hnw q2
        have hd0 : dgF (fun x => nsg (b (i + x))) (j - i) = dgF (dgw (wl b i (j - i))) (j - i) := dgF_congr _ (fun x hx => by unfold dgw; rw [wl_len, if_pos hx, wl_get hx])
        rw [hd0]
        refine Ok_loop (P := fun s k => ∃ x : Nat, j - i ≤ x ∧ x ≤ 12 ∧ k = 12 - x ∧ s = (L64 (dgF (dgw (wl b i (j - i))) x), J x, Γ)) ?_ FU _ (12 - (j - i)) (FU_gt (by omega)) ⟨j - i, by omega, by omega, rfl, rfl⟩
        rintro a2 s k ⟨x, x1, x2, rfl, rfl⟩ ih2
        by_cases qx : x = 12
        · subst qx
          refine Ok_pos (by simp (disch := omega) only [J_lit, J_add, J_sub, J_mul, J_neg, J_lt, J_le, J_eq, J_natN, J_nat, Int.toNat_natCast, tnl, tnc] <;> omega) ?_
          dsimp only
          rw [show dgF (dgw (wl b i (j - i))) 12 = pk (wl b i (j - i)) from rfl]
          have hpr := pk_rng hw
          refine Ok_bind (Ok_mono (c_numberOf2 hcn (by omega) hpr.1 hpr.2) ?_)
          rintro u ⟨c, y1, y2, y3, y4, y5⟩
          have hlen : cl.length ≤ (if cl.contains (pk (wl b i (j - i))) then cl else cl ++ [pk (wl b i (j - i))]).length ∧ (if cl.contains (pk (wl b i (j - i))) then cl else cl ++ [pk (wl b i (j - i))]).length ≤ cl.length + 1 ∧ ∀ c, c < cl.length → (if cl.contains (pk (wl b i (j - i))) then cl else cl ++ [pk (wl b i (j - i))]).getD c 0 = cl.getD c 0 := by
            split
            · exact ⟨Nat.le_refl _, by omega, fun _ _ => rfl⟩
            · refine ⟨by simp, by simp, fun c hc => ?_⟩
              rw [List.getD_eq_getElem?_getD, List.getD_eq_getElem?_getD, List.getElem?_append_left hc]
          have hres := hok c _ u.2 y2 y5 hlen.1 hlen.2.1 hlen.2.2 y3 (by rw [hwd]; exact y4)
          have hot : oth1 Γ u.2 := fun r hr => y2.1 r hr
          rw [y1]
          have ej : J (i : Int) + J (j : Int) - J (i : Int) = J (j : Int) := by rw [J_add, J_sub]; exact congrArg J (by omega)
          have ht2 : (u.2 1).1 2 = J t := by rw [y2.2.1 2 (by omega)]; exact h2
          by_cases q5 : c < 57
          · refine Ok_neg (by simp (disch := omega) only [J_lit, J_add, J_sub, J_mul, J_neg, J_lt, J_le, J_eq, J_natN, J_nat, Int.toNat_natCast, tnl, tnc] <;> omega) ?_
            rw [if_pos q5] at hres
            rw [show (200 : Int32) + J (c : Nat) = J (200 + c) by rw [J_lit, J_add], c_add _ _ _ ht2 (by omega), Option.bind_some]
            exact Ok_some ⟨fun _ => ⟨ej, _, hres, oth1_ctS hot⟩, fun h => absurd q2 h⟩
          · refine Ok_pos (by simp (disch := omega) only [J_lit, J_add, J_sub, J_mul, J_neg, J_lt, J_le, J_eq, J_natN, J_nat, Int.toNat_natCast, tnl, tnc] <;> omega) ?_
            rw [if_neg q5] at hres
            rw [show (2 : Int32) = J 2 from rfl, c_add _ _ _ ht2 (by omega), Option.bind_some]
            exact Ok_some ⟨fun _ => ⟨ej, _, hres, oth1_ctS hot⟩, fun h => absurd q2 h⟩
        · refine Ok_neg (by simp (disch := omega) only [J_lit, J_add, J_sub, J_mul, J_neg, J_lt, J_le, J_eq, J_natN, J_nat, Int.toNat_natCast, tnl, tnc] <;> omega) ?_
          dsimp only
          have e5 : dgF (dgw (wl b i (j - i))) (x + 1) = dgF (dgw (wl b i (j - i))) x * 37 := by
            show dgF _ x * 37 + dgw _ x = _
            rw [show dgw (wl b i (j - i)) x = 0 by unfold dgw; rw [wl_len, if_neg (by omega)]]; omega
          rw [show (37 : Int64) = L64 37 from rfl, L_mul, ← e5, show J (x : Nat) + 1 = J (x + 1 : Nat) by rw [J_lit, J_add]; rfl]
          exact ih2 _ (12 - (x + 1)) (by omega) ⟨x + 1, by omega, by omega, rfl, rfl⟩
      · refine Ok_neg (by simp (disch := omega) only [J_lit, J_add, J_sub, J_mul, J_neg, J_lt, J_le, J_eq, J_natN, J_nat, Int.toNat_natCast, tnl, tnc] <;> omega) ?_
        rw [hbad, Option.bind_some]
        exact Ok_some ⟨fun h => absurd h q2, fun _ => rfl⟩
    by_cases q2 : j < L
    · have hbj := hb j q2
      have hby : byt b L j = b j := if_pos q2
      have q3 : ¬ isLF (b j) = true := fun h => hend ⟨q2, h⟩
      have q4 : ¬ isLt (b j) = true := fun h => q3 (by unfold isLF; rw [h]; rfl)
      have q5 : ¬ isFg (b j) = true := fun h => q3 (by unfold isLF; rw [h, Bool.or_true])
      refine Ok_neg (by dsimp only; rw [h1]; simp (disch := omega) only [J_lit, J_add, J_sub, J_mul, J_neg, J_lt, J_le, J_eq, J_natN, J_nat, Int.toNat_natCast, tnl, tnc] <;> omega) ?_
      dsimp only
      rw [c_signAt hs0 (by omega), Option.bind_some, hby, c_isLetter (by omega), Option.bind_some, if_neg q4]
      refine Ok_pos J0_eq ?_
      rw [c_signAt hs0 (by omega), Option.bind_some, hby, c_isFigure (by omega), Option.bind_some, if_neg q5]
      exact Ok_pos J0_eq hfin
    · refine Ok_pos (by dsimp only; rw [h1]; simp (disch := omega) only [J_lit, J_add, J_sub, J_mul, J_neg, J_lt, J_le, J_eq, J_natN, J_nat, Int.toNat_natCast, tnl, tnc] <;> omega) ?_
      exact hfin
