/-! a key is found -/
theorem r_keyOf {b : Nat → Int} {L i n : Nat} {σ : MS} (hs : rsrc b L σ) (hin : i + n ≤ L) : Ok (F_X12_keyOf (J i) (J n) σ) fun u => u = (J (kix (wl b i n)), σ) := by
  obtain ⟨hL, h6, h5, hb⟩ := hs
  unfold F_X12_keyOf
  rw [show ([32, 97, 108, 111, 110, 101, 32, 97, 108, 108, 32, 97, 110, 100, 32, 97, 110, 121, 32, 97, 114, 114, 97, 121, 32, 100, 97, 114, 107, 32, 100, 101, 102, 32, 100, 111, 110, 101, 32, 100, 111, 119, 110, 32, 101, 97, 99, 104, 32, 101, 97, 115, 116, 32, 101, 108, 115, 101, 32, 101, 120, 105, 116, 32, 102, 105, 114, 115, 116, 32, 104, 97, 115, 32, 104, 101, 114, 101, 32, 104, 111, 108, 100, 101, 114, 32, 105, 102, 32, 105, 110, 32, 108, 101, 116, 32, 108, 111, 115, 101, 32, 109, 111, 118, 101, 32, 110, 97, 109, 101, 32, 110, 101, 120, 116, 32, 110, 111, 117, 110, 32, 110, 111, 114, 116, 104, 32, 110, 111, 116, 32, 111, 110, 32, 111, 110, 101, 32, 111, 114, 32, 112, 108, 97, 121, 101, 114, 32, 114, 97, 110, 100, 111, 109, 32, 114, 101, 109, 111, 118, 101, 32, 114, 101, 116, 117, 114, 110, 32, 114, 111, 111, 109, 32, 115, 97, 121, 32, 115, 101, 99, 111, 110, 100, 32, 115, 101, 116, 32, 99, 108, 101, 97, 114, 32, 115, 111, 117, 116, 104, 32, 116, 101, 120, 116, 32, 116, 104, 105, 110, 103, 32, 116, 111, 32, 116, 119, 111, 32, 117, 112, 32, 118, 97, 114, 32, 118, 101, 114, 98, 32, 119, 101, 115, 116, 32, 119, 104, 105, 108, 101, 32, 119, 105, 110, 32, 119, 111, 114, 100, 32, 99, 111, 110, 116, 97, 105, 110, 101, 114, 32, 102, 105, 120, 101, 100, 32, 104, 105, 100, 100, 101, 110, 32, 108, 105, 103, 104, 116, 32, 111, 112, 101, 110, 32, 115, 117, 112, 112, 111, 114, 116, 101, 114, 32] : List Int32) = KSTR from rfl, KSTR_len]
  have hp0 : kix (wl b i n) = kixF (wl b i n) (57 - 0) 0 := rfl
  refine Ok_loop (P := fun s m => ∃ k : Nat, k ≤ 57 ∧ kix (wl b i n) = kixF (wl b i n) (57 - k) k ∧ m = 57 - k ∧ s = (J (STK.getD k 0 : Nat), J k, σ)) ?_ FU _ 57 (FU_gt (by omega)) ⟨0, by omega, rfl, rfl, rfl⟩
  rintro a s m ⟨k, hk, hix, rfl, rfl⟩ ih
  by_cases q : k = 57
  · subst q
    rw [hix]
    simp (disch := omega) only [bnd, J_lit, J_add, J_sub, J_mul, J_neg, J_lt, J_le, J_eq, J_natN, J_nat, Int.toNat_natCast, tnl, tnc, J_ofNat, show STK.getD 57 0 = 295 from rfl, if_pos]
    exact Ok_some rfl
  · obtain ⟨t1, t2, t3, t4, t5, t6⟩ := KSTR_tab k (by omega)
    have t7 : kixF (wl b i n) (57 - k) k = if KWL.getD k [] = wl b i n then (k : Int) else kixF (wl b i n) (57 - (k + 1)) (k + 1) := by
      rw [show 57 - k = (57 - (k + 1)) + 1 by omega]; rfl
    have ih' := ih (J (STK.getD (k + 1) 0 : Nat), J (k + 1 : Nat), σ) (57 - (k + 1)) (by omega)
    generalize hw : KWL.getD k [] = w at *
    generalize hst : STK.getD k 0 = sk at *
    simp only [bnd, J_ofNat]
    refine Ok_neg (by simp (disch := omega) only [J_lit, J_add, J_sub, J_mul, J_neg, J_lt, J_le, J_eq, J_natN, J_nat, Int.toNat_natCast, tnl, tnc] <;> omega) ?_
    refine Ok_loop (P := fun s m => ∃ j : Nat, j ≤ w.length ∧ m = w.length - j ∧ s = (J (sk + j : Nat), σ)) ?_ FU _ w.length (FU_gt (by omega)) ⟨0, by omega, rfl, rfl⟩
    rintro a2 s m ⟨j, hj, rfl, rfl⟩ ih2
    refine Ok_neg (by simp (disch := omega) only [J_lit, J_add, J_sub, J_mul, J_neg, J_lt, J_le, J_eq, J_natN, J_nat, Int.toNat_natCast, tnl, tnc] <;> omega) ?_
    by_cases qj : j = w.length
    · subst qj
      rw [J_natN (by omega), t6]
      refine Ok_pos (by decide) ?_
      -- the comparing loop, with what it begins with
      have hcmp : ∀ fl : Int, (fl = 1 ∧ w.length = n ∨ fl = 0 ∧ w.length ≠ n) → Ok (loopF (fun again_28 s_27 =>
                    if J ↑n ≤ s_27.snd.fst then
                      if s_27.fst = 0 then a (J (sk + w.length : Nat) + 1, J ↑k + 1, s_27.snd.snd) else some (J ↑k, s_27.snd.snd)
                    else
                      if s_27.fst = 0 then
                        if s_27.fst = 0 then a (J (sk + w.length : Nat) + 1, J ↑k + 1, s_27.snd.snd) else some (J ↑k, s_27.snd.snd)
                      else
                        if J ↑sk + s_27.snd.fst < 0 ∨ J ↑295 ≤ J ↑sk + s_27.snd.fst then none
                        else
                          if J ↑i + s_27.snd.fst < 0 ∨ 16000 ≤ (J ↑i + s_27.snd.fst).toNatClampNeg then none
                          else
                            if
                                g_chr (KSTR.getD (J ↑sk + s_27.snd.fst).toNatClampNeg 0) =
                                  s_27.snd.snd.snd 5 (J ↑i + s_27.snd.fst).toNatClampNeg then
                              again_28 (1, s_27.snd.fst + 1, s_27.snd.snd)
                            else again_28 (0, s_27.snd.fst + 1, s_27.snd.snd)) FU (J fl, 0, σ)) fun u => u = (J (kix (wl b i n)), σ) := by
        intro fl hfl
        refine Ok_loop (P := fun s m => ∃ (f : Int) (kk : Nat), kk ≤ n ∧ m = n - kk ∧ s = (J f, J kk, σ) ∧ (f = 1 ∧ w.length = n ∧ (∀ x, x < kk → w.getD x 0 = b (i + x)) ∨ f = 0 ∧ w ≠ wl b i n)) ?_ FU _ n (FU_gt (by omega)) ⟨fl, 0, by omega, rfl, rfl, ?_⟩
        · rintro a3 s m ⟨f, kk, hkk, rfl, rfl, hf⟩ ih3
          have hno : f = 0 → Ok (a (J (sk + w.length : Nat) + 1, J ↑k + 1, σ)) fun u => u = (J (kix (wl b i n)), σ) := by
            intro hf0
            have hne : w ≠ wl b i n := by
              rcases hf with ⟨h, _⟩ | ⟨_, h⟩
              · omega
              · exact h
            rw [if_neg hne] at t7
            have := ih' ⟨k + 1, by omega, by rw [hix, t7], rfl, rfl⟩
            rw [t3] at this
            simp (disch := omega) only [J_lit, J_add, J_sub, J_mul, J_neg, J_lt, J_le, J_eq, J_natN, J_nat, Int.toNat_natCast, tnl, tnc, Int.natCast_add] at this ⊢
            exact this
          by_cases q1 : n ≤ kk
          · refine Ok_pos (by simp (disch := omega) only [J_lit, J_add, J_sub, J_mul, J_neg, J_lt, J_le, J_eq, J_natN, J_nat, Int.toNat_natCast, tnl, tnc] <;> omega) ?_
            rcases hf with ⟨rfl, h1, h2⟩ | ⟨rfl, h1⟩
            · refine Ok_neg J1_ne (Ok_some ?_)
              have : w = wl b i n := list_ext (by rw [wl_len, h1]) (fun x hx => by rw [wl_get (by omega)]; exact h2 x (by omega))
              rw [if_pos this] at t7
              rw [hix, t7]
            · exact Ok_pos J0_eq (hno rfl)
          · refine Ok_neg (by simp (disch := omega) only [J_lit, J_add, J_sub, J_mul, J_neg, J_lt, J_le, J_eq, J_natN, J_nat, Int.toNat_natCast, tnl, tnc] <;> omega) ?_
            rcases hf with ⟨rfl, h1, h2⟩ | ⟨rfl, h1⟩
            · refine Ok_neg J1_ne ?_
              have hbk := hb (i + kk) (by omega)
              obtain ⟨y1, y2, y3⟩ := t5 kk (by omega)
              have z1 : (J (sk : Nat) + J (kk : Nat)).toNatClampNeg = sk + kk := by simp (disch := omega) only [J_lit, J_add, J_sub, J_mul, J_neg, J_lt, J_le, J_eq, J_natN, J_nat, Int.toNat_natCast, tnl, tnc]
              have z2 : (J (i : Nat) + J (kk : Nat)).toNatClampNeg = i + kk := by simp (disch := omega) only [J_lit, J_add, J_sub, J_mul, J_neg, J_lt, J_le, J_eq, J_natN, J_nat, Int.toNat_natCast, tnl, tnc]
              refine Ok_neg (by simp (disch := omega) only [J_lit, J_add, J_sub, J_mul, J_neg, J_lt, J_le, J_eq, J_natN, J_nat, Int.toNat_natCast, tnl, tnc] <;> omega) ?_
              refine Ok_neg (by simp (disch := omega) only [J_lit, J_add, J_sub, J_mul, J_neg, J_lt, J_le, J_eq, J_natN, J_nat, Int.toNat_natCast, tnl, tnc] <;> omega) ?_
              dsimp only
              rw [z1, z2, y1, h5 _ (by omega)]
              refine Ok_ite (fun q2 => ?_) (fun q2 => ?_)
              · rw [J_eq (by omega) (by omega) (by omega) (by omega)] at q2
                have := ih3 (J 1, J (kk + 1 : Nat), σ) (n - (kk + 1)) (by omega) ⟨1, kk + 1, by omega, rfl, rfl, Or.inl ⟨rfl, h1, fun x hx => by
                  by_cases hx2 : x = kk
                  · rw [hx2]; exact q2
                  · exact h2 x (by omega)⟩⟩
                simp (disch := omega) only [J_lit, J_add, J_sub, J_mul, J_neg, J_lt, J_le, J_eq, J_natN, J_nat, Int.toNat_natCast, tnl, tnc, Int.natCast_add] at this ⊢
                exact this
              · rw [J_eq (by omega) (by omega) (by omega) (by omega)] at q2
                have := ih3 (J 0, J (kk + 1 : Nat), σ) (n - (kk + 1)) (by omega) ⟨0, kk + 1, by omega, rfl, rfl, Or.inr ⟨rfl, fun h => q2 (by rw [h, wl_get (by omega)])⟩⟩
                simp (disch := omega) only [J_lit, J_add, J_sub, J_mul, J_neg, J_lt, J_le, J_eq, J_natN, J_nat, Int.toNat_natCast, tnl, tnc, Int.natCast_add] at this ⊢
                exact this
            · exact Ok_pos J0_eq (Ok_pos J0_eq (hno rfl))
        · rcases hfl with ⟨rfl, h⟩ | ⟨rfl, h⟩
          · exact Or.inl ⟨rfl, h, fun x hx => by omega⟩
          · exact Or.inr ⟨rfl, fun h2 => h (by rw [h2, wl_len])⟩
      refine Ok_ite (fun q2 => ?_) (fun q2 => ?_)
      · exact hcmp 1 (Or.inl ⟨rfl, by simp (disch := omega) only [J_lit, J_add, J_sub, J_mul, J_neg, J_lt, J_le, J_eq, J_natN, J_nat, Int.toNat_natCast, tnl, tnc] at q2; omega⟩)
      · exact hcmp 0 (Or.inr ⟨rfl, by simp (disch := omega) only [J_lit, J_add, J_sub, J_mul, J_neg, J_lt, J_le, J_eq, J_natN, J_nat, Int.toNat_natCast, tnl, tnc] at q2; omega⟩)
    · obtain ⟨y1, y2, y3⟩ := t5 j (by omega)
      rw [J_natN (by omega), y1]
      refine Ok_neg (by simp (disch := omega) only [J_lit, J_add, J_sub, J_mul, J_neg, J_lt, J_le, J_eq, J_natN, J_nat, Int.toNat_natCast, tnl, tnc]; omega) ?_
      have := ih2 (J (sk + (j + 1) : Nat), σ) (w.length - (j + 1)) (by omega) ⟨j + 1, by omega, rfl, rfl⟩
      simp (disch := omega) only [J_lit, J_add, J_sub, J_mul, J_neg, J_lt, J_le, J_eq, J_natN, J_nat, Int.toNat_natCast, tnl, tnc, Int.natCast_add] at this ⊢
      rw [Int.add_assoc]
      exact this
