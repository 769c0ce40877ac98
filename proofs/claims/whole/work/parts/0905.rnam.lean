/-! the reference's names -/
def isNm (σ : MS) (r : Nat) (w : List Int) : Prop := σ.2 12 r = J w.length ∧ ∀ k, k < w.length → σ.2 11 (12 * r + k) = J (w.getD k 0)
def nmW (w : List Int) : Prop := 0 < w.length ∧ w.length ≤ 12 ∧ ∀ k, k < w.length → isLF (w.getD k 0) = true
def rnam (m : Nat) (nm : Nat → List Int) (σ : MS) : Prop := σ.1 13 = J m ∧ (∀ r, r < m → isNm σ r (nm r) ∧ nmW (nm r)) ∧ ∀ r s, r < m → s < m → nm r = nm s → r = s
theorem isLF_iff {c : Int} : isLF c = true ↔ (97 ≤ c ∧ c ≤ 122) ∨ (48 ≤ c ∧ c ≤ 57) := by unfold isLF isLt isFg; simp
theorem r_intern {b : Nat → Int} {L i n m : Nat} {nm : Nat → List Int} {σ : MS} (hs : rsrc b L σ) (hn : rnam m nm σ) (hin : i + n ≤ L) (hw : nmW (wl b i n)) (hm : m < 8000) : Ok (F_X12_intern (J i) (J n) σ) fun u => ∃ (r m' : Nat) (nm' : Nat → List Int), u.1 = J r ∧ r < m' ∧ nm' r = wl b i n ∧ rnam m' nm' u.2 ∧ m ≤ m' ∧ m' ≤ m + 1 ∧ (∀ r, r < m → nm' r = nm r) ∧ (∀ k, k ≠ 13 → u.2.1 k = σ.1 k) ∧ (∀ k, k ≠ 11 → k ≠ 12 → u.2.2 k = σ.2 k) := by
  obtain ⟨hL, h6, h5, hb⟩ := hs
  obtain ⟨h13, hnm, hinj⟩ := hn
  obtain ⟨w1, w2, w3⟩ := hw
  rw [wl_len] at w1 w2 w3
  unfold F_X12_intern
  simp only [bnd]
  refine Ok_loop (P := fun s k => ∃ r : Nat, r ≤ m ∧ k = m - r ∧ s = (J r, σ) ∧ ∀ q, q < r → nm q ≠ wl b i n) ?_ FU _ m (FU_gt (by omega)) ⟨0, by omega, rfl, rfl, fun q hq => by omega⟩
  rintro a s k ⟨r, hr, rfl, rfl, hnew⟩ ih
  by_cases q : r = m
  · subst q
    refine Ok_pos (by show σ.1 13 ≤ J r; rw [h13]; exact Int32.le_refl _) ?_
    -- the new name is put down
    refine Ok_loop (P := fun s k => ∃ (j : Nat) (f : Nat → Int32), j ≤ n ∧ k = n - j ∧ s = (J j, mA σ 11 f) ∧ (∀ x, x < 12 * r → f x = σ.2 11 x) ∧ ∀ x, x < j → f (12 * r + x) = J (b (i + x))) ?_ FU _ n (FU_gt (by omega)) ⟨0, σ.2 11, by omega, rfl, ?_, fun x _ => rfl, fun x hx => by omega⟩
    · rintro a2 s k ⟨j, f, hj, rfl, rfl, hf1, hf2⟩ ih2
      have e13 : (mA σ 11 f).1 13 = J r := h13
      by_cases qj : n ≤ j
      · refine Ok_pos (by simp (disch := omega) only [J_lit, J_add, J_sub, J_mul, J_neg, J_lt, J_le, J_eq, J_natN, J_nat, Int.toNat_natCast, tnl, tnc] <;> omega) ?_
        refine Ok_neg (by show ¬ ((mA σ 11 f).1 13 < 0 ∨ 8000 ≤ ((mA σ 11 f).1 13).toNatClampNeg); rw [e13]; simp (disch := omega) only [J_lit, J_add, J_sub, J_mul, J_neg, J_lt, J_le, J_eq, J_natN, J_nat, Int.toNat_natCast, tnl, tnc] <;> omega) (Ok_some_e ?_)
        intro u hu
        have z1 : ((mA σ 11 f).1 13).toNatClampNeg = r := by rw [e13]; exact J_natN (by omega)
        dsimp only at hu
        rw [z1] at hu
        have s1 : u.1 = J r := by rw [hu]; exact h13
        have s13 : u.2.1 13 = J (r + 1 : Nat) := by
          rw [hu]; show σ.1 13 + 1 = _; rw [h13, J_lit, J_add]; rfl
        have s11 : u.2.2 11 = f := by rw [hu]; rfl
        have s12 : u.2.2 12 = upd (σ.2 12) r (J n) := by rw [hu]; rfl
        have so1 : ∀ k, k ≠ 13 → u.2.1 k = σ.1 k := by intro k hk; rw [hu]; simp only [mI_1, mA_1, if_neg hk]
        have so2 : ∀ k, k ≠ 11 → k ≠ 12 → u.2.2 k = σ.2 k := by intro k hk hk2; rw [hu]; simp only [mI_2, mA_2, if_neg hk, if_neg hk2]
        clear hu z1
        refine ⟨r, r + 1, fun x => if x = r then wl b i n else nm x, s1, by omega, if_pos rfl, ?_, by omega, by omega, fun x hx => if_neg (by omega), so1, so2⟩
        refine ⟨s13, ?_, ?_⟩
        · intro x hx
          by_cases qx : x = r
          · subst qx
            dsimp only
            rw [if_pos rfl]
            refine ⟨⟨?_, ?_⟩, by rw [wl_len]; exact w1, by rw [wl_len]; exact w2, by rw [wl_len]; exact w3⟩
            · rw [s12, wl_len]; exact if_pos rfl
            · intro k hk
              rw [wl_len] at hk
              rw [s11, wl_get hk]; exact hf2 k (by omega)
          · dsimp only
            rw [if_neg qx]
            obtain ⟨⟨y1, y2⟩, y3⟩ := hnm x (by omega)
            refine ⟨⟨?_, fun k hk => ?_⟩, y3⟩
            · rw [s12]; show upd _ _ _ _ = _; rw [upd_s, if_neg qx]; exact y1
            · rw [s11, hf1 _ (by have := y3.2.1; omega)]; exact y2 k hk
        · intro x y hx hy hxy
          dsimp only at hxy
          by_cases qx : x = r
          · by_cases qy : y = r
            · omega
            · rw [if_pos qx, if_neg qy] at hxy
              exact absurd hxy.symm (hnew y (by omega))
          · by_cases qy : y = r
            · rw [if_pos qy, if_neg qx] at hxy
              exact absurd hxy (hnew x (by omega))
            · rw [if_neg qx, if_neg qy] at hxy
              exact hinj x y (by omega) (by omega) hxy
      · refine Ok_neg (by simp (disch := omega) only [J_lit, J_add, J_sub, J_mul, J_neg, J_lt, J_le, J_eq, J_natN, J_nat, Int.toNat_natCast, tnl, tnc] <;> omega) ?_
        have hbj := hb (i + j) (by omega)
        have z0 : (mA σ 11 f).2 5 = σ.2 5 := rfl
        have z1 : (J (i : Nat) + J (j : Nat)).toNatClampNeg = i + j := by simp (disch := omega) only [J_lit, J_add, J_sub, J_mul, J_neg, J_lt, J_le, J_eq, J_natN, J_nat, Int.toNat_natCast, tnl, tnc]
        have z2 : (12 * (mA σ 11 f).1 13 + J (j : Nat)).toNatClampNeg = 12 * r + j := by
          rw [e13]; simp (disch := omega) only [J_lit, J_add, J_sub, J_mul, J_neg, J_lt, J_le, J_eq, J_natN, J_nat, Int.toNat_natCast, tnl, tnc]; omega
        refine Ok_neg (by simp (disch := omega) only [J_lit, J_add, J_sub, J_mul, J_neg, J_lt, J_le, J_eq, J_natN, J_nat, Int.toNat_natCast, tnl, tnc] <;> omega) ?_
        dsimp only
        refine Ok_neg (by rw [z2, e13]; simp (disch := omega) only [J_lit, J_add, J_sub, J_mul, J_neg, J_lt, J_le, J_eq, J_natN, J_nat, Int.toNat_natCast, tnl, tnc] <;> omega) ?_
        rw [z1, z2, z0, h5 _ (by omega), J_byte (by omega) (by omega), mA_mA]
        have := ih2 (J (j + 1 : Nat), mA σ 11 (upd ((mA σ 11 f).2 11) (12 * r + j) (J (b (i + j))))) (n - (j + 1)) (by omega) ⟨j + 1, _, by omega, rfl, rfl, fun x hx => by
          show upd f _ _ _ = _
          rw [upd_s, if_neg (by omega)]; exact hf1 x hx, fun x hx => by
          show upd f _ _ _ = _
          rw [upd_s]
          by_cases qx : x = j
          · rw [qx, if_pos rfl]
          · rw [if_neg (by omega)]; exact hf2 x (by omega)⟩
        rw [show J (j : Nat) + 1 = J (j + 1 : Nat) by rw [J_lit, J_add]; rfl]
        exact this
    · show (0, σ) = (J 0, mA σ 11 (σ.2 11))
      rw [mA_id]; rfl
  · have hmr : r < m := by omega
    obtain ⟨⟨y1, y2⟩, y3, y4, y5⟩ := hnm r hmr
    refine Ok_neg (by show ¬ (σ.1 13 ≤ J r); rw [h13]; simp (disch := omega) only [J_lit, J_add, J_sub, J_mul, J_neg, J_lt, J_le, J_eq, J_natN, J_nat, Int.toNat_natCast, tnl, tnc] <;> omega) ?_
    refine Ok_neg (by simp (disch := omega) only [J_lit, J_add, J_sub, J_mul, J_neg, J_lt, J_le, J_eq, J_natN, J_nat, Int.toNat_natCast, tnl, tnc] <;> omega) ?_
    have hcmp : ∀ fl : Int, (fl = 1 ∧ (nm r).length = n ∨ fl = 0 ∧ (nm r).length ≠ n) → Ok (loopF (fun (again_39 : (Int32 × Int32 × MS) → MR) (s_38 : Int32 × Int32 × MS) =>
                  if J ↑n ≤ s_38.snd.fst then
                    if s_38.fst = 0 then a ((J (r : Nat)) + 1, s_38.snd.snd) else some ((J (r : Nat)), s_38.snd.snd)
                  else if s_38.fst = 0 then
                    if s_38.fst = 0 then a ((J (r : Nat)) + 1, s_38.snd.snd) else some ((J (r : Nat)), s_38.snd.snd)
                  else
                  if 12 * (J (r : Nat)) + s_38.snd.fst < 0 ∨ 96000 ≤ (12 * (J (r : Nat)) + s_38.snd.fst).toNatClampNeg then none
                  else
                    if J ↑i + s_38.snd.fst < 0 ∨ 16000 ≤ (J ↑i + s_38.snd.fst).toNatClampNeg then none
                    else
                      if
                          s_38.snd.snd.snd 11 (12 * (J (r : Nat)) + s_38.snd.fst).toNatClampNeg =
                            s_38.snd.snd.snd 5 (J ↑i + s_38.snd.fst).toNatClampNeg then
                        again_39 (1, s_38.snd.fst + 1, s_38.snd.snd)
                      else again_39 (0, s_38.snd.fst + 1, s_38.snd.snd)) FU (J fl, 0, σ)) fun u => ∃ (r m' : Nat) (nm' : Nat → List Int), u.1 = J r ∧ r < m' ∧ nm' r = wl b i n ∧ rnam m' nm' u.2 ∧ m ≤ m' ∧ m' ≤ m + 1 ∧ (∀ r, r < m → nm' r = nm r) ∧ (∀ k, k ≠ 13 → u.2.1 k = σ.1 k) ∧ (∀ k, k ≠ 11 → k ≠ 12 → u.2.2 k = σ.2 k) := by
      intro fl hfl
      refine Ok_loop (P := fun s m => ∃ (f : Int) (kk : Nat), kk ≤ n ∧ m = n - kk ∧ s = (J f, J kk, σ) ∧ (f = 1 ∧ (nm r).length = n ∧ (∀ x, x < kk → (nm r).getD x 0 = b (i + x)) ∨ f = 0 ∧ nm r ≠ wl b i n)) ?_ FU _ n (FU_gt (by omega)) ⟨fl, 0, by omega, rfl, rfl, ?_⟩
      · rintro a3 s m2 ⟨f, kk, hkk, rfl, rfl, hf⟩ ih3
        have hno : f = 0 → Ok (a (J r + 1, σ)) fun u => ∃ (r m' : Nat) (nm' : Nat → List Int), u.1 = J r ∧ r < m' ∧ nm' r = wl b i n ∧ rnam m' nm' u.2 ∧ m ≤ m' ∧ m' ≤ m + 1 ∧ (∀ r, r < m → nm' r = nm r) ∧ (∀ k, k ≠ 13 → u.2.1 k = σ.1 k) ∧ (∀ k, k ≠ 11 → k ≠ 12 → u.2.2 k = σ.2 k) := by
          intro hf0
          have hne : nm r ≠ wl b i n := by
            rcases hf with ⟨h, _⟩ | ⟨_, h⟩
            · omega
            · exact h
          have := ih (J (r + 1 : Nat), σ) (m - (r + 1)) (by omega) ⟨r + 1, by omega, rfl, rfl, fun q hq => by
            by_cases qr : q = r
            · rw [qr]; exact hne
            · exact hnew q (by omega)⟩
          rw [show J (r : Nat) + 1 = J (r + 1 : Nat) by rw [J_lit, J_add]; rfl]
          exact this
        by_cases q1 : n ≤ kk
        · refine Ok_pos (by simp (disch := omega) only [J_lit, J_add, J_sub, J_mul, J_neg, J_lt, J_le, J_eq, J_natN, J_nat, Int.toNat_natCast, tnl, tnc] <;> omega) ?_
          rcases hf with ⟨rfl, h1, h2⟩ | ⟨rfl, h1⟩
          · refine Ok_neg J1_ne (Ok_some ⟨r, m, nm, rfl, hmr, ?_, ⟨h13, hnm, hinj⟩, by omega, by omega, fun _ _ => rfl, fun _ _ => rfl, fun _ _ _ => rfl⟩)
            exact list_ext (by rw [wl_len, h1]) (fun x hx => by rw [wl_get (by omega)]; exact h2 x (by omega))
          · exact Ok_pos J0_eq (hno rfl)
        · refine Ok_neg (by simp (disch := omega) only [J_lit, J_add, J_sub, J_mul, J_neg, J_lt, J_le, J_eq, J_natN, J_nat, Int.toNat_natCast, tnl, tnc] <;> omega) ?_
          rcases hf with ⟨rfl, h1, h2⟩ | ⟨rfl, h1⟩
          · refine Ok_neg J1_ne ?_
            have hbk := hb (i + kk) (by omega)
            have y6 := isLF_iff.mp (y5 kk (by omega))
            have z1 : (12 * J (r : Nat) + J (kk : Nat)).toNatClampNeg = 12 * r + kk := by simp (disch := omega) only [J_lit, J_add, J_sub, J_mul, J_neg, J_lt, J_le, J_eq, J_natN, J_nat, Int.toNat_natCast, tnl, tnc]; omega
            have z2 : (J (i : Nat) + J (kk : Nat)).toNatClampNeg = i + kk := by simp (disch := omega) only [J_lit, J_add, J_sub, J_mul, J_neg, J_lt, J_le, J_eq, J_natN, J_nat, Int.toNat_natCast, tnl, tnc]
            refine Ok_neg (by dsimp only; rw [z1]; simp (disch := omega) only [J_lit, J_add, J_sub, J_mul, J_neg, J_lt, J_le, J_eq, J_natN, J_nat, Int.toNat_natCast, tnl, tnc] <;> omega) ?_
            refine Ok_neg (by simp (disch := omega) only [J_lit, J_add, J_sub, J_mul, J_neg, J_lt, J_le, J_eq, J_natN, J_nat, Int.toNat_natCast, tnl, tnc] <;> omega) ?_
            dsimp only
            rw [z1, z2, y2 kk (by omega), h5 _ (by omega)]
            refine Ok_ite (fun q2 => ?_) (fun q2 => ?_)
            · rw [J_eq (by omega) (by omega) (by omega) (by omega)] at q2
              have := ih3 (J 1, J (kk + 1 : Nat), σ) (n - (kk + 1)) (by omega) ⟨1, kk + 1, by omega, rfl, rfl, Or.inl ⟨rfl, h1, fun x hx => by
                by_cases hx2 : x = kk
                · rw [hx2]; exact q2
                · exact h2 x (by omega)⟩⟩
              rw [show J (kk : Nat) + 1 = J (kk + 1 : Nat) by rw [J_lit, J_add]; rfl]
              exact this
            · rw [J_eq (by omega) (by omega) (by omega) (by omega)] at q2
              have := ih3 (J 0, J (kk + 1 : Nat), σ) (n - (kk + 1)) (by omega) ⟨0, kk + 1, by omega, rfl, rfl, Or.inr ⟨rfl, fun h => q2 (by rw [h, wl_get (by omega)])⟩⟩
              rw [show J (kk : Nat) + 1 = J (kk + 1 : Nat) by rw [J_lit, J_add]; rfl]
              exact this
          · exact Ok_pos J0_eq (Ok_pos J0_eq (hno rfl))
      · rcases hfl with ⟨rfl, h⟩ | ⟨rfl, h⟩
        · exact Or.inl ⟨rfl, h, fun x hx => by omega⟩
        · exact Or.inr ⟨rfl, fun h2 => h (by rw [h2, wl_len])⟩
    have z3 : (J (r : Nat)).toNatClampNeg = r := J_natN (by omega)
    dsimp only
    rw [z3, y1]
    refine Ok_ite (fun q2 => ?_) (fun q2 => ?_)
    · rw [J_eq (by omega) (by omega) (by omega) (by omega)] at q2
      exact hcmp 1 (Or.inl ⟨rfl, by omega⟩)
    · rw [J_eq (by omega) (by omega) (by omega) (by omega)] at q2
      exact hcmp 0 (Or.inr ⟨rfl, by omega⟩)
