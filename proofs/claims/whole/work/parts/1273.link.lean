theorem l_told (q : Int32) (T : TS) : F_X11_told q T = H_told q T := by
  unfold F_X11_told H_told
  rw [bndE]
  by_cases h0 : q < 0
  · rw [if_pos h0, if_pos h0]
  · rw [if_neg h0, if_neg h0]
    by_cases h1 : 11 < q
    · rw [if_pos h1, if_neg (Int32.not_le.mpr h1)]
    · rw [if_neg h1, if_pos (Int32.not_lt.mp h1)]
      by_cases h2 : (T.1 0).1 7 = 0
      · rw [if_pos h2, if_pos h2]
      · rw [if_neg h2, if_neg h2]
        by_cases h3 : q < 7
        · rw [if_pos h3, if_neg (Int32.not_le.mpr h3), bndE]
        · rw [if_neg h3, if_pos (Int32.not_lt.mp h3)]
theorem l_begin (p : Int32) (T : TS) : F_X11_begin p T = rlH rl2 (H_begin p T) := by
  unfold F_X11_begin H_begin
  simp only [bndE, rlH_ite, rlH_bind, rlH_some, rl2_0, rl2_1]
theorem l_save (p : Int32) (T : TS) : F_X11_save p T = rlH rl3 (H_save p T) := by
  unfold F_X11_save H_save
  by_cases h : p < 0 ∨ 4 ≤ p
  · rw [nplace_no h, if_pos h]
    simp only [Option.bind_some, bndE, mrg_self]
    rw [if_pos i_30]; rfl
  · rw [nplace_ok h, if_neg h]
    simp only [Option.bind_some, bndE, mrg_self]
    rw [if_neg (by decide)]
    by_cases hp : (T.1 0).1 8 = 0
    · rw [nplay_no (T := (T.1, T.2)) hp, if_pos hp]
      simp only [Option.bind_some, mrg_self]
      rw [if_pos i_20]; rfl
    · rw [nplay_ok (T := (T.1, T.2)) hp, if_neg hp]
      simp only [Option.bind_some, mrg_self, rlH_ite, rlH_bind, rlH_some, rl3_0, rlH_none]
      rw [if_neg (by decide)]
      by_cases hq : p < 0 ∨ 4 ≤ p.toNatClampNeg
      · rw [if_pos hq, if_pos hq]
      · simp only [if_neg hq, show vp_nar .boolean 1 = 1 from by decide +kernel]
theorem l_restore (p : Int32) (T : TS) : F_X11_restore p T = rlH rl3 (H_restore p T) := by
  unfold F_X11_restore H_restore
  by_cases h : p < 0 ∨ 4 ≤ p
  · rw [nplace_no h, if_pos h]
    simp only [Option.bind_some, bndE, mrg_self]
    rw [if_pos i_30]; rfl
  · rw [nplace_ok h, if_neg h]
    simp only [Option.bind_some, bndE, mrg_self]
    rw [if_neg (by decide)]
    simp only [rlH_ite, rlH_bind, rlH_some, rl3_0, rl3_2, rlH_none]
    by_cases hq : p < 0 ∨ 4 ≤ p.toNatClampNeg
    · rw [if_pos hq, if_pos hq]
    · simp only [if_neg hq]
theorem l_undo (T : TS) : F_X11_undo T = rlH rl2 (H_undo T) := by
  unfold F_X11_undo H_undo
  by_cases hp : (T.1 0).1 8 = 0
  · rw [nplay_no hp, if_pos hp]
    simp only [Option.bind_some, bndE, mrg_self]
    rw [if_pos i_20]; rfl
  · rw [nplay_ok hp, if_neg hp]
    simp only [Option.bind_some, bndE, mrg_self]
    rw [if_neg (by decide)]
    simp only [rlH_ite, rlH_bind, rlH_some, rl2_0, rlH_none]
theorem l_sound (T : TS) : F_X11_sound T = H_sound T := by
  unfold F_X11_sound H_sound
  simp only [bndE, i0n]
theorem i_v (c : Prop) [Decidable c] (a b k : Int32) (T : TS) : (if c then (some ((k, a), T) : HA) else some ((k, b), T)) = some ((k, if c then a else b), T) := by
  by_cases h : c
  · rw [if_pos h, if_pos h]
  · rw [if_neg h, if_neg h]
theorem l_enter (T : TS) : F_X11_enter T = rlH rl2 (H_enter T) := by
  unfold F_X11_enter H_enter HE2 HE3
  by_cases hp : (T.1 0).1 8 = 0
  · rw [nplay_no hp, if_pos hp]
    simp only [Option.bind_some, bndE, mrg_self]
    rw [if_pos i_20]; rfl
  · rw [nplay_ok hp, if_neg hp]
    simp only [Option.bind_some, bndE, mrg_self, i_v]
    rw [if_neg (by decide)]
    simp only [rlH_bind, rlH_ite, rlH_some, rl2_0, rlH_none]
    refine congrArg (fun z => (F_X5_wipe T.1).bind z) (funext fun u => ?_)
    refine congrArg (fun z => (F_X8_listen _ _).bind z) (funext fun u2 => ?_)
    by_cases h2 : u2.1 = 0
    · rw [if_pos h2, if_pos h2]
    · rw [if_neg h2, if_neg h2]
      refine congrArg (fun z => (F_X8_understand _).bind z) (funext fun u3 => ?_)
      by_cases h3 : u3.1 = 0
      · rw [if_pos h3, if_pos h3]
      · rw [if_neg h3, if_neg h3]
        split
        · rfl
        · next hs =>
          refine congrArg (fun z => (HCopy _ _).bind z) (funext fun P => ?_)
          refine congrArg (fun z => (F_X8_act _).bind z) (funext fun u4 => ?_)
          by_cases h4 : (mrg bE (mrg bE (mrg bE13 (cI' (mrg (fun j => j == 8) T.1 u.2) 0 1 0) u2.2) u3.2) u4.2 10).1 5 = 0
          · rw [if_pos h4, if_pos h4]
          · rw [if_neg h4, if_neg h4]
            rw [if_pos trivial]
/-! build -/
theorem drv_drv (M X : HS) : drv (drv M X) M = M := funext fun r => by
  by_cases h : 4 ≤ r ∧ r ≤ 7
  · rw [drv_in h]
  · rw [drv_no h, drv_no h]
theorem drv_mid (M N X : HS) : drv M (drv N X) = drv M X := funext fun r => by
  by_cases h : 4 ≤ r ∧ r ≤ 7
  · rw [drv_in h, drv_in h, drv_in h]
  · rw [drv_no h, drv_no h]
theorem drv_eq {M X Y : HS} (e : ∀ r, 4 ≤ r → r ≤ 7 → X r = Y r) : drv M X = drv M Y := funext fun r => by
  by_cases h : 4 ≤ r ∧ r ≤ 7
  · rw [drv_in h, drv_in h, e r h.1 h.2]
  · rw [drv_no h, drv_no h]
theorem drv_ci (M X : HS) (j : Nat) (v : Int32) : cI' (drv M X) 0 j v = drv (cI' M 0 j v) X := funext fun r => by
  by_cases h : 4 ≤ r ∧ r ≤ 7
  · rw [drv_in h]
    unfold cI' onR
    rw [if_neg (by omega), drv_in h]
  · rw [drv_no h]
    unfold cI' onR
    by_cases h0 : r = 0
    · rw [if_pos h0, if_pos h0, drv_no (by omega)]
    · rw [if_neg h0, if_neg h0, drv_no h]
theorem b_215 : (fun j : Nat => j == 2 || j == 1 || j == 5) = (fun j => j == 1 || j == 2 || j == 5) := funext fun j => by
  cases (j == 1) <;> cases (j == 2) <;> rfl
theorem b_314 : (fun j : Nat => j == 3 || j == 1 || j == 4 || j == 5 || j == 6 || j == 7) = (fun j => j == 1 || j == 3 || j == 4 || j == 5 || j == 6 || j == 7) := funext fun j => by
  cases (j == 1) <;> cases (j == 3) <;> rfl
theorem hdrv_eq : hdrv = drv := rfl
theorem l_build {T T' : TS} {k w : Int32} (h : H_build T = some ((k, w), T')) : ∃ (b : Int32) (D : HS), (b = 0 ∨ b = 1) ∧ k = 0 ∧ F_X11_build T = some ((b, w), (T'.1, D, T'.2.2)) := by
  unfold H_build at h
  unfold F_X11_build
  simp only [hdrv_eq]
  cases e1 : F_X10_cut ((T.1 0).1 1) T.1 with
  | none => rw [e1] at h; exact nomatch h
  | some u0 =>
  rw [e1] at h
  simp only [Option.bind_some, bndE] at h ⊢
  generalize hG : cI' (cI' (mrg (fun j => j == 13 || j == 1) T.1 u0.2) 0 1 0) 0 9 (-1) = G3 at h ⊢
  have hX : ∀ r, 4 ≤ r → r ≤ 7 → G3 r = T.1 r := fun r a b => by
    rw [← hG]
    unfold cI' onR mrg
    rw [if_neg (by omega), if_neg (by omega)]
    show (bif (r == 13 || r == 1) then u0.2 r else T.1 r) = T.1 r
    rw [show (r == 13 || r == 1) = false from by
      have q1 : ¬ r = 13 := by omega
      have q2 : ¬ r = 1 := by omega
      simp [q1, q2]]
    rfl
  cases e2 : F_X7_clear (drv G3 T.2.1) with
  | none => rw [e2] at h; exact nomatch h
  | some u1 =>
  rw [e2] at h
  simp only [Option.bind_some] at h ⊢
  generalize hM : mrg bD (drv G3 T.2.1) u1.2 = M1 at h ⊢
  rw [drv_drv]
  cases e3 : F_X2_readAll M1 with
  | none => rw [e3] at h; exact nomatch h
  | some u2 =>
  rw [e3] at h
  simp only [Option.bind_some] at h ⊢
  rw [b_215, drv_mid]
  generalize hM2 : mrg (fun j => j == 1 || j == 2 || j == 5) M1 u2.2 = M2 at h ⊢
  by_cases h2 : u2.1 = 0
  · rw [if_pos h2] at h ⊢
    unfold HB2 at h
    rw [drv_drv]
    cases e4 : F_X4_giveAll M2 with
    | none => rw [e4] at h; exact nomatch h
    | some u3 =>
    rw [e4] at h
    simp only [Option.bind_some, bndE] at h ⊢
    rw [b_314, drv_mid]
    generalize hM3 : mrg (fun j => j == 1 || j == 3 || j == 4 || j == 5 || j == 6 || j == 7) M2 u3.2 = M3 at h ⊢
    by_cases h3 : u3.1 = 0
    · rw [if_pos h3] at h ⊢
      unfold HB3 at h
      rw [drv_drv]
      cases e5 : F_X0_link M3 with
      | none => rw [e5] at h; exact nomatch h
      | some u4 =>
      rw [e5] at h
      simp only [Option.bind_some, bndE] at h ⊢
      rw [drv_mid]
      generalize hM4 : mrg (fun j => j == 1 || j == 5) M3 u4.2 = M4 at h ⊢
      rw [drv_drv]
      cases e6 : F_X9_packAll M4 with
      | none => rw [e6] at h; exact nomatch h
      | some u5 =>
      rw [e6] at h
      simp only [Option.bind_some, bndE] at h ⊢
      rw [drv_mid]
      generalize hM5 : mrg (fun j => j == 1 || j == 6) M4 u5.2 = M5 at h ⊢
      rw [drv_drv]
      have h9 := Option.some.inj h
      have k9 : (0, (M5 4).2.1 0 0) = (k, w) := congrArg Prod.fst h9
      have t9 : (opnH M5, T.1, T.2.2) = T' := congrArg Prod.snd h9
      subst t9
      have k1 : (0 : Int32) = k := congrArg Prod.fst k9
      have w1 : (M5 4).2.1 0 0 = w := congrArg Prod.snd k9
      refine ⟨1, drv M5 G3, Or.inr rfl, k1.symm, ?_⟩
      rw [← w1]
      unfold opnH
      rw [i0n, drv_no (r := 0) (by omega)]
      rfl
    · rw [if_neg h3] at h ⊢
      have h9 := Option.some.inj h
      have k9 : (0, -u3.1) = (k, w) := congrArg Prod.fst h9
      have t9 : (drv (cI' M3 0 9 ((M3 3).1 17)) T.1, M3, T.2.2) = T' := congrArg Prod.snd h9
      subst t9
      have k1 : (0 : Int32) = k := congrArg Prod.fst k9
      have w1 : -u3.1 = w := congrArg Prod.snd k9
      refine ⟨0, M3, Or.inl rfl, k1.symm, ?_⟩
      rw [← w1, drv_no (r := 3) (by omega), drv_ci, drv_eq hX]
  · rw [if_neg h2] at h ⊢
    have h9 := Option.some.inj h
    have k9 : (0, -u2.1) = (k, w) := congrArg Prod.fst h9
    have t9 : (drv (cI' M2 0 9 ((M2 2).1 7)) T.1, M2, T.2.2) = T' := congrArg Prod.snd h9
    subst t9
    have k1 : (0 : Int32) = k := congrArg Prod.fst k9
    have w1 : -u2.1 = w := congrArg Prod.snd k9
    refine ⟨0, M2, Or.inl rfl, k1.symm, ?_⟩
    rw [← w1, drv_no (r := 2) (by omega), drv_ci, drv_eq hX]
