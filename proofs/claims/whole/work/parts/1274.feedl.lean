/-! feeding: the class's two loops make the closed form -/
def Fd2 (p : Int64) (x : Int32) : ((Int32 × TS) → HA) → Int32 × TS → HA := fun (again_20 : (Int32 × TS) → HA) (s_19 : Int32 × TS) => (
              if x ≤ s_19.1 then (
                some ((0, ((s_19.2.1 0).1 1)), s_19.2)
              ) else (
                (F_X11_byteOf p s_19.1 s_19.2.1).bind fun u_26 =>
                bnd (u_26.1.toInt8.toInt32) fun (x_28 : Int32) =>
                if ((s_19.2.1 0).1 1) < 0 ∨ 16000 ≤ ((s_19.2.1 0).1 1).toNatClampNeg then none else
                bnd (((cA' s_19.2.1 13 0 (upd ((s_19.2.1 13).2.1 0) ((s_19.2.1 0).1 1).toNatClampNeg (vp_nar .byte x_28)), s_19.2.2) : TS)) fun σ_32 =>
                bnd (((cI' σ_32.1 0 1 (((σ_32.1 0).1 1) + 1), σ_32.2) : TS)) fun σ_34 =>
                bnd (s_19.1 + 1) fun (x_36 : Int32) =>
                again_20 (x_36, σ_34)
              )
            )
def Fd1 (p : Int64) (x : Int32) : ((Int32 × TS) → HA) → Int32 × TS → HA := fun (again_12 : (Int32 × TS) → HA) (s_11 : Int32 × TS) => (
        if x ≤ s_11.1 then (
          if (((s_11.2.1 0).1 1) + x) ≤ 16000 then (
            loopF (Fd2 p x) FU (0, s_11.2)
          ) else (
            some ((2, 0), s_11.2)
          )
        ) else (
          (F_X11_byteOf p s_11.1 s_11.2.1).bind fun u_41 =>
          (F_X11_isTapeByte u_41.1 s_11.2.1).bind fun u_43 =>
          if u_43.1 = 0 then (
            some ((1, 0), s_11.2)
          ) else (
            bnd (s_11.1 + 1) fun (x_49 : Int32) =>
            again_12 (x_49, s_11.2)
          )
        )
      )
theorem feed11_eq (p : Int64) (x : Int32) (T : TS) : F_X11_feed p x T = if x < 1 then some ((1, 0), T) else if x ≤ 8 then loopF (Fd1 p x) FU (0, T) else some ((1, 0), T) := rfl
theorem isT_b (b : Int32) (Γ : HS) : (isT b → F_X11_isTapeByte b Γ = some (1, Γ)) ∧ (¬ isT b → F_X11_isTapeByte b Γ = some (0, Γ)) := by
  unfold F_X11_isTapeByte
  refine ⟨fun h => ?_, fun h => ?_⟩
  · rcases h with h | ⟨h1, h2⟩
    · rw [if_pos h]
    · by_cases q : b = 10
      · rw [if_pos q]
      · rw [if_neg q, if_neg h1, if_neg h2]
  · have q : ¬ b = 10 := fun e => h (Or.inl e)
    rw [if_neg q]
    by_cases q1 : b < 32
    · rw [if_pos q1]
    · rw [if_neg q1]
      by_cases q2 : 126 < b
      · rw [if_pos q2]
      · exact absurd (Or.inr ⟨q1, q2⟩) h
theorem byteOf_eq (p : Int64) (i : Nat) (Γ : HS) : F_X11_byteOf p (J (i : Nat)) Γ = some (rwB p i &&& 255, Γ) := rfl
/-- how far the tape is written -/
def FdS (p : Int64) (L i : Nat) (T : TS) : TS := (cI' (cA' T.1 13 0 (fdT p L i ((T.1 13).2.1 0))) 0 1 (J (L + i : Nat)), T.2)
theorem FdS_0 {p : Int64} {L : Nat} {T : TS} (h : (T.1 0).1 1 = J (L : Nat)) : FdS p L 0 T = T := by
  unfold FdS
  refine Prod.ext (funext fun r => ?_) rfl
  show cI' (cA' T.1 13 0 (fdT p L 0 ((T.1 13).2.1 0))) 0 1 (J (L + 0 : Nat)) r = T.1 r
  unfold cI' cA' onR
  by_cases h0 : r = 0
  · subst h0
    rw [if_pos rfl, if_neg (by omega)]
    refine Prod.ext (funext fun j => ?_) rfl
    show upd (T.1 0).1 1 (J (L + 0 : Nat)) j = (T.1 0).1 j
    rw [upd_s]
    by_cases q : j = 1
    · rw [if_pos q, q, h]; rfl
    · rw [if_neg q]
  · rw [if_neg h0]
    by_cases h1 : r = 13
    · subst h1
      rw [if_pos rfl]
      refine Prod.ext rfl (Prod.ext (funext fun j => ?_) rfl)
      show updA (T.1 13).2.1 0 _ j = (T.1 13).2.1 j
      unfold updA
      by_cases q : j = 0
      · rw [if_pos q, q]
        funext z
        unfold fdT
        rw [if_neg (by omega)]
      · rw [if_neg q]
    · rw [if_neg h1]
theorem fdT_s (p : Int64) (L i : Nat) (f : Nat → Int32) : upd (fdT p L i f) (L + i) (vp_nar .byte ((rwB p i &&& 255).toInt8.toInt32)) = fdT p L (i + 1) f := by
  funext j
  rw [upd_s]
  unfold fdT
  by_cases q : j = L + i
  · rw [if_pos q, if_pos (by omega), show j - L = i by omega, show vp_nar .byte ((rwB p i &&& 255).toInt8.toInt32) = (rwB p i &&& 255).toInt8.toInt32 from pk_vb _]
  · rw [if_neg q]
    by_cases q2 : L ≤ j ∧ j < L + i
    · rw [if_pos q2, if_pos (by omega)]
    · rw [if_neg q2, if_neg (by omega)]
theorem FdS_n (p : Int64) (L i : Nat) (T : TS) : ((FdS p L i T).1 0).1 1 = J (L + i : Nat) := by
  show (cI' (cA' T.1 13 0 _) 0 1 (J (L + i : Nat)) 0).1 1 = _
  unfold cI' onR
  rw [if_pos rfl]
  dsimp only
  rw [upd_s, if_pos rfl]
theorem FdS_t (p : Int64) (L i : Nat) (T : TS) : ((FdS p L i T).1 13).2.1 0 = fdT p L i ((T.1 13).2.1 0) := by
  show (cI' (cA' T.1 13 0 _) 0 1 (J (L + i : Nat)) 13).2.1 0 = _
  unfold cI' cA' onR
  rw [if_neg (by omega), if_pos rfl]
  dsimp only
  unfold updA
  rw [if_pos rfl]
theorem FdS_s (p : Int64) (L i : Nat) (T : TS) : ((cI' (cA' (FdS p L i T).1 13 0 (fdT p L (i + 1) ((T.1 13).2.1 0))) 0 1 (J (L + i + 1 : Nat)), (FdS p L i T).2) : TS) = FdS p L (i + 1) T := by
  refine Prod.ext (funext fun r => ?_) rfl
  show cI' (cA' (cI' (cA' T.1 13 0 _) 0 1 (J (L + i : Nat))) 13 0 _) 0 1 (J (L + i + 1 : Nat)) r = cI' (cA' T.1 13 0 _) 0 1 (J (L + (i + 1) : Nat)) r
  unfold cI' cA' onR
  by_cases h0 : r = 0
  · subst h0
    rw [if_pos rfl, if_pos rfl, if_neg (by omega), if_pos rfl, if_neg (by omega)]
    refine Prod.ext (funext fun j => ?_) rfl
    show upd (upd (T.1 0).1 1 _) 1 _ j = upd (T.1 0).1 1 _ j
    rw [upd_s, upd_s, upd_s]
    by_cases q : j = 1
    · rw [if_pos q, if_pos q]; rfl
    · rw [if_neg q, if_neg q, if_neg q]
  · rw [if_neg h0, if_neg h0]
    by_cases h1 : r = 13
    · subst h1
      rw [if_pos rfl, if_pos rfl, if_neg h0, if_pos rfl]
      refine Prod.ext rfl (Prod.ext (funext fun j => ?_) rfl)
      show updA (updA (T.1 13).2.1 0 _) 0 _ j = updA (T.1 13).2.1 0 _ j
      unfold updA
      by_cases q : j = 0
      · rw [if_pos q, if_pos q]
      · rw [if_neg q, if_neg q, if_neg q]
    · rw [if_neg h1, if_neg h0, if_neg h1, if_neg h1]
theorem Fd2_ok (p : Int64) {n L : Nat} (hn : n ≤ 8) (hL : L + 8 ≤ 16000) (T : TS) : ∀ (d i m : Nat), i + d = n → d < m → loopF (Fd2 p (J (n : Nat))) m (J (i : Nat), FdS p L i T) = some ((0, J (L + n : Nat)), FdS p L n T) := by
  intro d
  induction d with
  | zero =>
    intro i m hi hm
    obtain ⟨m, rfl⟩ : ∃ q, m = q + 1 := ⟨m - 1, by omega⟩
    obtain rfl : i = n := by omega
    show (if J (i : Nat) ≤ J (i : Nat) then _ else _) = _
    rw [if_pos (Int32.le_refl _)]
    show some ((0, ((FdS p L i T).1 0).1 1), FdS p L i T) = _
    rw [FdS_n]
  | succ d ih =>
    intro i m hi hm
    obtain ⟨m, rfl⟩ : ∃ q, m = q + 1 := ⟨m - 1, by omega⟩
    show (if J (n : Nat) ≤ J (i : Nat) then _ else _) = _
    rw [if_neg (show ¬ J (n : Nat) ≤ J (i : Nat) by rw [J_leN (by omega) (by omega)]; omega)]
    show (F_X11_byteOf p (J (i : Nat)) (FdS p L i T).1).bind _ = _
    rw [byteOf_eq, Option.bind_some, bndE]
    dsimp only
    rw [FdS_n, if_neg (gNn (by omega) (by omega)), J_natN (by omega), FdS_t, fdT_s, bndE, bndE, bndE]
    dsimp only
    have e1 : ((cA' (FdS p L i T).1 13 0 (fdT p L (i + 1) ((T.1 13).2.1 0))) 0).1 1 = J (L + i : Nat) := FdS_n p L i T
    rw [e1, show J (L + i : Nat) + 1 = J (L + i + 1 : Nat) by rw [show (1 : Int32) = J 1 from rfl, J_add]; congr 1, FdS_s, show J (i : Nat) + 1 = J (i + 1 : Nat) by rw [show (1 : Int32) = J 1 from rfl, J_add]; congr 1]
    exact ih (i + 1) m (by omega) (by omega)
theorem Fd1_ok (p : Int64) {n L : Nat} (hn : n ≤ 8) (hL : L + 8 ≤ 16000) (T : TS) (h1 : (T.1 0).1 1 = J (L : Nat)) : ∀ (d i m : Nat), i + d = n → d < m → loopF (Fd1 p (J (n : Nat))) m (J (i : Nat), T) = if ∀ j, j < n → i ≤ j → isT (rwB p j &&& 255) then some ((0, J (L + n : Nat)), FdS p L n T) else some ((1, 0), T) := by
  intro d
  induction d with
  | zero =>
    intro i m hi hm
    obtain ⟨m, rfl⟩ : ∃ q, m = q + 1 := ⟨m - 1, by omega⟩
    obtain rfl : i = n := by omega
    rw [if_pos (show ∀ j, j < i → i ≤ j → isT (rwB p j &&& 255) from fun j a b => by omega)]
    show (if J (i : Nat) ≤ J (i : Nat) then _ else _) = _
    rw [if_pos (Int32.le_refl _)]
    show (if (T.1 0).1 1 + J (i : Nat) ≤ 16000 then loopF (Fd2 p (J (i : Nat))) FU (0, T) else _) = _
    rw [h1, J_add, if_pos (show J ((L : Nat) + (i : Nat) : Int) ≤ 16000 by rw [show (16000 : Int32) = J 16000 from rfl, J_le (by omega) (by omega) (by omega) (by omega)]; omega)]
    have g := Fd2_ok p hn hL T i 0 FU (by omega) (FU_gt (by omega))
    rw [FdS_0 h1] at g
    exact g
  | succ d ih =>
    intro i m hi hm
    obtain ⟨m, rfl⟩ : ∃ q, m = q + 1 := ⟨m - 1, by omega⟩
    show (if J (n : Nat) ≤ J (i : Nat) then _ else _) = _
    rw [if_neg (show ¬ J (n : Nat) ≤ J (i : Nat) by rw [J_leN (by omega) (by omega)]; omega)]
    show (F_X11_byteOf p (J (i : Nat)) T.1).bind _ = _
    rw [byteOf_eq, Option.bind_some]
    dsimp only
    by_cases q : isT (rwB p i &&& 255)
    · rw [(isT_b _ _).1 q, Option.bind_some]
      dsimp only
      rw [if_neg (by decide), bndE, show J (i : Nat) + 1 = J (i + 1 : Nat) by rw [show (1 : Int32) = J 1 from rfl, J_add]; congr 1]
      have g := ih (i + 1) m (by omega) (by omega)
      have e : (∀ j, j < n → i + 1 ≤ j → isT (rwB p j &&& 255)) = (∀ j, j < n → i ≤ j → isT (rwB p j &&& 255)) := propext ⟨fun h j a b => by
        by_cases c : j = i
        · rw [c]; exact q
        · exact h j a (by omega), fun h j a b => h j a (by omega)⟩
      rw [show loopF (Fd1 p (J (n : Nat))) m (J (i + 1 : Nat), T) = _ from g]
      simp only [e]
    · rw [(isT_b _ _).2 q, Option.bind_some]
      dsimp only
      rw [if_pos rfl, if_neg (show ¬ ∀ j, j < n → i ≤ j → isT (rwB p j &&& 255) from fun h => q (h i (by omega) (Nat.le_refl _)))]
theorem l_feed {L : Nat} {T : TS} (h1 : (T.1 0).1 1 = J (L : Nat)) (hL : L + 8 ≤ 16000) (p : Int64) (x : Int32) : F_X11_feed p x T = H_feed p x T := by
  rw [feed11_eq]
  unfold H_feed
  by_cases q : x < 1
  · rw [if_pos q, if_pos q]
  · rw [if_neg q, if_neg q]
    by_cases q8 : 8 < x
    · rw [if_pos q8, if_neg (Int32.not_le.mpr q8)]
    · rw [if_neg q8, if_pos (Int32.not_lt.mp q8)]
      rcases i32_n x with c | ⟨n, rfl, hn⟩
      · exact absurd (lt1 c) q
      · have hn8 : n ≤ 8 := by
          rw [show (8 : Int32) = J ((8 : Nat) : Int) from rfl, J_ltN (by omega) hn] at q8
          omega
        have g := Fd1_ok p hn8 hL T h1 n 0 FU (by omega) (FU_gt (by omega))
        rw [show loopF (Fd1 p (J (n : Nat))) FU (0, T) = _ from g, J_natN (by omega)]
        have e : (∀ j, j < n → 0 ≤ j → isT (rwB p j &&& 255)) = (∀ i, i < n → isT (rwB p i &&& 255)) := propext ⟨fun h i a => h i a (Nat.zero_le _), fun h j a _ => h j a⟩
        simp only [e]
        split
        · rw [h1, J_add, if_neg (show ¬ (16000 : Int32) < J ((L : Nat) + (n : Nat) : Int) by rw [show (16000 : Int32) = J 16000 from rfl, J_lt (by omega) (by omega) (by omega) (by omega)]; omega), J_natN (by omega)]
          rfl
        · rfl
