/-! the class's own methods are what the pure level speaks of -/
def rl2 : Int32 → Int32 := fun k => if k = 1 then 2 else k
def rl3 : Int32 → Int32 := fun k => if k = 1 then 3 else k
def rlS : Int32 → Int32 := fun k => if k = 1 then 3 else if k = 2 then 1 else if k = 3 then 2 else k
theorem rl2_0 : rl2 0 = 0 := by decide
theorem rl2_1 : rl2 1 = 2 := by decide
theorem rl3_0 : rl3 0 = 0 := by decide
theorem rl3_1 : rl3 1 = 3 := by decide
theorem rl3_2 : rl3 2 = 2 := by decide
theorem rlS_0 : rlS 0 = 0 := by decide
theorem rlS_1 : rlS 1 = 3 := by decide
theorem rlS_2 : rlS 2 = 1 := by decide
theorem rlS_3 : rlS 3 = 2 := by decide
theorem rlH_bind {α : Type} (f : Int32 → Int32) (x : Option α) (g : α → HA) : rlH f (x.bind g) = x.bind fun u => rlH f (g u) := by
  cases x with
  | none => rfl
  | some u => rfl
theorem rlH_ite (f : Int32 → Int32) (c : Prop) [Decidable c] (a b : HA) : rlH f (if c then a else b) = if c then rlH f a else rlH f b := by
  by_cases h : c
  · rw [if_pos h, if_pos h]
  · rw [if_neg h, if_neg h]
theorem rlH_some (f : Int32 → Int32) (k v : Int32) (T : TS) : rlH f (some ((k, v), T)) = some ((f k, v), T) := rfl
theorem rlH_none (f : Int32 → Int32) : rlH f none = none := rfl
theorem i_20 : ¬ (2 : Int32) = 0 := by decide
theorem i_30 : ¬ (3 : Int32) = 0 := by decide
theorem i_10 : ¬ (1 : Int32) = 0 := by decide
theorem nplay_no {T : TS} (h : (T.1 0).1 8 = 0) : F_X11_needPlay T = some ((2, 0), T) := by unfold F_X11_needPlay; rw [if_pos h]
theorem nplay_ok {T : TS} (h : ¬ (T.1 0).1 8 = 0) : F_X11_needPlay T = some ((0, 0), T) := by unfold F_X11_needPlay; rw [if_neg h]
theorem nplace_no {p : Int32} {T : TS} (h : p < 0 ∨ 4 ≤ p) : F_X11_needPlace p T = some ((3, 0), T) := by
  unfold F_X11_needPlace
  rw [bndE]
  by_cases h0 : p < 0
  · rw [if_pos h0]
  · rw [if_neg h0, if_neg (fun q => by rcases h with h | h; exact h0 h; exact absurd q (Int32.not_lt.mpr h))]
theorem nplace_ok {p : Int32} {T : TS} (h : ¬ (p < 0 ∨ 4 ≤ p)) : F_X11_needPlace p T = some ((0, 0), T) := by
  unfold F_X11_needPlace
  rw [bndE]
  have h0 : ¬ p < 0 := fun q => h (Or.inl q)
  have h1 : p < 4 := Int32.not_le.mp fun q => h (Or.inr q)
  rw [if_neg h0, if_pos h1]
/-- no such object -/
def nbj (x : Int32) (T : TS) : Prop := (T.1 0).1 7 = 0 ∨ x < 1 ∨ (T.1 4).2.1 0 0 < x
theorem i0n : (0 : Int32).toNatClampNeg = 0 := by decide +kernel
theorem nobj_no {x : Int32} {T : TS} (h : nbj x T) : F_X11_needObject x T = some ((3, 0), T) := by
  unfold F_X11_needObject
  rw [bndE, i0n]
  by_cases h0 : (T.1 0).1 7 = 0
  · rw [if_pos h0]
  · rw [if_neg h0]
    by_cases h1 : x < 1
    · rw [if_pos h1]
    · rw [if_neg h1, if_neg (fun q => by rcases h with h | h | h; exact h0 h; exact h1 h; exact absurd q (Int32.not_le.mpr h))]
theorem nobj_ok {x : Int32} {T : TS} (h : ¬ nbj x T) : F_X11_needObject x T = some ((0, 0), T) := by
  unfold F_X11_needObject
  rw [bndE, i0n]
  have h0 : ¬ (T.1 0).1 7 = 0 := fun q => h (Or.inl q)
  have h1 : ¬ x < 1 := fun q => h (Or.inr (Or.inl q))
  have h2 : x ≤ (T.1 4).2.1 0 0 := Int32.not_lt.mp fun q => h (Or.inr (Or.inr q))
  rw [if_neg h0, if_neg h1, if_pos h2]
theorem hobj_no {x : Int32} {T : TS} (h : nbj x T) : H_obj x T = 1 := by
  unfold H_obj
  by_cases h0 : (T.1 0).1 7 = 0
  · rw [if_pos h0]
  · rw [if_neg h0]
    by_cases h1 : x < 1
    · rw [if_pos h1]
    · rw [if_neg h1, if_pos (by rcases h with h | h | h; exact absurd h h0; exact absurd h h1; exact h)]
theorem hobj_ok {x : Int32} {T : TS} (h : ¬ nbj x T) : H_obj x T = if (T.1 0).1 8 = 0 then 2 else 0 := by
  unfold H_obj
  have h0 : ¬ (T.1 0).1 7 = 0 := fun q => h (Or.inl q)
  have h1 : ¬ x < 1 := fun q => h (Or.inr (Or.inl q))
  have h2 : ¬ (T.1 4).2.1 0 0 < x := fun q => h (Or.inr (Or.inr q))
  rw [if_neg h0, if_neg h1, if_neg h2]
theorem sTS {α : Type} {k v : α} {T : TS} : (some ((k, v), (T.1, T.2)) : Option ((α × α) × TS)) = some ((k, v), T) := rfl
theorem l_place (T : TS) : F_X11_place T = H_place T := rfl
theorem l_size (T : TS) : F_X11_size T = H_size T := rfl
theorem l_out (x : Int32) (T : TS) : F_X11_out x T = rlH rl3 (H_out x T) := by
  unfold F_X11_out H_out
  rw [bndE]
  by_cases h0 : x < 0
  · rw [if_pos h0, if_pos h0]; rfl
  · rw [if_neg h0, if_neg h0]
    by_cases h1 : (T.1 8).1 1 ≤ x
    · rw [if_pos h1, if_neg (Int32.not_lt.mpr h1)]; rfl
    · rw [if_neg h1, if_pos (Int32.not_le.mp h1), rlH_ite]; rfl
theorem l_holder (x : Int32) (T : TS) : F_X11_holder x T = rlH rl3 (H_holder x T) := by
  unfold F_X11_holder H_holder
  by_cases h : nbj x T
  · rw [nobj_no h, hobj_no h, if_neg i_10, rlH_some, rl3_1]
    simp only [Option.bind_some, bndE, mrg_self]
    rw [if_pos i_30]
  · rw [nobj_ok h, hobj_ok h]
    simp only [Option.bind_some, bndE, mrg_self]
    rw [if_neg (by decide)]
    by_cases hp : (T.1 0).1 8 = 0
    · rw [nplay_no (T := (T.1, T.2)) hp, if_pos hp, if_neg i_20, rlH_some, rl3_2]
      simp only [Option.bind_some, mrg_self]
      rw [if_pos i_20]
    · rw [nplay_ok (T := (T.1, T.2)) hp, if_neg hp, if_pos rfl, rlH_some, rl3_0]
      simp only [Option.bind_some, mrg_self]
      rw [if_neg (by decide)]
theorem l_first (x n : Int32) (T : TS) : F_X11_first x n T = rlH rl3 (H_first x n T) := by
  unfold F_X11_first H_first
  by_cases h : nbj x T
  · rw [nobj_no h, hobj_no h, if_neg i_10, rlH_some, rl3_1]
    simp only [Option.bind_some, bndE, mrg_self]
    rw [if_pos i_30]
  · rw [nobj_ok h, hobj_ok h]
    simp only [Option.bind_some, bndE, mrg_self]
    rw [if_neg (by decide)]
    by_cases hp : (T.1 0).1 8 = 0
    · rw [nplay_no (T := (T.1, T.2)) hp, if_pos hp, if_neg i_20, rlH_some, rl3_2]
      simp only [Option.bind_some, mrg_self]
      rw [if_pos i_20]
    · rw [nplay_ok (T := (T.1, T.2)) hp, if_neg hp, if_pos rfl, rlH_some, rl3_0]
      simp only [Option.bind_some, mrg_self]
      rw [if_neg (by decide)]
      by_cases hn : n = 0
      · rw [if_pos hn, if_pos hn]
      · rw [if_neg hn, if_neg hn]
theorem l_value (x : Int32) (T : TS) : F_X11_value x T = rlH rl3 (H_value x T) := by
  unfold F_X11_value H_value
  simp only [Option.bind_some, bndE, mrg_self, rlH_ite, rlH_some, rl3_0, rl3_1, rl3_2]
  rw [show (2 : Int32).toNatClampNeg = 2 from by decide +kernel]
  by_cases h0 : (T.1 0).1 7 = 0
  · rw [if_pos h0, if_pos h0]
  · rw [if_neg h0, if_neg h0]
    by_cases h1 : x < 0
    · rw [if_pos h1, if_pos h1]
    · rw [if_neg h1, if_neg h1]
      by_cases h2 : (T.1 4).2.1 0 2 ≤ x
      · rw [if_pos h2, if_neg (Int32.not_lt.mpr h2)]
      · rw [if_neg h2, if_pos (Int32.not_le.mp h2)]
        by_cases hp : (T.1 0).1 8 = 0
        · rw [nplay_no hp, if_pos hp]
          simp only [Option.bind_some, mrg_self]
          rw [if_pos i_20]
        · rw [nplay_ok hp, if_neg hp]
          simp only [Option.bind_some, mrg_self]
          rw [if_neg (by decide)]
theorem l_has (x a : Int32) (T : TS) : F_X11_has x a T = rlH rlS (H_has x a T) := by
  unfold F_X11_has H_has
  by_cases h : nbj x T
  · rw [nobj_no h]
    simp only [Option.bind_some, bndE, mrg_self]
    rw [if_pos i_30]
    by_cases h0 : (T.1 0).1 7 = 0
    · rw [if_pos h0]; rfl
    · rw [if_neg h0]
      by_cases h1 : x < 1
      · rw [if_pos h1]; rfl
      · rw [if_neg h1, if_pos (by rcases h with h | h | h; exact absurd h h0; exact absurd h h1; exact h)]; rfl
  · have h0 : ¬ (T.1 0).1 7 = 0 := fun q => h (Or.inl q)
    have h1 : ¬ x < 1 := fun q => h (Or.inr (Or.inl q))
    have h2 : ¬ (T.1 4).2.1 0 0 < x := fun q => h (Or.inr (Or.inr q))
    rw [nobj_ok h, if_neg h0, if_neg h1, if_neg h2]
    simp only [Option.bind_some, bndE, mrg_self]
    rw [if_neg (by decide)]
    by_cases ha : a < 0
    · rw [if_pos ha, if_pos (Or.inl ha)]; rfl
    · rw [if_neg ha]
      by_cases hb : a ≤ 6
      · rw [if_pos hb, if_neg (fun q => q.elim ha (fun z => absurd hb (Int32.not_le.mpr z)))]
        by_cases hp : (T.1 0).1 8 = 0
        · rw [nplay_no (T := (T.1, T.2)) hp, if_pos hp]
          simp only [Option.bind_some, mrg_self]
          rw [if_pos i_20]; rfl
        · rw [nplay_ok (T := (T.1, T.2)) hp, if_neg hp]
          simp only [Option.bind_some, mrg_self, rlH_bind, rlH_ite, rlH_some, rlH_none, rlS_0]
          rw [if_neg (by decide)]
      · rw [if_neg hb, if_pos (Or.inr (Int32.not_le.mp hb))]; rfl
theorem l_cell (k i : Int32) (T : TS) : F_X11_cell k i T = rlH rl3 (H_cell k i T) := by
  unfold F_X11_cell H_cell
  simp only [bndE, rlH_ite, rlH_bind, rlH_some, rl3_0, rl3_1, rl3_2]
  rw [show (3 : Int32).toNatClampNeg = 3 from by decide +kernel]
  by_cases h0 : (T.1 0).1 7 = 0
  · rw [if_pos h0, if_pos h0]
  · rw [if_neg h0, if_neg h0]
    by_cases h1 : k < 0
    · rw [if_pos h1, if_pos h1]
    · rw [if_neg h1, if_neg h1]
      by_cases h2 : (T.1 4).2.1 0 3 ≤ k
      · rw [if_pos h2, if_pos h2]
      · rw [if_neg h2, if_neg h2]
        refine congrArg (fun z => (F_X7_cellOf k i T.1).bind z) (funext fun u => ?_)
        by_cases h3 : u.1 = -1
        · rw [if_pos h3, if_pos h3]
        · rw [if_neg h3, if_neg h3]
          by_cases hp : ((mrg bD T.1 u.2) 0).1 8 = 0
          · rw [nplay_no (T := (mrg bD T.1 u.2, T.2)) hp, if_pos hp]
            simp only [Option.bind_some, mrg_self]
            rw [if_pos i_20]
          · rw [nplay_ok (T := (mrg bD T.1 u.2, T.2)) hp, if_neg hp]
            simp only [Option.bind_some, mrg_self]
            rw [if_neg (by decide)]
