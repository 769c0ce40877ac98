/-! whether there is a room, and no thing is in itself: the class -/
variable {T N : Nat} {kd vl rv : Nat → Int} {pl : Nat → Nat}
theorem J_i0 : (0 : Int32).toNatClampNeg = 0 := by decide
theorem c_isRoom {Γ : HS} {k : Nat} (hk : k ≤ 120) : F_X7_isRoom (J (k : Nat)) Γ = some ((if (Γ 4).2.1 1 k = 0 then 0 else 1), Γ) := by
  unfold F_X7_isRoom
  rw [if_neg (J_nlt0 (by omega) (by omega)), if_neg (show ¬ (121 : Int32) ≤ J (k : Nat) by rw [show (121 : Int32) = J 121 from rfl, J_le (by omega) (by omega) (by omega) (by omega)]; omega), if_neg (show ¬ (J (k : Nat) < 0 ∨ 121 ≤ (J (k : Nat)).toNatClampNeg) by rintro (c | c); exact J_nlt0 (by omega) (by omega) c; rw [J_natN (by omega)] at c; omega), J_natN (by omega)]
  split <;> rfl
theorem c_firstRoom {Γ : HS} {n : Nat} (hn : (Γ 4).2.1 0 0 = J (n : Nat)) (hn2 : n ≤ 120) : ∃ r : Nat, F_X7_firstRoom Γ = some (J (r : Nat), Γ) ∧ ((r = 0 ∧ ∀ k, 1 ≤ k → k ≤ n → (Γ 4).2.1 1 k = 0) ∨ (1 ≤ r ∧ r ≤ n ∧ (Γ 4).2.1 1 r ≠ 0 ∧ ∀ k, 1 ≤ k → k < r → (Γ 4).2.1 1 k = 0)) := by
  have key : Ok (F_X7_firstRoom Γ) (fun u => ∃ r : Nat, u = (J (r : Nat), Γ) ∧ ((r = 0 ∧ ∀ k, 1 ≤ k → k ≤ n → (Γ 4).2.1 1 k = 0) ∨ (1 ≤ r ∧ r ≤ n ∧ (Γ 4).2.1 1 r ≠ 0 ∧ ∀ k, 1 ≤ k → k < r → (Γ 4).2.1 1 k = 0))) := by
    unfold F_X7_firstRoom
    refine Ok_loop (P := fun s k => ∃ a : Nat, 1 ≤ a ∧ a ≤ n + 1 ∧ s = (J (a : Nat), Γ) ∧ (∀ k, 1 ≤ k → k < a → (Γ 4).2.1 1 k = 0) ∧ k = n + 1 - a) ?_ FU _ n (FU_gt (by omega)) ⟨1, by omega, by omega, rfl, fun k k1 k2 => by omega, by omega⟩
    rintro again s k ⟨a, a1, a2, rfl, a3, rfl⟩ ih
    dsimp only
    rw [J_i0, hn]
    by_cases q : a ≤ n
    · rw [if_neg (show ¬ (120 : Int32) < J (a : Nat) by rw [show (120 : Int32) = J 120 from rfl, J_lt (by omega) (by omega) (by omega) (by omega)]; omega), if_neg (show ¬ J (n : Nat) < J (a : Nat) by rw [J_lt (by omega) (by omega) (by omega) (by omega)]; omega), c_isRoom (by omega), Option.bind_some]
      by_cases e : (Γ 4).2.1 1 a = 0
      · rw [if_pos e, if_pos rfl]
        exact Ok_bnd (ih _ (n + 1 - (a + 1)) (by omega) ⟨a + 1, by omega, by omega, by rw [J_lit, J_add]; rfl, fun k k1 k2 => by
          by_cases e2 : k = a
          · rw [e2]; exact e
          · exact a3 k k1 (by omega), rfl⟩)
      · rw [if_neg e]
        dsimp only
        rw [if_neg (show ¬ (1 : Int32) = 0 by decide)]
        exact Ok_some ⟨a, rfl, Or.inr ⟨a1, q, e, a3⟩⟩
    · obtain rfl : a = n + 1 := by omega
      have fin : Ok (some ((0 : Int32), Γ)) (fun u => ∃ r : Nat, u = (J (r : Nat), Γ) ∧ ((r = 0 ∧ ∀ k, 1 ≤ k → k ≤ n → (Γ 4).2.1 1 k = 0) ∨ (1 ≤ r ∧ r ≤ n ∧ (Γ 4).2.1 1 r ≠ 0 ∧ ∀ k, 1 ≤ k → k < r → (Γ 4).2.1 1 k = 0))) := Ok_some ⟨0, rfl, Or.inl ⟨rfl, fun k k1 k2 => a3 k k1 (by omega)⟩⟩
      by_cases e : n = 120
      · rw [if_pos (show (120 : Int32) < J (n + 1 : Nat) by rw [show (120 : Int32) = J 120 from rfl, J_lt (by omega) (by omega) (by omega) (by omega)]; omega)]; exact fin
      · rw [if_neg (show ¬ (120 : Int32) < J (n + 1 : Nat) by rw [show (120 : Int32) = J 120 from rfl, J_lt (by omega) (by omega) (by omega) (by omega)]; omega), if_pos (show J (n : Nat) < J (n + 1 : Nat) by rw [J_lt (by omega) (by omega) (by omega) (by omega)]; omega)]; exact fin
  obtain ⟨u, hu, r, rfl, h⟩ := key
  exact ⟨r, hu, h⟩
theorem c_hasCircle {Γ : HS} {n : Nat} {s : Nat → Nat} (hn : (Γ 4).2.1 0 0 = J (n : Nat)) (hn2 : n ≤ 120) (hs : ∀ k, 1 ≤ k → k ≤ n → (Γ 4).2.1 4 k = J (s k : Nat)) (h0 : s 0 = 0) (hl : ∀ k, k ≤ n → s k ≤ n) : ∃ x : Int32, F_X7_hasCircle Γ = some (x, Γ) ∧ ((x = 0 ∧ ∀ k, 1 ≤ k → k ≤ n → itn s n k = 0) ∨ (x = 1 ∧ ∃ k, 1 ≤ k ∧ k ≤ n ∧ itn s n k ≠ 0)) := by
  have key : Ok (F_X7_hasCircle Γ) (fun u => ∃ x : Int32, u = (x, Γ) ∧ ((x = 0 ∧ ∀ k, 1 ≤ k → k ≤ n → itn s n k = 0) ∨ (x = 1 ∧ ∃ k, 1 ≤ k ∧ k ≤ n ∧ itn s n k ≠ 0))) := by
    unfold F_X7_hasCircle
    refine Ok_loop (P := fun t k => ∃ a : Nat, 1 ≤ a ∧ a ≤ n + 1 ∧ t = (J (a : Nat), Γ) ∧ (∀ k, 1 ≤ k → k < a → itn s n k = 0) ∧ k = n + 1 - a) ?_ FU _ n (FU_gt (by omega)) ⟨1, by omega, by omega, rfl, fun k k1 k2 => by omega, by omega⟩
    rintro again t k ⟨a, a1, a2, rfl, a3, rfl⟩ ih
    dsimp only
    rw [J_i0, hn]
    by_cases q : a ≤ n
    · rw [if_neg (show ¬ (120 : Int32) < J (a : Nat) by rw [show (120 : Int32) = J 120 from rfl, J_lt (by omega) (by omega) (by omega) (by omega)]; omega), if_neg (show ¬ J (n : Nat) < J (a : Nat) by rw [J_lt (by omega) (by omega) (by omega) (by omega)]; omega)]
      have nxt : itn s n a = 0 → Ok (again (J (a : Nat) + 1, Γ)) (fun u => ∃ x : Int32, u = (x, Γ) ∧ ((x = 0 ∧ ∀ k, 1 ≤ k → k ≤ n → itn s n k = 0) ∨ (x = 1 ∧ ∃ k, 1 ≤ k ∧ k ≤ n ∧ itn s n k ≠ 0))) := fun e => ih _ (n + 1 - (a + 1)) (by omega) ⟨a + 1, by omega, by omega, by rw [J_lit, J_add]; rfl, fun k k1 k2 => by
          by_cases e2 : k = a
          · rw [e2]; exact e
          · exact a3 k k1 (by omega), rfl⟩
      refine Ok_loop (P := fun t k => ∃ m : Nat, m ≤ 121 ∧ t = (J (itn s m a : Nat), J (m : Nat), Γ) ∧ k = 121 - m) ?_ FU _ 121 (FU_gt (by omega)) ⟨0, by omega, rfl, by omega⟩
      rintro again2 t k ⟨m, m1, rfl, rfl⟩ ih2
      dsimp only
      have hle := itn_le hl (show a ≤ n from q) m
      simp only [bndE]
      by_cases e : itn s m a = 0
      · have ez : J (itn s m a : Nat) = 0 := by rw [e]; rfl
        have e2 : itn s n a = 0 := itn_end h0 hl q m e
        rw [if_pos ez]
        by_cases q3 : (120 : Int32) < J (m : Nat)
        · rw [if_pos q3]; exact nxt e2
        · rw [if_neg q3, if_pos ez]; exact nxt e2
      · have enz : ¬ J (itn s m a : Nat) = 0 := by
          rw [show (0 : Int32) = J 0 from rfl, J_eq (by omega) (by omega) (by omega) (by omega)]; omega
        by_cases q3 : m = 121
        · rw [if_pos (show (120 : Int32) < J (m : Nat) by rw [show (120 : Int32) = J 120 from rfl, J_lt (by omega) (by omega) (by omega) (by omega)]; omega), if_neg enz]
          refine Ok_some ⟨1, rfl, Or.inr ⟨rfl, a, a1, q, fun h => e ?_⟩⟩
          rw [q3]; exact itn_keep h0 h (by omega)
        · rw [if_neg (show ¬ (120 : Int32) < J (m : Nat) by rw [show (120 : Int32) = J 120 from rfl, J_lt (by omega) (by omega) (by omega) (by omega)]; omega), if_neg enz, q_g_at_in (n := 121) (i := (itn s m a : Nat)) (by omega) (by omega) (by omega), Int.toNat_natCast, hs _ (by omega) hle]
          exact ih2 _ (121 - (m + 1)) (by omega) ⟨m + 1, by omega, by rw [show J (m : Nat) + 1 = J (m + 1 : Nat) by rw [J_lit, J_add]; rfl]; rfl, rfl⟩
    · obtain rfl : a = n + 1 := by omega
      have fin : Ok (some ((0 : Int32), Γ)) (fun u => ∃ x : Int32, u = (x, Γ) ∧ ((x = 0 ∧ ∀ k, 1 ≤ k → k ≤ n → itn s n k = 0) ∨ (x = 1 ∧ ∃ k, 1 ≤ k ∧ k ≤ n ∧ itn s n k ≠ 0))) := Ok_some ⟨0, rfl, Or.inl ⟨rfl, fun k k1 k2 => a3 k k1 (by omega)⟩⟩
      by_cases e : n = 120
      · rw [if_pos (show (120 : Int32) < J (n + 1 : Nat) by rw [show (120 : Int32) = J 120 from rfl, J_lt (by omega) (by omega) (by omega) (by omega)]; omega)]; exact fin
      · rw [if_neg (show ¬ (120 : Int32) < J (n + 1 : Nat) by rw [show (120 : Int32) = J 120 from rfl, J_lt (by omega) (by omega) (by omega) (by omega)]; omega), if_pos (show J (n : Nat) < J (n + 1 : Nat) by rw [J_lt (by omega) (by omega) (by omega) (by omega)]; omega)]; exact fin
  obtain ⟨u, hu, x, rfl, h⟩ := key
  exact ⟨x, hu, h⟩
/-- behind the last word: a room, and no circle -/
theorem c_E3 (hT : TKE T N kd vl rv pl) {Γ : HS} {n : Nat} {s : Nat → Nat} (hc : TKc N kd vl pl Γ) (h16 : (Γ 3).1 16 = J 0) (hn : (Γ 4).2.1 0 0 = J (n : Nat)) (hn2 : n ≤ 120) (hs : ∀ k, 1 ≤ k → k ≤ n → (Γ 4).2.1 4 k = J (s k : Nat)) (h0 : s 0 = 0) (hl : ∀ k, k ≤ n → s k ≤ n) : (((∃ k, 1 ≤ k ∧ k ≤ n ∧ (Γ 4).2.1 1 k ≠ 0) ∧ ∀ k, 1 ≤ k → k ≤ n → itn s n k = 0) → E3 Γ = some ((0 : Int32), Γ)) ∧ (¬ ((∃ k, 1 ≤ k ∧ k ≤ n ∧ (Γ 4).2.1 1 k ≠ 0) ∧ ∀ k, 1 ≤ k → k ≤ n → itn s n k = 0) → E3 Γ = some (J 6, failS Γ pl 6 (N - 1))) := by
  obtain ⟨n1, n2, n3, n4⟩ := TKE_N hT
  obtain ⟨r, r1, r2⟩ := c_firstRoom hn hn2
  obtain ⟨x, x1, x2⟩ := c_hasCircle hn hn2 hs h0 hl
  have hf : (F_X4_fail 6 (((Γ 1).1 2) - 1) Γ).bind (fun u_37 => some (((u_37.2 3).1 16), u_37.2)) = some (J 6, failS Γ pl 6 (N - 1)) := by
    rw [hc.1, show J (N : Nat) - 1 = J (N - 1 : Nat) by rw [J_lit, J_sub]; congr 1; omega, show F_X4_fail 6 (J (N - 1 : Nat)) Γ = some (J 0, failS Γ pl 6 (N - 1)) from c_fail4 hT (f := 6) hc h16 (show N - 1 < N by omega), Option.bind_some]
    rfl
  have e4 : mrg (fun j => j == 4 || j == 5 || j == 6 || j == 7) Γ Γ = Γ := mrg47 (fun _ _ _ _ _ => rfl)
  have run : E3 Γ = if r = 0 then some (J 6, failS Γ pl 6 (N - 1)) else if x = 0 then some ((0 : Int32), Γ) else some (J 6, failS Γ pl 6 (N - 1)) := by
    unfold E3 F_X7_hasRoom
    rw [if_pos (show (Γ 3).1 16 = 0 from h16), r1, Option.bind_some]
    by_cases q : r = 0
    · rw [if_pos (show J (r : Nat) = 0 by rw [q]; rfl), if_pos q, Option.bind_some]
      simp only [bndE]
      rw [if_pos trivial, e4, hf]
    · have : ¬ J (r : Nat) = 0 := by
        rw [show (0 : Int32) = J 0 from rfl, J_eq (by omega) (by omega) (by omega) (by omega)]; omega
      rw [if_neg this, if_neg q, Option.bind_some]
      simp only [bndE]
      rw [if_neg (by decide), e4, x1, Option.bind_some]
      dsimp only
      rw [e4, h16, hf]
      rfl
  constructor
  · rintro ⟨⟨k, k1, k2, k3⟩, h⟩
    rw [run]
    rcases r2 with ⟨q, q2⟩ | ⟨q1, q2, -⟩
    · exact absurd (q2 k k1 k2) k3
    · rw [if_neg (by omega)]
      rcases x2 with ⟨y, -⟩ | ⟨-, k', y1, y2, y3⟩
      · rw [if_pos y]
      · exact absurd (h k' y1 y2) y3
  · intro hno
    rw [run]
    rcases r2 with ⟨q, q2⟩ | ⟨q1, q2, q3, q4⟩
    · rw [if_pos q]
    · rw [if_neg (by omega)]
      rcases x2 with ⟨-, y2⟩ | ⟨y1, -⟩
      · exact absurd ⟨⟨r, q1, q2, q3⟩, y2⟩ hno
      · rw [if_neg (by rw [y1]; decide)]
