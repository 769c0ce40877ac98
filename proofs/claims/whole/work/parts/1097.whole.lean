/-! the code is whole, as sound() asks -/
variable {T N : Nat} {kd vl rv : Nat → Int} {pl : Nat → Nat}
theorem c_areRead {Γ : HS} {ln first count : Nat} (hl : (Γ 5).1 1 = J (ln : Nat)) (hln : ln ≤ 39000) (hf : first + count ≤ 320) (hR : ∀ R, first ≤ R → R < first + count → ∃ p q : Nat, (Γ 5).2.1 2 R = J (p : Nat) ∧ (Γ 5).2.1 3 R = J (q : Nat) ∧ p ≤ q ∧ q ≤ ln ∧ ISR Γ p q) : F_X0_areRead (J (first : Nat)) (J (count : Nat)) Γ = some ((1 : Int32), Γ) := by
  have key : Ok (F_X0_areRead (J (first : Nat)) (J (count : Nat)) Γ) (fun u => u = ((1 : Int32), Γ)) := by
    unfold F_X0_areRead
    refine Ok_loop (P := fun t z => ∃ R : Nat, first ≤ R ∧ R ≤ first + count ∧ t = (J (R : Nat), Γ) ∧ z = first + count - R) ?_ FU _ count (FU_gt (by omega)) ⟨first, by omega, by omega, rfl, by omega⟩
    rintro again t z ⟨R, r1, r2, rfl, rfl⟩ ih
    dsimp only
    rw [J_add, show ((first : Int) + (count : Int)) = ((first + count : Nat) : Int) by omega]
    by_cases q : R < first + count
    · rw [if_neg (show ¬ J (first + count : Nat) ≤ J (R : Nat) by rw [J_le (by omega) (by omega) (by omega) (by omega)]; omega), if_neg (show ¬ (320 : Int32) ≤ J (R : Nat) by rw [show (320 : Int32) = J 320 from rfl, J_le (by omega) (by omega) (by omega) (by omega)]; omega)]
      obtain ⟨p, qq, e1, e2, e3, e4, n, b, b0, bn, hb⟩ := hR R r1 q
      rw [q_g_at_in (n := 320) (i := (R : Nat)) (by omega) (by omega) (by omega), q_g_at_in (n := 320) (i := (R : Nat)) (by omega) (by omega) (by omega), Int.toNat_natCast, e1, e2]
      simp only [bndE]
      have up : ∀ d k, k + d ≤ n → b k + d ≤ b (k + d) := by
        intro d
        induction d with
        | zero => intro k _; exact Nat.le_refl _
        | succ d ih =>
          intro k hk
          have a := ih k (by omega)
          have : b (k + d) + 1 ≤ b (k + d + 1) := by
            rcases hb (k + d) (by omega) with ⟨o, -, -, -, e⟩ | ⟨o, v, -, -, -, e, -⟩ <;> omega
          rw [show k + (d + 1) = k + d + 1 by omega]; omega
      have hn : n ≤ qq := by have := up n 0 (by omega); rw [Nat.zero_add, bn] at this; omega
      refine Ok_loop (P := fun t z => ∃ k : Nat, k ≤ n ∧ t = (J (b k : Nat), J (k : Nat), Γ) ∧ z = n - k) ?_ FU _ n (FU_gt (by omega)) ⟨0, by omega, by rw [b0]; rfl, by omega⟩
      rintro again2 t z ⟨k, k1, rfl, rfl⟩ ih2
      dsimp only
      have hbk := up (n - k) k (by omega)
      rw [show k + (n - k) = n by omega, bn] at hbk
      have hpk := up k 0 (by omega)
      rw [Nat.zero_add, b0] at hpk
      rw [if_neg (show ¬ (40000 : Int32) ≤ J (k : Nat) by rw [show (40000 : Int32) = J 40000 from rfl, J_le (by omega) (by omega) (by omega) (by omega)]; omega)]
      by_cases kn : k < n
      · rw [if_neg (show ¬ J (qq : Nat) ≤ J (b k : Nat) by rw [J_le (by omega) (by omega) (by omega) (by omega)]; omega)]
        have ek : J (k : Nat) + 1 = J (k + 1 : Nat) := by rw [J_lit, J_add]; rfl
        have lt : ∀ (o c : Int), 0 ≤ o ∧ o ≤ 1000 → 0 ≤ c ∧ c ≤ 1000 → (J o < J c) = (o < c) := fun o c h1 h2 => J_lt (by omega) (by omega) (by omega) (by omega)
        rcases hb k kn with ⟨o, a1, a2, a3, a4⟩ | ⟨o, v, a1, a2, a3, a4, a5⟩
        · rw [c_op1 hl (by omega) (by omega) a1 (by omega), Option.bind_some]
          dsimp only
          rw [if_pos (show J o < 41 by rw [show (41 : Int32) = J 41 from rfl, lt _ _ (by omega) (by omega)]; omega), if_neg (show ¬ 48 < J o by rw [show (48 : Int32) = J 48 from rfl, lt _ _ (by omega) (by omega)]; omega), if_pos trivial, c_width (by omega), Option.bind_some, if_pos (by omega)]
          dsimp only
          exact ih2 _ (n - (k + 1)) (by omega) ⟨k + 1, by omega, by rw [ek, a4, show J (b k : Nat) + 1 = J (b k + 1 : Nat) by rw [J_lit, J_add]; rfl], rfl⟩
        · have h3 : b k + 3 ≤ qq := by
            have := up (n - (k + 1)) (k + 1) (by omega)
            rw [show k + 1 + (n - (k + 1)) = n by omega, bn] at this; omega
          have nx : Ok (again2 (J (b k : Nat) + 3, J (k : Nat) + 1, Γ)) (fun u => u = ((1 : Int32), Γ)) := ih2 _ (n - (k + 1)) (by omega) ⟨k + 1, by omega, by rw [ek, a4, show J (b k : Nat) + 3 = J (b k + 3 : Nat) by rw [J_lit, J_add]; rfl], rfl⟩
          rw [c_op1 hl (by omega) (by omega) (show op1 Γ (b k) o from a1.1) (by omega), Option.bind_some]
          dsimp only
          rw [if_neg (show ¬ 48 < J o by rw [show (48 : Int32) = J 48 from rfl, lt _ _ (by omega) (by omega)]; omega), if_neg (show ¬ 48 < J o by rw [show (48 : Int32) = J 48 from rfl, lt _ _ (by omega) (by omega)]; omega), if_pos trivial, c_width (by omega), Option.bind_some, if_neg (show ¬ o < 33 by omega)]
          dsimp only
          by_cases q1 : o < 41
          · rw [if_pos (show J o < 41 by rw [show (41 : Int32) = J 41 from rfl, lt _ _ (by omega) (by omega)]; exact q1)]; exact nx
          rw [if_neg (show ¬ J o < 41 by rw [show (41 : Int32) = J 41 from rfl, lt _ _ (by omega) (by omega)]; exact q1)]
          by_cases q2 : 44 < o
          · rw [if_pos (show 44 < J o by rw [show (44 : Int32) = J 44 from rfl, lt _ _ (by omega) (by omega)]; exact q2)]; exact nx
          · rw [if_neg (show ¬ 44 < J o by rw [show (44 : Int32) = J 44 from rfl, lt _ _ (by omega) (by omega)]; exact q2), if_neg (show ¬ (1 : Int32) = 0 by decide)]
            obtain ⟨i, rfl, i1, i2⟩ := a5 (by omega) (by omega)
            rw [show J (b k : Nat) + 1 = J (b k + 1 : Nat) by rw [J_lit, J_add]; rfl, c_pair hl (by omega) (by omega) a1 (by omega), Option.bind_some]
            dsimp only
            rw [q_g_at_in (n := 320) (i := (R : Nat)) (by omega) (by omega) (by omega), Int.toNat_natCast, e1, if_neg (show ¬ J (i : Nat) < J (p : Nat) by rw [J_lt (by omega) (by omega) (by omega) (by omega)]; omega), c_pair hl (by omega) (by omega) a1 (by omega), Option.bind_some]
            dsimp only
            rw [if_pos (show J (i : Nat) < J (qq : Nat) by rw [J_lt (by omega) (by omega) (by omega) (by omega)]; omega), c_width (by omega), Option.bind_some, if_neg (show ¬ o < 33 by omega)]
            exact nx
      · obtain rfl : k = n := by omega
        rw [bn, if_pos (show J (qq : Nat) ≤ J (qq : Nat) by rw [J_le (by omega) (by omega) (by omega) (by omega)]; omega), if_pos rfl]
        exact ih _ (first + count - (R + 1)) (by omega) ⟨R + 1, by omega, by omega, by rw [J_lit, J_add]; rfl, rfl⟩
    · obtain rfl : R = first + count := by omega
      rw [if_pos (show J (first + count : Nat) ≤ J (first + count : Nat) by rw [J_le (by omega) (by omega) (by omega) (by omega)]; omega)]
      exact Ok_some rfl
  obtain ⟨u, hu, rfl⟩ := key
  exact hu
theorem c_isWhole {Γ : HS} {ln nd no ne : Nat} (hl : (Γ 5).1 1 = J (ln : Nat)) (hln : ln ≤ 39000) (h4 : (Γ 4).2.1 0 4 = J (nd : Nat)) (h5 : (Γ 4).2.1 0 5 = J (no : Nat)) (h6 : (Γ 4).2.1 0 6 = J (ne : Nat)) (hd : nd ≤ 100) (ho : no ≤ 200) (he : ne ≤ 20) (hW : ISW Γ ln nd no ne) : F_X0_isWhole Γ = some ((1 : Int32), Γ) := by
  have em : mrg (fun j => j == 5) Γ Γ = Γ := mrgR5 (fun _ _ => rfl)
  have n1 : ¬ (1 : Int32) = 0 := by decide
  unfold F_X0_isWhole
  simp only [bndE]
  rw [show (4 : Int32) = J ((4 : Nat) : Int) from rfl, show (5 : Int32) = J ((5 : Nat) : Int) from rfl, show (6 : Int32) = J ((6 : Nat) : Int) from rfl, show (0 : Int32) = J ((0 : Nat) : Int) from rfl, show (100 : Int32) = J ((100 : Nat) : Int) from rfl, show (300 : Int32) = J ((300 : Nat) : Int) from rfl, q_g_at_in (n := 7) (i := ((4 : Nat) : Int)) (by omega) (by omega) (by omega), Int.toNat_natCast, h4, c_areRead hl hln (by omega) (fun R r1 r2 => hW R (Or.inl (by omega))), Option.bind_some]
  dsimp only
  rw [em, if_neg (show ¬ (1 : Int32) = J ((0 : Nat) : Int) by decide), q_g_at_in (n := 7) (i := ((5 : Nat) : Int)) (by omega) (by omega) (by omega), Int.toNat_natCast, h5, c_areRead hl hln (by omega) (fun R r1 r2 => hW R (Or.inr (Or.inl ⟨by omega, by omega⟩))), Option.bind_some]
  dsimp only
  rw [em, if_neg (show ¬ (1 : Int32) = J ((0 : Nat) : Int) by decide), q_g_at_in (n := 7) (i := ((6 : Nat) : Int)) (by omega) (by omega) (by omega), Int.toNat_natCast, h6, c_areRead hl hln (by omega) (fun R r1 r2 => hW R (Or.inr (Or.inr ⟨by omega, by omega⟩))), Option.bind_some]
  dsimp only
  rw [em, if_neg (show ¬ (1 : Int32) = J ((0 : Nat) : Int) by decide)]
/-- each routine that is counted was told by an item -/
theorem rt_at {is : Nat → Nat} {q : Nat} {k0 : Int} (hq : (q = 4 ∧ k0 = 235) ∨ (q = 5 ∧ k0 = 236) ∨ (q = 6 ∧ k0 = 237)) {c : Nat} : ∀ m, m ≤ c → (∀ z, z < c → 230 ≤ kd (is z) ∧ kd (is z) ≤ 237) → ∀ k, k < cN kd is q m → ∃ z, z < m ∧ kd (is z) = k0 ∧ cN kd is q z = k := by
  intro m
  induction m with
  | zero =>
    intro _ _ k hk
    exfalso
    have : cN kd is q 0 = 0 := by
      unfold cN
      rw [if_neg (by omega), if_neg (by omega)]
    omega
  | succ m ih =>
    intro hm hk k k1
    rcases Nat.lt_or_ge k (cN kd is q m) with r | r
    · obtain ⟨z, z1, z2⟩ := ih (by omega) hk k r
      exact ⟨z, by omega, z2⟩
    · rw [cN_s] at k1
      by_cases e : q = qOf (kd (is m))
      · rw [if_pos e] at k1
        refine ⟨m, by omega, ?_, by omega⟩
        have hkm := hk m (by omega)
        unfold qOf at e
        revert e
        repeat' split
        all_goals omega
      · rw [if_neg e] at k1; omega
theorem rout_isw {Δ : HS} {σs : MS} {Γs : HS} {c : Nat} {ls is ps ds os es : Nat → Nat} (hI : ITS kd vl rv pl σs Γs c ls is ps ds os es) (h0 : ds 0 = 0 ∧ os 0 = 0 ∧ es 0 = 0) (hd : cN kd is 4 c ≤ 100) (ho : cN kd is 5 c ≤ 200) (he : cN kd is 6 c ≤ 20) (hA : ∀ k, k ≠ 0 → (Δ 5).2.1 k = (Γs 5).2.1 k) (hR : ∀ z, z < c → 235 ≤ kd (is z) → ISR Δ (ps z) (ps (z + 1)) ∧ ps z ≤ ps (z + 1)) (hps : ∀ z, z ≤ c → ps z ≤ ps c) : ISW Δ (ps c) (cN kd is 4 c) (cN kd is 5 c) (cN kd is 6 c) := by
  have hIk : ∀ z, z < c → 230 ≤ kd (is z) ∧ kd (is z) ≤ 237 := fun z hz => by
    obtain ⟨j1, j2, -⟩ := ITM_noI (hI z hz).1
    exact ⟨j1, j2⟩
  have hc := ds_cN hI h0 hIk
  have go : ∀ z, z < c → 235 ≤ kd (is z) → ∀ R, R < 320 → rti (kd (is z)) (ds z) (os z) (es z) = R → ∃ p q : Nat, (Δ 5).2.1 2 R = J (p : Nat) ∧ (Δ 5).2.1 3 R = J (q : Nat) ∧ p ≤ q ∧ q ≤ ps c ∧ ISR Δ p q := by
    intro z hz hk R hR3 e
    obtain ⟨lo, b, -, -, ht⟩ := (ITM_rtn (hI z hz).1).2 hk
    obtain ⟨t1, t2⟩ := ht (by omega)
    obtain ⟨r1, r2⟩ := hR z hz hk
    rw [e] at t1 t2
    exact ⟨ps z, ps (z + 1), by rw [hA 2 (by omega)]; exact t1, by rw [hA 3 (by omega)]; exact t2, r2, hps (z + 1) (by omega), r1⟩
  rintro R (h | ⟨h1, h2⟩ | ⟨h1, h2⟩)
  · obtain ⟨z, z1, z2, z3⟩ := rt_at (q := 4) (k0 := 235) (Or.inl ⟨rfl, rfl⟩) c (Nat.le_refl _) hIk R h
    refine go z z1 (by omega) R (by omega) ?_
    rw [z2, (hc z (by omega)).1, z3]
    unfold rti; rw [if_pos rfl, if_pos (by omega)]
  · obtain ⟨z, z1, z2, z3⟩ := rt_at (q := 5) (k0 := 236) (Or.inr (Or.inl ⟨rfl, rfl⟩)) c (Nat.le_refl _) hIk (R - 100) (by omega)
    refine go z z1 (by omega) R (by omega) ?_
    rw [z2, (hc z (by omega)).2.1, z3]
    unfold rti; rw [if_neg (by omega), if_pos rfl, if_pos (by omega)]; omega
  · obtain ⟨z, z1, z2, z3⟩ := rt_at (q := 6) (k0 := 237) (Or.inr (Or.inr ⟨rfl, rfl⟩)) c (Nat.le_refl _) hIk (R - 300) (by omega)
    refine go z z1 (by omega) R (by omega) ?_
    rw [z2, (hc z (by omega)).2.2, z3]
    unfold rti; rw [if_neg (by omega), if_neg (by omega), if_pos rfl, if_pos (by omega)]; omega
