/-! the class sees; light in both -/
variable {nO nV nC : Nat} {room : Nat → Bool}
def SiB : ((Int32 × Int32 × HS) → HR) → Int32 × Int32 × HS → HR := (fun (again_2 : (Int32 × Int32 × HS) → HR) (s_1 : Int32 × Int32 × HS) => ( if 120 < s_1.2.1 then ( some (0, s_1.2.2) ) else ( if s_1.1 = 0 then ( some (0, s_1.2.2) ) else ( (F_X6_bears s_1.1 2 s_1.2.2).bind fun u_11 => if u_11.1 = 0 then ( bnd ((g_at 121 ((u_11.2 9).2.1 0) s_1.1)) fun (x_15 : Int32) => if x_15 = 1 then ( some (x_15, u_11.2) ) else ( (F_X6_here u_11.2).bind fun u_20 => if x_15 = u_20.1 then ( some (x_15, u_20.2) ) else ( (F_X6_showsInside x_15 u_20.2).bind fun u_25 => if u_25.1 = 0 then ( some (0, u_25.2) ) else ( bnd (s_1.2.1 + 1) fun (x_30 : Int32) => again_2 (x_15, x_30, u_25.2) ) ) ) ) else ( some (0, u_11.2) ) ) ) ))
theorem sightOf_eq (p0 : Int32) (Γ : HS) : F_X6_sightOf p0 Γ = loopF SiB FU (p0, 0, Γ) := rfl
theorem SiB_s (n : Nat) (a b : Int32) (X : HS) : loopF SiB (n + 1) (a, b, X) = ( if 120 < b then ( some (0, X) ) else ( if a = 0 then ( some (0, X) ) else ( (F_X6_bears a 2 X).bind fun u_11 => if u_11.1 = 0 then ( bnd ((g_at 121 ((u_11.2 9).2.1 0) a)) fun (x_15 : Int32) => if x_15 = 1 then ( some (x_15, u_11.2) ) else ( (F_X6_here u_11.2).bind fun u_20 => if x_15 = u_20.1 then ( some (x_15, u_20.2) ) else ( (F_X6_showsInside x_15 u_20.2).bind fun u_25 => if u_25.1 = 0 then ( some (0, u_25.2) ) else ( bnd (b + 1) fun (x_30 : Int32) => loopF SiB n (x_15, x_30, u_25.2) ) ) ) ) else ( some (0, u_11.2) ) ) ) ) := rfl
theorem SiB_go {σ : MS} {Γ : HS} {pa fi nx : Nat → Nat} {ch : Nat → List Nat} {tr : Nat → Nat} (h : PLT nO room nV nC σ Γ pa fi nx ch tr) : ∀ k c x, c + k = 121 → x ≤ 120 → ∀ n, k < n → loopF SiB n (J (x : Nat), J (c : Nat), Γ) = some (J (sigN pa (trB tr 2) (shB tr) (pa 1) k x : Nat), Γ) := by
  have t := h.1
  have tn := t.1
  intro k
  induction k with
  | zero =>
    intro c x hc hx n hn
    obtain ⟨n, rfl⟩ : ∃ m, n = m + 1 := ⟨n - 1, by omega⟩
    rw [SiB_s, if_pos (by rw [show (120 : Int32) = J 120 from rfl, J_lt (by omega) (by omega) (by omega) (by omega)]; omega)]; rfl
  | succ k ih =>
    intro c x hc hx n hn
    obtain ⟨n, rfl⟩ : ∃ m, n = m + 1 := ⟨n - 1, by omega⟩
    have px := t.2.2.2.1 x
    have p1 := t.2.2.2.1 1
    rw [SiB_s, if_neg (by rw [show (120 : Int32) = J 120 from rfl, J_lt (by omega) (by omega) (by omega) (by omega)]; omega)]
    unfold sigN
    by_cases q0 : x = 0
    · rw [if_pos (show J (x : Nat) = 0 by rw [q0]; rfl), if_pos q0]; rfl
    rw [if_neg (show ¬ J (x : Nat) = 0 by rw [J_z0 (by omega)]; exact q0), if_neg q0, show (2 : Int32) = J ((2 : Nat) : Int) from rfl, c_bears h hx (by omega), Option.bind_some]
    by_cases q1 : trB tr 2 x = true
    · rw [if_pos q1, if_pos q1]; rfl
    rw [if_neg q1, if_neg q1]
    dsimp only
    rw [if_pos rfl, q_g_at_in (by omega) (by omega) (by omega), Int.toNat_natCast, (h.2.2.1 x hx).1, bndE]
    by_cases q4 : pa x = 1
    · rw [if_pos (show J (pa x : Nat) = 1 by rw [q4]; rfl), if_pos (Or.inl q4)]
    rw [if_neg (show ¬ J (pa x : Nat) = 1 by rw [show (1 : Int32) = J ((1 : Nat) : Int) from rfl, J_eqN (by omega) (by omega)]; exact q4)]
    unfold F_X6_here
    rw [Option.bind_some]
    dsimp only
    rw [show (1 : Int32).toNatClampNeg = 1 from rfl, (h.2.2.1 1 (by omega)).1]
    by_cases q5 : pa x = pa 1
    · rw [if_pos (show J (pa x : Nat) = J (pa 1 : Nat) by rw [q5]), if_pos (Or.inr q5)]
    rw [if_neg (show ¬ J (pa x : Nat) = J (pa 1 : Nat) by rw [J_eqN (by omega) (by omega)]; exact q5), if_neg (by omega), c_shows h (by omega), Option.bind_some]
    by_cases q8 : shB tr (pa x) = true
    · rw [if_pos q8, if_pos q8]
      dsimp only
      rw [if_neg (by decide), J_suc, bndE]
      exact ih (c + 1) (pa x) (by omega) (by omega) n (by omega)
    · rw [if_neg q8, if_neg q8]; rfl
theorem c_sight {σ : MS} {Γ : HS} {pa fi nx : Nat → Nat} {ch : Nat → List Nat} {tr : Nat → Nat} (h : PLT nO room nV nC σ Γ pa fi nx ch tr) {x : Nat} (hx : x ≤ 120) : F_X6_sightOf (J (x : Nat)) Γ = some (J (sigN pa (trB tr 2) (shB tr) (pa 1) 121 x : Nat), Γ) := by
  rw [sightOf_eq]
  exact SiB_go h 121 0 x rfl hx FU (FU_gt (by omega))
/-- seen, by number -/
def seenB (pa : Nat → Nat) (room : Nat → Bool) (tr : Nat → Nat) (x : Nat) : Bool := snN pa room (trB tr 2) (shB tr) (pa 1) 121 x
theorem r_isSeen {σ : MS} {Γ : HS} {pa fi nx : Nat → Nat} {ch : Nat → List Nat} {tr : Nat → Nat} (h : PLT nO room nV nC σ Γ pa fi nx ch tr) (hr : ∀ x, x ≤ 120 → σ.2 50 x = if room x = true then 1 else 0) {x : Nat} (hx : x ≤ nO) : G_X12_isSeen (J (x : Nat)) σ = some (if seenB pa room tr x = true then 1 else 0, σ) := by
  have t := h.1
  have tn := t.1
  have up := TR_up t hx
  have e := r_seen h hr nO x up hx 123 (by omega)
  have e1 := sn_fuel (room := room) (hid := trB tr 2) (shw := shB tr) (he := pa 1) t.2.2.2.2.1.1 nO x up (123 - nO)
  have e2 := sn_fuel (room := room) (hid := trB tr 2) (shw := shB tr) (he := pa 1) t.2.2.2.2.1.1 nO x up (121 - nO)
  rw [show nO + (123 - nO) = 123 by omega] at e1
  rw [show nO + (121 - nO) = 121 by omega] at e2
  unfold G_X12_isSeen seenB
  rw [e, e1, e2]
theorem seen_sig {σ : MS} {Γ : HS} {pa fi nx : Nat → Nat} {ch : Nat → List Nat} {tr : Nat → Nat} (h : PLT nO room nV nC σ Γ pa fi nx ch tr) (x : Nat) : sigN pa (trB tr 2) (shB tr) (pa 1) 121 x ≠ 0 ↔ seenB pa room tr x = true := sg_sn h.2.2.2.2.2.2.2.2.2.1 h.1.2.2.2.2.1.1 h.2.2.2.2.2.2.2.2.2.2.1.2.2.2 121 x
/-- light -/
def lamB (pa : Nat → Nat) (room : Nat → Bool) (tr : Nat → Nat) (x : Nat) : Bool := trB tr 3 x && seenB pa room tr x
def lightP (nO : Nat) (pa : Nat → Nat) (room : Nat → Bool) (tr : Nat → Nat) : Prop := trB tr 6 (pa 1) = false ∨ ∃ x, 1 ≤ x ∧ x ≤ nO ∧ lamB pa room tr x = true
def LiB : ((Int32 × MS) → MR) → Int32 × MS → MR := (fun (again_7 : (Int32 × MS) → MR) (s_6 : Int32 × MS) => ( if (s_6.2.1 78) < s_6.1 then ( some (0, s_6.2) ) else ( (F_X12_has s_6.1 3 1 s_6.2).bind fun u_13 => bnd (fun  (σ_15 : MS) => ( bnd (s_6.1 + 1) fun (x_19 : Int32) => again_7 (x_19, σ_15) ) : MS → MR) fun j_16 => if u_13.1 = 0 then ( j_16  u_13.2 ) else ( (G_X12_isSeen s_6.1 u_13.2).bind fun u_24 => if u_24.1 = 0 then ( j_16  u_24.2 ) else ( some (1, u_24.2) ) ) ) ))
theorem isLight_eq (σ : MS) : F_X12_isLight σ = (F_X12_has (σ.2 87 (1 : Int32).toNatClampNeg) 6 1 σ).bind fun u_1 => if u_1.1 = 0 then ( some (1, u_1.2) ) else loopF LiB FU (1, u_1.2) := rfl
theorem LiB_s (n : Nat) (a : Int32) (X : MS) : loopF LiB (n + 1) (a, X) = ( if (X.1 78) < a then ( some (0, X) ) else ( (F_X12_has a 3 1 X).bind fun u_13 => bnd (fun  (σ_15 : MS) => ( bnd (a + 1) fun (x_19 : Int32) => loopF LiB n (x_19, σ_15) ) : MS → MR) fun j_16 => if u_13.1 = 0 then ( j_16  u_13.2 ) else ( (G_X12_isSeen a u_13.2).bind fun u_24 => if u_24.1 = 0 then ( j_16  u_24.2 ) else ( some (1, u_24.2) ) ) ) ) := rfl
def LcB : ((Int32 × HS) → HR) → Int32 × HS → HR := (fun (again_9 : (Int32 × HS) → HR) (s_8 : Int32 × HS) => ( if 120 < s_8.1 then ( some (0, s_8.2) ) else ( (F_X6_bears s_8.1 3 s_8.2).bind fun u_15 => bnd (fun  (σ_17 : HS) => ( bnd (s_8.1 + 1) fun (x_21 : Int32) => again_9 (x_21, σ_17) ) : HS → HR) fun j_18 => if u_15.1 = 0 then ( j_18  u_15.2 ) else ( (F_X6_sightOf s_8.1 u_15.2).bind fun u_26 => if u_26.1 = 0 then ( j_18  u_26.2 ) else ( some (1, u_26.2) ) ) ) ))
theorem cisLight_eq (Γ : HS) : F_X6_isLight Γ = (F_X6_here Γ).bind fun u_1 => (F_X6_bears u_1.1 6 u_1.2).bind fun u_3 => if u_3.1 = 0 then ( some (1, u_3.2) ) else loopF LcB FU (1, u_3.2) := rfl
theorem LcB_s (n : Nat) (a : Int32) (X : HS) : loopF LcB (n + 1) (a, X) = ( if 120 < a then ( some (0, X) ) else ( (F_X6_bears a 3 X).bind fun u_15 => bnd (fun  (σ_17 : HS) => ( bnd (a + 1) fun (x_21 : Int32) => loopF LcB n (x_21, σ_17) ) : HS → HR) fun j_18 => if u_15.1 = 0 then ( j_18  u_15.2 ) else ( (F_X6_sightOf a u_15.2).bind fun u_26 => if u_26.1 = 0 then ( j_18  u_26.2 ) else ( some (1, u_26.2) ) ) ) ) := rfl
theorem LiB_go {σ : MS} {Γ : HS} {pa fi nx : Nat → Nat} {ch : Nat → List Nat} {tr : Nat → Nat} (h : PLT nO room nV nC σ Γ pa fi nx ch tr) (hr : ∀ x, x ≤ 120 → σ.2 50 x = if room x = true then 1 else 0) (h78 : σ.1 78 = J (nO : Nat)) : ∀ d x, x + d = nO + 1 → ∀ n, d < n → ∃ b : Bool, loopF LiB n (J (x : Nat), σ) = some (if b = true then 1 else 0, σ) ∧ (b = true ↔ ∃ y, x ≤ y ∧ y ≤ nO ∧ lamB pa room tr y = true) := by
  have tn := h.1.1
  intro d
  induction d with
  | zero =>
    intro x hx n hn
    obtain ⟨n, rfl⟩ : ∃ m, n = m + 1 := ⟨n - 1, by omega⟩
    refine ⟨false, ?_, ⟨fun hh => absurd hh (by decide), fun hh => by obtain ⟨y, h1, h2, -⟩ := hh; omega⟩⟩
    rw [LiB_s, h78, if_pos (by rw [J_lt (by omega) (by omega) (by omega) (by omega)]; omega)]; rfl
  | succ d ih =>
    intro x hx n hn
    obtain ⟨n, rfl⟩ : ∃ m, n = m + 1 := ⟨n - 1, by omega⟩
    obtain ⟨b, b1, b2⟩ := ih (x + 1) (by omega) n (by omega)
    have st := LiB_s n (J (x : Nat)) σ
    rw [h78, if_neg (by rw [J_lt (by omega) (by omega) (by omega) (by omega)]; omega), show (3 : Int32) = J ((3 : Nat) : Int) from rfl, r_has h (by omega) (by omega), Option.bind_some, bndE] at st
    dsimp only at st
    rw [J_suc, bndE, r_isSeen h hr (by omega), Option.bind_some] at st
    by_cases q : lamB pa room tr x = true
    · refine ⟨true, ?_, ⟨fun _ => ⟨x, Nat.le_refl _, by omega, q⟩, fun _ => rfl⟩⟩
      unfold lamB at q
      rw [Bool.and_eq_true] at q
      rw [st, q.1, q.2]; rfl
    · refine ⟨b, ?_, b2.trans ⟨fun ⟨y, h1, h2, h3⟩ => ⟨y, by omega, h2, h3⟩, fun ⟨y, h1, h2, h3⟩ => ⟨y, by
        rcases Nat.lt_or_ge x y with hh | hh
        · omega
        · exfalso; exact q (by rw [show x = y by omega]; exact h3), h2, h3⟩⟩⟩
      rw [st, ← b1]
      unfold lamB at q
      by_cases q1 : trB tr 3 x = true
      · have q2 : ¬ seenB pa room tr x = true := fun hh => q (by rw [q1, hh]; rfl)
        rw [if_pos q1, if_neg (by decide), if_neg q2]; rfl
      · rw [if_neg q1]; rfl
theorem seen_no {σ : MS} {Γ : HS} {pa fi nx : Nat → Nat} {ch : Nat → List Nat} {tr : Nat → Nat} (h : PLT nO room nV nC σ Γ pa fi nx ch tr) {y : Nat} (hy : nO < y) : seenB pa room tr y = false := by
  have p0 := (h.1.2.2.2.2.2.1 y hy).1
  unfold seenB
  show (if trB tr 2 y = true then false else if room y = true then false else if pa y = 0 then false else _) = false
  rw [if_pos p0]
  split
  · rfl
  · split <;> rfl
theorem LcB_go {σ : MS} {Γ : HS} {pa fi nx : Nat → Nat} {ch : Nat → List Nat} {tr : Nat → Nat} (h : PLT nO room nV nC σ Γ pa fi nx ch tr) : ∀ d x, x + d = 121 → ∀ n, d < n → ∃ b : Bool, loopF LcB n (J (x : Nat), Γ) = some (if b = true then 1 else 0, Γ) ∧ (b = true ↔ ∃ y, x ≤ y ∧ y ≤ nO ∧ lamB pa room tr y = true) := by
  have tn := h.1.1
  intro d
  induction d with
  | zero =>
    intro x hx n hn
    obtain ⟨n, rfl⟩ : ∃ m, n = m + 1 := ⟨n - 1, by omega⟩
    refine ⟨false, ?_, ⟨fun hh => absurd hh (by decide), fun hh => by obtain ⟨y, h1, h2, -⟩ := hh; omega⟩⟩
    rw [LcB_s, if_pos (by rw [show (120 : Int32) = J 120 from rfl, J_lt (by omega) (by omega) (by omega) (by omega)]; omega)]; rfl
  | succ d ih =>
    intro x hx n hn
    obtain ⟨n, rfl⟩ : ∃ m, n = m + 1 := ⟨n - 1, by omega⟩
    obtain ⟨b, b1, b2⟩ := ih (x + 1) (by omega) n (by omega)
    have st := LcB_s n (J (x : Nat)) Γ
    rw [if_neg (by rw [show (120 : Int32) = J 120 from rfl, J_lt (by omega) (by omega) (by omega) (by omega)]; omega), show (3 : Int32) = J ((3 : Nat) : Int) from rfl, c_bears h (by omega) (by omega), Option.bind_some, bndE] at st
    dsimp only at st
    rw [J_suc, bndE, c_sight h (by omega), Option.bind_some] at st
    have hs := seen_sig h x
    have hlt : sigN pa (trB tr 2) (shB tr) (pa 1) 121 x < 100000 := by
      have : ∀ k y, sigN pa (trB tr 2) (shB tr) (pa 1) k y ≤ nO := by
        intro k
        induction k with
        | zero => intro y; exact Nat.zero_le _
        | succ k ih =>
          intro y
          unfold sigN
          split
          · exact Nat.zero_le _
          · split
            · exact Nat.zero_le _
            · split
              · exact h.1.2.2.2.1 y
              · split
                · exact ih _
                · exact Nat.zero_le _
      have := this 121 x
      omega
    by_cases q : lamB pa room tr x = true
    · have hxn : x ≤ nO := by
        rcases Nat.lt_or_ge nO x with hh | hh
        · exfalso
          unfold lamB at q
          rw [seen_no h hh, Bool.and_false] at q; cases q
        · exact hh
      refine ⟨true, ?_, ⟨fun _ => ⟨x, Nat.le_refl _, hxn, q⟩, fun _ => rfl⟩⟩
      unfold lamB at q
      rw [Bool.and_eq_true] at q
      rw [st, q.1, if_pos rfl, if_neg (by decide)]
      dsimp only
      rw [if_neg (by rw [J_z0 hlt]; exact hs.mpr q.2)]
    · refine ⟨b, ?_, b2.trans ⟨fun ⟨y, h1, h2, h3⟩ => ⟨y, by omega, h2, h3⟩, fun ⟨y, h1, h2, h3⟩ => ⟨y, by
        rcases Nat.lt_or_ge x y with hh | hh
        · omega
        · exfalso; exact q (by rw [show x = y by omega]; exact h3), h2, h3⟩⟩⟩
      rw [st, ← b1]
      unfold lamB at q
      by_cases q1 : trB tr 3 x = true
      · have q2 : ¬ seenB pa room tr x = true := fun hh => q (by rw [q1, hh]; rfl)
        have q3 : sigN pa (trB tr 2) (shB tr) (pa 1) 121 x = 0 := Classical.byContradiction fun hh => q2 (hs.mp hh)
        rw [if_pos q1, if_neg (by decide)]
        dsimp only
        rw [if_pos (by rw [J_z0 hlt]; exact q3)]; rfl
      · rw [if_neg q1]; rfl
/-- there is light in both, or in none -/
theorem W_light {σ : MS} {Γ : HS} {pa fi nx : Nat → Nat} {ch : Nat → List Nat} {tr : Nat → Nat} (h : PLT nO room nV nC σ Γ pa fi nx ch tr) (hr : ∀ x, x ≤ 120 → σ.2 50 x = if room x = true then 1 else 0) (h78 : σ.1 78 = J (nO : Nat)) : ∃ b : Bool, F_X12_isLight σ = some (if b = true then 1 else 0, σ) ∧ F_X6_isLight Γ = some (if b = true then 1 else 0, Γ) := by
  have tn := h.1.1
  have p1 := h.1.2.2.2.1 1
  obtain ⟨b, b1, b2⟩ := LiB_go h hr h78 nO 1 (by omega) FU (FU_gt (by omega))
  obtain ⟨c, c1, c2⟩ := LcB_go h 120 1 (by omega) FU (FU_gt (by omega))
  have e : c = b := by
    have := c2.trans b2.symm
    cases c <;> cases b <;> simp at this ⊢
  subst e
  rw [isLight_eq, cisLight_eq, show (1 : Int32).toNatClampNeg = 1 from rfl, (h.2.1 1 (by omega)).1]
  unfold F_X6_here
  rw [show (1 : Int32).toNatClampNeg = 1 from rfl, (h.2.2.1 1 (by omega)).1, Option.bind_some]
  dsimp only
  rw [show (6 : Int32) = J ((6 : Nat) : Int) from rfl, r_has h (by omega) (by omega), c_bears h (by omega) (by omega), Option.bind_some, Option.bind_some]
  by_cases q : trB tr 6 (pa 1) = true
  · refine ⟨c, ?_, ?_⟩
    · rw [if_pos q]
      dsimp only
      rw [if_neg (by decide)]; exact b1
    · rw [if_pos q]
      dsimp only
      rw [if_neg (by decide)]; exact c1
  · refine ⟨true, ?_, ?_⟩
    · rw [if_neg q]; rfl
    · rw [if_neg q]; rfl
