/-! the class's names: numbers by a table -/
def hsh (z : Int) : Int32 := ((((L64 z * (-7046029254386353131)).toUInt64 >>> ((40 : Int32).toInt64.toUInt64 &&& Int64.toUInt64 63)).toInt64).toInt32 &&& 8191)
def cnam (cl : List Int) (Γ : HS) : Prop := (Γ 1).1 10 = J cl.length ∧ (∀ c, c < cl.length → (Γ 1).2.2 8 c = L64 (cl.getD c 0) ∧ 0 ≤ cl.getD c 0 ∧ cl.getD c 0 < 9223372036854775808) ∧ (∀ c e, c < cl.length → e < cl.length → cl.getD c 0 = cl.getD e 0 → c = e)
  ∧ (∀ i, i < 8192 → ∃ v : Nat, (Γ 1).2.1 9 i = J v ∧ v ≤ cl.length) ∧ (∀ i j, i < 8192 → j < 8192 → (Γ 1).2.1 9 i = (Γ 1).2.1 9 j → (Γ 1).2.1 9 i ≠ J 0 → i = j)
  ∧ ∀ c, c < cl.length → ∃ (h d : Nat), hsh (cl.getD c 0) = J h ∧ h < 8192 ∧ d < 8192 ∧ (Γ 1).2.1 9 ((h + d) % 8192) = J (c + 1 : Nat) ∧ ∀ e, e < d → (Γ 1).2.1 9 ((h + e) % 8192) ≠ J 0
/-- all of the words' object but its names -/
def wfrN (Γ Γ' : HS) : Prop := (∀ r, r ≠ 1 → Γ' r = Γ r) ∧ (∀ k, k ≠ 10 → (Γ' 1).1 k = (Γ 1).1 k) ∧ (∀ k, k ≠ 9 → (Γ' 1).2.1 k = (Γ 1).2.1 k)
theorem lg_cmp0 {x y : Int64} : lg_cmp x y = 0 ↔ x = y := by
  unfold lg_cmp
  constructor
  · intro h
    split at h
    · exact absurd h (by decide)
    · split at h
      · assumption
      · exact absurd h (by decide)
  · rintro rfl
    rw [if_neg (Int64.lt_irrefl), if_pos rfl]
theorem hsh_e (z : Int) : (((((L64 z * (-7046029254386353131)).toUInt64 >>> ((40 : Int32).toInt64.toUInt64 &&& Int64.toUInt64 63)).toInt64).toInt32) &&& 8191) = hsh z := by unfold hsh; rfl
theorem hsh_r (z : Int) : ∃ h : Nat, h < 8192 ∧ hsh z = J h := by unfold hsh; exact mask_rng _
theorem c_numberOf {cl : List Int} {Γ : HS} {z : Int} (h : cnam cl Γ) (hl : cl.length < 4500) (hz : 0 ≤ z) (hz2 : z < 9223372036854775808) : Ok (F_X10_numberOf (L64 z) Γ) fun u => ∃ (c : Nat), u.1 = J c ∧ wfrN Γ u.2 ∧ ((c < cl.length ∧ cl.getD c 0 = z ∧ u.2 = Γ) ∨ (c = cl.length ∧ (∀ e, e < cl.length → cl.getD e 0 ≠ z) ∧ cnam (cl ++ [z]) u.2)) := by
  obtain ⟨h10, hn, hinj, hs, hsi, hc⟩ := h
  unfold F_X10_numberOf
  refine Ok_bnd ?_
  rw [hsh_e]
  obtain ⟨h0, hh0, eh⟩ := hsh_r z
  rw [eh]
  simp only [bnd]
  refine Ok_loop (P := fun s k => ∃ n : Nat, n ≤ 8192 ∧ k = 8192 - n ∧ s = (J n, Γ) ∧ ∀ e, e < n → ∃ c : Nat, (Γ 1).2.1 9 ((h0 + e) % 8192) = J (c + 1 : Nat) ∧ c < cl.length ∧ cl.getD c 0 ≠ z) ?_ FU _ 8192 (FU_gt (by omega)) ⟨0, by omega, rfl, rfl, fun e he => by omega⟩
  rintro a s k ⟨n, hn1, rfl, rfl, hpr⟩ ih
  have hn2 : n < 8192 := by
    rcases Nat.lt_or_ge n 8192 with q | q
    · exact q
    · exfalso
      have hex : ∀ i, ∃ v : Nat, i < 8192 → (Γ 1).2.1 9 i = J (v + 1 : Nat) ∧ v < cl.length := by
        intro i
        by_cases qi : i < 8192
        · by_cases qh : h0 ≤ i
          · obtain ⟨c, c1, c2, -⟩ := hpr (i - h0) (by omega)
            rw [show (h0 + (i - h0)) % 8192 = i by omega] at c1
            exact ⟨c, fun _ => ⟨c1, c2⟩⟩
          · obtain ⟨c, c1, c2, -⟩ := hpr (8192 + i - h0) (by omega)
            rw [show (h0 + (8192 + i - h0)) % 8192 = i by omega] at c1
            exact ⟨c, fun _ => ⟨c1, c2⟩⟩
        · exact ⟨0, fun h => absurd h qi⟩
      have hf := fun i => Classical.choose_spec (hex i)
      have := pigeon cl.length 8192 (fun i => Classical.choose (hex i)) (fun i hi => (hf i hi).2) (fun i j hi hj hij => by
        refine hsi i j hi hj ?_ ?_
        · rw [(hf i hi).1, (hf j hj).1, hij]
        · rw [(hf i hi).1]
          have := (hf i hi).2
          intro h
          rw [J_eq (by omega) (by omega) (by omega) (by omega)] at h; omega)
      omega
  refine Ok_neg (by simp (disch := omega) only [J_lit, J_add, J_sub, J_mul, J_neg, J_lt, J_le, J_eq, J_natN, J_nat, Int.toNat_natCast, tnl, tnc] <;> omega) ?_
  have ex : J (h0 : Nat) + J (n : Nat) &&& 8191 = J (((h0 + n) % 8192 : Nat) : Int) := by
    rw [J_add, ← Int.natCast_add, J_mask (by omega)]
  dsimp only
  rw [ex, q_g_at_in (by omega) (by omega) (by omega), Int.toNat_natCast]
  obtain ⟨v, ev, hv⟩ := hs ((h0 + n) % 8192) (by omega)
  rw [ev]
  have hnext : v ≠ 0 → cl.getD (v - 1) 0 ≠ z → Ok (a (J (n : Nat) + 1, Γ)) fun u => ∃ (c : Nat), u.1 = J c ∧ wfrN Γ u.2 ∧ ((c < cl.length ∧ cl.getD c 0 = z ∧ u.2 = Γ) ∨ (c = cl.length ∧ (∀ e, e < cl.length → cl.getD e 0 ≠ z) ∧ cnam (cl ++ [z]) u.2)) := by
    intro hv0 hne
    rw [show J (n : Nat) + 1 = J (n + 1 : Nat) by rw [J_lit, J_add]; rfl]
    refine ih _ (8192 - (n + 1)) (by omega) ⟨n + 1, by omega, rfl, rfl, fun e he => ?_⟩
    by_cases q : e = n
    · exact ⟨v - 1, by rw [q, ev, show v - 1 + 1 = v by omega], by omega, hne⟩
    · exact hpr e (by omega)
  by_cases q : v = 0
  · subst q
    refine Ok_neg (by simp (disch := omega) only [J_lit, J_add, J_sub, J_mul, J_neg, J_lt, J_le, J_eq, J_natN, J_nat, Int.toNat_natCast, tnl, tnc] <;> omega) ?_
    have hno : ∀ e, e < cl.length → cl.getD e 0 ≠ z := by
      intro e he hez
      obtain ⟨h1, d, e1, e2, e3, e4, e5⟩ := hc e he
      rw [hez, eh] at e1
      rw [J_eq (by omega) (by omega) (by omega) (by omega)] at e1
      have e1' : h0 = h1 := by omega
      subst e1'
      rcases Nat.lt_trichotomy d n with q | q | q
      · obtain ⟨c, c1, c2, c3⟩ := hpr d q
        rw [e4, J_eq (by omega) (by omega) (by omega) (by omega)] at c1
        exact c3 (by rw [show c = e by omega]; exact hez)
      · rw [q, ev, J_eq (by omega) (by omega) (by omega) (by omega)] at e4; omega
      · exact e5 n q ev
    unfold F_X10_rememberName
    simp only [bnd]
    rw [h10]
    refine Ok_bind ?_
    refine Ok_pos (by simp (disch := omega) only [J_lit, J_add, J_sub, J_mul, J_neg, J_lt, J_le, J_eq, J_natN, J_nat, Int.toNat_natCast, tnl, tnc] <;> omega) ?_
    refine Ok_neg (by simp (disch := omega) only [J_lit, J_add, J_sub, J_mul, J_neg, J_lt, J_le, J_eq, J_natN, J_nat, Int.toNat_natCast, tnl, tnc] <;> omega) ?_
    rw [J_natN (by omega)]
    have ei : ∀ x : Int32, g_put 8192 ((Γ 1).2.1 9) (J (((h0 + n) % 8192 : Nat) : Int)) x = upd ((Γ 1).2.1 9) ((h0 + n) % 8192) x := fun x => by
      rw [q_g_put_in (by omega) (by omega) (by omega), Int.toNat_natCast]
    have e1 : J (cl.length : Nat) + 1 = J (cl.length + 1 : Nat) := by rw [J_lit, J_add]; rfl
    refine Ok_some_e ?_
    intro u hu
    have s0 : ∀ r, r ≠ 1 → u.2 r = Γ r := by intro r hr; rw [hu]; simp only [cA_r, cI_r, cL_r, if_neg hr]
    have sI : ∀ k, (u.2 1).1 k = if k = 10 then J (cl.length + 1 : Nat) else (Γ 1).1 k := by
      intro k; rw [hu]; simp only [cA_r, cI_r, cL_r, updA_s, upd_s, if_true, h10, e1]
    have sA : ∀ k, (u.2 1).2.1 k = if k = 9 then upd ((Γ 1).2.1 9) ((h0 + n) % 8192) (J (cl.length + 1 : Nat)) else (Γ 1).2.1 k := by
      intro k; rw [hu]; simp only [cA_r, cI_r, cL_r, updA_s, upd_s, if_true, h10, e1, ei]
    have sL : (u.2 1).2.2 8 = vp_updL ((Γ 1).2.2 8) cl.length (L64 z) := by rw [hu]; simp only [cA_r, cI_r, cL_r, if_true]
    have s1 : u.1 = J cl.length := by
      rw [hu]; simp only [cA_r, cI_r, cL_r, upd_s, if_true, h10, e1]; rw [J_lit, J_sub]; exact congrArg J (by show ((cl.length + 1 : Nat) : Int) - 1 = _; omega)
    clear hu
    have gd : ∀ c, c < cl.length → (cl ++ [z]).getD c 0 = cl.getD c 0 := fun c hc => by
      rw [List.getD_eq_getElem?_getD, List.getD_eq_getElem?_getD, List.getElem?_append_left hc]
    have gz : (cl ++ [z]).getD cl.length 0 = z := by
      rw [List.getD_eq_getElem?_getD, List.getElem?_append_right (Nat.le_refl _)]; simp
    have gl : (cl ++ [z]).length = cl.length + 1 := by simp
    refine Ok_some ⟨cl.length, s1, ⟨s0, fun k hk => by rw [sI, if_neg hk], fun k hk => by rw [sA, if_neg hk]⟩, Or.inr ⟨rfl, hno, ?_⟩⟩
    unfold cnam
    rw [gl, sI, if_pos rfl, sA, if_pos rfl, sL]
    have hup : ∀ i, upd ((Γ 1).2.1 9) ((h0 + n) % 8192) (J (cl.length + 1 : Nat)) i ≠ J 0 ∨ upd ((Γ 1).2.1 9) ((h0 + n) % 8192) (J (cl.length + 1 : Nat)) i = (Γ 1).2.1 9 i := by
      intro i
      rw [upd_s]
      split
      · left; intro h; rw [J_eq (by omega) (by omega) (by omega) (by omega)] at h; omega
      · right; rfl
    have hnz : ∀ v : Nat, v ≤ cl.length → J (v : Int) ≠ J (cl.length + 1 : Nat) := by
      intro v hv h; rw [J_eq (by omega) (by omega) (by omega) (by omega)] at h; omega
    have hne0 : ∀ v : Nat, v < 100000 → J (v + 1 : Nat) ≠ J 0 := by
      intro v hv h; rw [J_eq (by omega) (by omega) (by omega) (by omega)] at h; omega
    refine ⟨rfl, fun c hc2 => ?_, fun c e hc2 he2 hce => ?_, fun i hi => ?_, fun i j hi hj hij hi0 => ?_, fun c hc2 => ?_⟩
    · unfold vp_updL
      by_cases q : c = cl.length
      · rw [if_pos q, q, gz]; exact ⟨rfl, hz, hz2⟩
      · rw [if_neg q, gd c (by omega)]; exact hn c (by omega)
    · by_cases q : c = cl.length
      · by_cases q2 : e = cl.length
        · omega
        · rw [q, gz, gd e (by omega)] at hce; exact absurd hce.symm (hno e (by omega))
      · by_cases q2 : e = cl.length
        · rw [q2, gz, gd c (by omega)] at hce; exact absurd hce (hno c (by omega))
        · rw [gd c (by omega), gd e (by omega)] at hce; exact hinj c e (by omega) (by omega) hce
    · rw [upd_s]
      split
      · exact ⟨cl.length + 1, rfl, by omega⟩
      · obtain ⟨v, a1, a2⟩ := hs i hi; exact ⟨v, a1, by omega⟩
    · rw [upd_s, upd_s] at hij
      rw [upd_s] at hi0
      by_cases q : i = (h0 + n) % 8192
      · by_cases q2 : j = (h0 + n) % 8192
        · omega
        · rw [if_pos q, if_neg q2] at hij
          obtain ⟨v, a1, a2⟩ := hs j hj
          rw [a1] at hij; exact absurd hij.symm (hnz v a2)
      · by_cases q2 : j = (h0 + n) % 8192
        · rw [if_pos q2, if_neg q] at hij
          obtain ⟨v, a1, a2⟩ := hs i hi
          rw [a1] at hij; exact absurd hij (hnz v a2)
        · rw [if_neg q, if_neg q2] at hij
          rw [if_neg q] at hi0
          exact hsi i j hi hj hij hi0
    · by_cases q : c = cl.length
      · subst q
        refine ⟨h0, n, by rw [gz, eh], hh0, hn2, by rw [upd_s, if_pos rfl], fun e he => ?_⟩
        obtain ⟨c, c1, c2, -⟩ := hpr e he
        rcases hup ((h0 + e) % 8192) with r | r
        · exact r
        · rw [r, c1]; exact hne0 c (by omega)
      · obtain ⟨h1, d, e1, e2, e3, e4, e5⟩ := hc c (by omega)
        refine ⟨h1, d, by rw [gd c (by omega)]; exact e1, e2, e3, ?_, fun e he => ?_⟩
        · rw [upd_s]
          by_cases q2 : (h1 + d) % 8192 = (h0 + n) % 8192
          · rw [q2, ev] at e4; exact absurd e4.symm (hne0 c (by omega))
          · rw [if_neg q2]; exact e4
        · rcases hup ((h1 + e) % 8192) with r | r
          · exact r
          · rw [r]; exact e5 e he
  · refine Ok_pos (by simp (disch := omega) only [J_lit, J_add, J_sub, J_mul, J_neg, J_lt, J_le, J_eq, J_natN, J_nat, Int.toNat_natCast, tnl, tnc] <;> omega) ?_
    refine Ok_neg (by simp (disch := omega) only [J_lit, J_add, J_sub, J_mul, J_neg, J_lt, J_le, J_eq, J_natN, J_nat, Int.toNat_natCast, tnl, tnc] <;> omega) ?_
    refine Ok_neg (by simp (disch := omega) only [J_lit, J_add, J_sub, J_mul, J_neg, J_lt, J_le, J_eq, J_natN, J_nat, Int.toNat_natCast, tnl, tnc] <;> omega) ?_
    have ez : (J (v : Int) - 1).toNatClampNeg = v - 1 := by simp (disch := omega) only [J_lit, J_add, J_sub, J_mul, J_neg, J_lt, J_le, J_eq, J_natN, J_nat, Int.toNat_natCast, tnl, tnc]; omega
    rw [ez, (hn (v - 1) (by omega)).1]
    have hr := (hn (v - 1) (by omega)).2
    refine Ok_ite (fun q2 => ?_) (fun q2 => ?_)
    · have q3 := lg_cmp0.mp q2
      rw [L_inj hr.1 hr.2 hz hz2] at q3
      refine Ok_some ⟨v - 1, ?_, ⟨fun _ _ => rfl, fun _ _ => rfl, fun _ _ => rfl⟩, Or.inl ⟨by omega, q3, rfl⟩⟩
      show J (v : Int) - 1 = _
      rw [J_lit, J_sub]; exact congrArg J (by show (v : Int) - 1 = _; omega)
    · refine hnext q (fun h => q2 (lg_cmp0.mpr ?_))
      rw [L_inj hr.1 hr.2 hz hz2]; exact h
