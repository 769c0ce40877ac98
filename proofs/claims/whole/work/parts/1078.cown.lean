/-! words given to an owner; stretches behind one another -/
variable {T N : Nat} {kd vl rv : Nat → Int} {pl : Nat → Nat}
theorem CST_seq {G : Nat → HS} {Θ Γs Γ : HS} {bad : Nat → Prop} {P Q R : HS → HS → Prop} {i k j : Nat} (hik : i ≤ k) (hkj : k ≤ j) (h : CST T N kd vl pl G Θ Γs bad P i k Γ) (hm : ∀ Δ, P Γ Δ → ∀ r, r ≠ 1 → r ≠ 3 → r ≠ 4 → r ≠ 7 → Δ r = Γ r) (g : ∀ Δ, CT3 T N kd vl pl G Θ Γs k Δ → P Γ Δ → CST T N kd vl pl G Θ Γs bad Q k j Δ) (hR : ∀ Δ E, P Γ Δ → Q Δ E → R Γ E) : CST T N kd vl pl G Θ Γs bad R i j Γ := by
  rcases h with ⟨w, w1, w2, w3, w4, X, x1, x2, x3⟩ | ⟨n1, E, e1, e2, e3⟩
  · exact Or.inl ⟨w, w1, by omega, w3, w4, X, fun n hn => x1 n (by omega), x2, x3⟩
  · rcases g E e2 e3 with ⟨w, w1, w2, w3, w4, X, x1, x2, x3⟩ | ⟨n2, F, f1, f2, f3⟩
    · refine Or.inl ⟨w, by omega, w2, w3, fun v v1 v2 => ?_, X, fun n hn => ?_, x2, fun r r1 r3 r4 r7 => by rw [x3 r r1 r3 r4 r7, hm E e3 r r1 r3 r4 r7]⟩
      · by_cases q : v < k
        · exact n1 v v1 q
        · exact w4 v (by omega) v2
      · rw [show n = (n - (k - i)) + (k - i) by omega, e1]
        exact x1 _ (by omega)
    · refine Or.inr ⟨fun w w1 w2 => ?_, F, fun n => ?_, f2, hR E F e3 f3⟩
      · by_cases q : w < k
        · exact n1 w w1 q
        · exact n2 w (by omega) w2
      · rw [show n + (j - i) = (n + (j - k)) + (k - i) by omega, e1, f1]
/-- the nine signs of a name -/
def trm (cl : List Int) (vl : Nat → Int) (t : Nat) : Int := cl.getD (vl t).toNat 0 / 50653
theorem L_div {a : Int} (h : 0 ≤ a) (h2 : a < 9223372036854775808) : L64 a / 50653 = L64 (a / 50653) := by
  apply Int64.toInt_inj.1
  have h3 : 0 ≤ a / 50653 := Int.ediv_nonneg h (by omega)
  have h4 : a / 50653 ≤ a := Int.ediv_le_self _ h
  rw [Int64.toInt_div, L_toInt (by omega) (by omega), L_toInt (by omega) (by omega), show (50653 : Int64).toInt = 50653 from rfl]
  rw [Int.tdiv_eq_ediv_of_nonneg h]
  exact Int.bmod_eq_of_le (by omega) (by omega)
theorem c_termOf {cl : List Int} {Γ : HS} {v : Int} (h : cnam cl Γ) (h0 : 0 ≤ v) (h1 : v < cl.length) (h2 : cl.length ≤ 4500) : F_X10_termOf (J v) Γ = some (L64 (cl.getD v.toNat 0 / 50653), Γ) := by
  obtain ⟨a1, a2, -⟩ := h
  have hv : v.toNat < cl.length := by omega
  obtain ⟨b1, b2, b3⟩ := a2 _ hv
  unfold F_X10_termOf
  simp only [bndE]
  rw [if_neg (J_nlt0 h0 (by omega)), a1, if_neg (show ¬ J (cl.length : Nat) ≤ J v by rw [J_le (by omega) (by omega) (by omega) (by omega)]; omega), if_neg (show ¬ (4500 : Int32) ≤ J v by rw [show (4500 : Int32) = J 4500 from rfl, J_le (by omega) (by omega) (by omega) (by omega)]; omega), if_neg (show ¬ (J v < 0 ∨ 4500 ≤ (J v).toNatClampNeg) by rintro (c | c); exact J_nlt0 h0 (by omega) c; rw [J_nat h0 (by omega)] at c; omega), J_nat h0 (by omega), b1, L_div b2 b3]
/-- one more word for an owner -/
def AWR (o : Nat) (t : Int) (Γ Δ : HS) : Prop := (∀ r, r ≠ 4 → r ≠ 7 → Δ r = Γ r) ∧ ∃ (W V : List Int) (m : Int32), DOK Γ W ∧ DOK Δ V ∧ (W.length < 1999 → ∃ k : Nat, m = J (k : Nat) ∧ lrnW W t V k) ∧ Δ 4 = (if 10 ≤ (Γ 4).2.1 10 o then Γ 4 else (cA' (cA' Γ 4 9 (g_put 1810 ((Γ 4).2.1 9) (J (o : Nat) * 10 + (Γ 4).2.1 10 o) m)) 4 10 (g_put 181 ((Γ 4).2.1 10) (J (o : Nat)) ((Γ 4).2.1 10 o + 1))) 4)
theorem cA_4 {Γ Δ : HS} {k : Nat} {g : Nat → Int32} (h : Δ 4 = Γ 4) : (cA' Δ 4 k g) 4 = (cA' Γ 4 k g) 4 := by
  show ((Δ 4).1, updA (Δ 4).2.1 k g, (Δ 4).2.2) = ((Γ 4).1, updA (Γ 4).2.1 k g, (Γ 4).2.2)
  rw [h]
theorem c_addWord {Γ : HS} {o : Nat} {t : Int} (ho : 1 ≤ o) (ho2 : o ≤ 180) (hD : ∃ W, DOK Γ W) (h0 : 0 ≤ t) (h1 : t < 9223372036854775808) : ∃ Δ, F_X7_addWord (J (o : Nat)) (L64 t) Γ = some ((0 : Int32), Δ) ∧ AWR o t Γ Δ := by
  obtain ⟨W, hD⟩ := hD
  obtain ⟨V, m, Δ, e1, e2, e3, e4⟩ := d_learnA hD h0 h1
  have em : mrg (fun j => j == 7) Γ Δ = Δ := by
    funext j
    rw [mrg_r]
    by_cases q : j = 7
    · subst q; rfl
    · rw [show (j == 7) = false by simpa using q, e2 j q]; rfl
  have e4' := e2 4 (by omega)
  unfold F_X7_addWord
  rw [e1, Option.bind_some]
  simp only [bndE]
  rw [em, e4', q_g_at_in (n := 181) (i := (o : Nat)) (by omega) (by omega) (by omega), Int.toNat_natCast, if_neg (show ¬ J (o : Nat) ≤ 0 by rw [show (0 : Int32) = J 0 from rfl, J_le (by omega) (by omega) (by omega) (by omega)]; omega)]
  by_cases q : 10 ≤ (Γ 4).2.1 10 o
  · rw [if_pos q]
    exact ⟨Δ, rfl, fun r _ r7 => e2 r r7, W, V, m, hD, e3, e4, by rw [if_pos q]; exact e4'⟩
  · rw [if_neg q]
    refine ⟨_, rfl, fun r r4 r7 => by rw [cA_r, if_neg r4, cA_r, if_neg r4]; exact e2 r r7, W, V, m, hD, ?_, e4, ?_⟩
    · obtain ⟨p, hp⟩ := e3
      exact ⟨p, hp⟩
    · rw [if_neg q]
      have e10 : ∀ g, ((cA' Δ 4 9 g) 4).2.1 10 = (Γ 4).2.1 10 := fun g => by rw [← e4']; rfl
      rw [e10]
      exact cA_4 (cA_4 e4')
/-- names parted by commas from word i on, so many -/
def NML (kd : Nat → Int) (i c : Nat) : Prop := (∀ e, e < c → kd (i + 2 * e) = 2) ∧ (∀ e, e + 1 < c → kd (i + 2 * e + 1) = 44) ∧ kd (i + 2 * c - 1) ≠ 44 ∧ kd (i + 2 * c - 1) ≠ 2
theorem NML_u {i c c' : Nat} (h : NML kd i c) (h' : NML kd i c') (hc : 1 ≤ c) (hc' : 1 ≤ c') : c = c' := by
  rcases Nat.lt_trichotomy c c' with q | q | q
  · exact absurd (h'.2.1 (c - 1) (by omega)) (by rw [show i + 2 * (c - 1) + 1 = i + 2 * c - 1 by omega]; exact h.2.2.1)
  · exact q
  · exact absurd (h.2.1 (c' - 1) (by omega)) (by rw [show i + 2 * (c' - 1) + 1 = i + 2 * c' - 1 by omega]; exact h'.2.2.1)
/-- the words of a list, one behind the other -/
def OWN (kd vl : Nat → Int) (cl : List Int) (o i : Nat) (Γ E : HS) : Prop := ∃ (c : Nat) (K : Nat → HS), 1 ≤ c ∧ NML kd i c ∧ K 0 = Γ ∧ K c = E ∧ ∀ e, e < c → AWR o (trm cl vl (i + 2 * e)) (K e) (K (e + 1))
theorem AWR_D {o : Nat} {t : Int} {Γ Δ : HS} (h : AWR o t Γ Δ) : (∃ W, DOK Δ W) ∧ (∀ r, r ≠ 4 → r ≠ 7 → Δ r = Γ r) := by
  obtain ⟨a, W, V, m, b, c, -⟩ := h
  exact ⟨⟨V, c⟩, a⟩
def Oj21 (a : Int32 × HS → HR) (s : Int32) : HS → HR := fun σ_20 => bnd (s + 1) fun (x_24 : Int32) => a (x_24, σ_20)
def Oj13 (a : Int32 × HS → HR) (p0 s : Int32) : HS → HR := fun σ_12 => (F_X10_kindOf s σ_12).bind fun u_16 => bnd (mrg (fun j => j == 1) σ_12 u_16.2) fun σ_18 => if u_16.1 = 2 then ((F_X10_worthOf s σ_18).bind fun u_28 => bnd (mrg (fun j => j == 1) σ_18 u_28.2) fun σ_30 => (F_X10_termOf u_28.1 σ_30).bind fun u_32 => bnd (mrg (fun j => j == 1) σ_30 u_32.2) fun σ_34 => (F_X7_addWord p0 u_32.1 σ_34).bind fun u_36 => bnd (mrg (fun j => j == 4 || j == 5 || j == 6 || j == 7) σ_34 u_36.2) fun σ_38 => Oj21 a s σ_38) else Oj21 a s σ_18
def Ow3 (p0 : Int32) : (Int32 × HS → HR) → Int32 × HS → HR := fun again_2 s_1 => if ((s_1.2 1).1 2) ≤ s_1.1 then some (s_1.1, s_1.2) else (F_X10_kindOf s_1.1 s_1.2).bind fun u_8 => bnd (mrg (fun j => j == 1) s_1.2 u_8.2) fun σ_10 => if u_8.1 = 2 then Oj13 again_2 p0 s_1.1 σ_10 else (F_X10_kindOf s_1.1 σ_10).bind fun u_44 => bnd (mrg (fun j => j == 1) σ_10 u_44.2) fun σ_46 => if u_44.1 = 44 then Oj13 again_2 p0 s_1.1 σ_46 else some (s_1.1, σ_46)
theorem ownWords_eq (p0 p1 : Int32) (Γ : HS) : F_X4_ownWords p0 p1 Γ = loopF (Ow3 p0) FU (p1, Γ) := rfl
theorem c_ownWords (hT : TKE T N kd vl rv pl) {cl : List Int} (hcl : cl.length ≤ 4500) (hvl : ∀ u, u ≤ T → kd u = 2 → (vl u).toNat < cl.length) {o i c : Nat} (ho : 1 ≤ o) (ho2 : o ≤ 180) (hc : 1 ≤ c) (hn : NML kd i c) (hi : i + 2 * c ≤ T + 1) {Γ : HS} (h1 : TKc N kd vl pl Γ) (h2 : cnam cl Γ) (hD : ∃ W, DOK Γ W) : ∃ E, F_X4_ownWords (J (o : Nat)) (J (i : Nat)) Γ = some (J (i + 2 * c - 1 : Nat), E) ∧ OWN kd vl cl o i Γ E := by
  obtain ⟨n1, n2, n3, n4⟩ := TKE_N hT
  have m4 : ∀ {Γ Δ : HS}, (∀ r, r ≠ 4 → r ≠ 7 → Δ r = Γ r) → mrg (fun j => j == 4 || j == 5 || j == 6 || j == 7) Γ Δ = Δ := by
    intro Γ Δ h
    funext j
    rw [mrg_r]
    by_cases q4 : j = 4
    · subst q4; rfl
    by_cases q7 : j = 7
    · subst q7; rfl
    rw [h j q4 q7]
    cases (j == 4 || j == 5 || j == 6 || j == 7) <;> rfl
  have run : ∀ (d e : Nat) (Γ : HS), e + d = c → TKc N kd vl pl Γ → cnam cl Γ → (∃ W, DOK Γ W) → ∃ K : Nat → HS, K e = Γ ∧ (∀ k, e ≤ k → k < c → AWR o (trm cl vl (i + 2 * k)) (K k) (K (k + 1))) ∧ ∀ n, loopF (Ow3 (J (o : Nat))) (n + 2 * d + 1) (J ((if d = 0 then i + 2 * c - 1 else i + 2 * e : Nat) : Nat), Γ) = some (J (i + 2 * c - 1 : Nat), K c) := by
    intro d
    induction d with
    | zero =>
      intro e Γ he h1 h2 hD
      obtain rfl : e = c := by omega
      refine ⟨fun _ => Γ, rfl, fun k k1 k2 => by omega, fun n => ?_⟩
      rw [if_pos rfl]
      show Ow3 _ (loopF _ (n + 2 * 0)) _ = _
      unfold Ow3
      dsimp only
      have hlt : i + 2 * e - 1 < N := by omega
      have hkr := kd_le hT hlt
      rw [if_neg (show ¬ (Γ 1).1 2 ≤ J (i + 2 * e - 1 : Nat) by rw [h1.1, J_le (by omega) (by omega) (by omega) (by omega)]; omega), c_kindOf hT h1 hlt, Option.bind_some, bndE, mrg1_id, if_neg (show ¬ J (kd (i + 2 * e - 1)) = 2 by rw [show (2 : Int32) = J 2 from rfl, J255 2 hkr (by omega)]; exact hn.2.2.2), c_kindOf hT h1 hlt, Option.bind_some, bndE, mrg1_id, if_neg (show ¬ J (kd (i + 2 * e - 1)) = 44 by rw [show (44 : Int32) = J 44 from rfl, J255 44 hkr (by omega)]; exact hn.2.2.1)]
    | succ d ih =>
      intro e Γ he h1 h2 hD
      have hec : e < c := by omega
      have hk := hn.1 e hec
      have hlt : i + 2 * e < N := by omega
      have hv := SC_vl hT (show i + 2 * e ≤ T by omega) hk
      have hv2 := hvl (i + 2 * e) (by omega) hk
      have hb := h2.2.1 _ hv2
      have t0 : 0 ≤ trm cl vl (i + 2 * e) ∧ trm cl vl (i + 2 * e) < 9223372036854775808 := by
        unfold trm
        exact ⟨Int.ediv_nonneg hb.2.1 (by omega), by have := Int.ediv_le_self (b := 50653) (a := cl.getD (vl (i + 2 * e)).toNat 0) hb.2.1; omega⟩
      obtain ⟨Δ, d1, d2⟩ := c_addWord ho ho2 hD t0.1 t0.2
      have d3 := AWR_D d2
      have h1' : TKc N kd vl pl Δ := by
        have e1 := d3.2 1 (by omega) (by omega)
        exact ⟨by rw [e1]; exact h1.1, fun z hz => by rw [e1]; exact h1.2 z hz⟩
      have h2' : cnam cl Δ := cnam_congr h2 (by rw [d3.2 1 (by omega) (by omega)]) (by rw [d3.2 1 (by omega) (by omega)]) (by rw [d3.2 1 (by omega) (by omega)])
      obtain ⟨K, k1, k2, k3⟩ := ih (e + 1) Δ (by omega) h1' h2' d3.1
      refine ⟨fun z => if z = e then Γ else K z, by dsimp only; rw [if_pos rfl], fun k ka kb => ?_, fun n => ?_⟩
      · dsimp only
        by_cases q : k = e
        · subst q
          rw [if_pos rfl, if_neg (by omega), k1]; exact d2
        · rw [if_neg q, if_neg (by omega)]; exact k2 k (by omega) kb
      · show _ = some (J (i + 2 * c - 1 : Nat), if c = e then Γ else K c)
        rw [if_neg (show ¬ d + 1 = 0 by omega), if_neg (show ¬ c = e by omega)]
        have a1 : ∀ m, loopF (Ow3 (J (o : Nat))) (m + 1) (J (i + 2 * e : Nat), Γ) = loopF (Ow3 (J (o : Nat))) m (J (i + 2 * e + 1 : Nat), Δ) := by
          intro m
          show Ow3 _ (loopF _ m) _ = _
          unfold Ow3
          dsimp only
          rw [if_neg (show ¬ (Γ 1).1 2 ≤ J (i + 2 * e : Nat) by rw [h1.1, J_le (by omega) (by omega) (by omega) (by omega)]; omega), c_kindOf hT h1 hlt, Option.bind_some, bndE, mrg1_id, hk]
          dsimp only
          rw [if_pos (show J 2 = 2 from rfl)]
          unfold Oj13 Oj21
          rw [c_kindOf hT h1 hlt, Option.bind_some, bndE, mrg1_id, hk]
          dsimp only
          rw [if_pos (show J 2 = 2 from rfl), c_worthOf hT h1 hlt, Option.bind_some, bndE, mrg1_id]
          dsimp only
          rw [c_termOf h2 (by omega) (by omega) hcl, Option.bind_some, bndE, mrg1_id]
          dsimp only
          rw [show F_X7_addWord (J (o : Nat)) (L64 (cl.getD (vl (i + 2 * e)).toNat 0 / 50653)) Γ = some ((0 : Int32), Δ) from d1, Option.bind_some, bndE, bndE]
          dsimp only
          rw [m4 d3.2, show J (i + 2 * e : Nat) + 1 = J (i + 2 * e + 1 : Nat) by rw [J_lit, J_add]; rfl]
        by_cases qd : d = 0
        · have := k3 (n + 1)
          rw [if_pos qd] at this
          rw [show n + 2 * (d + 1) + 1 = (n + 1 + 2 * d + 1) + 1 by omega, a1, show i + 2 * e + 1 = i + 2 * c - 1 by omega]
          exact this
        · have a2 : ∀ m, loopF (Ow3 (J (o : Nat))) (m + 1) (J (i + 2 * e + 1 : Nat), Δ) = loopF (Ow3 (J (o : Nat))) m (J (i + 2 * (e + 1) : Nat), Δ) := by
            intro m
            have hk4 := hn.2.1 e (by omega)
            have hl2 : i + 2 * e + 1 < N := by omega
            show Ow3 _ (loopF _ m) _ = _
            unfold Ow3
            dsimp only
            rw [if_neg (show ¬ (Δ 1).1 2 ≤ J (i + 2 * e + 1 : Nat) by rw [h1'.1, J_le (by omega) (by omega) (by omega) (by omega)]; omega), c_kindOf hT h1' hl2, Option.bind_some, bndE, mrg1_id, hk4]
            dsimp only
            rw [if_neg (show ¬ J 44 = 2 by decide), c_kindOf hT h1' hl2, Option.bind_some, bndE, mrg1_id, hk4]
            dsimp only
            rw [if_pos (show J 44 = 44 from rfl)]
            unfold Oj13 Oj21
            rw [c_kindOf hT h1' hl2, Option.bind_some, bndE, mrg1_id, hk4]
            dsimp only
            rw [if_neg (show ¬ J 44 = 2 by decide), bndE, show J (i + 2 * e + 1 : Nat) + 1 = J (i + 2 * (e + 1) : Nat) by rw [J_lit, J_add]; rfl]
          have := k3 n
          rw [if_neg qd] at this
          rw [show n + 2 * (d + 1) + 1 = (n + 2 * d + 1) + 1 + 1 by omega, a1, a2]
          exact this
  obtain ⟨K, k1, k2, k3⟩ := run c 0 Γ (by omega) h1 h2 hD
  have := k3 (FU - 2 * c - 1)
  rw [if_neg (by omega), show FU - 2 * c - 1 + 2 * c + 1 = FU by have : FU = 1000000000000 := rfl; omega] at this
  exact ⟨K c, by rw [ownWords_eq]; exact this, c, K, hc, hn, k1, rfl, fun e he => k2 e (Nat.zero_le _) he⟩
