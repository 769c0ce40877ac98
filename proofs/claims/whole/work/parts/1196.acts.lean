/-! a command is performed: its rules, then its own doing -/
variable {R : Nat → Nat → Int32} {nO nV nC nA ln : Nat} {room : Nat → Bool} {en : Nat → Nat} {TX : Nat → Int → Int → Prop} {DN : Nat → Nat → Nat → Prop}
theorem c_what' {Γ : HS} {A x : Nat} {b : Bool} (hA : A ≤ 1000) (hx : x ≤ 1000) : F_X8_isWhat (if b = true then J (-1) else J (A : Nat)) (J (x : Nat)) Γ = some (if (b = true ∨ A = 0 ∨ A = x) then 1 else 0, Γ) := by
  unfold F_X8_isWhat
  cases b with
  | true => rw [if_pos rfl, if_pos (by decide), if_pos (Or.inl rfl)]
  | false =>
    have e : (if false = true then J (-1) else J (A : Nat)) = J (A : Nat) := rfl
    rw [e]
    by_cases q : A = 0
    · rw [if_pos (by rw [q]; decide), if_pos (Or.inr (Or.inl q))]
    · rw [if_neg (by rw [show (0 : Int32) = J 0 from rfl, J_le (by omega) (by omega) (by omega) (by omega)]; omega)]
      by_cases q2 : A = x
      · rw [if_pos (by rw [q2]), if_pos (Or.inr (Or.inr q2))]
      · rw [if_neg (by rw [J_eqN (by omega) (by omega)]; exact q2), if_neg]
        rintro (h | h | h)
        · cases h
        · exact q h
        · exact q2 h
theorem c_meant {σ : MS} {Γ : HS} {i vb c A B a x y : Nat} (h : ONV σ Γ i vb c A B) (hi : i < 200) (ha : a < 1000) (hx : x ≤ 1000) (hy : y ≤ 1000) (h8 : (Γ 11).1 8 = J (a : Nat)) (h10 : (Γ 11).1 10 = J (x : Nat)) (h11 : (Γ 11).1 11 = J (y : Nat)) : F_X8_isMeant (J (i : Nat)) Γ = some (if mtR vb c A B a x y = true then 1 else 0, Γ) := by
  obtain ⟨⟨b1, b2, b3, b4⟩, k1, k2, k3, k4, k5, k6, k7⟩ := h
  unfold F_X8_isMeant
  rw [q_g_at_in (by omega) (by omega) (by omega), q_g_at_in (by omega) (by omega) (by omega), q_g_at_in (by omega) (by omega) (by omega), Int.toNat_natCast, k2, k5, k7, h8, h10, h11, bndE, bndE, bndE]
  have w1 := c_what' (Γ := Γ) (A := A) (x := x) (b := decide (c = 0)) b3 hx
  have w2 := c_what' (Γ := Γ) (A := B) (x := y) (b := decide (c ≤ 1)) b4 hy
  simp only [decide_eq_true_eq] at w1 w2
  by_cases q1 : vb = a
  · rw [if_pos (show J (vb : Nat) = J (a : Nat) by rw [q1]), w1, Option.bind_some]
    dsimp only
    by_cases q2 : c = 0 ∨ A = 0 ∨ A = x
    · rw [if_pos q2, if_neg (by decide), w2, Option.bind_some]
      dsimp only
      by_cases q3 : c ≤ 1 ∨ B = 0 ∨ B = y
      · rw [if_pos q3, if_neg (by decide), if_pos (mtR_iff.mpr ⟨q1, by omega, by omega⟩)]
      · rw [if_neg q3, if_pos rfl, if_neg (fun h => q3 (by have := (mtR_iff.mp h).2.2; omega))]
    · rw [if_neg q2, if_pos rfl, if_neg (fun h => q2 (by have := (mtR_iff.mp h).2.1; omega))]
  · rw [if_neg (by rw [J_eqN (by omega) (by omega)]; exact q1), if_neg (fun h => q1 (mtR_iff.mp h).1)]
/-- a rule of the story -/
def ONI (R : Nat → Nat → Int32) (nV nA ln : Nat) (TX : Nat → Int → Int → Prop) (DN : Nat → Nat → Nat → Prop) (Γ0 : HS) (F : Nat → Nat) (σ : MS) (Γ : HS) (i : Nat) : Prop := ∃ vb c A B : Nat, ONV σ Γ i vb c A B ∧ c ≤ F vb ∧ ∃ (z lo hi p q m y : Nat) (D : Nat → Nat → Prop) (Dq : Prop), σ.2 74 i = J (y : Nat) ∧ y < 39990 ∧ R 21 z = J (m : Nat) ∧ R 19 m = J (y : Nat) ∧ m < 39990 ∧ (Γ0 5).2.1 2 (100 + i) = J (p : Nat) ∧ hi ≤ 39990 ∧ q ≤ ln ∧ ¬ Dq ∧ (∀ u, ¬ D p u) ∧ RTQ (I1 Γ0 D) (I3 Γ0 D nV nA) R DN TX Dq z lo hi p q
def ONS (R : Nat → Nat → Int32) (nV nA ln : Nat) (TX : Nat → Int → Int → Prop) (DN : Nat → Nat → Nat → Prop) (Γ0 : HS) (F : Nat → Nat) (σ : MS) (Γ : HS) (no : Nat) : Prop := σ.1 83 = J (no : Nat) ∧ no ≤ 200 ∧ ∀ i, i < no → ONI R nV nA ln TX DN Γ0 F σ Γ i
theorem ONS_keep {Γ0 : HS} {F : Nat → Nat} {σ τ : MS} {Γ Δ : HS} {no : Nat} (h : ONS R nV nA ln TX DN Γ0 F σ Γ no) (hr : rWk σ τ) (hc : cWk Γ Δ) : ONS R nV nA ln TX DN Γ0 F τ Δ no := by
  have r2 : ∀ k, k ≤ 86 → τ.2 k = σ.2 k := fun k hk => hr.2 k (by omega) (by omega) (by omega) (by omega) (by omega)
  refine ⟨by rw [hr.1 83 (by omega) (by omega) (by omega) (by omega) (by omega)]; exact h.1, h.2.1, fun i hi => ?_⟩
  obtain ⟨vb, c, A, B, hV, hF, z, lo, hi', p, q, m, y, D, Dq, k1, k2⟩ := h.2.2 i hi
  refine ⟨vb, c, A, B, ?_, hF, z, lo, hi', p, q, m, y, D, Dq, by rw [r2 74 (by omega)]; exact k1, k2⟩
  unfold ONV
  rw [r2 70 (by omega), r2 71 (by omega), r2 72 (by omega), r2 73 (by omega), hc 4 (by omega) (by omega) (by omega)]
  exact hV
theorem SLK_W {σ τ : MS} {Γ Δ : HS} (h : SLK σ Γ nO room) (hr : rWk σ τ) (hc : cWk Γ Δ) : SLK τ Δ nO room := by
  obtain ⟨a1, a2, a3, a4, a5, a6⟩ := h
  have h4 : Δ 4 = Γ 4 := hc 4 (by omega) (by omega) (by omega)
  have h6 : Δ 6 = Γ 6 := hc 6 (by omega) (by omega) (by omega)
  have r2 : ∀ k, k ≤ 86 ∨ k = 122 → τ.2 k = σ.2 k := fun k hk => hr.2 k (by omega) (by omega) (by omega) (by omega) (by omega)
  refine ⟨CAL_keep a1 (fun k hk => r2 k (by omega)) h4 h6, DSC_keep a2 (fun k hk => r2 k (by omega)) h4 h6, by rw [r2 50 (by omega)]; exact a3, by rw [hr.1 78 (by omega) (by omega) (by omega) (by omega) (by omega)]; exact a4, a5, ?_⟩
  intro r d h1 h2 h3
  rw [r2 51 (by omega), h4]
  exact a6 r d h1 h2 h3
theorem rWk_D {σ τ : MS} (h : rDo σ τ) : rWk σ τ := ⟨fun k a b c d e => h.1 k (by omega), fun k a b c d e => h.2 k (by omega) b⟩
theorem cWk_D {Γ Δ : HS} (h : cDo Γ Δ) : cWk Γ Δ := fun r a b c => h.1 r a b c
/-- how a command ends -/
def AOC (nO nV nC : Nat) (room : Nat → Bool) (σ : MS) (Γ : HS) (τ : MS) (Δ : HS) (b : Int32) : Prop := RRl nO room nV nC τ Δ ∧ rWk σ τ ∧ cWk Γ Δ ∧ τ.1 113 = J 0 ∧ (τ.1 115 = J 0 ∧ (WAI Γ → WAI Δ)) ∧ ((b = 1 ∧ ∃ pw' : Nat, pw' ≤ 20000 ∧ τ.1 104 = J 0 ∧ τ.1 107 = J 0 ∧ τ.1 106 = J (pw' : Nat) ∧ (Δ 10).1 13 = J (pw' : Nat) ∧ (Δ 10).1 5 = J 0) ∨ (b = 0 ∧ ((τ.1 104 = J 3 ∧ ∃ n : Int, 1 ≤ n ∧ n ≤ 6 ∧ τ.1 105 = J n ∧ (Δ 10).1 5 = J n) ∨ (τ.1 104 = J 2 ∧ (Δ 10).1 5 = J 0))))
theorem AOC_pre {σ σ1 τ : MS} {Γ Γ1 Δ : HS} {b : Int32} (hr : rWk σ σ1) (hc : cWk Γ Γ1) (hw : WAI Γ → WAI Γ1) (h : AOC nO nV nC room σ1 Γ1 τ Δ b) : AOC nO nV nC room σ Γ τ Δ b := ⟨h.1, rWk_trans hr h.2.1, cWk_trans hc h.2.2.1, h.2.2.2.1, ⟨h.2.2.2.2.1.1, fun g => h.2.2.2.2.1.2 (hw g)⟩, h.2.2.2.2.2⟩
theorem W_rules {Γ0 : HS} {F : Nat → Nat} {a x y no : Nat} (hDN : DNF R nV nA ln TX DN Γ0) (ha : a < 1000) (hx : x ≤ 1000) (hy : y ≤ 1000) (hF : F a ≤ 10) (hno : no ≤ 200) (hx2 : 4 ≤ a → a ≤ 10 → 1 ≤ x ∧ x ≤ nO ∧ room x = false) (hy2 : a = 9 ∨ a = 10 → 1 ≤ y ∧ y ≤ nO) (hd2 : a = 11 → 1 ≤ x ∧ x ≤ 6) : ∀ (d i : Nat), i + d = no → ∀ (n : Nat) (σ : MS) (Γ : HS) (pw : Nat), d < n → STA R nO nV nC nA room en ln TX σ Γ → RRl nO room nV nC σ Γ → RVw σ 0 0 0 pw → (Γ 10).1 13 = J (pw : Nat) → pw ≤ 20000 → (Γ 10).1 5 = J 0 → Γ 5 = Γ0 5 → SLK σ Γ nO room → ONS R nV nA ln TX DN Γ0 F σ Γ no → (Γ 11).1 8 = J (a : Nat) → (Γ 11).1 10 = J (x : Nat) → (Γ 11).1 11 = J (y : Nat) → ∃ τ Δ b, loopF (LaB (J (a : Nat)) (J (F a : Nat)) (J (x : Nat)) (J (y : Nat))) n (J (i : Nat), σ) = some ((0 : Int32), τ) ∧ loopF (PfC (J (no : Nat))) n (J (i : Nat), Γ) = some (b, Δ) ∧ AOC nO nV nC room σ Γ τ Δ b := by
  intro d
  induction d with
  | zero =>
    intro i hi n σ Γ pw hn hS hR hσ h13 hpw hb5 h5 hL hO h8 h10 h11
    obtain ⟨n, rfl⟩ : ∃ m, n = m + 1 := ⟨n - 1, by omega⟩
    obtain ⟨τ, Θ, b, e1, e2, e3⟩ := W_does hR.1 hR.2.1 hL (a := (a : Int)) (by omega) h8 h10 h11 (fun h1 h2 => hx2 (by omega) (by omega)) (fun h => hy2 (by omega)) (fun h => hd2 (by omega))
    have sB := LaB_s (J (a : Nat)) (J (F a : Nat)) (J (x : Nat)) (J (y : Nat)) n (J (i : Nat)) σ
    have sC := PfC_s (J (no : Nat)) n (J (i : Nat)) Γ
    rw [bndE, hO.1, if_pos (by rw [J_le (by omega) (by omega) (by omega) (by omega)]; omega)] at sB
    dsimp only at sB
    rw [if_neg (show ¬ σ.1 104 = 1 by rw [hσ.1]; decide), if_pos (show σ.1 104 = 0 from hσ.1), e1, Option.bind_some] at sB
    rw [bndE, if_pos (by rw [J_le (by omega) (by omega) (by omega) (by omega)]; omega)] at sC
    dsimp only at sC
    rw [e2, Option.bind_some] at sC
    have fin : ∀ Δ, DOS nO nV nC room σ Γ τ Δ → AOC nO nV nC room σ Γ τ Δ 1 := fun Δ ⟨f1, f2, f3, f4⟩ => ⟨⟨f1, f2, by unfold NBK; rw [f4.2.1, f3.1 108 (by omega), f3.1 109 (by omega)]; exact hR.2.2⟩, rWk_D f3, cWk_D f4, by rw [f3.1 113 (by omega)]; exact hσ.2.2.2.1, ⟨by rw [f3.1 115 (by omega)]; exact hσ.2.2.2.2, WAI_10 f4.2.1⟩, Or.inl ⟨rfl, pw, hpw, by rw [f3.1 104 (by omega)]; exact hσ.1, by rw [f3.1 107 (by omega)]; exact hσ.2.1, by rw [f3.1 106 (by omega)]; exact hσ.2.2.1, by rw [f4.2.1]; exact h13, by rw [f4.2.1]; exact hb5⟩⟩
    rcases e3 with ⟨rfl, e3⟩ | ⟨rfl, Δ, l1, e3⟩
    · dsimp only at sC
      rw [if_pos rfl] at sC
      exact ⟨τ, Θ, 1, sB, sC, fin Θ e3⟩
    · dsimp only at sC
      rw [if_neg (by decide), l1, Option.bind_some] at sC
      exact ⟨τ, Δ, 1, sB, sC, fin Δ e3⟩
  | succ d ih =>
    intro i hi n σ Γ pw hn hS hR hσ h13 hpw hb5 h5 hL hO h8 h10 h11
    obtain ⟨n, rfl⟩ : ∃ m, n = m + 1 := ⟨n - 1, by omega⟩
    obtain ⟨vb, c, A, B, hV, hFc, z, lo, hi', p, q, m, y', D, Dq, k1, k2, k3, k4, k5, k6, k7, k8, k9, k10, k11⟩ := hO.2.2 i (by omega)
    have sB := LaB_m (n := n) hV (show i < no by omega) hno hO.1 hσ.1 ha hx hy hF (fun e => by rw [← e]; exact hFc)
    have sC := PfC_s (J (no : Nat)) n (J (i : Nat)) Γ
    rw [bndE, if_neg (by rw [J_le (by omega) (by omega) (by omega) (by omega)]; omega), if_neg (by rw [show (200 : Int32) = J 200 from rfl, J_le (by omega) (by omega) (by omega) (by omega)]; omega), c_meant hV (by omega) ha hx hy h8 h10 h11, Option.bind_some, bndE] at sC
    dsimp only at sC
    by_cases qm : mtR vb c A B a x y = true
    · obtain ⟨yy, τ, w, Δ, pw', ⟨m2, v1, v2, v3⟩, v4, v5, v6, v7, v8, v9, v10, ⟨v11, vW⟩, v12⟩ := R_run (k := 100 + i) hDN k11 k9 k10 k7 k8 k6 (by omega) h5 hS hR hσ h13 hpw hb5
      have em : m2 = m := by
        have := v1.symm.trans k3
        rwa [J_eqN (by omega) (by omega)] at this
      have ey : yy = y' := by
        rw [em] at v2
        have := v2.symm.trans k4
        rwa [J_eqN (by omega) (by omega)] at this
      subst ey
      rw [if_pos qm, k1, v5, Option.bind_some] at sB
      rw [if_pos qm, if_neg (by decide), show (100 : Int32) = J 100 from rfl, J_add, show (100 : Int) + (i : Nat) = ((100 + i : Nat) : Int) by omega, v6, Option.bind_some] at sC
      dsimp only at sB sC
      have eM : mrg (fun j => j == 10 || j == 9 || j == 8 || j == 4 || j == 5 || j == 6 || j == 7) Γ Δ = Δ := mrgE (fun r hr => v9 r (by rintro rfl; exact absurd hr (by decide)) (by rintro rfl; exact absurd hr (by decide)) (by rintro rfl; exact absurd hr (by decide)))
      rw [eM, bndE] at sC
      have stop : ¬ τ.1 104 = 0 → loopF (LaB (J (a : Nat)) (J (F a : Nat)) (J (x : Nat)) (J (y : Nat))) n (J (i + 1 : Nat), τ) = if τ.1 104 = 1 then some ((0 : Int32), mI τ 104 0) else some ((0 : Int32), τ) := fun h => by
        obtain ⟨n, rfl⟩ : ∃ m, n = m + 1 := ⟨n - 1, by omega⟩
        rw [LaB_s, bndE, if_neg h, ite_self]
        dsimp only
        by_cases h1 : τ.1 104 = 1
        · rw [if_pos h1, if_pos h1, bndE]
        · rw [if_neg h1, if_neg h1, if_neg h]
      rcases v12 with ⟨⟨r1, rfl⟩ | ⟨r1, rfl⟩, r2, r3, r4, r5, r6⟩ | ⟨r1, rfl, r2⟩ | ⟨r1, rfl, r6⟩
      · rw [if_pos (show J 1 = 1 from rfl), J_suc, bndE] at sC
        obtain ⟨τ2, Δ2, b, e1, e2, e3⟩ := ih (i + 1) (by omega) n τ Δ pw' (by omega) (STA_keep hS v8 v9) v7 ⟨r1, r3, r4, v10, v11⟩ r5 r2 r6 ((v9 5 (by omega) (by omega) (by omega)).trans h5) (SLK_W hL v8 v9) (ONS_keep hO v8 v9) (by rw [v9 11 (by omega) (by omega) (by omega)]; exact h8) (by rw [v9 11 (by omega) (by omega) (by omega)]; exact h10) (by rw [v9 11 (by omega) (by omega) (by omega)]; exact h11)
        exact ⟨τ2, Δ2, b, by rw [sB, e1], by rw [sC, e2], AOC_pre v8 v9 (fun _ => vW) e3⟩
      · rw [if_neg (show ¬ J 2 = 1 by decide), if_pos (show J 2 = 2 from rfl)] at sC
        have fr : rMk τ (mI τ 104 0) := rMk_mI rMk_rfl (by omega)
        refine ⟨mI τ 104 0, Δ, 1, ?_, sC, RR_M v7 fr rfl rfl rfl rfl (fun h => h), rWk_trans v8 (rWk_M fr), v9, v10, ⟨v11, fun _ => vW⟩, Or.inl ⟨rfl, pw', r2, rfl, r3, r4, r5, r6⟩⟩
        rw [sB, stop (by rw [r1]; decide), if_pos (show τ.1 104 = 1 from r1)]
      · rw [if_neg (show ¬ J 4 = 1 by decide), if_neg (show ¬ J 4 = 2 by decide)] at sC
        refine ⟨τ, Δ, 0, ?_, sC, v7, v8, v9, v10, ⟨v11, fun _ => vW⟩, Or.inr ⟨rfl, Or.inl ⟨r1, r2⟩⟩⟩
        rw [sB, stop (by rw [r1]; decide), if_neg (show ¬ τ.1 104 = 1 by rw [r1]; decide)]
      · rw [if_neg (show ¬ J 3 = 1 by decide), if_neg (show ¬ J 3 = 2 by decide)] at sC
        refine ⟨τ, Δ, 0, ?_, sC, v7, v8, v9, v10, ⟨v11, fun _ => vW⟩, Or.inr ⟨rfl, Or.inr ⟨r1, r6⟩⟩⟩
        rw [sB, stop (by rw [r1]; decide), if_neg (show ¬ τ.1 104 = 1 by rw [r1]; decide)]
    · rw [if_neg qm] at sB
      rw [if_neg qm, if_pos rfl, J_suc, bndE] at sC
      obtain ⟨τ2, Δ2, b, e1, e2, e3⟩ := ih (i + 1) (by omega) n σ Γ pw (by omega) hS hR hσ h13 hpw hb5 h5 hL hO h8 h10 h11
      exact ⟨τ2, Δ2, b, by rw [sB, e1], by rw [sC, e2], e3⟩
