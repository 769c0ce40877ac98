/-! the second going, all items: told, declared and seen alike -/
variable {T N : Nat} {kd vl rv : Nat → Int} {pl : Nat → Nat}
theorem Ds1_end {τ : MS} (n : Nat) : loopF Ds1 (n + 1) (J (-1), τ) = some ((0 : Int32), τ) := by rw [Ds1_s, if_pos (by decide)]
theorem ITS_lt {σs : MS} {Γs : HS} {c : Nat} {ls is ps ds os es : Nat → Nat} (hI : ITS kd vl rv pl σs Γs c ls is ps ds os es) : (∀ z, z < c → is z < is (z + 1)) ∧ ∀ z, z < c → ls z < ls (z + 1) := ⟨fun z hz => (hI z hz).2.2.1, fun z hz => (hI z hz).2.2.2.1⟩
/-- the word of the first item, or none -/
def lsX (ls : Nat → Nat) (c k : Nat) : Int := if k < c then (ls k : Int) else -1
theorem ITS_22 {σs : MS} {Γs : HS} {c k : Nat} {ls is ps ds os es : Nat → Nat} (hI : ITS kd vl rv pl σs Γs c ls is ps ds os es) (hk : k < c) : σs.2 22 (ls k) = J (lsX ls c (k + 1)) := by
  rw [(hI k hk).2.1]; unfold lsX
  split <;> rfl
theorem lsX_lt {ls : Nat → Nat} {c k : Nat} (hk : k < c) : lsX ls c k = (ls k : Int) := if_pos hk
theorem lsX_c {ls : Nat → Nat} {c : Nat} : lsX ls c c = -1 := if_neg (by omega)
/-- behind a fault all is seen, and it stays -/
theorem gs_keep (hT : TKE T N kd vl rv pl) (hp : plm T pl) (hpb : ∀ i, i ≤ T + 1 → pl i ≤ 5000) {σs : MS} {Γs : HS} {c : Nat} {ls is ps ds os es : Nat → Nat} (hI : ITS kd vl rv pl σs Γs c ls is ps ds os es) (hl : ls c ≤ 39000) (hi : is c ≤ T) {f : Int} {w : Nat} (hf : 0 < f ∧ f ≤ 6) (hw : w ≤ T) : ∀ (d k : Nat) (τ : MS), k + d = c → agA σs τ → flt τ = (J f, J (pl w : Nat)) → (k < c → w ≤ is k) → ∃ τ', (∀ n, d < n → loopF Ds1 n (J (lsX ls c k), τ) = some ((0 : Int32), τ')) ∧ rS τ τ' ∧ flt τ' = (J f, J (pl w : Nat)) := by
  have hm := ITS_lt hI
  intro d
  induction d with
  | zero =>
    intro k τ hk ha hfl hwk
    obtain rfl : k = c := by omega
    refine ⟨τ, fun n hn => ?_, rS_rfl, hfl⟩
    obtain ⟨n, rfl⟩ : ∃ z, n = z + 1 := ⟨n - 1, by omega⟩
    rw [lsX_c, Ds1_end]
  | succ d ih =>
    intro k τ hk ha hfl hwk
    have hkc : k < c := by omega
    have m1 := is_le hm.1 (a := k) (b := k + 1) (by omega) (by omega)
    have m2 := is_le hm.1 (a := k + 1) (b := c) (by omega) (by omega)
    have m3 := is_le hm.2 (a := k) (b := k + 1) (by omega) (by omega)
    have m4 := is_le hm.2 (a := k + 1) (b := c) (by omega) (by omega)
    obtain ⟨τ1, g1, g2, g3, -⟩ := gAll hT hp hpb (hI k hkc).1 (hI k hkc).2.2.2.1 (by omega) (by omega) ha
    have hpw : pl w ≤ pl (is k) := by
      have := hwk hkc
      by_cases e : w = is k
      · rw [e]; exact Nat.le_refl _
      · have := hp w (is k) (by omega) (by omega); omega
    have e1 := (nGe_keep g3 hfl hf hpw (hpb w (by omega))).trans hfl
    obtain ⟨τ', h1, h2, h3⟩ := ih (k + 1) τ1 (by omega) (agA_rS ha g2) e1 (fun _ => by have := hwk hkc; omega)
    refine ⟨τ', fun n hn => ?_, rS_trans g2 h2, h3⟩
    obtain ⟨n, rfl⟩ : ∃ z, n = z + 1 := ⟨n - 1, by omega⟩
    rw [lsX_lt hkc, g1, ITS_22 hI hkc]
    exact h1 n (by omega)
theorem flt_0 {σ : MS} (h : σ.1 14 = J 0) (P : Nat) : nBeh P (flt σ) := Or.inl h
theorem nGe_beh {P Q : Nat} {a b : Int32 × Int32} (h : nGe Q a b) (ha : a.1 = J 0) (hP : P < Q) : nBeh P b := by
  rcases h with h | ⟨g, q, h1, h2, h3, h4, h5, -⟩
  · rw [h]; exact Or.inl ha
  · exact Or.inr ⟨g, q, h1, h2, by omega, h4, h5⟩
/-- a row of states, with all items of it -/
def ROW (T N : Nat) (kd vl rv : Nat → Int) (pl : Nat → Nat) (σs : MS) (Γs : HS) (c : Nat) (ls is : Nat → Nat) (S : Nat → MS) : Prop := ∀ z, z < c → aAt T N kd vl rv pl σs Γs is z (ls z) S
theorem sec_loop (hT : TKE T N kd vl rv pl) (hN : NMI T kd vl rv) (hp : plm T pl) (hpb : ∀ i, i ≤ T + 1 → pl i ≤ 5000) {σs : MS} {Γs : HS} {c : Nat} {ls is ps ds os es ta : Nat → Nat} (hI : ITS kd vl rv pl σs Γs c ls is ps ds os es) (hl : ls c ≤ 39000) (hi : is c ≤ T) {S : Nat → MS} (hS : ROW T N kd vl rv pl σs Γs c ls is S) (hTI : TAI T kd vl c is ta) : ∀ (d k : Nat) (τ : MS) (Γ : HS), k + d = c → agA σs τ → flt τ = flt (S c) → (S k).1 14 = J 0 → DR T kd vl rv is k (S k) Γ → G0 T N kd vl pl Γ → TA T kd rv ta (is k) (S k) → TAC T kd vl ta Γ → STT T kd vl rv τ Γ → (Γ 1).2.1 6 = (Γs 1).2.1 6 → ∃ τ', (∀ n, d < n → loopF Ds1 n (J (lsX ls c k), τ) = some ((0 : Int32), τ')) ∧ rS τ τ' ∧ ((flt τ' = flt (S k) ∧ flt (S c) = flt (S k) ∧ ∃ Θ : HS, CW W2 Γ (is k) Θ (is c) ∧ m5 Γ Θ ∧ G0 T N kd vl pl Θ ∧ DR T kd vl rv is c (S c) Θ ∧ TA T kd rv ta (is c) (S c)) ∨ ∃ (f : Int) (w : Nat), (0 < f ∧ f ≤ 6) ∧ w < is c ∧ CF W2 pl Γ (is k) f w ∧ flt τ' = (J f, J (pl w : Nat))) := by
  have hm := ITS_lt hI
  intro d
  induction d with
  | zero =>
    intro k τ Γ hk ha hfl h0 hD hG hTA hTC hST h6
    obtain rfl : k = c := by omega
    refine ⟨τ, fun n hn => ?_, rS_rfl, Or.inl ⟨hfl, rfl, Γ, CW_rfl, m5_rfl, hG, hD, hTA⟩⟩
    obtain ⟨n, rfl⟩ : ∃ z, n = z + 1 := ⟨n - 1, by omega⟩
    rw [lsX_c, Ds1_end]
  | succ d ih =>
    intro k τ Γ hk ha hfl h0 hD hG hTA hTC hST h6
    have hkc : k < c := by omega
    have m1 := is_le hm.1 (a := k) (b := k + 1) (by omega) (by omega)
    have m2 := is_le hm.1 (a := k + 1) (b := c) (by omega) (by omega)
    have m3 := is_le hm.2 (a := k) (b := k + 1) (by omega) (by omega)
    have m4 := is_le hm.2 (a := k + 1) (b := c) (by omega) (by omega)
    obtain ⟨j1, j2, j3, j4⟩ := ITM_noI (hI k hkc).1
    have hn1 := row_nGe hp (k := 0) (c := c) (fun z _ hz => hS z hz) hm.1 hi (c - (k + 1)) (k + 1) (by omega) (by omega)
    obtain ⟨a1, a2, a3⟩ := hS k hkc
    rcases a3 τ Γ ta ha hD hG hTA hTC hST h6 with ⟨j', ⟨f, w, f1, f2, f3, f4, f5⟩, g1, g2, g3⟩ | ⟨b1, b2⟩
    · -- the item's own part
      have e1 := f5 (flt_0 h0 _)
      have hwT : w ≤ T := by omega
      have hpw : pl w ≤ pl (is (k + 1)) := by
        have := hp w (is (k + 1)) (by omega) (by omega); omega
      have e2 := (nGe_keep hn1 e1 f1 hpw (hpb w (by omega))).trans e1
      obtain ⟨τ1, t1, t2, t3, t4⟩ := gAll hT hp hpb (hI k hkc).1 (hI k hkc).2.2.2.1 (by omega) (by omega) ha
      have e3 : flt τ1 = (J f, J (pl w : Nat)) := by
        rcases t4 with t4 | ⟨t4, t5⟩ | t4
        · rw [t4, hfl, e2]
        · have := g2 t4
          exact (nGe_keep t5 (by rw [hfl, e2]) f1 (by have := hp w (is k + 2) (by omega) (by omega); omega) (hpb w (by omega))).trans (by rw [hfl, e2])
        · have := g3 t4
          obtain rfl : w = is k := by omega
          exact (nGe_keep t3 (by rw [hfl, e2]) f1 (Nat.le_refl _) (hpb _ (by omega))).trans (by rw [hfl, e2])
      obtain ⟨τ', h1, h2, h3⟩ := gs_keep hT hp hpb hI hl hi f1 hwT d (k + 1) τ1 (by omega) (agA_rS ha t2) e3 (fun _ => by omega)
      refine ⟨τ', fun n hn => ?_, rS_trans t2 h2, Or.inr ⟨f, w, f1, by omega, f4, h3⟩⟩
      obtain ⟨n, rfl⟩ : ∃ z, n = z + 1 := ⟨n - 1, by omega⟩
      rw [lsX_lt hkc, t1, ITS_22 hI hkc]
      exact h1 n (by omega)
    · -- the own part is clean
      have h0' : (flt (S (k + 1))).1 = J 0 := by rw [b1]; exact h0
      have hbe : nBeh (pl (is (k + 1) - 1)) (flt τ) := by
        rw [hfl]
        exact nGe_beh hn1 h0' (hp _ _ (by omega) (by omega))
      obtain ⟨τ1, t1, t2, t3⟩ := b2 hbe
      rcases t3 with ⟨t3, Θ, t4, t5, t6, t7⟩ | ⟨f, w, f1, f2, f3, f4, f5⟩
      · have hTA2 := TA_s hT hN hTI hm.1 hi hkc (fun h => j3 (by omega)) hTA a2.2.2.2.1
        obtain ⟨τ', h1, h2, h3⟩ := ih (k + 1) τ1 Θ (by omega) (agA_rS ha t2) (by rw [t3, hfl]) h0' t7 t6 hTA2 (TAC_m5 hTC t5) (STT_rS (STT_m5 hST t5) t2) (by rw [t5.1 1 (by omega) (by omega)]; exact h6)
        refine ⟨τ', fun n hn => ?_, rS_trans t2 h2, ?_⟩
        · obtain ⟨n, rfl⟩ : ∃ z, n = z + 1 := ⟨n - 1, by omega⟩
          rw [lsX_lt hkc, t1, ITS_22 hI hkc]
          exact h1 n (by omega)
        · rcases h3 with ⟨z1, z2, Θ2, z3, z4, z5, z6, z7⟩ | ⟨f, w, f1, f3, f4, f5⟩
          · exact Or.inl ⟨by rw [z1, b1], by rw [z2, b1], Θ2, CW_trans t4 z3, m5_trans t5 z4, z5, z6, z7⟩
          · exact Or.inr ⟨f, w, f1, f3, CW_CF t4 f4 (m5_cfM t5), f5⟩
      · obtain ⟨τ', h1, h2, h3⟩ := gs_keep hT hp hpb hI hl hi f1 (by omega) d (k + 1) τ1 (by omega) (agA_rS ha t2) f5 (fun _ => by omega)
        refine ⟨τ', fun n hn => ?_, rS_trans t2 h2, Or.inr ⟨f, w, f1, by omega, f4, h3⟩⟩
        obtain ⟨n, rfl⟩ : ∃ z, n = z + 1 := ⟨n - 1, by omega⟩
        rw [lsX_lt hkc, t1, ITS_22 hI hkc]
        exact h1 n (by omega)
