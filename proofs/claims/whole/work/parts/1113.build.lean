/-! a text is built, but for the reference's laying: both, from its bytes -/
variable {T N : Nat} {kd vl rv : Nat → Int} {pl : Nat → Nat}
/-- a built text, in the class and, but for its laying, in the reference -/
def BLT (T N : Nat) (kd vl rv : Nat → Int) (pl : Nat → Nat) (b : Nat → Int) (L : Nat) (W0 : List Int) (Γ0 : HS) (σ : MS) (Γ : HS) (υ : MS) (E Δ Γ' : HS) : Prop := ∃ (m : Nat) (nm : Nat → List Int) (cl : List Int) (c : Nat) (ls is ps ds os es : Nat → Nat), TKE T N kd vl rv pl ∧ NMI T kd vl rv ∧ plm T pl ∧ (∀ i, i ≤ T + 1 → pl i ≤ 5000) ∧ NMF b L T m nm cl kd vl rv pl ∧ rnam m nm σ ∧ m < 7000 ∧ cnam cl Γ ∧ cl.length < 4500 ∧ SWD b T kd vl rv pl ∧ kd T = 0 ∧ pl T = L ∧ ITS kd vl rv pl σ Γ c ls is ps ds os es ∧ (ls 0 = 0 ∧ is 0 = 0 ∧ ps 0 = 0 ∧ ds 0 = 0 ∧ os 0 = 0 ∧ es 0 = 0) ∧ is c = T ∧ ls c ≤ 3 * T ∧ ps c ≤ 7 * T ∧ σ.1 23 = J (ls c : Nat) ∧ σ.1 24 = J (lsX ls c 0) ∧ CNT Γ (ds c) (os c) (es c) ∧ (Γ 5).1 1 = J (ps c : Nat) ∧ rsrc b L σ ∧ (∃ Γ1, CLS Γ1 Γ0 W0) ∧ cfQ Γ0 Γ ∧ MIDW T N kd vl rv pl cl c ls is ps σ Γ υ E ∧ F_X0_link E = some ((0 : Int32), Δ) ∧ (∀ r, r ≠ 5 → Δ r = E r) ∧ (Δ 5).1 = (Γ 5).1 ∧ (∀ k, k ≠ 0 → (Δ 5).2.1 k = (Γ 5).2.1 k) ∧ F_X9_packAll Δ = some ((0 : Int32), Γ') ∧ (∀ r, r ≠ 6 → Γ' r = Δ r) ∧ TXS b T kd vl rv pl Γ' ∧ (∀ i, i < L → (Γ' 6).2.1 7 i = J (b i))
/-- what both have when a text was built -/
def BJN (b : Nat → Int) (L : Nat) (σ : MS) (Γ2 : HS) (W0 : List Int) : Prop := (∃ (f : Int) (q : Nat) (υ : MS), (0 < f ∧ f ≤ 6) ∧ q ≤ 5000 ∧ F_X12_build σ = some (J (-f), υ) ∧ υ.1 16 = J (q : Nat) ∧ rfU σ υ ∧ ((∃ Γ3, F_X2_readAll Γ2 = some (J f, Γ3) ∧ (Γ3 2).1 7 = J (q : Nat) ∧ cfQ Γ2 Γ3) ∨ ∃ Γ3 Γ4, F_X2_readAll Γ2 = some ((0 : Int32), Γ3) ∧ cfQ Γ2 Γ3 ∧ F_X4_giveAll Γ3 = some (J f, Γ4) ∧ (Γ4 3).1 17 = J (q : Nat) ∧ cfM Γ3 Γ4)) ∨ ∃ (T N : Nat) (kd vl rv : Nat → Int) (pl : Nat → Nat) (σ' υ : MS) (g : Nat → Int32) (Γ3 E Δ Γ' : HS), F_X12_build σ = ((F_X12_lay (mI (mA υ 85 g) 16 (-1))).bind fun u => some (u.2.1 78, u.2)) ∧ rfU σ υ ∧ F_X2_readAll Γ2 = some ((0 : Int32), Γ3) ∧ F_X4_giveAll Γ3 = some ((0 : Int32), E) ∧ BLT T N kd vl rv pl b L W0 Γ2 σ' Γ3 υ E Δ Γ'
theorem rnam_congr {m : Nat} {nm : Nat → List Int} {σ τ : MS} (h : rnam m nm σ) (h1 : τ.1 13 = σ.1 13) (h2 : τ.2 11 = σ.2 11) (h3 : τ.2 12 = σ.2 12) : rnam m nm τ := ⟨by rw [h1]; exact h.1, fun r hr => ⟨⟨by rw [h3]; exact (h.2.1 r hr).1.1, fun k hk => by rw [h2]; exact (h.2.1 r hr).1.2 k hk⟩, (h.2.1 r hr).2⟩, h.2.2⟩
theorem rfU_B {σ τ υ : MS} (h : rfU σ τ) (i : rfB τ υ) : rfU σ υ := ⟨fun k hk => by rw [i.1 k (by omega), h.1 k hk], fun k hk h85 => by rw [i.2 k (by omega) h85, h.2.1 k hk h85], ⟨by rw [i.1 4 (by omega)]; exact h.2.2.1.1, by rw [i.1 0 (by omega)]; exact h.2.2.1.2⟩, fun k a b c => by rw [i.1 k (by omega), h.2.2.2.1 k a b c], fun k hk => by rw [i.2 k (by omega) (by omega), h.2.2.2.2 k hk]⟩
/-- what a part of the reading leaves, in the reference -/
def rfV (τ υ : MS) : Prop := (∀ k, k < 10 ∨ 44 ≤ k → υ.1 k = τ.1 k) ∧ ∀ k, k < 7 ∨ 44 ≤ k → k ≠ 85 → υ.2 k = τ.2 k
theorem rfU_V {σ τ υ : MS} (h : rfU σ τ) (i : rfV τ υ) : rfU σ υ := ⟨fun k hk => by rw [i.1 k (by omega), h.1 k hk], fun k hk h85 => by rw [i.2 k (by omega) h85, h.2.1 k hk h85], ⟨by rw [i.1 4 (by omega)]; exact h.2.2.1.1, by rw [i.1 0 (by omega)]; exact h.2.2.1.2⟩, fun k a b c => by rw [i.1 k (by omega), h.2.2.2.1 k a b c], fun k hk => by rw [i.2 k (by omega) (by omega), h.2.2.2.2 k hk]⟩
theorem rfU_16 {σ τ : MS} {v : Int32} (h : rfU σ τ) : rfU σ (mI τ 16 v) := rfU_V h ⟨fun k hk => by rw [mI_1, if_neg (by omega)], fun _ _ _ => rfl⟩
theorem BdH_f {σ : MS} {f : Int} {q : Nat} (h : flt σ = (J f, J (q : Nat))) (hf : 0 < f ∧ f ≤ 6) : BdH σ = some (J (-f), mI σ 16 (J (q : Nat))) := by
  have h14 : ¬ σ.1 14 = 0 := by rw [show σ.1 14 = J f from congrArg Prod.fst h]; exact Jg_ne hf
  unfold BdH BdI BdJ
  rw [bndE, if_neg h14]
  dsimp only
  rw [bndE, if_neg h14]
  dsimp only
  rw [bndE, if_neg h14]
  exact BdK_f h hf
theorem build_join {σ : MS} {Γ1 Γ2 : HS} {b : Nat → Int} {L T : Nat} {W0 cl : List Int} (hL : L ≤ 4095) (h4 : σ.1 4 = J (L : Nat)) (h3 : ∀ i, i < L → σ.2 3 i = J (b i)) (hb : ∀ i, i < L → b i = 10 ∨ (32 ≤ b i ∧ b i ≤ 126)) (hcut : cLex b L T cl Γ1) (hcl : CLS Γ1 Γ2 W0) : BJN b L σ Γ2 W0 := by
  obtain ⟨τ, e1, e2, e3, e4⟩ := r_front (by omega) h4 h3 hb
  obtain ⟨⟨x5, σL⟩, e5, T', m, nm, e6, e7⟩ := r_lex e2
  dsimp only at e6 e7
  have hTT := lex_T e6 hcut
  subst hTT
  have hc1 : Γ2 1 = Γ1 1 := hcl.1 1 (by omega) (by omega) (by omega) (by omega)
  have hcut2 : cLex b L T cl Γ2 := by
    unfold cLex csrc cnam at hcut ⊢
    rw [hc1]; exact hcut
  obtain ⟨j1, j2, j3, j4, j5, j6, j7, j8, j9⟩ := lex_join e6 hcut2 hL
  have hSW := SWD_of e6 hcut2 hL
  have hkd : jkd b L T Γ2 T = 0 → jpl b L T T = L := fun h => by
    have e : jpl b L T T = posW b L T := if_pos (Nat.le_refl _)
    have hN : T < jN b L T := by unfold jN; split <;> omega
    have e' : jkd b L T Γ2 T = ((Γ2 1).2.1 3 T).toInt := if_pos hN
    rw [e', hcut2.2.2.2.2.2.2.2.2.2.1] at h
    rcases Nat.lt_or_ge (posW b L T) L with q | q
    · rw [if_pos q] at h; exact absurd h (by decide)
    · omega
  have hnames : cnam cl Γ2 := hcut2.2.2.2.2.1
  have hl67 := hcut2.2.2.2.2.2.1
  have hl67' := hcut2.2.2.2.2.2.2.1
  have hKW := hcut2.2.2.2.2.2.2.2.1
  have hsrcC : csrc b L Γ2 := hcut2.2.2.1
  obtain ⟨r1, r2, r3, r4, r5, r6, r7⟩ := e6
  generalize jkd b L T Γ2 = kd at *
  generalize jvl Γ2 = vl at *
  generalize jrv σL = rv at *
  generalize jpl b L T = pl at *
  generalize jN b L T = N at *
  have hT1 := j1.1
  have hpb : ∀ i, i ≤ T + 1 → pl i ≤ 5000 := fun i hi => by have := (j1.2.2.2 i hi).1; omega
  obtain ⟨c1, ⟨c2a, c2b, c2c, c2d, c2e, c2f, c2g⟩, ⟨c3a, c3b, c3c⟩, c4, c5, c6⟩ := hcl
  have h14 : σL.1 14 = J 0 := by rw [e7.1 14 (by omega) (by omega)]; exact e3
  obtain ⟨⟨xu, u⟩, ⟨xv, v⟩, p1, p2, p3, p4, p5⟩ := sParse j1 j2 j3 h14 (by rw [c2a]; rfl) ⟨by rw [c2b]; rfl, by rw [c2c]; rfl, by rw [c2d]; rfl⟩
  dsimp only at p3 p4 p5
  have uL : rfU σ σL := rfU_V e4 ⟨fun k hk => e7.1 k (by omega) (by omega), fun k hk _ => e7.2 k (by omega) (by omega) (by omega) (by omega) (by omega)⟩
  have uU : rfU σ u := rfU_V uL ⟨fun k hk => p3.1 k (by omega), fun k hk _ => p3.2 k (by omega)⟩
  have eB : F_X12_build σ = BdH u := by
    rw [e1, e5, Option.bind_some]
    dsimp only
    rw [p1, Option.bind_some]
  rcases p5 with ⟨q1, q2, q3, q4, c, nn, ln, ls, is, ps, ds, os, es, q5, q6, q7, q8, q9, q10, q11, q12, q13, q14, q15, q16, q17, q18, q19, q20⟩ | ⟨f, w, f1, f2, f3, f4, f5, f6⟩
  · have hplT := hkd q3
    have v1 : (v 1).1 = (Γ2 1).1 := p4.2.1
    have v2 : ∀ k, k ≠ 6 → (v 1).2.1 k = (Γ2 1).2.1 k := p4.2.2.1
    have v4 : v 4 = Γ2 4 := p4.1 4 (by omega) (by omega) (by omega)
    have v7 : v 7 = Γ2 7 := p4.1 7 (by omega) (by omega) (by omega)
    have v6 : v 6 = Γ2 6 := p4.1 6 (by omega) (by omega) (by omega)
    have hcn3 : cnam cl v := cnam_congr hnames (by rw [v1]) (by rw [p4.2.2.2]) (v2 9 (by omega))
    have h24 : u.1 24 = J (lsX ls c 0) := by
      rw [q18]; unfold lsX
      by_cases hc : c = 0
      · rw [if_pos hc, if_neg (by omega)]
      · rw [if_neg hc, if_pos (by omega), q8]; rfl
    have hrn : rnam m nm u := rnam_congr r5 (p3.1 13 (by omega)) (p3.2 11 (by omega)) (p3.2 12 (by omega))
    have h6 : u.1 6 = J (pl T : Nat) := by rw [p3.1 6 (by omega), hplT]; exact r3.2.1
    have hsrcU : rsrc b L u := ⟨r3.1, by rw [p3.1 6 (by omega)]; exact r3.2.1, fun i hi => by rw [p3.2 5 (by omega)]; exact r3.2.2.1 i hi, r3.2.2.2⟩
    rcases mid_join j1 j6 j4 hpb j5 q7 ⟨q11, q12, q13⟩ (by omega) q9 q15 q3 h24 hrn (by omega) q4 h6 q6.1 hcn3 (by omega) hl67 hKW (fun q hq => by
      rw [v4, c3a q hq]
      show _ = J (((if q = 0 then 1 else if q = 1 then 11 else 0 : Nat)) : Int)
      congr 1
      split
      · rfl
      · split <;> rfl) (fun x a b => by rw [v4]; exact c4 x a b) ⟨W0, DOK_7 c5.1 v7⟩ (fun o o1 o2 => by
        obtain ⟨a, b, -⟩ := c5.2 o o1 o2
        exact ⟨_, a, by rw [v4]; exact b⟩) (fun x hx => by rw [v4]; exact (c3b x (by omega)).1) (fun x hx => by rw [v4]; exact (c3b x (by omega)).2.2.2.1) with ⟨f, w, υ, X, m1, m2, m3, m4, m5, m6, m7⟩ | ⟨υ, E, g, m1, m2, m3, m4⟩
    · exact Or.inl ⟨f, pl w, mI υ 16 (J (pl w : Nat)), m1, hpb w (by omega), by rw [eB]; exact m3, rfl, rfU_16 (rfU_B uU m4), Or.inr ⟨v, X, by rw [p2, q1]; rfl, p4, m5, m6, m7⟩⟩
    · right
      have hM := m4
      obtain ⟨G, Θ, τ', K, S, n1, n2, n3, n4, n5, n6, n7, n8, n9, n10, n11, n12, n13, n14, n15, n16, n17, n18, n19, n20, n21, n22, n23⟩ := m4
      have hK5 : E 5 = v 5 := by rw [n19.1 5 (by omega) (by omega) (by omega) (by omega), stG_o (by omega), n6 5 (by omega) (by omega)]
      obtain ⟨Δ, l1, l2, l3, l4, l5, l6⟩ := linked j1 n1 n2.2.2.2.2.2.2.2.2.1 q7 q15 q10 (by rw [q6.2.2.2.2.2.1, q16]) (by omega) n17.1 (by rw [n16]; exact hK5) n14
      rw [n16] at l1 l2
      have hE1 : (E 1).1 = (Γ2 1).1 := by rw [n19.2.2.2.2.2.1, stG_o (by omega), n6 1 (by omega) (by omega), v1]
      have hE2 : ∀ k, k ≠ 6 → k ≠ 7 → (E 1).2.1 k = (Γ2 1).2.1 k := fun k k6 k7 => by rw [n19.2.2.2.2.2.2.1 k k7, stG_o (by omega), n6 1 (by omega) (by omega), v2 k k6]
      have hE6 : E 6 = Γ2 6 := by rw [n19.1 6 (by omega) (by omega) (by omega) (by omega), stG_o (by omega), n6 6 (by omega) (by omega), v6]
      have hN1 : N = T + 1 := by rcases j1.2.2.1 with ⟨-, h⟩ | ⟨h, -⟩ <;> omega
      obtain ⟨Γ', k1, k2, Γ0, k3, k4⟩ := c_packAll (b := b) (L := L) (Γ := Δ) j1 j4 (by rw [show TKc N kd vl pl Δ ↔ TKc N kd vl pl E by unfold TKc; rw [l2 1 (by omega)]]; exact n18.1) ⟨hsrcC.1, by rw [l2 1 (by omega), hE1]; exact hsrcC.2.1, fun i hi => by rw [l2 1 (by omega), hE2 0 (by omega) (by omega)]; exact hsrcC.2.2.1 i hi, hsrcC.2.2.2⟩ hSW (by omega) (by rw [l2 6 (by omega), hE6]; exact c2f) (by rw [l2 6 (by omega), hE6]; exact c2g)
      refine ⟨T, N, kd, vl, rv, pl, u, υ, g, v, E, Δ, Γ', by rw [eB]; exact m1, rfU_B uU m2, by rw [p2, q1]; rfl, m3, m, nm, cl, c, ls, is, ps, ds, os, es, j1, j6, j4, hpb, j5, hrn, by omega, hcn3, by omega, hSW, q3, hplT, q7, ⟨q8, q9, q10, q11, q12, q13⟩, q15, by omega, by omega, ?_, h24, q17, by rw [q6.2.2.2.2.2.1, q16], hsrcU, ⟨Γ1, c1, ⟨c2a, c2b, c2c, c2d, c2e, c2f, c2g⟩, ⟨c3a, c3b, c3c⟩, c4, c5, c6⟩, p4, hM, l1, l2, l3, l4, k1, fun r hr => by rw [k4.1 r hr, k3 r hr], TXS_of j1 j4 (by omega) hSW hN1 k4 k2, k2⟩
      rw [q5.2.2.2.2.2.1, q14]
  · refine Or.inl ⟨f, pl w, mI u 16 (J (pl w : Nat)), by omega, hpb w (by omega), by rw [eB]; exact BdH_f (Prod.ext f5 f6) (by omega), rfl, rfU_16 uU, Or.inl ⟨v, by rw [p2, f3], f4, p4⟩⟩
