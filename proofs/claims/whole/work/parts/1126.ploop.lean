/-! the parts of a room or thing, one behind the other: in both -/
variable {T N : Nat} {kd vl rv : Nat → Int} {pl : Nat → Nat}
theorem WEF_nw {Θ : HS} {cl : List Int} {t : Nat} {Γ Δ : HS} (h : WEF Θ kd vl cl t Γ Δ) (hk : kd t = 238 ∨ (206 ≤ kd t ∧ kd t ≤ 212) ∨ kd t = 239 ∨ kd t = 219) : (Δ 4).2.1 9 = (Γ 4).2.1 9 ∧ (Δ 4).2.1 10 = (Γ 4).2.1 10 ∧ Δ 7 = Γ 7 ∧ (Δ 3).1 13 = (Γ 3).1 13 := by
  have gen : ∀ (k : Nat) (g : Nat → Int32), k ≠ 9 → k ≠ 10 → m3 (cA' Γ 4 k g) Δ → (Δ 4).2.1 9 = (Γ 4).2.1 9 ∧ (Δ 4).2.1 10 = (Γ 4).2.1 10 ∧ Δ 7 = Γ 7 ∧ (Δ 3).1 13 = (Γ 3).1 13 := fun k g k9 k10 hm => by
    refine ⟨by rw [hm.1 4 (by omega), cA4g, if_neg (Ne.symm k9)], by rw [hm.1 4 (by omega), cA4g, if_neg (Ne.symm k10)], by rw [hm.1 7 (by omega), cA_r, if_neg (by omega)], ?_⟩
    rw [hm.2.1 13 (by omega) (by omega) (by omega) (by omega) (by omega), cA_r, if_neg (by omega)]
  rcases hk with q | q | q | q
  · exact gen 3 _ (by omega) (by omega) (WEF_txt h q)
  · exact gen 5 _ (by omega) (by omega) (WEF_trt h q)
  · exact gen 6 _ (by omega) (by omega) (WEF_exi h q)
  · exact gen 4 _ (by omega) (by omega) (WEF_in h q)
/-- only room or thing n's rows have changed -/
def PFO (n : Nat) (σ τ : MS) : Prop := τ.1 = σ.1 ∧ (∀ k, k ≠ 48 → k ≠ 49 → k ≠ 122 → k ≠ 51 → k ≠ 53 → ¬ (54 ≤ k ∧ k ≤ 56) → τ.2 k = σ.2 k) ∧ (∀ x, x ≠ n → τ.2 48 x = σ.2 48 x ∧ τ.2 49 x = σ.2 49 x ∧ τ.2 122 x = σ.2 122 x) ∧ ∀ y, ¬ (7 * n ≤ y ∧ y < 7 * n + 7) → τ.2 51 y = σ.2 51 y ∧ τ.2 53 y = σ.2 53 y
theorem PFO_rfl {n : Nat} {σ : MS} : PFO n σ σ := ⟨rfl, fun _ _ _ _ _ _ _ => rfl, fun _ _ => ⟨rfl, rfl, rfl⟩, fun _ _ => ⟨rfl, rfl⟩⟩
theorem PFO_trans {n : Nat} {σ τ υ : MS} (h : PFO n σ τ) (i : PFO n τ υ) : PFO n σ υ := ⟨by rw [i.1, h.1], fun k a b c d e f => by rw [i.2.1 k a b c d e f, h.2.1 k a b c d e f], fun x hx => by
  obtain ⟨a, b, c⟩ := h.2.2.1 x hx
  obtain ⟨d, e, f⟩ := i.2.2.1 x hx
  exact ⟨by rw [d, a], by rw [e, b], by rw [f, c]⟩, fun y hy => by
  obtain ⟨a, b⟩ := h.2.2.2 y hy
  obtain ⟨d, e⟩ := i.2.2.2 y hy
  exact ⟨by rw [d, a], by rw [e, b]⟩⟩
theorem PFO_of {n : Nat} {σ τ : MS} (h : PFR n σ τ) : PFO n σ τ := ⟨h.1, fun k a b c d e _ => h.2.1 k a b c d e, h.2.2.1, h.2.2.2⟩
/-- where laying stands before a part -/
def LPI (T : Nat) (kd vl rv : Nat → Int) (pl : Nat → Nat) (m : Nat) (nm : Nat → List Int) (Θ : HS) (σs : MS) (n w0 : Nat) (W0 : List Int) (ow0 : Nat → List (List Int)) (c : Nat) (ρ0 ρ : MS) (Γ : HS) : Prop := AGM σs ρ ∧ KE T kd vl rv Θ ρ ∧ rnam m nm ρ ∧ OBX T kd rv vl pl ρ Γ n ∧ (Γ 3).1 13 = J (n : Nat) ∧ PFO n ρ0 ρ ∧ ∃ (W : List Int) (ow : Nat → List (List Int)), WSO Γ W ow ∧ WOB ρ ow ∧ (ow n).length = c ∧ (∀ o, o ≠ n → ow o = ow0 o) ∧ W.length ≤ w0 + c ∧ PRE W0 W
theorem lp_step {b : Nat → Int} {L m : Nat} {nm : Nat → List Int} {cl : List Int} (hF : NMF b L T m nm cl kd vl rv pl) {Θ : HS} {g : Int} {σs ρ0 ρ : MS} {x hi i j n w0 c : Nat} {W0 : List Int} {ow0 : Nat → List (List Int)} {Γ Δ : HS} {again : Int32 × MS → MR} (hP : PRT kd rv pl g σs x hi i j) (hg : g = 1 ∨ g = 2) (hrv : ∀ u, u ≤ T → kd u = 2 → 0 ≤ rv u ∧ rv u < 8000) (hj : j ≤ T) (hx : hi < 39900) (hn : 1 ≤ n ∧ n ≤ 120) (hW : WEF Θ kd vl cl i Γ Δ) (hE : kd i = 239 → ksF Θ vl (i + 2) = 1 ∧ nsF Θ vl (i + 2) ≤ 120) (hw0 : w0 + 20 ≤ 1999) (hten : c + (if kd i = 240 then (j - i - 1) / 2 else 0) ≤ 10) (hI : LPI T kd vl rv pl m nm Θ σs n w0 W0 ow0 c ρ0 ρ Γ) : ∃ ρ', LpO (J (n : Nat)) again (J (x : Nat), ρ) = again (σs.2 22 x, ρ') ∧ LPI T kd vl rv pl m nm Θ σs n w0 W0 ow0 (c + (if kd i = 240 then (j - i - 1) / 2 else 0)) ρ0 ρ' Δ := by
  obtain ⟨i1, i2, i3, i4, i5, i6, W, ow, i7, i8, i9, i10, i11, i12⟩ := hI
  have hkey := PRT_key hP
  by_cases q : kd i = 240
  · rw [if_pos q] at hten ⊢
    obtain rfl : g = 2 := by
      obtain ⟨-, -, -, hP'⟩ := hP
      rcases hP' with ⟨a, -⟩ | ⟨⟨-, a⟩, -⟩ | ⟨⟨-, a⟩, -⟩ | ⟨⟨a, -⟩, -⟩ | ⟨⟨a, -⟩, -⟩ | ⟨cc, -, ⟨a, -⟩, -⟩ | ⟨⟨a, -⟩, -⟩ <;> omega
    obtain ⟨ρ', V, e1, e2, e3, e4, e5, e6, e7⟩ := lp_wpart (again := again) hF hP i1 i3 hrv hj hx hn i5 hW q i7 i8 (by rw [i9]; exact hten) (by omega)
    obtain ⟨o, E, -, -, -, o4, o5⟩ := WEF_wrd hW q
    have e13 : (Δ 3).1 13 = (Γ 3).1 13 := by
      rw [o5.2.1 13 (by omega) (by omega) (by omega) (by omega) (by omega), (OWN_D o4 ⟨W, i7.1.1⟩).2 3 (by omega) (by omega)]
    refine ⟨ρ', e1, ⟨fun k hk => by rw [e6.2 k (by omega) (by omega) (by omega)]; exact i1.1 k hk, fun y hy => by rw [e6.2 20 (by omega) (by omega) (by omega)]; exact i1.2.1 y hy, fun y h1 h2 h3 h4 => by rw [e6.2 21 (by omega) (by omega) (by omega)]; exact i1.2.2 y h1 h2 h3 h4⟩, KE_K i2 ⟨e6.2 28 (by omega) (by omega) (by omega), e6.2 29 (by omega) (by omega) (by omega), e6.2 30 (by omega) (by omega) (by omega)⟩, rnam_congr i3 (by rw [e6.1]) (e6.2 11 (by omega) (by omega) (by omega)) (e6.2 12 (by omega) (by omega) (by omega)), ?_, by rw [e13]; exact i5, PFO_trans i6 ⟨e6.1, fun k _ _ _ _ _ h => e6.2 k (by omega) (by omega) (by omega), fun x _ => ⟨by rw [e6.2 48 (by omega) (by omega) (by omega)], by rw [e6.2 49 (by omega) (by omega) (by omega)], by rw [e6.2 122 (by omega) (by omega) (by omega)]⟩, fun y _ => ⟨by rw [e6.2 51 (by omega) (by omega) (by omega)], by rw [e6.2 53 (by omega) (by omega) (by omega)]⟩⟩, V, _, e2, e3, ?_, fun o ho => ?_, by omega, PRE_trans i12 e4⟩
    · obtain ⟨a1, a2, a3⟩ := i4
      refine ⟨?_, fun d d1 d2 => ?_, ?_⟩
      · rw [e6.2 122 (by omega) (by omega) (by omega), e6.2 48 (by omega) (by omega) (by omega), e6.2 49 (by omega) (by omega) (by omega), e7 3 (by omega) (by omega)]; exact a1
      · rw [e6.2 51 (by omega) (by omega) (by omega), e7 6 (by omega) (by omega)]; exact a2 d d1 d2
      · rw [e6.2 53 (by omega) (by omega) (by omega), e7 5 (by omega) (by omega)]; exact a3
    · unfold owA wdsF
      rw [if_pos rfl, List.length_append, List.length_map, List.length_range, i9]
    · unfold owA
      rw [if_neg ho]; exact i10 o ho
  · rw [if_neg q, Nat.add_zero]
    obtain ⟨ρ', e1, e2, e3⟩ := lp_part (again := again) hP hg i1 i2 hrv hj hx hn i5 hW q hE i4
    obtain ⟨f1, f2, f3, f4⟩ := WEF_nw hW (by omega)
    obtain ⟨g1, g2, g3, g4⟩ := e3
    refine ⟨ρ', e1, ⟨fun k hk => by rw [g2 k (by omega) (by omega) (by omega) (by omega) (by omega)]; exact i1.1 k hk, fun y hy => by rw [g2 20 (by omega) (by omega) (by omega) (by omega) (by omega)]; exact i1.2.1 y hy, fun y h1 h2 h3 h4 => by rw [g2 21 (by omega) (by omega) (by omega) (by omega) (by omega)]; exact i1.2.2 y h1 h2 h3 h4⟩, KE_K i2 ⟨g2 28 (by omega) (by omega) (by omega) (by omega) (by omega), g2 29 (by omega) (by omega) (by omega) (by omega) (by omega), g2 30 (by omega) (by omega) (by omega) (by omega) (by omega)⟩, rnam_congr i3 (by rw [g1]) (g2 11 (by omega) (by omega) (by omega) (by omega) (by omega)) (g2 12 (by omega) (by omega) (by omega) (by omega) (by omega)), e2, by rw [f4]; exact i5, PFO_trans i6 (PFO_of ⟨g1, g2, g3, g4⟩), W, ow, ⟨⟨DOK_7 i7.1.1 f3, fun o o1 o2 => by rw [f1, f2]; exact i7.1.2 o o1 o2⟩, i7.2⟩, fun o o1 o2 => ?_, i9, i10, i11, i12⟩
    rw [g2 56 (by omega) (by omega) (by omega) (by omega) (by omega)]
    refine ⟨(i8 o o1 o2).1, fun e he => ⟨?_, fun k hk => ?_⟩⟩
    · rw [g2 55 (by omega) (by omega) (by omega) (by omega) (by omega)]; exact ((i8 o o1 o2).2 e he).1
    · rw [g2 54 (by omega) (by omega) (by omega) (by omega) (by omega)]; exact ((i8 o o1 o2).2 e he).2 k hk
theorem lp_loop {b : Nat → Int} {L m : Nat} {nm : Nat → List Int} {cl : List Int} (hF : NMF b L T m nm cl kd vl rv pl) {Θ : HS} {g : Int} {σs ρ0 : MS} {hi n w0 cc : Nat} {xs it js : Nat → Nat} {H : Nat → HS} {W0 : List Int} {ow0 : Nat → List (List Int)} (hg : g = 1 ∨ g = 2) (hrv : ∀ u, u ≤ T → kd u = 2 → 0 ≤ rv u ∧ rv u < 8000) (hx : hi < 39900) (hn : 1 ≤ n ∧ n ≤ 120) (q1 : ∀ k, k < cc → σs.2 22 (xs k) = J (if k + 1 < cc then (xs (k + 1) : Int) else -1)) (q2 : ∀ k, k < cc → it k < it (k + 1) ∧ ∃ hi', PRT kd rv pl g σs (xs k) hi' (it k) (it (k + 1)) ∧ hi' ≤ hi) (q3 : ∀ k, k < cc → WEF Θ kd vl cl (it k) (H k) (H (k + 1))) (q4 : ∀ k, k < cc → it (k + 1) = js k) (q5 : ∀ k, k ≤ cc → it k ≤ T) (hE : ∀ k, k < cc → kd (it k) = 239 → ksF Θ vl (it k + 2) = 1 ∧ nsF Θ vl (it k + 2) ≤ 120) (hw0 : w0 + 20 ≤ 1999) (hten : ∀ k, k ≤ cc → wsm kd it js k ≤ 10) : ∀ (d k : Nat) (ρ : MS), k + d = cc → LPI T kd vl rv pl m nm Θ σs n w0 W0 ow0 (wsm kd it js k) ρ0 ρ (H k) → ∀ F, d < F → ∃ ρ', loopF (LpO (J (n : Nat))) F (J (if k < cc then (xs k : Int) else -1), ρ) = some ((0 : Int32), ρ') ∧ LPI T kd vl rv pl m nm Θ σs n w0 W0 ow0 (wsm kd it js cc) ρ0 ρ' (H cc) := by
  intro d
  induction d with
  | zero =>
    intro k ρ hk hI F hF'
    obtain ⟨F, rfl⟩ : ∃ F', F = F' + 1 := ⟨F - 1, by omega⟩
    obtain rfl : k = cc := by omega
    refine ⟨ρ, ?_, hI⟩
    show LpO (J (n : Nat)) (loopF (LpO (J (n : Nat))) F) _ = _
    generalize loopF (LpO (J (n : Nat))) F = lp
    unfold LpO
    dsimp only
    rw [if_neg (Nat.lt_irrefl _), if_pos (show J (-1) < 0 by decide)]
  | succ d ih =>
    intro k ρ hk hI F hF'
    obtain ⟨F, rfl⟩ : ∃ F', F = F' + 1 := ⟨F - 1, by omega⟩
    obtain ⟨a1, hi', a2, a3⟩ := q2 k (by omega)
    have ew : wsm kd it js (k + 1) = wsm kd it js k + (if kd (it k) = 240 then (it (k + 1) - it k - 1) / 2 else 0) := by
      rw [q4 k (by omega)]; rfl
    obtain ⟨ρ', e1, e2⟩ := lp_step (again := loopF (LpO (J (n : Nat))) F) hF a2 hg hrv (q5 (k + 1) (by omega)) (by omega) hn (q3 k (by omega)) (hE k (by omega)) hw0 (by rw [← ew]; exact hten (k + 1) (by omega)) hI
    rw [← ew] at e2
    obtain ⟨τ, t1, t2⟩ := ih (k + 1) ρ' (by omega) e2 F (by omega)
    refine ⟨τ, ?_, t2⟩
    rw [← t1, if_pos (show k < cc by omega)]
    show LpO (J (n : Nat)) (loopF (LpO (J (n : Nat))) F) _ = _
    rw [e1, q1 k (by omega)]
