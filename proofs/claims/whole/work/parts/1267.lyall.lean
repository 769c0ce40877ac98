/-! laying's join: from the start to the last item -/
variable {T N : Nat} {kd vl rv : Nat → Int} {pl : Nat → Nat}
theorem owS_nm : ∀ o e, 1 ≤ o → o ≤ 180 → e < (owS 11 o).length → nmW ((owS 11 o).getD e []) := by
  have key : ∀ k, k < 11 → ∀ e, e < (vwL.getD k []).length → nmW ((vwL.getD k []).getD e []) := by
    unfold nmW
    decide +kernel
  intro o e o1 o2 he
  unfold owS at he ⊢
  by_cases q : o = 1
  · rw [if_pos q] at he ⊢
    have e0 : e = 0 := by
      have : e < 1 := he
      omega
    rw [e0]
    unfold nmW
    decide +kernel
  · rw [if_neg q] at he ⊢
    by_cases q2 : 121 ≤ o ∧ o ≤ 120 + 11
    · rw [if_pos q2] at he ⊢
      exact key (o - 121) (by omega) e he
    · rw [if_neg q2] at he
      exact absurd he (Nat.not_lt_zero _)
theorem WST_4 {Γ Δ : HS} {W : List Int} {bn : Nat → Nat} {bt : Nat → Nat → Int} (h : WST Γ W bn bt) (e7 : Δ 7 = Γ 7) (e9 : (Δ 4).2.1 9 = (Γ 4).2.1 9) (e10 : (Δ 4).2.1 10 = (Γ 4).2.1 10) : WST Δ W bn bt := ⟨DOK_7 h.1 e7, fun o o1 o2 => by rw [e9, e10]; exact h.2 o o1 o2⟩
/-- what stands before the first item -/
theorem LYP_0 {b : Nat → Int} {L n m : Nat} {nm : Nat → List Int} {Θ : HS} {σs σ τ ρ : MS} {ls is : Nat → Nat} {K : Nat → HS} {E : HS} {W0 : List Int} (h : AGM σs σ ∧ KE T kd vl rv Θ σ ∧ rnam m nm σ) (h0 : LY0 b L n σ τ) (hv : LYV τ ρ) (h77 : σ.2 77 0 = 0) (hW : WST (K 0) W0 (fun o => (owS 11 o).length) (fun o e => tm9 ((owS 11 o).getD e []))) (hl : W0.length ≤ 60) : LYP T kd vl rv pl m nm Θ σs ls is K E W0 ρ 0 ρ := by
  obtain ⟨⟨a1, a2, a3, a4, a5, a6, a7, a8, a9, a10⟩, b1, b2, b3, b4, b5, z1, z2⟩ := id h0
  obtain ⟨v1, v2, -⟩ := id hv
  refine ⟨owS 11, W0, LJI_0 h h0 hv, ⟨⟨W0, ⟨hW, owS_nm⟩, ?_⟩, WOB_0 h0 hv, fun o o1 o2 => ?_, fun v w1 w2 => ?_⟩, ⟨hW.1, PRE_rfl⟩, ⟨fun _ _ _ _ => rfl, fun _ _ _ _ => rfl⟩, ⟨fun x x1 x2 => ?_, fun z' hz => absurd hz (Nat.not_lt_zero _), ⟨fun _ _ _ => rfl, fun v w1 w2 => VBF_0 hv w1 w2, fun z' hz => absurd hz (Nat.not_lt_zero _)⟩, Or.inl ⟨by rw [v1]; exact a10, fun z' hz => absurd hz (Nat.not_lt_zero _)⟩⟩, fun z' hz => absurd hz (Nat.not_lt_zero _), ⟨fun k hk => ?_, fun z' hz => absurd hz (Nat.not_lt_zero _)⟩, fun z' hz => absurd hz (Nat.not_lt_zero _), fun z' hz => absurd hz (Nat.not_lt_zero _)⟩
  · show W0.length + 71 ≤ 10 * 1 + 11 * 11
    omega
  · have o1 : 1 < o := o1
    unfold owS
    rw [if_neg (by omega), if_neg (by omega)]; rfl
  · have w1 : 11 < v := w1
    unfold owS
    rw [if_neg (by omega), if_neg (by omega)]; rfl
  · obtain ⟨y1, -, -, y4, y5⟩ := z1 x (by omega)
    rw [v2 122 (by omega), v2 52 (by omega), v2 50 (by omega), v2 51 (by omega), v2 53 (by omega)]
    exact ⟨y4, y1, y5, fun y hy => z2 (7 * x + y) (by omega)⟩
  · have hk : k ≤ 0 := hk
    obtain rfl : k = 0 := by omega
    rw [v2 77 (by omega), b2 77 (by omega) (by omega) (by omega) (by unfold lyS; omega), h77]; rfl
/-- counts of items -/
theorem cN_all {Θ Γs : HS} {σs τ : MS} {c : Nat} {ls is : Nat → Nat} {S : Nat → MS} (hp : plm T pl) (hD : SDN T N kd vl rv pl σs Γs c ls is S τ Θ) (hm : ∀ z, z < c → is z < is (z + 1)) : ∀ z, z ≤ c → ∀ q, q < 7 → cN kd is q z ≤ (if q = 0 then 120 else if q = 1 then 60 else if q = 2 then 100 else if q = 3 then 20 else if q = 4 then 100 else if q = 5 then 200 else 20) := by
  intro z
  induction z with
  | zero =>
    intro _ q hq
    show (if q = 0 then 1 else if q = 1 then 11 else 0) ≤ _
    repeat' split
    all_goals omega
  | succ z ih =>
    intro hz q hq
    rw [cN_s]
    by_cases e : q = qOf (kd (is z))
    · rw [if_pos e]
      have hkr := hD.2.2.2.2.2.2.2.2.2.1 z (by omega)
      have := row_lim hp hD.1 hD.2.1 hm hD.2.2.2.1 hD.2.2.2.2.1 hD.2.2.2.2.2.1 (show z < c by omega)
      rw [← e] at this
      unfold limK at this
      unfold qOf at e
      by_cases k0 : kd (is z) ≤ 231
      · rw [if_pos k0] at this e
        rw [if_pos e]; omega
      by_cases k1 : kd (is z) = 232
      · rw [if_neg k0, if_pos k1] at this e
        rw [if_neg (by omega), if_pos e]; omega
      by_cases k2 : kd (is z) = 233
      · rw [if_neg k0, if_neg k1, if_pos k2] at this e
        rw [if_neg (by omega), if_neg (by omega), if_pos e]; omega
      by_cases k3 : kd (is z) = 234
      · rw [if_neg k0, if_neg k1, if_neg k2, if_pos k3] at this e
        rw [if_neg (by omega), if_neg (by omega), if_neg (by omega), if_pos e]; omega
      by_cases k4 : kd (is z) = 235
      · rw [if_neg k0, if_neg k1, if_neg k2, if_neg k3, if_pos k4] at this e
        rw [if_neg (by omega), if_neg (by omega), if_neg (by omega), if_neg (by omega), if_pos e]; omega
      by_cases k5 : kd (is z) = 236
      · rw [if_neg k0, if_neg k1, if_neg k2, if_neg k3, if_neg k4, if_pos k5] at this e
        rw [if_neg (by omega), if_neg (by omega), if_neg (by omega), if_neg (by omega), if_neg (by omega), if_pos e]; omega
      · rw [if_neg k0, if_neg k1, if_neg k2, if_neg k3, if_neg k4, if_neg k5] at this e
        rw [if_neg (by omega), if_neg (by omega), if_neg (by omega), if_neg (by omega), if_neg (by omega), if_neg (by omega)]; omega
    · rw [if_neg e]; exact ih (by omega) q hq
/-- all items are laid -/
theorem LYP_all (hT : TKE T N kd vl rv pl) (hp : plm T pl) (hpb : ∀ i, i ≤ T + 1 → pl i ≤ 5000) {b : Nat → Int} {L m : Nat} {nm : Nat → List Int} {cl : List Int} (hF : NMF b L T m nm cl kd vl rv pl) (hm : m < 7000) {G : Nat → HS} {Θ Γs : HS} {σs τ ρ0 : MS} {c : Nat} {ls is ps ds os es : Nat → Nat} {S : Nat → MS} {K : Nat → HS} {W0 : List Int} (hG : GRW T N kd vl pl G) (hD : SDN T N kd vl rv pl σs Γs c ls is S τ Θ) (hr : rDS σs τ) (hl : ls c ≤ 39000) (hI : ITS kd vl rv pl σs Γs c ls is ps ds os es) (hZ : ∀ z, z ≤ c → GZ T kd vl (G (is z))) (hbad : ∀ t, t < T → ¬ badW G Θ Γs kd vl c is t) (hK : CROW T G Θ kd vl cl is c K) (h0 : ∀ x, x ≤ 120 → (K 0 4).2.1 3 x = J (-1) ∧ (K 0 4).2.1 4 x = 0 ∧ (K 0 4).2.1 5 x = 0) (h06 : ∀ x, x < 726 → (K 0 4).2.1 6 x = 0) (h : LYP T kd vl rv pl m nm Θ σs ls is K (K c) W0 ρ0 0 ρ0) : ∃ ρ', loopF LyJ FU (J (lsX ls c 0), ρ0) = some ((0 : Int32), ρ') ∧ LYP T kd vl rv pl m nm Θ σs ls is K (K c) W0 ρ0 c ρ' := by
  have hmm := ITS_lt hI
  have hc := hD.2.2.2.2.2.1
  have hal := cN_all hp hD hmm.1
  have hlim := fun z hz => row_lim hp hD.1 hD.2.1 hmm.1 hD.2.2.2.1 hD.2.2.2.2.1 hD.2.2.2.2.2.1 (show z < c from hz)
  obtain ⟨ρ', e1, e2⟩ := ly_loop (ls := ls) (c := c) (P := fun z ρ => LYP T kd vl rv pl m nm Θ σs ls is K (K c) W0 ρ0 z ρ) (fun z hz => by
    have := is_le hmm.2 (a := z) (b := c) (by omega) (Nat.le_refl _)
    omega) (fun z ρ hz hP => by
    obtain ⟨ρ', l1, l2⟩ := LYP_step hT hp hpb hF hm hG hD hr hl hI hZ hbad hK hz (hal z (by omega)) (fun z hz k => by have := hlim z hz; rw [k] at this; exact this) (fun z hz k => by have := hlim z hz; rw [k] at this; exact this) h0 h06 hP
    refine ⟨ρ', l1, l2, ?_⟩
    obtain ⟨ow, W, hJ, -⟩ := l2
    rw [hJ.1.1.1 22 (by omega)]
    exact (hI z hz).2.1) c 0 FU ρ0 (by omega) (FU_gt (by omega)) h
  refine ⟨ρ', ?_, e2⟩
  rw [← e1]
  unfold lsX
  by_cases q : 0 < c
  · rw [if_pos q, if_pos q]
  · rw [if_neg q, if_neg q]
