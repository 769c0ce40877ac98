/-! where the class's third going starts -/
variable {T N : Nat} {kd vl rv : Nat → Int} {pl : Nat → Nat}
theorem ITS_ag3 {σ : MS} {Γ Δ : HS} {c : Nat} {ls is ps ds os es : Nat → Nat} (h : ITS kd vl rv pl σ Γ c ls is ps ds os es) (e1 : Δ 1 = Γ 1) (e5 : Δ 5 = Γ 5) : ITS kd vl rv pl σ Δ c ls is ps ds os es := fun k hk => by
  obtain ⟨a, b⟩ := h k hk
  refine ⟨ITM_ag (fun y _ _ => ⟨rfl, rfl, rfl, fun _ => rfl, fun _ _ _ _ => rfl, fun _ => rfl⟩) ⟨fun r _ _ => by rw [e5], fun t _ _ => by rw [e1]⟩ ⟨fun _ => ⟨by rw [e5], by rw [e5]⟩, fun _ => by rw [e5]⟩ a, b⟩
theorem meanings_start {b : Nat → Int} {L m : Nat} {nm : Nat → List Int} {cl : List Int} (hT : TKE T N kd vl rv pl) (hN : NMI T kd vl rv) (hp : plm T pl) (hpb : ∀ i, i ≤ T + 1 → pl i ≤ 5000) (hF : NMF b L T m nm cl kd vl rv pl) {σ : MS} {Γ : HS} {c : Nat} {ls is ps ds os es : Nat → Nat} (hI : ITS kd vl rv pl σ Γ c ls is ps ds os es) (hz : ds 0 = 0 ∧ os 0 = 0 ∧ es 0 = 0) (hl : ls c ≤ 39000) (h0 : is 0 = 0) (hcT : is c = T) (hkT : kd T = 0) (h24 : σ.1 24 = J (lsX ls c 0)) (hrn : rnam m nm σ) (hm7 : m < 7000) (h14 : σ.1 14 = J 0) (hc : TKc N kd vl pl Γ) (hcn : cnam cl Γ) (hcl : cl.length < 4500) (h67 : 67 ≤ cl.length) (hK : ∀ c, c < 67 → cl.getD c 0 = pk (KWC.getD c [])) (h40 : ∀ q, q < 7 → (Γ 4).2.1 0 q = J (cN kd is q 0 : Nat)) (h47 : ∀ v, 1 ≤ v → v ≤ 11 → (Γ 4).2.1 7 v = J (bform v)) {S0 τ : MS} (hd : F_X12_declare σ = some ((0 : Int32), S0)) (hs : F_X12_declareSeen S0 = some ((0 : Int32), τ)) (hr : rDS σ τ) (hS : SecC T N kd vl rv pl σ Γ c ls is τ) : ∃ (G : Nat → HS) (Θ : HS), F_X4_giveAll Γ = E2 Θ ∧ GZ T kd vl (G 0) ∧ AGR T kd vl (G 0) (stG Θ) ∧ MEN T N kd vl rv pl G Θ Γ σ τ (DNd kd σ Γ c ls is) ∧ VFE T kd vl rv Θ σ τ ∧ AGM σ τ ∧ flt τ = flt σ ∧ G0 T N kd vl pl Θ ∧ DR T kd vl rv is c τ Θ ∧ (∀ r, r ≠ 3 → r ≠ 4 → Θ r = Γ r) ∧ (∀ k, k ≠ 0 → k ≠ 7 → k ≠ 12 → (Θ 4).2.1 k = (Γ 4).2.1 k) ∧ (Θ 4).1 = (Γ 4).1 ∧ (∀ z, z < c → 230 ≤ kd (is z) ∧ kd (is z) ≤ 237) ∧ ∃ S, SDN T N kd vl rv pl σ Γ c ls is S τ Θ := by
  obtain ⟨G1, Θ, a1, a2, a3, a4, a5, a6, a7, a8, a9, a10, a11, a12, a13, a14, -⟩ := pack hT hN hp hpb hI hz hl h0 hcT hS hr
  generalize hΓ' : cA' (cA' Γ 3 6 ((Θ 3).2.1 6)) 3 10 ((Θ 3).2.1 10) = Γ'
  have e : ∀ r, r ≠ 3 → Γ' r = Γ r := fun r hr => by rw [← hΓ', cA_r, if_neg hr, cA_r, if_neg hr]
  have e6 : (Γ' 3).2.1 6 = (Θ 3).2.1 6 := by rw [← hΓ']; rfl
  have e10 : (Γ' 3).2.1 10 = (Θ 3).2.1 10 := by rw [← hΓ']; rfl
  have hI' : ITS kd vl rv pl σ Γ' c ls is ps ds os es := ITS_ag3 hI (e 1 (by omega)) (e 5 (by omega))
  obtain ⟨S1, τ1, b1, b2, b3, b4⟩ := sec_all hT hN hp hpb hF hI' hl h0 hcT hkT h24 hrn hm7 h14 (by unfold TKc at hc ⊢; rw [e 1 (by omega)]; exact hc) (cnam_congr hcn (by rw [e 1 (by omega)]) (by rw [e 1 (by omega)]) (by rw [e 1 (by omega)])) hcl h67 hK (by rw [e 4 (by omega)]; exact h40) (by rw [e 4 (by omega)]; exact h47)
  rw [hd] at b1
  obtain rfl : S0 = S1 := by injection b1 with b1; exact (Prod.mk.inj b1).2
  rw [hs] at b2
  obtain rfl : τ = τ1 := by injection b2 with b2; exact (Prod.mk.inj b2).2
  have b5 : SecC T N kd vl rv pl σ Γ' c ls is τ := by
    rcases b4 with h | ⟨f, w, f1, f2, f3, f4⟩
    · exact h
    · rw [a7] at f4
      have : σ.1 14 = J f := congrArg Prod.fst f4
      rw [h14, J_eq (by omega) (by omega) (by omega) (by omega)] at this
      omega
  obtain ⟨G, Θ', c1, c2, c3, c4, -, -, -, -, -, -, -, -, -, -, Γ2, t, c5, c6⟩ := pack hT hN hp hpb hI' hz hl h0 hcT b5 hr
  refine ⟨G, Θ, a1, c3, ?_, ⟨a4.1, a4.2.1, a4.2.2.1, a4.2.2.2.1, ⟨c4.2.2.2.2.1.1, a4.2.2.2.2.1.2⟩, c4.2.2.2.2.2⟩, a5, a6, a7, a8, a9, a10, a11, a12, a13, a14⟩
  obtain ⟨g1, g2, g3, g4, g5, g6, g7⟩ := c5
  obtain ⟨-, -, -, -, s1, s2, s3, s4, s5, s6, s7, s8, s9⟩ := a8
  rw [c6]
  refine ⟨fun k hk => ?_, fun u hu hk => ?_, fun k hk => ?_⟩
  · rcases hk with rfl | rfl | rfl | rfl | rfl <;> rfl
  · have hv := SC_vl hT hu hk
    show (Θ 3).2.1 5 _ = (Γ2 3).2.1 5 _
    rw [s8 u hu hk (fun k hk => by omega), (g4 _ (by omega)).2.2.2]
  · show (Θ 3).2.1 k = (Γ2 3).2.1 k
    rw [g3 k (by omega) (by omega) (by omega) (by omega)]
    rcases hk with rfl | rfl
    · exact e6.symm
    · exact e10.symm
