/-! the second going, whole -/
variable {T N : Nat} {kd vl rv : Nat → Int} {pl : Nat → Nat}
theorem dcS_i {σ : MS} (q : Nat) (hq : q < 7) {is : Nat → Nat} : (dcS σ).1 (fcq q) = J (cN kd is q 0 : Nat) := by
  have : q = 0 ∨ q = 1 ∨ q = 2 ∨ q = 3 ∨ q = 4 ∨ q = 5 ∨ q = 6 := by omega
  rcases this with h | h | h | h | h | h | h <;> (subst h; rfl)
theorem rD0_dcS {σ : MS} : rD0 σ (dcS σ) := rD0_trans (rD0_mI (by omega)) (rD0_trans (rD0_mI (by omega)) (rD0_trans (rD0_mI (by omega)) (rD0_trans (rD0_mI (by omega)) (rD0_trans (rD0_mI (by omega)) (rD0_trans (rD0_mI (by omega)) (rD0_trans (rD0_mI (by omega)) (rD0_mI (by omega))))))))
/-- all that stays when names are told and seen -/
def rDS (σ τ : MS) : Prop := (∀ k, k ≠ 14 → k ≠ 15 → k ≠ 33 → k ≠ 34 → ¬ (35 ≤ k ∧ k ≤ 42) → τ.1 k = σ.1 k) ∧ (∀ j, j ≠ 28 → j ≠ 29 → j ≠ 30 → j ≠ 31 → τ.2 j = σ.2 j)
theorem rDS_of {σ τ υ : MS} (h : rD0 σ τ) (i : rS τ υ) : rDS σ υ := ⟨fun k a b c d e => by rw [i.1 k a b c d, h.1 k a b e], fun j a b c d => by rw [i.2 j d, h.2 j a b c]⟩
theorem W2_end (hT : TKE T N kd vl rv pl) {Γ : HS} (hc : TKc N kd vl pl Γ) (h16 : (Γ 3).1 16 = J 0) (hkT : kd T = 0) (n : Nat) : loopF W2 (n + 2) (J (T : Nat), Γ) = E2 Γ := by
  obtain ⟨n1, n2, n3, n4⟩ := TKE_N hT
  have hN : N = T + 1 := by
    rcases hT.2.2.1 with ⟨-, h⟩ | ⟨h, -⟩
    · exact h
    · omega
  have hq : qt (kd T) := by rw [hkT]; unfold qt; omega
  have hq2 : qf (kd T) := by rw [hkT]; unfold qf; omega
  rw [show n + 2 = n + 1 + 1 from rfl, W2_go hT hc (by omega) h16, tw_q hT hc (by omega) hq, Option.bind_some, fs_q hT hc (by omega) hq2, Option.bind_some, W2_s, if_pos (by show (Γ 1).1 2 ≤ _; rw [hc.1, hN, J_le (by omega) (by omega) (by omega) (by omega)]; omega)]
theorem stG_3 {Γ : HS} (k : Nat) : (stG Γ 3).1 k = if k = 15 then 0 else if k = 12 then 0 else if k = 11 then 0 else if k = 9 then -1 else if k = 8 then 0 else if k = 7 then 0 else (Γ 3).1 k := rfl
theorem stG_o {Γ : HS} {r : Nat} (h : r ≠ 3) : stG Γ r = Γ r := by unfold stG; simp only [cI_r, if_neg h]
def SecC (T N : Nat) (kd vl rv : Nat → Int) (pl : Nat → Nat) (σ : MS) (Γ : HS) (c : Nat) (ls is : Nat → Nat) (τ : MS) : Prop := flt τ = flt σ ∧ ∃ (Γ2 Θ : HS) (t : Nat → Nat) (S : Nat → MS), F_X4_giveAll Γ = E2 Θ ∧ gaR T kd vl c is (cI' (cI' Γ 3 16 0) 3 17 (-1)) Γ2 t ∧ CW W2 (stG Γ2) 0 Θ T ∧ m5 (stG Γ2) Θ ∧ G0 T N kd vl pl (stG Γ2) ∧ G0 T N kd vl pl Θ ∧ DR T kd vl rv is c τ Θ ∧ ROW T N kd vl rv pl σ Γ c ls is S ∧ rS (S c) τ ∧ (flt (S c)).1 = 0 ∧ (∀ q, q < 7 → (S 0).1 (fcq q) = J (cN kd is q 0 : Nat)) ∧ (∀ u, u ≤ T → kd u = 2 → (1 ≤ vof (vl u).toNat → (S 0).2 28 (rv u).toNat = J 3 ∧ (S 0).2 29 (rv u).toNat = J (vof (vl u).toNat : Nat) ∧ (S 0).2 30 (rv u).toNat = J (-1)) ∧ (vof (vl u).toNat = 0 → (S 0).2 28 (rv u).toNat = 0))
def SecF (T N : Nat) (kd vl : Nat → Int) (pl : Nat → Nat) (Γ : HS) (τ : MS) : Prop := ∃ (f : Int) (w : Nat), (0 < f ∧ f ≤ 6) ∧ w < T ∧ Ok (F_X4_giveAll Γ) (fun v => v.1 = J f ∧ (v.2 3).1 17 = J (pl w : Nat) ∧ cfM Γ v.2) ∧ flt τ = (J f, J (pl w : Nat))
theorem sec_all (hT : TKE T N kd vl rv pl) (hN : NMI T kd vl rv) (hp : plm T pl) (hpb : ∀ i, i ≤ T + 1 → pl i ≤ 5000) {b : Nat → Int} {L m : Nat} {nm : Nat → List Int} {cl : List Int} (hF : NMF b L T m nm cl kd vl rv pl) {σ : MS} {Γ : HS} {c : Nat} {ls is ps ds os es : Nat → Nat} (hI : ITS kd vl rv pl σ Γ c ls is ps ds os es) (hl : ls c ≤ 39000) (h0 : is 0 = 0) (hcT : is c = T) (hkT : kd T = 0) (h24 : σ.1 24 = J (lsX ls c 0)) (hrn : rnam m nm σ) (hm7 : m < 7000) (h14 : σ.1 14 = J 0) (hc : TKc N kd vl pl Γ) (hcn : cnam cl Γ) (hcl : cl.length < 4500) (h67 : 67 ≤ cl.length) (hK : ∀ c, c < 67 → cl.getD c 0 = pk (KWC.getD c [])) (h40 : ∀ q, q < 7 → (Γ 4).2.1 0 q = J (cN kd is q 0 : Nat)) (h47 : ∀ v, 1 ≤ v → v ≤ 11 → (Γ 4).2.1 7 v = J (bform v)) : ∃ S τ : MS, F_X12_declare σ = some ((0 : Int32), S) ∧ F_X12_declareSeen S = some ((0 : Int32), τ) ∧ rDS σ τ ∧ (SecC T N kd vl rv pl σ Γ c ls is τ ∨ SecF T N kd vl pl Γ τ) := by
  have hT1 := hT.1
  obtain ⟨n1, n2, n3, n4⟩ := TKE_N hT
  have hm := ITS_lt hI
  have hct := is_le hm.1 (a := 0) (b := c) (by omega) (Nat.le_refl _)
  -- the reference's head
  obtain ⟨g, d1, d2⟩ := dz_loop hm7 m 0 FU σ (σ.2 28) hrn.1 (by omega) (FU_gt (by omega)) (fun r hr => by omega)
  rw [mA_id] at d1
  obtain ⟨υ, d3, d4, d5, d6⟩ := r_Dhd (σ := mA σ 28 g) hrn hm7 d2
  have dS : rD0 σ (dcS υ) := rD0_trans (rD0_trans (rD0_mA (Or.inl rfl)) d5) rD0_dcS
  have dO : OWI m nm OWL (dcS υ) := d4
  have dfl : flt (dcS υ) = flt σ := d6
  have hCN : CNn (dcS υ) 0 := fun q hq => ⟨cN kd is q 0, cN_0, dcS_i q hq⟩
  have hA0 : agA σ (dcS υ) := fun k k1 k2 => dS.2 k (by omega) (by omega) (by omega)
  obtain ⟨S, s1, s2, s3⟩ := dcl_loop hT hN hp hpb hI hl (by omega) c 0 (dcS υ) (by omega) hA0 hCN
  have hS : ROW T N kd vl rv pl σ Γ c ls is S := fun z hz => s2 z (Nat.zero_le _) hz
  have eD : F_X12_declare σ = some ((0 : Int32), S c) := by
    rw [declare_eq, show (0 : Int32) = J ((0 : Nat) : Int) from rfl, d1, d3, show (dcS υ).1 24 = J (if 0 < c then (ls 0 : Int) else -1) from (dS.1 24 (by omega) (by omega) (by omega)).trans h24]
    exact s3 FU (FU_gt (by omega))
  have hcnt : ∀ q, q < 7 → (S 0).1 (fcq q) = J (cN kd is q 0 : Nat) := fun q hq => by rw [s1]; exact dcS_i q hq
  have htab : ∀ u, u ≤ T → kd u = 2 → (1 ≤ vof (vl u).toNat → (S 0).2 28 (rv u).toNat = J 3 ∧ (S 0).2 29 (rv u).toNat = J (vof (vl u).toNat : Nat) ∧ (S 0).2 30 (rv u).toNat = J (-1)) ∧ (vof (vl u).toNat = 0 → (S 0).2 28 (rv u).toNat = 0) := fun u hu hk => by rw [s1]; exact tab_0 hF hT hcn h67 hK dO hu hk
  -- the class's beginning
  have hcΓ : TKc N kd vl pl (cI' (cI' Γ 3 16 0) 3 17 (-1)) := hc
  have hnI : ∀ z, z < c → 230 ≤ kd (is z) ∧ kd (is z) ≤ 237 ∧ (kd (is z) ≤ 236 → kd (is z + 1) = 2) ∧ is (z + 1) ≤ T ∧ is z + 1 ≤ is (z + 1) := fun z hz => by
    obtain ⟨a1, a2, a3, -⟩ := ITM_noI (hI z hz).1
    have := is_le hm.1 (a := z + 1) (b := c) (by omega) (Nat.le_refl _)
    have := hm.1 z hz
    exact ⟨a1, a2, a3, by omega, by omega⟩
  have hit : ∀ i, i < N → 230 ≤ kd i → kd i ≤ 235 → ∃ z, z < c ∧ i = is z := by
    intro i hi k1 k2
    by_cases q : i < T
    · obtain ⟨z, z1, z2, z3⟩ := itm_at (is := is) (c := c) c 0 i (by omega) (by omega) (by omega)
      by_cases e : i = is z
      · exact ⟨z, z1, e⟩
      · have := (ITM_noI (hI z z1).1).2.2.2 i (by omega) z3
        unfold noI at this; omega
    · exfalso
      by_cases e : i = T
      · rw [e, hkT] at k1; omega
      · have : i = N - 1 := by omega
        rw [this, n4] at k1; omega
  have hk2 : ∀ z, z < c → kd (is z) ≤ 235 → kd (is z + 1) = 2 ∧ is z + 1 ≤ T := fun z hz hk => by
    obtain ⟨a1, a2, a3, a4, a5⟩ := hnI z hz
    exact ⟨a3 (by omega), by omega⟩
  obtain ⟨Γ2, t, g1, g2⟩ := c_gather hT hcΓ hcn hcl h67 hK hit (fun z hz => (hnI z hz).1) hk2
  have g2' := g2
  obtain ⟨r1, r2, r3, r4, r5, r6, r7⟩ := g2'
  have eG : F_X4_giveAll Γ = loopF W2 FU (J ((0 : Nat) : Int), stG Γ2) := by
    rw [give_eq, bndE, bndE, g1, Option.bind_some, startGoing_eq, Option.bind_some]; rfl
  have hT2 : TKc N kd vl pl (stG Γ2) := by unfold TKc; rw [stG_o (by omega), r1 1 (by omega)]; exact hc
  have hnn : ∀ u, u ≤ T → kd u = 2 → (vl u).toNat < 4500 := fun u hu hk => by have := SC_vl hT hu hk; omega
  have hG : G0 T N kd vl pl (stG Γ2) := by
    refine ⟨hT2, ?_, rfl, rfl, rfl, rfl, rfl, by omega, by omega, by omega, fun k hk => by omega, fun u hu hk _ => ?_, fun k k' a b => by omega⟩
    · show (Γ2 3).1 16 = _
      rw [r2]; rfl
    · exact (r4 _ (hnn u hu hk)).2.2.2
  have hTI : TAI T kd vl c is (fun u => t (vl u).toNat) := by
    refine ⟨fun z u hz hk hu hku he => ?_, fun u hu hku => ?_⟩
    · dsimp only; rw [he]; exact r7 z hz hk
    · rcases r6 _ (hnn u hu hku) with h | h | ⟨z, z1, z2, z3, z4⟩
      · exact Or.inl h
      · exact Or.inr (Or.inl h)
      · refine Or.inr (Or.inr ⟨z, z1, z2, z3, ?_⟩)
        have v1 := SC_vl hT hu hku
        have v2 := SC_vl hT (hk2 z z1 z2).2 (hk2 z z1 z2).1
        omega
  have hTC : TAC T kd vl (fun u => t (vl u).toNat) (stG Γ2) := by
    intro u hu hku
    refine ⟨(r4 _ (hnn u hu hku)).1, ?_⟩
    rcases r6 _ (hnn u hu hku) with h | h | ⟨z, z1, z2, z3, z4⟩
    · dsimp only; omega
    · dsimp only; omega
    · have := (hk2 z z1 z2).2
      dsimp only; omega
  have hTA0 : TA T kd rv (fun u => t (vl u).toNat) (is 0) (S 0) := by
    intro u hu hku
    have h1 := htab u hu hku
    have h2 := r5 _ (hnn u hu hku)
    rw [h0]
    constructor
    · intro h
      by_cases q : vof (vl u).toNat = 0
      · exact absurd (h1.2 q) h
      · dsimp only; omega
    · intro h
      rw [(h1.1 (by dsimp only at h; omega)).1]; decide
  have hTA : ∀ k, k ≤ c → TA T kd rv (fun u => t (vl u).toNat) (is k) (S k) := by
    intro k
    induction k with
    | zero => intro _; exact hTA0
    | succ k ih => intro hk; exact TA_s hT hN hTI hm.1 (by omega) (by omega) (fun h => (hnI k (by omega)).2.2.1 (by omega)) (ih (by omega)) (hS k (by omega)).2.1.2.2.2.1
  have hST : STT T kd vl rv (S c) (stG Γ2) := by
    intro u hu hku
    have h1 := hTA c (Nat.le_refl _) u hu hku
    have h2 := (r4 _ (hnn u hu hku)).1
    have h3 := r6 _ (hnn u hu hku)
    dsimp only at h1
    show _ ↔ (Γ2 3).2.1 2 _ = _
    rw [h2, J_eq (by omega) (by have := (hTC u hu hku).2; dsimp only at this; omega) (by omega) (by omega)]
    constructor
    · intro h
      rcases h3 with h3 | h3 | ⟨z, z1, z2, z3, z4⟩
      · exact absurd h (h1.mpr (by omega))
      · omega
      · have := (hnI z z1)
        have := is_le hm.1 (a := z + 1) (b := c) (by omega) (Nat.le_refl _)
        exact absurd h (h1.mpr (by omega))
    · intro h
      by_cases q : (S c).2 28 (rv u).toNat = 0
      · exact q
      · have := h1.mp q; omega
  have hTB : TB T kd vl rv (S 0) (stG Γ2) := by
    intro u hu hku
    have h1 := htab u hu hku
    obtain ⟨-, h3, h4, -⟩ := r4 _ (hnn u hu hku)
    show _ = (Γ2 3).2.1 3 _ ∧ (_ → _ = (Γ2 3).2.1 4 _)
    rw [h3]
    by_cases q : vof (vl u).toNat = 0
    · rw [h1.2 q, if_neg (by omega)]; exact ⟨rfl, fun h => absurd rfl h⟩
    · obtain ⟨z1, z2, -⟩ := h1.1 (by omega)
      rw [z1, if_pos (by omega), z2, h4 (by omega)]; exact ⟨rfl, fun _ => rfl⟩
  have hD : DR T kd vl rv is 0 (S 0) (stG Γ2) := by
    refine ⟨fun q hq => ⟨?_, hcnt q hq, ?_⟩, ⟨⟨by unfold smA; omega, by unfold smA; omega⟩, ?_, fun _ => rfl, fun h => ?_⟩, ⟨fun v v1 v2 => by rw [stG_o (by omega), r1 4 (by omega)]; exact h47 v v1 v2, fun k hk => by omega⟩, hTB⟩
    · rw [stG_o (by omega), r1 4 (by omega)]; exact h40 q hq
    · dsimp only
      have := cN_0 (kd := kd) (is := is) (q := q); omega
    · rw [s1]; rfl
    · exact absurd h (Nat.lt_irrefl 0)
  obtain ⟨τ, t1, t2, t3⟩ := sec_loop hT hN hp hpb hI hl (by omega) hS hTI c 0 (S c) (stG Γ2) (by omega) (by
    have := row_rD0 (k := 0) (fun z _ hz => hS z hz) c 0 (by omega) (by omega)
    exact agA_rD0 (by rw [s1]; exact hA0) this) rfl (by rw [s1]; exact (congrArg Prod.fst dfl).trans h14) hD hG hTA0 hTC hST (by rw [stG_o (by omega), r1 1 (by omega)]; rfl)
  have e24 : (S c).1 24 = J (lsX ls c 0) := by
    have := row_rD0 (k := 0) (fun z _ hz => hS z hz) c 0 (by omega) (by omega)
    rw [this.1 24 (by omega) (by omega) (by omega), s1, dS.1 24 (by omega) (by omega) (by omega)]; exact h24
  have hrDS : rDS σ τ := rDS_of (rD0_trans dS (by rw [← s1]; exact row_rD0 (k := 0) (fun z _ hz => hS z hz) c 0 (by omega) (by omega))) t2
  refine ⟨S c, τ, eD, by rw [dSeen_eq, e24]; exact t1 FU (FU_gt (by omega)), hrDS, ?_⟩
  rcases t3 with ⟨z1, z2, Θ, z3, z4, z5, z6, z7⟩ | ⟨f, w, f1, f2, f3, f4⟩
  · refine Or.inl ⟨by rw [z1, s1, dfl], Γ2, Θ, t, S, ?_, g2, by rw [h0, hcT] at z3; exact z3, z4, hG, z5, ?_, hS, t2, by rw [z2, s1, dfl]; exact h14, hcnt, htab⟩
    · rw [eG]
      obtain ⟨F, hF, hF2⟩ := FU_1
      rw [h0, hcT] at z3
      have := z3.2.1 (F + 1 - T)
      rw [show F + 1 - T + (T - 0) = FU by omega] at this
      rw [this, show F + 1 - T = (F + 1 - T - 2) + 2 by omega]
      exact W2_end hT z5.1 z5.2.1 hkT _
    · exact DR_keep z6 (fun k k1 k2 => t2.1 k (by omega) (by omega) (by omega) (by omega)) (t2.2 28 (by omega)) (t2.2 29 (by omega)) (fun _ _ => rfl) (fun _ _ => rfl)
  · refine Or.inr ⟨f, w, f1, by omega, ?_, f4⟩
    rw [eG]
    obtain ⟨-, d, hd, hh⟩ := f3
    rw [h0] at hh
    refine Ok_mono (hh FU (Nat.le_of_lt (FU_gt (by omega)))) (fun v hv => ⟨hv.1, hv.2.1, cfM_trans (fun r r1' r3' r4' r5' r6' r7' => ?_) hv.2.2⟩)
    rw [stG_o r3', r1 r r3']
    simp only [cI_r, if_neg r3']
