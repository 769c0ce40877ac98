/-! what a clean second going leaves for the meanings -/
variable {T N : Nat} {kd vl rv : Nat → Int} {pl : Nat → Nat}
theorem pack {σ : MS} {Γ : HS} {c : Nat} {ls is ps ds os es : Nat → Nat} {τ : MS} (hT : TKE T N kd vl rv pl) (hN : NMI T kd vl rv) (hp : plm T pl) (hpb : ∀ i, i ≤ T + 1 → pl i ≤ 5000) (hI : ITS kd vl rv pl σ Γ c ls is ps ds os es) (h0 : ds 0 = 0 ∧ os 0 = 0 ∧ es 0 = 0) (hl : ls c ≤ 39000) (h0i : is 0 = 0) (hcT : is c = T) (hS : SecC T N kd vl rv pl σ Γ c ls is τ) (hr : rDS σ τ) : ∃ (G : Nat → HS) (Θ : HS), F_X4_giveAll Γ = E2 Θ ∧ G T = Θ ∧ GZ T kd vl (G 0) ∧ MEN T N kd vl rv pl G Θ Γ σ τ (DNd kd σ Γ c ls is) ∧ VFE T kd vl rv Θ σ τ ∧ AGM σ τ ∧ flt τ = flt σ ∧ G0 T N kd vl pl Θ ∧ DR T kd vl rv is c τ Θ ∧ (∀ r, r ≠ 3 → r ≠ 4 → Θ r = Γ r) ∧ (∀ k, k ≠ 0 → k ≠ 7 → k ≠ 12 → (Θ 4).2.1 k = (Γ 4).2.1 k) ∧ (Θ 4).1 = (Γ 4).1 ∧ (∀ z, z < c → 230 ≤ kd (is z) ∧ kd (is z) ≤ 237) ∧ (∃ S, SDN T N kd vl rv pl σ Γ c ls is S τ Θ) ∧ ∃ Γ2 t, gaR T kd vl c is (cI' (cI' Γ 3 16 0) 3 17 (-1)) Γ2 t ∧ G 0 = stG Γ2 := by
  have hT1 := hT.1
  obtain ⟨hfl, Γ2, Θ, t, S, s1, s2, s3, s4, s5, s6, s7, s8, s9, s10, s11, s12⟩ := hS
  have hm := ITS_lt hI
  have hIk : ∀ z, z < c → 230 ≤ kd (is z) ∧ kd (is z) ≤ 237 := fun z hz => by
    obtain ⟨j1, j2, -⟩ := ITM_noI (hI z hz).1
    exact ⟨j1, j2⟩
  have hI2 : ∀ z, z < c → kd (is z) ≤ 235 → kd (is z + 1) = 2 ∧ is z + 1 ≤ T := fun z hz hk => by
    obtain ⟨j1, j2, j3, -⟩ := ITM_noI (hI z hz).1
    have a := hm.1 z hz
    have b := is_le hm.1 (a := z + 1) (b := c) (by omega) (Nat.le_refl _)
    exact ⟨j3 (by omega), by omega⟩
  have hc4 : c ≤ 4500 := by
    have := is_le hm.1 (a := 0) (b := c) (by omega) (Nat.le_refl _); omega
  have hSD : SDN T N kd vl rv pl σ Γ c ls is S τ Θ := ⟨s8, s11, hm.1, by omega, s10, hc4, s12, s9, s7.2.2.2, hIk, hI2⟩
  obtain ⟨G, g1, g2, g3⟩ := GRW_of s3 s5.1 s6.2.1
  have hA : AGM σ τ := ⟨fun k hk => hr.2 k (by omega) (by omega) (by omega) (by omega), fun y _ => by rw [hr.2 20 (by omega) (by omega) (by omega) (by omega)], fun y _ _ _ _ => by rw [hr.2 21 (by omega) (by omega) (by omega) (by omega)]⟩
  refine ⟨G, Θ, s1, g2, ?_, ⟨hT, hN, hp, hpb, ⟨fun u hu hq => g_q hT g3 hu (qs_qk hq), KE_of hT hp hSD, DFE_of hT hp hSD hI h0 hl, lims_of hT hp hSD⟩, g3⟩, VFE_of hT hp hSD hI hl s7.2.2.1, hA, hfl, s6, s7, fun r r3 r4 => ?_, fun k k0 k7 k12 => ?_, ?_, hIk, ⟨S, hSD⟩, Γ2, t, s2, g1⟩
  · rw [g1]
    exact ⟨s5.2.2.2.2, s5.2.2.1, s5.2.2.2.1⟩
  · rw [s4.1 r r3 r4, stG_o r3, s2.1 r r3, cI_r, if_neg r3, cI_r, if_neg r3]
  · rw [s4.2.2.2.1 k k0 k7 k12, stG_o (by omega), s2.1 4 (by omega), cI_r, if_neg (by omega), cI_r, if_neg (by omega)]
  · rw [s4.2.2.2.2, stG_o (by omega), s2.1 4 (by omega), cI_r, if_neg (by omega), cI_r, if_neg (by omega)]
/-- no item begins behind an `exit` word -/
theorem ITM_end {σ : MS} {Γ : HS} {x hi i j p q nd no ne : Nat} (h : ITM kd vl rv pl σ Γ x hi i j p q nd no ne) : kd (j - 1) = 59 ∨ kd (j - 1) = 125 := by
  have rt : ∀ {a x lo hi b j p q : Nat}, RTN kd vl rv pl σ Γ a x lo hi b j p q → kd (j - 1) = 59 ∨ kd (j - 1) = 125 := by
    rintro a x lo hi b j p q ⟨hh, y, m, r, a1, a2, a3, -⟩
    exact STX_last _ _ _ _ _ _ _ _ _ a3
  rcases h with ⟨-, -, a⟩ | ⟨-, -, a⟩ | ⟨-, a⟩ | ⟨-, a⟩ | ⟨-, a⟩ | a | a | a
  · exact Or.inr a.2.2.2.2.2.1
  · exact Or.inr a.2.2.2.2.2.1
  · exact Or.inl a.2.2.1
  · exact Or.inl a.2.2.2.1
  · obtain ⟨b1, b2, b3, b4, b5, b6, b7, -⟩ := a
    left; rw [b7, show i + 6 - 1 = i + 5 by omega]; exact b6
  · obtain ⟨k0, k1, k2, k3, k4, k5, k6, cc, b, k7, k8, k9, -⟩ := a
    exact rt k9
  · obtain ⟨k0, k1, k2, k3, k4, k5, cc, k6, k7, k8, k9, -⟩ := a
    exact rt k9
  · exact rt a.2.2.2.1
theorem hpre_of {σ : MS} {Γ : HS} {c : Nat} {ls is ps ds os es : Nat → Nat} (hI : ITS kd vl rv pl σ Γ c ls is ps ds os es) (h0i : is 0 = 0) : ∀ z, z < c → is z ≠ 0 → kd (is z - 1) ≠ 239 := by
  intro z hz hne
  obtain ⟨y, rfl⟩ : ∃ y, z = y + 1 := by
    cases z with
    | zero => exact absurd h0i hne
    | succ y => exact ⟨y, rfl⟩
  have := ITM_end (hI y (by omega)).1
  omega
/-- the reference's meanings, whole -/
theorem r_resolve {σ : MS} {Γ : HS} {c : Nat} {ls is ps ds os es : Nat → Nat} {τ : MS} {G : Nat → HS} {Θ : HS} (hI : ITS kd vl rv pl σ Γ c ls is ps ds os es) (hl : ls c ≤ 39000) (h0i : is 0 = 0) (hcT : is c = T) (h24 : τ.1 24 = J (lsX ls c 0)) {TX : Nat → Int → Int → Prop} (hTX : ∀ t, t ≤ T → kd t = 4 → TX (pl t) (rv t) (vl t)) (hE : MEN T N kd vl rv pl G Θ Γ σ τ (DNd kd σ Γ c ls is)) (hV : VFE T kd vl rv Θ σ τ) (hA : AGM σ τ) (hZ : GZ T kd vl (G 0)) : ∃ υ, F_X12_resolve τ = some ((0 : Int32), υ) ∧ rJ (ls 0) (ls c) τ υ ∧ AGM σ υ ∧ NT pl (badW G Θ Γ kd vl c is) 0 T (flt τ) (flt υ) ∧ (∀ z, z ≤ c → GZ T kd vl (G (is z))) ∧ (∀ z, z < c → ∃ b, HBZ T vl G kd is z b) ∧ ((∀ w, w < T → ¬ badW G Θ Γ kd vl c is w) → ∀ z, z < c → 235 ≤ kd (is z) → RTQ (op1 Γ) (lk3 G Θ Γ kd vl) υ.2 (DNd kd σ Γ c ls is) TX (kd (is z) = 235) (ls z) (ls z) (ls (z + 1)) (ps z) (ps (z + 1))) := by
  have hT1 := hE.1.1
  have hm := ITS_lt hI
  have hct := is_le hm.1 (a := 0) (b := c) (by omega) (Nat.le_refl _)
  obtain ⟨υ, a1, a2, a3, a4, a5, a6, a7⟩ := r_items hE hTX hV hI hl (by omega) (hpre_of hI h0i) c 0 τ (by omega) hA ⟨rfl, rfl, rfl⟩ (by rw [h0i]; exact hZ)
  rw [h0i, hcT] at a4 a7
  exact ⟨υ, by rw [resolve_eq, h24]; exact a1 FU (FU_gt (by omega)), a2, a3, a4, fun z hz => a5 z (Nat.zero_le _) hz, fun z hz => a6 z (Nat.zero_le _) hz, fun hn z hz => a7 (fun w _ w2 => hn w w2) z (Nat.zero_le _) hz⟩
