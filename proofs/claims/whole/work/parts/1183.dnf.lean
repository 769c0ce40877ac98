/-! what is known of every routine of a built text -/
variable {T N : Nat} {kd vl rv : Nat → Int} {pl : Nat → Nat}
theorem ls_le {σs : MS} {Γs : HS} {c : Nat} {ls is ps ds os es : Nat → Nat} (hI : ITS kd vl rv pl σs Γs c ls is ps ds os es) {z : Nat} (hz : z < c) : ls (z + 1) ≤ ls c ∧ ls z < ls (z + 1) := by
  have := is_le (ITS_lt hI).2 (a := z + 1) (b := c) (by omega) (Nat.le_refl _)
  have := (ITS_lt hI).2 z hz
  omega
theorem DNF_of {G : Nat → HS} {Θ Γs : HS} {σs σK υ : MS} {cl : List Int} {c : Nat} {ls is ps ds os es : Nat → Nat} {S0 : Nat → MS} {TX : Nat → Int → Int → Prop} (hT : TKE T N kd vl rv pl) (hE : MEN T N kd vl rv pl G Θ Γs σs σK (DNd kd σs Γs c ls is)) (hSD : SDN T N kd vl rv pl σs Γs c ls is S0 σK Θ) (hI : ITS kd vl rv pl σs Γs c ls is ps ds os es) (h0 : ds 0 = 0 ∧ os 0 = 0 ∧ es 0 = 0) (hcT : is c = T) (hp0 : ps 0 = 0) (hl : (Γs 5).1 1 = J (ps c : Nat)) (hln : ps c ≤ 39000) (hls : ls c ≤ 39000) {K : Nat → HS} (hK : ∀ z, z < c → CIT T G Θ kd vl cl is z (K z) (K (z + 1))) (h5 : (K c) 5 = Γs 5) (hb : ∀ w, w < T → ¬ badW G Θ Γs kd vl c is w) (hZ : ∀ z, z ≤ c → GZ T kd vl (G (is z))) {Δ : HS} (hlk : F_X0_link (K c) = some ((0 : Int32), Δ)) (hRT : ∀ z, z < c → 235 ≤ kd (is z) → RTQ (op1 Γs) (lk3 G Θ Γs kd vl) υ.2 (DNd kd σs Γs c ls is) TX (kd (is z) = 235) (ls z) (ls z) (ls (z + 1)) (ps z) (ps (z + 1))) (hA : AGM σs υ) {R : Nat → Nat → Int32} (hR : ∀ k y, k ≤ 22 → y < ls c → R k y = υ.2 k y) (hΔ : ∀ k, k ≠ 0 → (Δ 5).2.1 k = (Γs 5).2.1 k) : DNF R (cN kd is 2 c) (cN kd is 3 c) (ps c) TX (DNd kd σs Γs c ls is) Δ ∧ ∀ z, z < c → (kd (is z) = 236 ∨ kd (is z) = 237) → ∃ D : Nat → Nat → Prop, (∀ u, ¬ D (ps z) u) ∧ RTQ (I1 Δ D) (I3 Δ D (cN kd is 2 c) (cN kd is 3 c)) R (DNd kd σs Γs c ls is) TX (kd (is z) = 235) (ls z) (ls z) (ls (z + 1)) (ps z) (ps (z + 1)) := by
  have hlab := lab_all hT hE hSD hI hcT hp0 hl hln hK h5 hb hZ hlk
  have RT : ∀ z, z < c → 235 ≤ kd (is z) → RTQ (op1 Γs) (lk3 G Θ Γs kd vl) R (DNd kd σs Γs c ls is) TX (kd (is z) = 235) (ls z) (ls z) (ls (z + 1)) (ps z) (ps (z + 1)) := fun z hz hk => by
    have hle := ls_le hI hz
    exact RTQ_R (hRT z hz hk) ⟨Nat.le_refl _, hle.2⟩ (fun k y h1 h2 h3 => hR k y h1 (by omega))
  have psm : ∀ d z, z + d ≤ c → ps z ≤ ps (z + d) := by
    intro d
    induction d with
    | zero => intro z _; exact Nat.le_refl _
    | succ d ih => intro z hz; have := ih z (by omega); have b := (hI (z + d) (by omega)).2.2.2.2.1; rw [show z + (d + 1) = z + d + 1 by omega]; omega
  refine ⟨?_, fun z hz hk => ?_⟩
  · rintro k z C ⟨w, w1, w2, rfl, w4, w5, w6, w7, w8, w9⟩
    have hle := ls_le hI w1
    have hd := (ds_cN hI h0 hSD.2.2.2.2.2.2.2.2.2.1 w (by omega)).1
    have hq := psm (c - (w + 1)) (w + 1) (by omega)
    rw [show w + 1 + (c - (w + 1)) = c by omega] at hq
    obtain ⟨hS, hS0, hm, hi, hfl, hc, -⟩ := hSD
    have hlm := row_lim hE.2.2.1 hS hS0 hm hi hfl hc w1
    unfold limK at hlm
    rw [if_neg (by omega), if_neg (by omega), if_neg (by omega), if_neg (by omega), if_pos w2, w2] at hlm
    have hlm : cN kd is 4 w < 100 := hlm
    obtain ⟨D, cc, c1, c2, c3, c4⟩ := hlab w w1 (by omega)
    have ecc : cc = C := by
      have := c2 w2 (by omega)
      rw [hd, ← w4, w5, J_eq (by omega) (by omega) (by omega) (by omega)] at this
      omega
    subst ecc
    have hQ := c4 _ _ _ _ _ _ _ (RT w w1 (by omega))
    have hP : PRM R (ls w) (ls (w + 1)) := by
      obtain ⟨h, y, m, r, lo', r1, r2, r3, r4, r5, r6, r7, r8, r9, r10⟩ := hQ
      exact r10 w2
    -- the list in the text
    have hD : ∃ p q, DFD kd vl rv pl σs Γs (ls w) (ls (w + 1)) (is w) (is (w + 1)) p q (ds w) := by
      rcases (hI w w1).1 with a | a | a | a | a | a | a | a
      · omega
      · omega
      · have := a.2.1; omega
      · have := a.2.1; omega
      · have := a.2.1; omega
      · exact ⟨_, _, a⟩
      · have := a.1; omega
      · have := a.1; omega
    obtain ⟨p0, q0, k0, k1, k2, k3, k4, k5, k6, cc', b, k7, k8, k9, k10, k11⟩ := hD
    have ec : cc' = cc := by
      have := k11 (by omega)
      rw [hd, ← w4, w5, J_eq (by omega) (by omega) (by omega) (by
        rcases k8 with ⟨h, -⟩ | ⟨h, -, -, hh⟩
        · omega
        · have := k9
          obtain ⟨h, y, m, r, ⟨a1, a1'⟩, a2, a3, -⟩ := k9
          have := STX_rng a3
          omega)] at this
      omega
    subst ec
    have hNS : NMS kd rv pl σs (ls w + 2) cc' (is w + 3) := by
      rcases k8 with ⟨c0, -⟩ | ⟨-, -, -, h⟩
      · intro k hk; omega
      · exact h
    obtain ⟨C3, z1, z2, z3, z4⟩ := hP
    have e20 : R 20 (ls w) = J (if 0 < cc' then ((ls w + 2 : Nat) : Int) else -1) := by
      rw [hR 20 _ (by omega) (by omega), ag_20 hA k3 (by omega)]; exact w9
    have e22 : ∀ t, t < cc' → R 22 (ls w + 2 + t) = J (if t + 1 < cc' then ((ls w + 2 + t + 1 : Nat) : Int) else -1) := fun t ht => by
      obtain ⟨-, -, s5, -⟩ := hNS t ht
      have h17 : ls w + 2 + t < ls c := by
        obtain ⟨h, y, m, r, ⟨a1, a1'⟩, a2, a3, -⟩ := k9
        have := STX_rng a3
        omega
      rw [hR 22 _ (by omega) h17, ag_k hA (by omega), s5]
      split <;> rfl
    have eC : C3 = cc' := by
      rw [z3] at e20
      by_cases h1 : C3 = 0
      · by_cases h2 : cc' = 0
        · omega
        · rw [if_neg (by omega), if_pos (by omega), J_eq (by omega) (by omega) (by omega) (by omega)] at e20; omega
      · by_cases h2 : cc' = 0
        · rw [if_pos (by omega), if_neg (by omega), J_eq (by omega) (by omega) (by omega) (by omega)] at e20; omega
        · rcases Nat.lt_trichotomy C3 cc' with h | h | h
          · exfalso
            have e1 := (z4 (C3 - 1) (by omega)).2
            have e2 := e22 (C3 - 1) (by omega)
            rw [e1, if_neg (by omega), if_pos (by omega), J_eq (by omega) (by omega) (by omega) (by omega)] at e2; omega
          · exact h
          · exfalso
            have e1 := (z4 (cc' - 1) (by omega)).2
            have e2 := e22 (cc' - 1) (by omega)
            rw [e1, if_pos (by omega), if_neg (by omega), J_eq (by omega) (by omega) (by omega) (by omega)] at e2; omega
    subst eC
    refine ⟨c1, by omega, by omega, ⟨fun i => ls w + 2 + i, ?_, fun i hi => ⟨by show ls w + 2 + i < 39990; omega, (z4 i hi).1, ?_⟩⟩, ps w, ps (w + 1), ls w, ls (w + 1), D, kd (is w) = 235, ?_, ?_, by omega, by omega, fun u hu => (c3 u hu).2, w2, hQ⟩
    · rw [z3]
    · rw [(z4 i hi).2]
      congr 1
    · rw [hΔ 4 (by omega)]; exact w5
    · rw [hΔ 2 (by omega)]
      have ht := ((ITM_rtn (hI w w1).1).2 (by omega))
      obtain ⟨-, -, -, -, ht⟩ := ht
      have er : rti (kd (is w)) (ds w) (os w) (es w) = k := by
        unfold rti
        rw [if_pos w2, if_pos (by omega)]; omega
      rw [er] at ht
      exact (ht (by omega)).1
  · obtain ⟨D, cc, c1, c2, c3, c4⟩ := hlab z hz (by omega)
    exact ⟨D, fun u hu => by have := (c3 u hu).1; omega, c4 _ _ _ _ _ _ _ (RT z hz (by omega))⟩
