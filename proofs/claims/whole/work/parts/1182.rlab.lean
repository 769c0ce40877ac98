/-! every routine, with what is known at each place -/
variable {T N : Nat} {kd vl rv : Nat → Int} {pl : Nat → Nat}
/-- a routine's labels: at its beginning, its parameters at most -/
def RLB (Γs : HS) (G : Nat → HS) (Θ : HS) (kd vl : Nat → Int) (k : Int) (cc p q : Nat) : Prop := ∃ S : Nat → Nat → Prop, FLS Γs (LDW G Θ kd vl) S p q p q ∧ ∀ u, S p u → k = 235 ∧ u < cc
theorem rlb_of {G : Nat → HS} {Θ Γs : HS} {σs σK : MS} {DN : Nat → Nat → Nat → Prop} (hE : MEN T N kd vl rv pl G Θ Γs σs σK DN) {a x lo hi b j p q cc : Nat} {k : Int} (hR : RTN kd vl rv pl σs Γs a x lo hi b j p q) (hj : j ≤ T) (hb1 : 1 ≤ b) {s m : Nat} {ts sl : Nat → Nat} (hC : SC T kd vl (G b) s m 0 ts sl) (h9 : (G b 3).1 9 = J (-1)) (hs : ∀ u, LB s sl u → k = 235 ∧ u < cc) : RLB Γs G Θ kd vl k cc p q := by
  obtain ⟨h, y, m', r, ⟨a1, a1'⟩, a2, a3, a4, a5, a6, a7, a8, a9⟩ := hR
  obtain ⟨B, f⟩ := flx0 (Θ := Θ) hE a3 a1' hj hb1 hC h9
  obtain ⟨S, s1, s2⟩ := fl_rtn f a8
  subst a2
  exact ⟨S, s2, fun u hu => hs u (by rw [s1] at hu; exact hu)⟩
theorem rlb_each {G : Nat → HS} {Θ Γs : HS} {σs σK : MS} {DN : Nat → Nat → Nat → Prop} (hE : MEN T N kd vl rv pl G Θ Γs σs σK DN) {ne i j x hi p q : Nat} (hI : EAD kd vl rv pl σs Γs x hi i j p q ne) (hj : j ≤ T) (hZ : GZ T kd vl (G i)) : RLB Γs G Θ kd vl (kd i) 0 p q := by
  obtain ⟨hT, hN, hp, hpb, hX, hG⟩ := id hE
  obtain ⟨k0, k1, k2, k3, -⟩ := hI
  have hbj : i + 1 < j := by
    obtain ⟨h, y, m, r, ⟨a1, a1'⟩, a2, a3, -⟩ := k3
    have := STX_rng a3; omega
  obtain ⟨g1, g2, g3, g4⟩ := g_rule hT hG (i := i) (b := i + 1) (Nat.le_refl _) (by omega) (Or.inr k0) (fun t t1 t2 => by omega) hZ
  exact rlb_of (Θ := Θ) hE k3 hj (by omega) g1 g2 (fun u h => by obtain ⟨k, hk, -⟩ := h; omega)
theorem rlb_on {G : Nat → HS} {Θ Γs : HS} {σs σK : MS} {DN : Nat → Nat → Nat → Prop} (hE : MEN T N kd vl rv pl G Θ Γs σs σK DN) {no i j x hi p q : Nat} (hI : OND kd vl rv pl σs Γs x hi i j p q no) (hj : j ≤ T) (hZ : GZ T kd vl (G i)) : RLB Γs G Θ kd vl (kd i) 0 p q := by
  obtain ⟨hT, hN, hp, hpb, hX, hG⟩ := id hE
  obtain ⟨k0, k1, k2, k3, k4, k5, cc, k6, k7, k8, k9, -⟩ := hI
  have hbj : i + 2 + cc < j := by
    obtain ⟨h, y, m, r, ⟨a1, a1'⟩, a2, a3, -⟩ := k9
    have := STX_rng a3; omega
  have hwq := WHS_words k8
  obtain ⟨g1, g2, g3, g4⟩ := g_rule hT hG (i := i) (b := i + 2 + cc) (by omega) (by omega) (Or.inl k0) (fun t t1 t2 => by
    by_cases e : t = i + 1
    · rw [e]; exact qh_k k1 (by omega)
    · exact qp_qh (hwq t (by omega) t2)) hZ
  exact rlb_of (Θ := Θ) hE k9 hj (by omega) g1 g2 (fun u h => by obtain ⟨k, hk, -⟩ := h; omega)
theorem rlb_def {G : Nat → HS} {Θ Γs : HS} {σs σK : MS} {DN : Nat → Nat → Nat → Prop} (hE : MEN T N kd vl rv pl G Θ Γs σs σK DN) {nd i j x hi p q : Nat} (hI : DFD kd vl rv pl σs Γs x hi i j p q nd) (hj : j ≤ T) (hZ : GZ T kd vl (G i)) : ∃ cc, cc ≤ 6 ∧ (nd < 100 → (Γs 5).2.1 4 nd = J (cc : Nat)) ∧ RLB Γs G Θ kd vl (kd i) cc p q := by
  obtain ⟨hT, hN, hp, hpb, hX, hG⟩ := id hE
  obtain ⟨k0, k1, k2, k3, k4, k5, k6, cc, b, k7, k8, k9, k10, k11⟩ := hI
  have hbj : b < j ∧ kd b = 123 := by
    obtain ⟨h, y, m, r, ⟨a1, a1'⟩, a2, a3, -⟩ := k9
    have := STX_rng a3
    exact ⟨by omega, STX_first _ _ _ _ _ _ _ _ _ a3 (Or.inl rfl)⟩
  have hNS : NMS kd rv pl σs (x + 2) cc (i + 3) := by
    rcases k8 with ⟨c0, -⟩ | ⟨-, -, -, h⟩
    · intro k hk; omega
    · exact h
  have hb3 : i + 3 + 2 * cc ≤ b ∧ b ≤ i + 4 + 2 * cc ∧ kd (i + 3 + 2 * cc) ≠ 2 := by
    rcases k8 with ⟨c0, h, -⟩ | ⟨c1, h, -⟩
    · refine ⟨by omega, by omega, ?_⟩
      rw [c0, show i + 3 + 2 * 0 = b - 1 by omega, k7]; omega
    · refine ⟨by omega, by omega, ?_⟩
      rw [← h, hbj.2]; omega
  have hqw : ∀ t, i + 1 ≤ t → t < b → qh (kd t) := fun t t1 t2 => by
    by_cases e1 : t = i + 1
    · rw [e1]; exact qh_k k1 (by omega)
    by_cases e2 : t = i + 2
    · rw [e2]; exact qh_k k2 (by omega)
    by_cases e3 : t = b - 1
    · rw [e3]; exact qh_k k7 (by omega)
    rcases NMS_words hNS t (by omega) (by omega) with e | e
    · exact qh_k e (by omega)
    · exact qh_k e (by omega)
  obtain ⟨g0, g1, g2, g3, g4, -⟩ := g_def hT hG (i := i) (b := b) (c := cc) hb3.1 (by omega) k0 (fun z' hz' => (hNS z' hz').2.1) hb3.2.2 hqw hZ
  exact ⟨cc, g0, k11, rlb_of (Θ := Θ) hE k9 hj (by omega) g1 g2 (fun u h => by
    obtain ⟨k, hk, e⟩ := h
    have e : k = u := e
    exact ⟨k0, by omega⟩)⟩
/-- all routines over linked code, with their labels -/
theorem lab_all {G : Nat → HS} {Θ Γs : HS} {σs σK : MS} {cl : List Int} {c : Nat} {ls is ps ds os es : Nat → Nat} {S0 : Nat → MS} (hT : TKE T N kd vl rv pl) (hE : MEN T N kd vl rv pl G Θ Γs σs σK (DNd kd σs Γs c ls is)) (hSD : SDN T N kd vl rv pl σs Γs c ls is S0 σK Θ) (hI : ITS kd vl rv pl σs Γs c ls is ps ds os es) (hcT : is c = T) (hp0 : ps 0 = 0) (hl : (Γs 5).1 1 = J (ps c : Nat)) (hln : ps c ≤ 39000) {K : Nat → HS} (hK : ∀ z, z < c → CIT T G Θ kd vl cl is z (K z) (K (z + 1))) (h5 : (K c) 5 = Γs 5) (hb : ∀ w, w < T → ¬ badW G Θ Γs kd vl c is w) (hZ : ∀ z, z ≤ c → GZ T kd vl (G (is z))) {Δ : HS} (hlk : F_X0_link (K c) = some ((0 : Int32), Δ)) : ∀ z, z < c → 235 ≤ kd (is z) → ∃ (D : Nat → Nat → Prop) (cc : Nat), cc ≤ 6 ∧ (kd (is z) = 235 → ds z < 100 → (Γs 5).2.1 4 (ds z) = J (cc : Nat)) ∧ (∀ u, D (ps z) u → kd (is z) = 235 ∧ u < cc) ∧ ∀ (R : Nat → Nat → Int32) (DN' : Nat → Nat → Nat → Prop) (TX : Nat → Int → Int → Prop) (Dq : Prop) (x lo hi : Nat), RTQ (op1 Γs) (lk3 G Θ Γs kd vl) R DN' TX Dq x lo hi (ps z) (ps (z + 1)) → RTQ (I1 Δ D) (I3 Δ D (cN kd is 2 c) (cN kd is 3 c)) R DN' TX Dq x lo hi (ps z) (ps (z + 1)) := by
  obtain ⟨Δ', l1, l2, l3, l4, l5, l6, BD, hBD, hBz, hNO⟩ := linked0 hT hE hSD.2.2.2.2.2.2.2.2.1 hI hcT hp0 hl hln hK h5 hb
  rw [hlk] at l1
  have eΔ : Δ = Δ' := by injection l1 with l1; injection l1
  subst eΔ
  intro z hz hk
  have hm := ITS_lt hI
  have hjT : is (z + 1) ≤ T := by
    have := is_le hm.1 (a := z + 1) (b := c) (by omega) (Nat.le_refl _); omega
  have psm : ∀ d z, z + d ≤ c → ps z ≤ ps (z + d) := by
    intro d
    induction d with
    | zero => intro z _; exact Nat.le_refl _
    | succ d ih => intro z hz; have := ih z (by omega); have b := (hI (z + d) (by omega)).2.2.2.2.1; rw [show z + (d + 1) = z + d + 1 by omega]; omega
  have hq := psm (c - (z + 1)) (z + 1) (by omega)
  rw [show z + 1 + (c - (z + 1)) = c by omega] at hq
  have hR : ∃ cc, cc ≤ 6 ∧ (kd (is z) = 235 → ds z < 100 → (Γs 5).2.1 4 (ds z) = J (cc : Nat)) ∧ RLB Γs G Θ kd vl (kd (is z)) cc (ps z) (ps (z + 1)) := by
    rcases (hI z hz).1 with a | a | a | a | a | a | a | a
    · omega
    · omega
    · have := a.2.1; omega
    · have := a.2.1; omega
    · have := a.2.1; omega
    · obtain ⟨cc, c1, c2, c3⟩ := rlb_def (Θ := Θ) hE a hjT (hZ z (by omega))
      exact ⟨cc, c1, fun _ => c2, c3⟩
    · have k0 := a.1
      exact ⟨0, by omega, fun h => by omega, rlb_on (Θ := Θ) hE a hjT (hZ z (by omega))⟩
    · have k0 := a.1
      exact ⟨0, by omega, fun h => by omega, rlb_each (Θ := Θ) hE a hjT (hZ z (by omega))⟩
  obtain ⟨cc, c1, c2, S, s1, s2⟩ := hR
  have hnum := nums_of hT hE.2.2.1 hSD
  obtain ⟨BD', d1, d2⟩ := lab_bdc (nV := cN kd is 2 c) (nA := cN kd is 3 c) hBD (fun r o i hr hl hn ho hi => by
    obtain ⟨k2, iT⟩ := hNO r o i hr hl hn ho hi
    have sr : ∀ k : Int, k ≠ 7 → srt G Θ kd vl i = k → ksF Θ vl i = k ∧ nmb G Θ kd vl i = nsF Θ vl i := fun k k7 hs => by
      unfold srt at hs
      unfold nmb
      by_cases q1 : kd (i - 1) = 242
      · rw [if_pos q1] at hs; omega
      · rw [if_neg q1] at hs ⊢
        by_cases q2 : snF G vl i = 0
        · rw [if_pos q2] at hs ⊢; exact ⟨hs, rfl⟩
        · rw [if_neg q2] at hs; omega
    refine ⟨fun h => ?_, fun h h5 => ?_⟩
    · have hs : srt G Θ kd vl i = 4 := by
        unfold lnkO at h; unfold isNO at hn
        by_cases q1 : o = 49
        · rw [if_pos q1] at h
          by_cases q2 : srt G Θ kd vl i = 4
          · exact q2
          · rw [if_neg q2] at h
            by_cases q3 : srt G Θ kd vl i = 7
            · rw [if_pos q3] at h; omega
            · rw [if_neg q3] at h; omega
        · rw [if_neg q1] at h
          by_cases q4 : o = 50
          · rw [if_pos q4] at h
            by_cases q2 : srt G Θ kd vl i = 4
            · exact q2
            · rw [if_neg q2] at h; omega
          · rw [if_neg q4] at h; omega
      obtain ⟨e1, e2⟩ := sr 4 (by omega) hs
      rw [e2]; exact (hnum i (by omega) k2).1 e1
    · obtain ⟨e1, e2⟩ := sr 5 (by omega) h5
      rw [e2]; exact (hnum i (by omega) k2).2 e1) s1 hq (by omega) (hBz z (by omega))
  exact ⟨labD S (ps (z + 1)), cc, c1, c2, fun u hu => s2 u hu.2, fun R DN' TX Dq x lo hi h => (RTQ_bd d1 h (Nat.le_refl _) d2).1⟩
