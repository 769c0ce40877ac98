/-! laying's join: a room or thing, from what is known of a built text -/
variable {T N : Nat} {kd vl rv : Nat → Int} {pl : Nat → Nat}
theorem ly_place (hT : TKE T N kd vl rv pl) (hp : plm T pl) (hpb : ∀ i, i ≤ T + 1 → pl i ≤ 5000) {b : Nat → Int} {L m : Nat} {nm : Nat → List Int} {cl : List Int} (hF : NMF b L T m nm cl kd vl rv pl) {G : Nat → HS} {Θ Γs : HS} {σs τ ρ : MS} {c z w0 : Nat} {ls is ps ds os es : Nat → Nat} {S : Nat → MS} {K : Nat → HS} (hG : GRW T N kd vl pl G) (hD : SDN T N kd vl rv pl σs Γs c ls is S τ Θ) (hr : rDS σs τ) (hl : ls c ≤ 39000) (hI : ITS kd vl rv pl σs Γs c ls is ps ds os es) (hZ : ∀ z, z ≤ c → GZ T kd vl (G (is z))) (hbad : ∀ t, t < T → ¬ badW G Θ Γs kd vl c is t) (hK : CIT T G Θ kd vl cl is z (K z) (K (z + 1))) (hz : z < c) (hlz : ls (z + 1) ≤ 39000) (hj : is (z + 1) ≤ T) (hk : kd (is z) = 230 ∨ kd (is z) = 231) (hA : AGM σs ρ) (hKE : KE T kd vl rv Θ ρ) (hrn : rnam m nm ρ) (c3 : (K z 4).2.1 3 (inum kd is z) = J (-1)) (c6 : ∀ d, 1 ≤ d → d ≤ 6 → (K z 4).2.1 6 (6 * inum kd is z + d - 1) = J ((0 : Nat) : Int)) (c5 : (K z 4).2.1 5 (inum kd is z) = J ((0 : Nat) : Int)) (c4 : (K z 4).2.1 4 (inum kd is z) = 0) (z122 : ρ.2 122 (inum kd is z) = 0) (z52 : ρ.2 52 (inum kd is z) = 0) (z7 : ∀ y, y < 7 → ρ.2 51 (7 * inum kd is z + y) = 0 ∧ ρ.2 53 (7 * inum kd is z + y) = 0) {W : List Int} {ow : Nat → List (List Int)} (hw : WSO (K z) W ow) (hb : WOB ρ ow) (h0 : (ow (inum kd is z)).length = 0) (hW : W.length ≤ w0) (hw0 : w0 + 20 ≤ 1999) : ∃ (ρ' : MS) (W' : List Int) (ow' : Nat → List (List Int)), F_X12_layOne (J (ls z : Nat)) ρ = some ((0 : Int32), ρ') ∧ OBF T kd rv vl pl ρ' (K (z + 1)) (inum kd is z) ∧ PFP (inum kd is z) ρ ρ' ∧ ρ'.1 63 = fRm ρ (kd (is z) - 229) (inum kd is z) ∧ WSO (K (z + 1)) W' ow' ∧ WOB ρ' ow' ∧ (∀ o, o ≠ inum kd is z → ow' o = ow o) ∧ W'.length ≤ w0 + 10 ∧ AGM σs ρ' ∧ KE T kd vl rv Θ ρ' ∧ rnam m nm ρ' ∧ PRE W W' ∧ PLX kd vl Θ (is z) (is (z + 1)) (kd (is z) - 229) ρ' (K (z + 1)) (inum kd is z) (ow' (inum kd is z)).length := by
  have hN := INM_of hT hp hD
  obtain ⟨hIt, -, -, hlt, -⟩ := hI z hz
  obtain ⟨hd1, hd2, -⟩ := ITM_hd hIt
  have hP : PLC kd rv pl (kd (is z) - 229) σs (ls z) (ls (z + 1)) (is z) (is (z + 1)) := by
    rcases hIt with ⟨a0, a1, a2⟩ | ⟨a0, a1, a2⟩ | ⟨a1, b1, -⟩ | ⟨a1, b1, -⟩ | ⟨a1, b1, -⟩ | ⟨k0, -⟩ | ⟨k0, -⟩ | ⟨k0, -⟩
    · rw [a0]; exact a2
    · rw [a0]; exact a2
    all_goals omega
  have hwk : (kd (is z) - 229 = 1 ∧ kd (is z) = 230) ∨ (kd (is z) - 229 = 2 ∧ kd (is z) = 231) := by omega
  have hH := FWH_place hT hG hz hN hwk hP hj (hZ z (by omega))
  obtain ⟨n1, n2, n3, -⟩ := hN z hz (by omega)
  have hn := n3 (by omega)
  have lim := lims_of hT hp hD
  have good : ∀ t, is z ≤ t → t < is (z + 1) → ¬ badA Θ kd vl (is z) t := fun t t1 t2 hb' => hbad t (by omega) (Or.inr ⟨(hH t t1 t2).1, z, hz, t1, t2, hb'⟩)
  have hE : ∀ u, is z ≤ u → u < is (z + 1) → kd u = 239 → ksF Θ vl (u + 2) = 1 ∧ nsF Θ vl (u + 2) ≤ 120 := fun u u1 u2 hu => by
    obtain ⟨x1, x2, x3, -⟩ := (hH u u1 u2).2.2.2.2.1 hu
    have e : ksF Θ vl (u + 2) = 1 := by
      by_cases q : ksF Θ vl (u + 2) = 1
      · exact q
      · exact absurd (Or.inl ⟨x1, by rw [show u + 2 - 2 = u by omega]; exact hu, x3, q⟩) (good (u + 2) (by omega) (by omega))
    exact ⟨e, (lim (u + 2) (by omega) x3).2.2 (Or.inl e)⟩
  have hGi : ∀ u, is z ≤ u → u < is (z + 1) → kd u = 219 → kd (u + 1) = 2 → ksF Θ vl (u + 1) ≠ 0 ∧ nsF Θ vl (u + 1) ≤ 120 := fun u u1 u2 hu hu2 => by
    obtain ⟨x1, x2, -⟩ := (hH u u1 u2).2.2.2.2.2.1 hu
    by_cases q1 : ksF Θ vl (u + 1) = 1
    · exact ⟨by omega, (lim (u + 1) (by omega) hu2).2.2 (Or.inl q1)⟩
    · by_cases q2 : ksF Θ vl (u + 1) = 2
      · exact ⟨by omega, (lim (u + 1) (by omega) hu2).2.2 (Or.inr q2)⟩
      · exact absurd (Or.inr (Or.inl ⟨x1, by rw [show u + 1 - 1 = u by omega]; exact hu, hu2, q1, q2⟩)) (good (u + 1) (by omega) (by omega))
  have hrv : ∀ u, u ≤ T → kd u = 2 → 0 ≤ rv u ∧ rv u < 8000 := fun u hu hk2 => by
    have := (hT.2.2.2 u (by omega)).2.1 hk2; omega
  have hr4 : ∀ u, u ≤ T → kd u = 4 → 0 ≤ rv u := fun u hu hk4 => by
    have := (hT.2.2.2 u (by omega)).2.2.2 hk4; omega
  obtain ⟨ρ', W', ow', l1, l2⟩ := lp_place hT hF hP hwk (hK.1 (by omega)) n2 hn hA hKE hrn hrv hr4 hj hlz c3 c6 c5 c4 z122 z52 z7 hw hb h0 hW hw0 hE hGi (fun h2 d xs lt it js p1 p2 p3 p4 p5 p6 p7 p8 p9 => thing_ten (ps := ps) (ds := ds) (os := os) (es := es) hT hp hpb hD hr hl (fun z' hz' => (hI z' hz').2.2.2.1) hz (by omega) (by rw [h2] at hP; exact hP) p1 p2 p3 p4 p5 p6 p7 p8 p9)
  refine ⟨ρ', W', ow', ?_, l2⟩
  have hd := hd2 (by omega)
  have kd2 : kd (is z + 1) = 2 := hP.2.2.1
  rw [lo_head (u := is z + 1) (by omega) hT (by have := hP.1; omega) kd2 hd.1 hd.2 hA hKE (by omega), n2]
  exact loB_place (w := kd (is z) - 229) (by omega) (by omega) (by rw [hA.1 17 (by omega)]; exact hd1) l1
