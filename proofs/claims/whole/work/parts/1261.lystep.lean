/-! laying's join: the steps of vars, arrays, defs, ons and eachs -/
variable {T N : Nat} {kd vl rv : Nat → Int} {pl : Nat → Nat}
/-- words of owners stay through what is no room, thing or verb -/
theorem WRD_rest {G : Nat → HS} {Θ Γs : HS} {cl : List Int} {σs : MS} {c : Nat} {ls is ps ds os es : Nat → Nat} {z : Nat} {Γ E : HS} {ρ ρ' : MS} {ow : Nat → List (List Int)} (hI : ITS kd vl rv pl σs Γs c ls is ps ds os es) (hz : z < c) (hK : CIT T G Θ kd vl cl is z Γ E) (hk : 233 ≤ kd (is z)) (h : WRD kd is z ρ Γ ow) (hr : ∀ k, 54 ≤ k → k ≤ 56 → ρ'.2 k = ρ.2 k) : WRD kd is (z + 1) ρ' E ow := by
  obtain ⟨hIt, -⟩ := hI z hz
  obtain ⟨e9, e10, e7⟩ := CIT_words (σs := σs) (x := ls z) (hi := ls (z + 1)) (rv := rv) (pl := pl) hK hk (fun h4 => by
    rcases hIt with ⟨a0, -⟩ | ⟨a0, -⟩ | ⟨a1, b1⟩ | ⟨a1, b1⟩ | ⟨a1, b1⟩ | ⟨k0, -⟩ | ⟨k0, -⟩ | ⟨k0, -⟩
    · omega
    · omega
    · exact Or.inl b1
    · exact Or.inr (Or.inl b1)
    · exact Or.inr (Or.inr b1)
    all_goals omega)
  exact WRD_same h (cN_ne (qOf_no0 hk)) (cN_ne (qOf_no1 hk)) e9 e10 e7 hr
theorem step_def (hT : TKE T N kd vl rv pl) {m : Nat} {nm : Nat → List Int} {cl : List Int} {G : Nat → HS} {Θ Γs : HS} {σs ρ : MS} {c z : Nat} {ls is ps ds os es : Nat → Nat} {K : Nat → HS} (hN : INM kd vl Θ c is) (hI : ITS kd vl rv pl σs Γs c ls is ps ds os es) (hK : CIT T G Θ kd vl cl is z (K z) (K (z + 1))) (hz : z < c) (hlz : ls (z + 1) ≤ 39000) (hj : is (z + 1) ≤ T) (hk : kd (is z) = 235) {ow : Nat → List (List Int)} (hJ : LJI T kd vl rv m nm Θ σs is z ρ) (hW : WRD kd is z ρ (K z) ow) : F_X12_layOne (J (ls z : Nat)) ρ = some ((0 : Int32), ρ) ∧ LJI T kd vl rv m nm Θ σs is (z + 1) ρ ∧ WRD kd is (z + 1) ρ (K (z + 1)) ow := by
  obtain ⟨hIt, -, hii, hlt, -⟩ := hI z hz
  obtain ⟨hd1, hd2, -⟩ := ITM_hd hIt
  have hd := hd2 (by omega)
  have k1 : kd (is z + 1) = 2 := by
    rcases hIt with ⟨a0, -⟩ | ⟨a0, -⟩ | ⟨a1, b1, -⟩ | ⟨a1, b1, -⟩ | ⟨a1, b1, -⟩ | ⟨k0, k1, -⟩ | ⟨k0, -⟩ | ⟨k0, -⟩
    · omega
    · omega
    · omega
    · omega
    · omega
    · exact k1
    all_goals omega
  have q4 : qOf (kd (is z)) = 4 := by rw [hk]; decide
  have hA := hJ.1.1
  refine ⟨?_, LJI_rest hJ ⟨by omega, by omega⟩ (fun _ _ => rfl) rfl (by rw [cN_ne (by rw [q4]; omega)]; exact hJ.2.1.1) (by rw [cN_ne (by rw [q4]; omega)]; exact hJ.2.1.2) (fun hh => ?_), WRD_rest hI hz hK (by omega) hW (fun _ _ _ => rfl)⟩
  · obtain ⟨n1, n2, -⟩ := hN z hz (by omega)
    rw [lo_head (u := is z + 1) (by omega) hT (by omega) k1 hd.1 hd.2 hA hJ.1.2.1 (by omega)]
    exact loB_def (by omega) (by rw [hA.1 17 (by omega), hd1, hk]; rfl)
  · rw [cN_ne (by rw [q4]; omega)] at hh ⊢
    rw [smA_ne (by omega)]; exact hJ.2.2.1 hh
theorem step_on (hT : TKE T N kd vl rv pl) {m : Nat} {nm : Nat → List Int} {cl : List Int} {G : Nat → HS} {Θ Γs : HS} {σs ρ : MS} {c z : Nat} {ls is ps ds os es : Nat → Nat} {K : Nat → HS} (hG : GRW T N kd vl pl G) (hI : ITS kd vl rv pl σs Γs c ls is ps ds os es) (hZ : ∀ z, z ≤ c → GZ T kd vl (G (is z))) (hbad : ∀ t, t < T → ¬ badW G Θ Γs kd vl c is t) (hK : CIT T G Θ kd vl cl is z (K z) (K (z + 1))) (hz : z < c) (hlz : ls (z + 1) ≤ 39000) (hj : is (z + 1) ≤ T) (hk : kd (is z) = 236) (ho : cN kd is 5 z < 200) {ow : Nat → List (List Int)} (hJ : LJI T kd vl rv m nm Θ σs is z ρ) (hW : WRD kd is z ρ (K z) ow) : ∃ (cc y : Nat) (ρ' : MS), F_X12_layOne (J (ls z : Nat)) ρ = some ((0 : Int32), ρ') ∧ LJI T kd vl rv m nm Θ σs is (z + 1) ρ' ∧ WRD kd is (z + 1) ρ' (K (z + 1)) ow ∧ cc ≤ 2 ∧ is z + 2 + cc + 1 < is (z + 1) ∧ ONF (cN kd is 5 z) (nsF Θ vl (is z + 1)) cc (J (whR Θ kd vl (is z + 2))) (J (whR Θ kd vl (is z + 3))) (J (y : Nat)) ρ ρ' ∧ MV G Θ kd vl (is z + 2 + cc + 1) (is (z + 1)) (onE Θ kd vl (is z) cc (K z)) (K (z + 1)) ∧ ksF Θ vl (is z + 1) = 3 ∧ (∃ mm, mm < ls (z + 1) ∧ σs.2 21 (ls z) = J (mm : Nat) ∧ σs.2 19 mm = J (y : Nat)) ∧ ∀ k, k < cc → kd (is z + 2 + k) ≠ 123 ∧ (k : Int) + 1 ≤ frm Θ vl (is z + 1) ∧ goodWh Θ kd vl (is z + 1) (is z + 2 + k) := by
  have q5 : qOf (kd (is z)) = 5 := by rw [hk]; decide
  obtain ⟨cc, y, ρ', a1, a2, a3, a4, a5, a6, a7⟩ := ly_on (m := m) (nm := nm) hT hG hI hZ hbad hK hz hlz hj hk hJ.1.1 hJ.1.2.1 ho hJ.2.1.1
  refine ⟨cc, y, ρ', a3, LJI_rest hJ ⟨by omega, by omega⟩ (fun k hk2 => a4.2.2.1 k (by omega)) (a4.1 13 (by omega)) (by rw [cN_eq q5.symm]; exact a4.2.1) (by rw [cN_ne (by rw [q5]; omega), a4.1 84 (by omega)]; exact hJ.2.1.2) (fun hh => ?_), WRD_rest hI hz hK (by omega) hW (fun k k1 k2 => a4.2.2.1 k (by omega)), a1, a2, a4, a5, a6, a7⟩
  rw [cN_ne (by rw [q5]; omega)] at hh ⊢
  rw [a4.2.2.1 77 (by omega), smA_ne (by omega)]; exact hJ.2.2.1 hh
theorem step_each {m : Nat} {nm : Nat → List Int} {cl : List Int} {G : Nat → HS} {Θ Γs : HS} {σs ρ : MS} {c z : Nat} {ls is ps ds os es : Nat → Nat} {K : Nat → HS} (hI : ITS kd vl rv pl σs Γs c ls is ps ds os es) (hK : CIT T G Θ kd vl cl is z (K z) (K (z + 1))) (hz : z < c) (hlz : ls (z + 1) ≤ 39000) (hk : kd (is z) = 237) (he : cN kd is 6 z < 20) {ow : Nat → List (List Int)} (hJ : LJI T kd vl rv m nm Θ σs is z ρ) (hW : WRD kd is z ρ (K z) ow) : ∃ (y : Nat) (ρ' : MS), F_X12_layOne (J (ls z : Nat)) ρ = some ((0 : Int32), ρ') ∧ LJI T kd vl rv m nm Θ σs is (z + 1) ρ' ∧ WRD kd is (z + 1) ρ' (K (z + 1)) ow ∧ ρ' = mA (mI ρ 84 (J (cN kd is 6 z + 1 : Nat))) 75 (upd (ρ.2 75) (cN kd is 6 z) (J (y : Nat))) ∧ ∃ mm, mm < ls (z + 1) ∧ σs.2 21 (ls z) = J (mm : Nat) ∧ σs.2 19 mm = J (y : Nat) := by
  have q6 : qOf (kd (is z)) = 6 := by rw [hk]; decide
  obtain ⟨hIt, -, hii, hlt, -⟩ := hI z hz
  have hV : EAD kd vl rv pl σs Γs (ls z) (ls (z + 1)) (is z) (is (z + 1)) (ps z) (ps (z + 1)) (es z) := by
    rcases hIt with ⟨a0, -⟩ | ⟨a0, -⟩ | ⟨a1, b1, -⟩ | ⟨a1, b1, -⟩ | ⟨a1, b1, -⟩ | ⟨k0, -⟩ | ⟨k0, -⟩ | hE
    · omega
    · omega
    · omega
    · omega
    · omega
    · omega
    · omega
    · exact hE
  obtain ⟨v1, v2, v3, ⟨h, y, mm, r, ⟨a1, a1'⟩, a2, a3, a4, a5, a6, a7, -⟩, -, v4⟩ := hV
  have hA := hJ.1.1
  have l := ly_each (x := ls z) (y := mm) (e := cN kd is 6 z) (by omega) (by omega) he v2 a4 hA hJ.2.1.2
  rw [a7] at l
  refine ⟨y, mA (mI ρ 84 (J (cN kd is 6 z + 1 : Nat))) 75 (upd (ρ.2 75) (cN kd is 6 z) (J (y : Nat))), by rw [lo_head0 (by omega) v4 hA]; exact l, LJI_rest hJ ⟨by omega, by omega⟩ (fun k hk2 => by rw [mA_2, if_neg (by omega)]; rfl) rfl (by rw [cN_ne (by rw [q6]; omega)]; exact hJ.2.1.1) (by rw [cN_eq q6.symm]; rfl) (fun hh => ?_), WRD_rest hI hz hK (by omega) hW (fun k k1 k2 => by rw [mA_2, if_neg (by omega)]; rfl), rfl, mm, by omega, a4, a7⟩
  rw [cN_ne (by rw [q6]; omega)] at hh ⊢
  rw [mA_2, if_neg (by omega), smA_ne (by omega)]; exact hJ.2.2.1 hh
