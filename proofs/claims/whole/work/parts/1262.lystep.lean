/-! laying's join: the steps of vars and arrays -/
variable {T N : Nat} {kd vl rv : Nat → Int} {pl : Nat → Nat}
theorem step_var (hT : TKE T N kd vl rv pl) {m : Nat} {nm : Nat → List Int} {cl : List Int} {G : Nat → HS} {Θ Γs : HS} {σs ρ : MS} {c z : Nat} {ls is ps ds os es : Nat → Nat} {K : Nat → HS} (hN : INM kd vl Θ c is) (hI : ITS kd vl rv pl σs Γs c ls is ps ds os es) (hK : CIT T G Θ kd vl cl is z (K z) (K (z + 1))) (hz : z < c) (hlz : ls (z + 1) ≤ 39000) (hj : is (z + 1) ≤ T) (hk : kd (is z) = 233) {ow : Nat → List (List Int)} (hJ : LJI T kd vl rv m nm Θ σs is z ρ) (hW : WRD kd is z ρ (K z) ow) : ∃ (v : Int) (ρ' : MS), F_X12_layOne (J (ls z : Nat)) ρ = some ((0 : Int32), ρ') ∧ LJI T kd vl rv m nm Θ σs is (z + 1) ρ' ∧ WRD kd is (z + 1) ρ' (K (z + 1)) ow ∧ ρ' = mA ρ 76 (upd (ρ.2 76) (inum kd is z) (J v)) ∧ (K (z + 1) 4).2.1 11 (inum kd is z) = J v ∧ -32768 ≤ v ∧ v ≤ 32767 := by
  have q2 : qOf (kd (is z)) = 2 := by rw [hk]; decide
  obtain ⟨hIt, -, hii, hlt, -⟩ := hI z hz
  obtain ⟨hd1, hd2, -⟩ := ITM_hd hIt
  have hd := hd2 (by omega)
  have hV : VRD kd vl rv pl σs (ls z) (ls (z + 1)) (is z) (is (z + 1)) := by
    rcases hIt with ⟨a0, -⟩ | ⟨a0, -⟩ | ⟨a1, b1, -⟩ | ⟨a1, b1⟩ | ⟨a1, b1, -⟩ | ⟨k0, -⟩ | ⟨k0, -⟩ | ⟨k0, -⟩
    · omega
    · omega
    · omega
    · exact b1
    all_goals omega
  obtain ⟨n1, n2, -, -, n5, -⟩ := hN z hz (by omega)
  have hA := hJ.1.1
  obtain ⟨v, l1, l2, l3, l4⟩ := ly_var hT hK hV n2 (n5 hk) (by omega) hA hj
  refine ⟨v, mA ρ 76 (upd (ρ.2 76) (inum kd is z) (J v)), ?_, LJI_rest hJ ⟨by omega, by omega⟩ (fun k hk2 => by rw [mA_2, if_neg (by omega)]) rfl (by rw [cN_ne (by rw [q2]; omega)]; exact hJ.2.1.1) (by rw [cN_ne (by rw [q2]; omega)]; exact hJ.2.1.2) (fun hh => ?_), WRD_rest hI hz hK (by omega) hW (fun k k1 k2 => by rw [mA_2, if_neg (by omega)]), rfl, l2, l3, l4⟩
  · rw [lo_head (u := is z + 1) (by omega) hT (by omega) hV.2.1 hd.1 hd.2 hA hJ.1.2.1 (by omega), n2]
    exact l1
  · rw [cN_ne (by rw [q2]; omega)] at hh ⊢
    rw [mA_2, if_neg (by omega), smA_ne (by omega)]; exact hJ.2.2.1 hh
theorem step_array (hT : TKE T N kd vl rv pl) {m : Nat} {nm : Nat → List Int} {cl : List Int} {G : Nat → HS} {Θ Γs : HS} {σs ρ : MS} {c z : Nat} {ls is ps ds os es : Nat → Nat} {K : Nat → HS} (hN : INM kd vl Θ c is) (hI : ITS kd vl rv pl σs Γs c ls is ps ds os es) (hK : CIT T G Θ kd vl cl is z (K z) (K (z + 1))) (hz : z < c) (hlz : ls (z + 1) ≤ 39000) (hj : is (z + 1) ≤ T) (hk : kd (is z) = 234) (hs : 0 ≤ smA kd vl is z) (hs0 : cN kd is 3 z = 0 → smA kd vl is z = 0) {ow : Nat → List (List Int)} (hJ : LJI T kd vl rv m nm Θ σs is z ρ) (hW : WRD kd is z ρ (K z) ow) : ∃ ρ' : MS, F_X12_layOne (J (ls z : Nat)) ρ = some ((0 : Int32), ρ') ∧ LJI T kd vl rv m nm Θ σs is (z + 1) ρ' ∧ WRD kd is (z + 1) ρ' (K (z + 1)) ow ∧ ρ' = mA ρ 77 (upd (ρ.2 77) (cN kd is 3 z + 1) (J (smA kd vl is (z + 1)))) ∧ 0 ≤ smA kd vl is (z + 1) ∧ 0 ≤ vl (is z + 3) := by
  have q3 : qOf (kd (is z)) = 3 := by rw [hk]; decide
  obtain ⟨hIt, -, hii, hlt, -⟩ := hI z hz
  obtain ⟨hd1, hd2, -⟩ := ITM_hd hIt
  have hd := hd2 (by omega)
  have hV : ARD kd vl rv pl σs (ls z) (ls (z + 1)) (is z) (is (z + 1)) := by
    rcases hIt with ⟨a0, -⟩ | ⟨a0, -⟩ | ⟨a1, b1, -⟩ | ⟨a1, b1, -⟩ | ⟨a1, b1⟩ | ⟨k0, -⟩ | ⟨k0, -⟩ | ⟨k0, -⟩
    · omega
    · omega
    · omega
    · omega
    · exact b1
    all_goals omega
  obtain ⟨n1, n2, -, -, -, n6⟩ := hN z hz (by omega)
  have en : inum kd is z = cN kd is 3 z := by
    unfold inum
    rw [if_neg (by omega), q3]
  have n20 := n6 hk
  rw [en] at n2 n20
  have hA := hJ.1.1
  have es : smA kd vl is (z + 1) = smA kd vl is z + vl (is z + 3) := if_pos hk
  obtain ⟨l0, l1⟩ := ly_array (z := z) (a := (smA kd vl is z).toNat) (n := cN kd is 3 z) hT hV n20 (by omega) hA hj (fun h => by rw [hJ.2.2.1 h]; congr 1; omega) (fun h => by rw [hs0 h]; rfl)
  have e1 : (((smA kd vl is z).toNat + (vl (is z + 3)).toNat : Nat) : Int) = smA kd vl is (z + 1) := by rw [es]; omega
  rw [e1] at l1
  refine ⟨mA ρ 77 (upd (ρ.2 77) (cN kd is 3 z + 1) (J (smA kd vl is (z + 1)))), ?_, LJI_rest hJ ⟨by omega, by omega⟩ (fun k hk2 => by rw [mA_2, if_neg (by omega)]) rfl (by rw [cN_ne (by rw [q3]; omega)]; exact hJ.2.1.1) (by rw [cN_ne (by rw [q3]; omega)]; exact hJ.2.1.2) (fun hh => ?_), WRD_rest hI hz hK (by omega) hW (fun k k1 k2 => by rw [mA_2, if_neg (by omega)]), rfl, by rw [es]; omega, l0⟩
  · rw [lo_head (u := is z + 1) (by omega) hT (by omega) hV.2.1 hd.1 hd.2 hA hJ.1.2.1 (by omega), n2]
    exact l1
  · rw [cN_eq q3.symm, mA_2, if_pos rfl, upd_s, if_pos rfl]
