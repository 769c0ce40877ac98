/-! laying's join: a room's or thing's step -/
variable {T N : Nat} {kd vl rv : Nat → Int} {pl : Nat → Nat}
theorem qOf_0 {k : Int} (h : k ≤ 231) : qOf k = 0 := qOf_obj h
theorem inum_obj {is : Nat → Nat} {z : Nat} (h : kd (is z) ≤ 231) : inum kd is z = cN kd is 0 z + 1 := by
  unfold inum
  rw [if_pos (by omega), qOf_0 h]
theorem smA_ne {is : Nat → Nat} {z : Nat} (h : kd (is z) ≠ 234) : smA kd vl is (z + 1) = smA kd vl is z := if_neg h
theorem step_place (hT : TKE T N kd vl rv pl) (hp : plm T pl) (hpb : ∀ i, i ≤ T + 1 → pl i ≤ 5000) {b : Nat → Int} {L m : Nat} {nm : Nat → List Int} {cl : List Int} (hF : NMF b L T m nm cl kd vl rv pl) {G : Nat → HS} {Θ Γs : HS} {σs τ ρ : MS} {c z : Nat} {ls is ps ds os es : Nat → Nat} {S : Nat → MS} {K : Nat → HS} (hG : GRW T N kd vl pl G) (hD : SDN T N kd vl rv pl σs Γs c ls is S τ Θ) (hr : rDS σs τ) (hl : ls c ≤ 39000) (hI : ITS kd vl rv pl σs Γs c ls is ps ds os es) (hZ : ∀ z, z ≤ c → GZ T kd vl (G (is z))) (hbad : ∀ t, t < T → ¬ badW G Θ Γs kd vl c is t) (hK : CIT T G Θ kd vl cl is z (K z) (K (z + 1))) (hz : z < c) (hlz : ls (z + 1) ≤ 39000) (hj : is (z + 1) ≤ T) (hk : kd (is z) = 230 ∨ kd (is z) = 231) (hv1 : cN kd is 1 z ≤ 60) (c3 : (K z 4).2.1 3 (inum kd is z) = J (-1)) (c6 : ∀ d, 1 ≤ d → d ≤ 6 → (K z 4).2.1 6 (6 * inum kd is z + d - 1) = J ((0 : Nat) : Int)) (c5 : (K z 4).2.1 5 (inum kd is z) = J ((0 : Nat) : Int)) (c4 : (K z 4).2.1 4 (inum kd is z) = 0) {ow : Nat → List (List Int)} (hJ : LJI T kd vl rv m nm Θ σs is z ρ) (hW : WRD kd is z ρ (K z) ow) : ∃ (ρ' : MS) (ow' : Nat → List (List Int)), F_X12_layOne (J (ls z : Nat)) ρ = some ((0 : Int32), ρ') ∧ LJI T kd vl rv m nm Θ σs is (z + 1) ρ' ∧ WRD kd is (z + 1) ρ' (K (z + 1)) ow' ∧ OBF T kd rv vl pl ρ' (K (z + 1)) (inum kd is z) ∧ PFP (inum kd is z) ρ ρ' ∧ ρ'.1 63 = fRm ρ (kd (is z) - 229) (inum kd is z) ∧ (∀ o, o ≠ inum kd is z → ow' o = ow o) ∧ (∃ W W', WSO (K z) W ow ∧ WSO (K (z + 1)) W' ow' ∧ PRE W W') ∧ PLX kd vl Θ (is z) (is (z + 1)) (kd (is z) - 229) ρ' (K (z + 1)) (inum kd is z) (ow' (inum kd is z)).length := by
  have hN := INM_of hT hp hD
  have hn := (hN z hz (by omega)).2.2.1 (by omega)
  have ei := inum_obj (kd := kd) (is := is) (z := z) (by omega)
  have q0 : qOf (kd (is z)) = 0 := qOf_0 (by omega)
  have n0 : cN kd is 0 (z + 1) = cN kd is 0 z + 1 := cN_eq q0.symm
  have n1 : cN kd is 1 (z + 1) = cN kd is 1 z := cN_ne (by rw [q0]; omega)
  have n3 : cN kd is 3 (z + 1) = cN kd is 3 z := cN_ne (by rw [q0]; omega)
  have n5 : cN kd is 5 (z + 1) = cN kd is 5 z := cN_ne (by rw [q0]; omega)
  have n6 : cN kd is 6 (z + 1) = cN kd is 6 z := cN_ne (by rw [q0]; omega)
  obtain ⟨⟨hA, hKE, hrn⟩, ⟨h83, h84⟩, h77, hC⟩ := hJ
  obtain ⟨⟨W, w1, w2⟩, w3, w4, w5⟩ := hW
  obtain ⟨z1, z2, z3⟩ := hC (inum kd is z) (by omega) hn.2
  obtain ⟨ρ', W', ow', l1, l2, l3, l4, l5, l6, l7, l8, l9, l10, l11, l12, l13⟩ := ly_place (w0 := W.length) hT hp hpb hF hG hD hr hl hI hZ hbad hK hz hlz hj hk hA hKE hrn c3 c6 c5 c4 z1 z2 z3 w1 w3 (w4 _ (by omega) hn.2) (Nat.le_refl _) (by omega)
  refine ⟨ρ', ow', l1, ⟨⟨l9, l10, l11⟩, ⟨by rw [l3.1 83 (by omega), n5]; exact h83, by rw [l3.1 84 (by omega), n6]; exact h84⟩, fun hh => ?_, fun n a1 a2 => ?_⟩, ⟨⟨W', l5, by rw [n0, n1]; omega⟩, l6, fun n a1 a2 => ?_, fun v a1 a2 => ?_⟩, l2, l3, l4, l7, ⟨W, W', w1, l5, l12⟩, l13⟩
  · rw [n3] at hh ⊢
    rw [l3.2.1 77 (by omega) (by omega), smA_ne (by omega)]; exact h77 hh
  · rw [n0] at a1
    obtain ⟨x1, x2, x3⟩ := hC n (by omega) a2
    refine ⟨by rw [l3.2.2.1 n (by omega) 122 (by omega)]; exact x1, by rw [l3.2.2.1 n (by omega) 52 (by omega)]; exact x2, fun y hy => ?_⟩
    obtain ⟨p1, p2⟩ := l3.2.2.2 (7 * n + y) (by omega)
    rw [p1, p2]; exact x3 y hy
  · rw [n0] at a1
    rw [l7 n (by omega)]; exact w4 n (by omega) a2
  · rw [n1] at a1
    rw [l7 (120 + v) (by omega)]; exact w5 v a1 a2
