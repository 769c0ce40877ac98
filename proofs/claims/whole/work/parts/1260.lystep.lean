/-! laying's join: a verb's step -/
variable {T N : Nat} {kd vl rv : Nat → Int} {pl : Nat → Nat}
theorem step_verb (hT : TKE T N kd vl rv pl) (hp : plm T pl) (hpb : ∀ i, i ≤ T + 1 → pl i ≤ 5000) {b : Nat → Int} {L m : Nat} {nm : Nat → List Int} {cl : List Int} (hF : NMF b L T m nm cl kd vl rv pl) (hm : m < 7000) {G : Nat → HS} {Θ Γs : HS} {σs τ ρ : MS} {c z : Nat} {ls is ps ds os es : Nat → Nat} {S : Nat → MS} {K : Nat → HS} (hG : GRW T N kd vl pl G) (hD : SDN T N kd vl rv pl σs Γs c ls is S τ Θ) (hr : rDS σs τ) (hl : ls c ≤ 39000) (hI : ITS kd vl rv pl σs Γs c ls is ps ds os es) (hZ : ∀ z, z ≤ c → GZ T kd vl (G (is z))) (hK : CIT T G Θ kd vl cl is z (K z) (K (z + 1))) (hz : z < c) (hlz : ls (z + 1) ≤ 39000) (hj : is (z + 1) ≤ T) (hk : kd (is z) = 232) (hv0 : cN kd is 0 z ≤ 120) {ow : Nat → List (List Int)} (hJ : LJI T kd vl rv m nm Θ σs is z ρ) (hW : WRD kd is z ρ (K z) ow) : ∃ (d : Nat) (ρ' : MS) (V : List Int) (ow' : Nat → List (List Int)), F_X12_layOne (J (ls z : Nat)) ρ = some ((0 : Int32), ρ') ∧ LJI T kd vl rv m nm Θ σs is (z + 1) ρ' ∧ WRD kd is (z + 1) ρ' (K (z + 1)) ow' ∧ (1 ≤ d ∧ d ≤ 10 ∧ 213 ≤ kd (is z + 1 + 2 * d) ∧ kd (is z + 1 + 2 * d) ≤ 215) ∧ vfrm (inum kd is z) ρ ρ' ∧ VBF ρ' (inum kd is z) (wdsF nm rv (is z + 2) d) (if kd (is z + 1 + 2 * d) = 215 then 2 else kd (is z + 1 + 2 * d) - 213) (jwF kd nm rv (is z) d) ∧ WSO (K (z + 1)) V ow' ∧ (kd (is z + 1 + 2 * d) = 215 → ∃ k : Nat, k < V.length ∧ (K (z + 1) 4).2.1 8 (inum kd is z) = J (k : Nat) ∧ V.getD k 0 = tm9 (jwF kd nm rv (is z) d)) ∧ ow' (120 + inum kd is z) = wdsF nm rv (is z + 2) d ∧ (∀ o, o ≠ 120 + inum kd is z → ow' o = ow o) ∧ (∃ W, WSO (K z) W ow ∧ PRE W V) ∧ (if kd (is z + 1 + 2 * d) = 215 then 2 else kd (is z + 1 + 2 * d) - 213) = fmO kd (is (z + 1)) ∧ (kd (is z + 1 + 2 * d) = 215 → nmW (jwF kd nm rv (is z) d)) := by
  have hN := INM_of hT hp hD
  have hn := (hN z hz (by omega)).2.2.2.1 hk
  have q1 : qOf (kd (is z)) = 1 := by rw [hk]; decide
  have ei : inum kd is z = cN kd is 1 z + 1 := by
    unfold inum
    rw [if_pos (by omega), q1]
  have n0 : cN kd is 0 (z + 1) = cN kd is 0 z := cN_ne (by rw [q1]; omega)
  have n1 : cN kd is 1 (z + 1) = cN kd is 1 z + 1 := cN_eq q1.symm
  have n3 : cN kd is 3 (z + 1) = cN kd is 3 z := cN_ne (by rw [q1]; omega)
  have n5 : cN kd is 5 (z + 1) = cN kd is 5 z := cN_ne (by rw [q1]; omega)
  have n6 : cN kd is 6 (z + 1) = cN kd is 6 z := cN_ne (by rw [q1]; omega)
  obtain ⟨⟨hA, hKE, hrn⟩, ⟨h83, h84⟩, h77, hC⟩ := hJ
  obtain ⟨⟨W, w1, w2⟩, w3, w4, w5⟩ := hW
  have hlen := w5 (inum kd is z) (by omega) (by omega)
  obtain ⟨d, ρ', V, l1, l2, l3, l4, l5, l6, l7, l8, l9⟩ := ly_verb hT hp hpb hF hm hG hD hr hl hI hZ hK hz hlz hj hk hA hKE hrn w1 hlen (by omega)
  have eo : ∀ o, o ≠ 120 + inum kd is z → owA ow (120 + inum kd is z) (wdsF nm rv (is z + 2) d) o = ow o := fun o ho => if_neg ho
  have es : owA ow (120 + inum kd is z) (wdsF nm rv (is z + 2) d) (120 + inum kd is z) = wdsF nm rv (is z + 2) d := by
    unfold owA
    rw [if_pos rfl, List.length_eq_zero_iff.mp hlen, List.nil_append]
  refine ⟨d, ρ', V, owA ow (120 + inum kd is z) (wdsF nm rv (is z + 2) d), l2, ⟨ly_keep (fun k hk2 => l3.2.1 k (by omega)) (by rw [l3.1]) ⟨hA, hKE, hrn⟩, ⟨by rw [l3.1, n5]; exact h83, by rw [l3.1, n6]; exact h84⟩, fun hh => ?_, CLZ_same hC n0 (fun k hk2 => l3.2.1 k (by omega))⟩, ⟨⟨V, l5, by rw [n0, n1]; omega⟩, ?_, fun n a1 a2 => ?_, fun v a1 a2 => ?_⟩, l1, l3, l4, l5, l8, es, eo, ⟨W, w1, l6⟩, l9⟩
  · rw [n3] at hh ⊢
    rw [l3.2.1 77 (by omega), smA_ne (by omega)]; exact h77 hh
  · intro o o1 o2
    rw [eo o (by omega)]
    unfold WOB RW at w3
    unfold RW
    rw [l3.2.1 54 (by omega), l3.2.1 55 (by omega), l3.2.1 56 (by omega)]; exact w3 o o1 o2
  · rw [n0] at a1
    rw [eo n (by omega)]; exact w4 n a1 a2
  · rw [n1] at a1
    rw [eo (120 + v) (by omega)]; exact w5 v (by omega) a2
