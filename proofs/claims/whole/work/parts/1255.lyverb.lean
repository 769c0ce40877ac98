/-! laying's join: a verb, from what is known of a built text -/
variable {T N : Nat} {kd vl rv : Nat → Int} {pl : Nat → Nat}
/-- what a verb of the text is called -/
def jwF (kd : Nat → Int) (nm : Nat → List Int) (rv : Nat → Int) (i d : Nat) : List Int := if kd (i + 1 + 2 * d) = 215 then nm (rv (i + 2 + 2 * d)).toNat else []
theorem ly_verb (hT : TKE T N kd vl rv pl) (hp : plm T pl) (hpb : ∀ i, i ≤ T + 1 → pl i ≤ 5000) {b : Nat → Int} {L m : Nat} {nm : Nat → List Int} {cl : List Int} (hF : NMF b L T m nm cl kd vl rv pl) (hm : m < 7000) {G : Nat → HS} {Θ Γs : HS} {σs τ ρ : MS} {c z : Nat} {ls is ps ds os es : Nat → Nat} {S : Nat → MS} {K : Nat → HS} (hG : GRW T N kd vl pl G) (hD : SDN T N kd vl rv pl σs Γs c ls is S τ Θ) (hr : rDS σs τ) (hl : ls c ≤ 39000) (hI : ITS kd vl rv pl σs Γs c ls is ps ds os es) (hZ : ∀ z, z ≤ c → GZ T kd vl (G (is z))) (hK : CIT T G Θ kd vl cl is z (K z) (K (z + 1))) (hz : z < c) (hlz : ls (z + 1) ≤ 39000) (hj : is (z + 1) ≤ T) (hk : kd (is z) = 232) (hA : AGM σs ρ) (hKE : KE T kd vl rv Θ ρ) (hrn : rnam m nm ρ) {W : List Int} {ow : Nat → List (List Int)} (hw : WSO (K z) W ow) (h0 : (ow (120 + inum kd is z)).length = 0) (hW : W.length + 12 ≤ 1999) : ∃ (d : Nat) (ρ' : MS) (V : List Int), (1 ≤ d ∧ d ≤ 10 ∧ 213 ≤ kd (is z + 1 + 2 * d) ∧ kd (is z + 1 + 2 * d) ≤ 215) ∧ F_X12_layOne (J (ls z : Nat)) ρ = some ((0 : Int32), ρ') ∧ vfrm (inum kd is z) ρ ρ' ∧ VBF ρ' (inum kd is z) (wdsF nm rv (is z + 2) d) (if kd (is z + 1 + 2 * d) = 215 then 2 else kd (is z + 1 + 2 * d) - 213) (jwF kd nm rv (is z) d) ∧ WSO (K (z + 1)) V (owA ow (120 + inum kd is z) (wdsF nm rv (is z + 2) d)) ∧ PRE W V ∧ V.length ≤ W.length + 11 ∧ (kd (is z + 1 + 2 * d) = 215 → ∃ k : Nat, k < V.length ∧ (K (z + 1) 4).2.1 8 (inum kd is z) = J (k : Nat) ∧ V.getD k 0 = tm9 (jwF kd nm rv (is z) d)) ∧ (if kd (is z + 1 + 2 * d) = 215 then 2 else kd (is z + 1 + 2 * d) - 213) = fmO kd (is (z + 1)) ∧ (kd (is z + 1 + 2 * d) = 215 → nmW (jwF kd nm rv (is z) d)) := by
  have hN := INM_of hT hp hD
  obtain ⟨hIt, -, -, hlt, -⟩ := hI z hz
  obtain ⟨hd1, hd2, -⟩ := ITM_hd hIt
  have hV : VRB kd rv pl σs (ls z) (ls (z + 1)) (is z) (is (z + 1)) := by
    rcases hIt with ⟨a0, a1, a2⟩ | ⟨a0, a1, a2⟩ | ⟨a1, b1⟩ | ⟨a1, b1, -⟩ | ⟨a1, b1, -⟩ | ⟨k0, -⟩ | ⟨k0, -⟩ | ⟨k0, -⟩
    · omega
    · omega
    · exact b1
    all_goals omega
  have hH := FWH_item hT hG hz hN (Or.inl hV) hj (hZ z (by omega))
  obtain ⟨n1, n2, -, n4, -⟩ := hN z hz (by omega)
  have hn := n4 hk
  obtain ⟨d, ⟨e1, e2, e3, e4, e5⟩, e10⟩ := verb_ten hT hp hpb hD hr hl (fun z' hz' => (hI z' hz').2.2.2.1) hz hV
  have hml : NML kd (is z + 2) d := NMS_NML e3 e1 (by rw [show is z + 2 + 2 * d - 1 = is z + 1 + 2 * d by omega]; omega)
  obtain ⟨f1, f2, cc, c1, c2, c3, c4⟩ := (hH (is z) (Nat.le_refl _) (by omega)).2.2.2.2.2.2.2.1 hk
  have hcd := NML_u hml c2 e1 c1
  subst hcd
  have h2 : kd (is z + 1 + 2 * d) = 215 → kd (is z + 2 + 2 * d) = 2 := fun h => c4 (by rw [show is z + 2 + 2 * d - 1 = is z + 1 + 2 * d by omega]; exact h)
  have hrv : ∀ u, u ≤ T → kd u = 2 → 0 ≤ rv u ∧ rv u < 8000 := fun u hu hk2 => by
    have := (hT.2.2.2 u (by omega)).2.1 hk2; omega
  obtain ⟨ρ', l1, l2, l3⟩ := lp_verb (n := inum kd is z) hF hV ⟨e1, e3, e4, e5⟩ e10 hA hrn hm hrv hj hlz (by omega)
  obtain ⟨V, v1, v2, v3, v4, -, -⟩ := c_verbL hF (it_one (Or.inl hV) (hK.1 (by omega))) hk n2 ⟨by omega, by omega⟩ ⟨e1, hml⟩ e10 (by omega) h2 hw h0 hW
  refine ⟨d, ρ', V, ⟨e1, e10, e4, e5⟩, ?_, l2, l3, v1, v2, v3, fun h => ?_, ?_, fun h => ?_⟩
  · have hd := hd2 (by omega)
    rw [lo_head (u := is z + 1) (by omega) hT (by omega) f1 hd.1 hd.2 hA hKE (by omega), n2]
    exact l1
  · obtain ⟨k, k1, k2, k3⟩ := v4 h
    refine ⟨k, k1, k2, ?_⟩
    unfold jwF
    rw [if_pos h]; exact k3
  · obtain ⟨-, -, b3, -, -, -, -, c', b8, -, b10, -, -, b13⟩ := hV
    have hn' : NML kd (is z + 2) c' := NMS_NML b10 b8 (by rw [show is z + 2 + 2 * c' - 1 = is z + 1 + 2 * c' by omega]; omega)
    have ec := NML_u hml hn' e1 b8
    subst ec
    unfold fmO
    rcases b13 with ⟨x1, x2, x3, -⟩ | ⟨x1, x2, x3, -⟩
    · rw [x3, show is z + 2 * d + 3 - 2 = is z + 1 + 2 * d by omega, if_neg (by omega), if_neg (by omega)]
    · rw [x3, show is z + 2 * d + 4 - 2 = is z + 2 + 2 * d by omega, if_pos x1, if_pos x2]
  · unfold jwF
    rw [if_pos h]
    obtain ⟨-, -, g3, -, g5, -⟩ := hF (is z + 2 + 2 * d) (by omega) (h2 h)
    rw [g3]; exact g5
