/-! laying's join: item by item -/
variable {T N : Nat} {kd vl rv : Nat → Int} {pl : Nat → Nat}
/-- all that stands when z items are laid -/
def LYP (T : Nat) (kd vl rv : Nat → Int) (pl : Nat → Nat) (m : Nat) (nm : Nat → List Int) (Θ : HS) (σs : MS) (ls is : Nat → Nat) (K : Nat → HS) (E : HS) (W0 : List Int) (ρ0 : MS) (z : Nat) (ρ : MS) : Prop := ∃ (ow : Nat → List (List Int)) (W : List Int), LJI T kd vl rv m nm Θ σs is z ρ ∧ WRD kd is z ρ (K z) ow ∧ (DOK (K z) W ∧ PRE W0 W) ∧ LFR ρ0 ρ ∧ (CLX kd is z ρ ∧ OBA T kd vl rv pl Θ is E z ρ ow ∧ VBA kd nm rv is E z ρ ow W ∧ FRA kd is z ρ) ∧ VRA kd is E z ρ ∧ ARA kd vl is z ρ ∧ ONA kd vl Θ σs ls is E z ρ ∧ EAA kd σs ls is z ρ
theorem inum_vb {is : Nat → Nat} {z : Nat} (h : kd (is z) = 232) : inum kd is z = cN kd is 1 z + 1 := by
  unfold inum
  rw [if_pos (by omega), h]; rfl
theorem it_lt {is : Nat → Nat} {z z' : Nat} {P : Nat → Prop} (hz : z' < z + 1) (hP : P z') (hn : ¬ P z) : z' < z := by
  by_cases q : z' = z
  · rw [q] at hP; exact absurd hP hn
  · omega
/-- an item that is no room, thing or verb -/
theorem LYP_rest {m : Nat} {nm : Nat → List Int} {G : Nat → HS} {Θ Γs : HS} {cl : List Int} {σs ρ0 ρ ρ' : MS} {c z : Nat} {ls is ps ds os es : Nat → Nat} {K : Nat → HS} {E : HS} {W0 W : List Int} {ow : Nat → List (List Int)} (hI : ITS kd vl rv pl σs Γs c ls is ps ds os es) (hz : z < c) (hK : CIT T G Θ kd vl cl is z (K z) (K (z + 1))) (hk : 233 ≤ kd (is z)) (hJ' : LJI T kd vl rv m nm Θ σs is (z + 1) ρ') (hW' : WRD kd is (z + 1) ρ' (K (z + 1)) ow) (hD : DOK (K z) W ∧ PRE W0 W) (hL : LFR ρ0 ρ) (hL' : LFR ρ ρ') (hB : CLX kd is z ρ ∧ OBA T kd vl rv pl Θ is E z ρ ow ∧ VBA kd nm rv is E z ρ ow W ∧ FRA kd is z ρ) (e : ∀ k, (46 ≤ k ∧ k ≤ 62) ∨ k = 122 → ρ'.2 k = ρ.2 k) (e63 : ρ'.1 63 = ρ.1 63) (hR : VRA kd is E (z + 1) ρ' ∧ ARA kd vl is (z + 1) ρ' ∧ ONA kd vl Θ σs ls is E (z + 1) ρ' ∧ EAA kd σs ls is (z + 1) ρ') : LYP T kd vl rv pl m nm Θ σs ls is K E W0 ρ0 (z + 1) ρ' := by
  obtain ⟨hIt, -⟩ := hI z hz
  obtain ⟨e9, e10, e7⟩ := CIT_words (σs := σs) (x := ls z) (hi := ls (z + 1)) (rv := rv) (pl := pl) hK hk (fun h4 => by
    rcases hIt with ⟨a0, -⟩ | ⟨a0, -⟩ | ⟨a1, b1⟩ | ⟨a1, b1⟩ | ⟨a1, b1⟩ | ⟨k0, -⟩ | ⟨k0, -⟩ | ⟨k0, -⟩
    · omega
    · omega
    · exact Or.inl b1
    · exact Or.inr (Or.inl b1)
    · exact Or.inr (Or.inr b1)
    all_goals omega)
  obtain ⟨b1, b2, b3, b4⟩ := hB
  refine ⟨ow, W, hJ', hW', ⟨DOK_7 hD.1 e7, hD.2⟩, LFR_trans hL hL', ⟨CLX_same b1 (cN_ne (qOf_no0 hk)) (fun k hk2 => e k (by omega)), OBA_same b2 (by omega) (fun k hk2 => e k (by omega)) (fun _ _ _ => rfl), VBA_same b3 (by omega) (fun k k1 k2 => e k (by omega)) (fun _ _ => rfl) (fun z' _ h => by rw [inum_vb h]; omega) PRE_rfl, FRA_same b4 (by omega) e63⟩, hR⟩
theorem owS_10 {o : Nat} : (owS 11 o).length ≤ 10 := by
  unfold owS
  split
  · decide
  · split
    · rename_i h
      have : ∀ k, k < 11 → (vwL.getD k []).length ≤ 10 := by decide +kernel
      exact this (o - 121) (by omega)
    · decide
/-- a room or a thing -/
theorem LYP_place (hT : TKE T N kd vl rv pl) (hp : plm T pl) (hpb : ∀ i, i ≤ T + 1 → pl i ≤ 5000) {b : Nat → Int} {L m : Nat} {nm : Nat → List Int} {cl : List Int} (hF : NMF b L T m nm cl kd vl rv pl) {G : Nat → HS} {Θ Γs : HS} {σs τ ρ0 ρ : MS} {c z : Nat} {ls is ps ds os es : Nat → Nat} {S : Nat → MS} {K : Nat → HS} {W0 : List Int} (hG : GRW T N kd vl pl G) (hD : SDN T N kd vl rv pl σs Γs c ls is S τ Θ) (hr : rDS σs τ) (hl : ls c ≤ 39000) (hI : ITS kd vl rv pl σs Γs c ls is ps ds os es) (hZ : ∀ z, z ≤ c → GZ T kd vl (G (is z))) (hbad : ∀ t, t < T → ¬ badW G Θ Γs kd vl c is t) (hK : CROW T G Θ kd vl cl is c K) (hon : ∀ z, z < c → kd (is z) = 236 → cN kd is 5 z < 200) (hz : z < c) (hlz : ls (z + 1) ≤ 39000) (hj : is (z + 1) ≤ T) (hk : kd (is z) = 230 ∨ kd (is z) = 231) (hv1 : cN kd is 1 z ≤ 60) (h0 : ∀ x, x ≤ 120 → (K 0 4).2.1 3 x = J (-1) ∧ (K 0 4).2.1 4 x = 0 ∧ (K 0 4).2.1 5 x = 0) (h06 : ∀ x, x < 726 → (K 0 4).2.1 6 x = 0) (h : LYP T kd vl rv pl m nm Θ σs ls is K (K c) W0 ρ0 z ρ) : ∃ ρ', F_X12_layOne (J (ls z : Nat)) ρ = some ((0 : Int32), ρ') ∧ LYP T kd vl rv pl m nm Θ σs ls is K (K c) W0 ρ0 (z + 1) ρ' := by
  have hN := INM_of hT hp hD
  have hkr := hD.2.2.2.2.2.2.2.2.2.1
  have hn := (hN z hz (by omega)).2.2.1 (by omega)
  have own : ∀ k x, SLT kd is z k x → (K c 4).2.1 k x = (K (z + 1) 4).2.1 k x ∧ (K z 4).2.1 k x = (K 0 4).2.1 k x := fun k x hs => row_own hI hN hon hK hz hs
  have sl : ∀ k, 1 ≤ k → k ≤ 5 → SLT kd is z k (inum kd is z) := fun k k1 k2 => Or.inl ⟨by omega, by omega, Or.inl ⟨k1, k2, rfl⟩⟩
  have sl6 : ∀ x, 6 * inum kd is z ≤ x → x < 6 * inum kd is z + 6 → SLT kd is z 6 x := fun x x1 x2 => Or.inl ⟨by omega, by omega, Or.inr (Or.inl ⟨rfl, x1, x2⟩)⟩
  obtain ⟨ow, W, hJ, hW, ⟨hd1, hd2⟩, hL, ⟨hC, hO, hV, hR⟩, hv, ha, ho, he⟩ := h
  obtain ⟨i3, i4, i5⟩ := h0 (inum kd is z) hn.2
  obtain ⟨ρ', ow', l1, l2, l3, l4, l5, l6, l7, ⟨W1, W2, l8, l9, l10⟩, l11⟩ := step_place hT hp hpb hF hG hD hr hl hI hZ hbad (hK.1 z hz) hz hlz hj hk hv1 (by rw [(own 3 _ (sl 3 (by omega) (by omega))).2]; exact i3) (fun d d1 d2 => by rw [(own 6 _ (sl6 _ (by omega) (by omega))).2]; exact h06 _ (by omega)) (by rw [(own 5 _ (sl 5 (by omega) (by omega))).2]; exact i5) (by rw [(own 4 _ (sl 4 (by omega) (by omega))).2]; exact i4) hJ hW
  have eW : W1 = W := DOK_u l8.1.1 hd1
  subst eW
  obtain ⟨p1, p2, p3, p4⟩ := l5
  have ei := inum_obj (kd := kd) (is := is) (z := z) (by omega)
  have n0 : cN kd is 0 (z + 1) = cN kd is 0 z + 1 := cN_eq (qOf_0 (by omega)).symm
  have dj : ∀ z', z' < z → kd (is z') ≤ 231 → inum kd is z' ≠ inum kd is z := fun z' hz' hk' e => by
    have a := inum_obj (kd := kd) (is := is) (z := z') hk'
    have b' := cN_ltq (kd := kd) (is := is) hz'
    rw [qOf_0 hk'] at b'
    omega
  refine ⟨ρ', l1, ow', W2, l2, l3, ⟨l9.1.1, PRE_trans hd2 l10⟩, LFR_trans hL ⟨fun k a _ _ => p1 k a, fun k a _ d => p2 k (by omega) d⟩, ⟨fun n n1 n2 => ?_, fun z' hz' hk' => ?_, VBA_same hV (by omega) (fun k k1 k2 => p2 k (by omega) (by omega)) (fun v v1 => l7 _ (by omega)) (fun z' _ h => by rw [inum_vb h]; omega) l10, ?_⟩, VRA_same hv (by omega) (p2 76 (by omega) (by omega)), ARA_same ha (by omega) (p2 77 (by omega) (by omega)), ONA_same ho (by omega) (fun k k1 k2 => p2 k (by omega) (by omega)), EAA_same he (by omega) (p2 75 (by omega) (by omega))⟩
  · obtain ⟨x1, x2, x3, x4⟩ := hC n n1 (by omega)
    have hne : n ≠ inum kd is z := by
      have := cN_le (kd := kd) (is := is) (q := 0) (a := 0) z
      have e1 : cN kd is 0 0 = 1 := rfl
      rw [Nat.zero_add] at this
      omega
    refine ⟨by rw [p3 n hne 122 (by omega)]; exact x1, by rw [p3 n hne 52 (by omega)]; exact x2, by rw [p3 n hne 50 (by omega)]; exact x3, fun y hy => ?_⟩
    obtain ⟨y1, y2⟩ := p4 (7 * n + y) (by omega)
    rw [y1, y2]; exact x4 y hy
  · by_cases q : z' = z
    · subst q
      exact ⟨OBF_tr l4 (fun _ _ => rfl) (fun _ _ => ⟨rfl, rfl⟩) (fun k k1 k2 => (own k _ (sl k k1 k2)).1) (fun x x1 x2 => (own 6 x (sl6 x x1 x2)).1), PLX_tr l11 rfl rfl (fun x x1 x2 => (own 6 x (sl6 x x1 x2)).1)⟩
    · have hne := dj z' (by omega) hk'
      obtain ⟨a, b'⟩ := hO z' (by omega) hk'
      rw [l7 _ hne]
      exact ⟨OBF_tr a (fun k hk2 => p3 _ hne k hk2) (fun y hy => p4 _ (by omega)) (fun _ _ _ => rfl) (fun _ _ _ => rfl), PLX_tr b' (p3 _ hne 50 (by omega)) (p3 _ hne 52 (by omega)) (fun _ _ _ => rfl)⟩
  · unfold fRm at l6
    rcases hR with ⟨a, b'⟩ | ⟨z0, a, b', c', d⟩
    · by_cases q : kd (is z) = 230
      · rw [if_pos ⟨by omega, a⟩] at l6
        exact Or.inr ⟨z, by omega, q, b', l6⟩
      · rw [if_neg (fun h => q (by omega))] at l6
        refine Or.inl ⟨by rw [l6]; exact a, fun z' hz' => ?_⟩
        by_cases q2 : z' = z
        · rw [q2]; exact q
        · exact b' z' (by omega)
    · have hz0 : kd (is z0) ≤ 231 := by omega
      have hn0 := (hN z0 (by omega) (by omega)).2.2.1 hz0
      rw [if_neg (fun h => by
        have := h.2
        rw [d, show (0 : Int32) = J 0 from rfl, J_eq (by omega) (by omega) (by omega) (by omega)] at this; omega)] at l6
      exact Or.inr ⟨z0, by omega, b', c', by rw [l6]; exact d⟩
