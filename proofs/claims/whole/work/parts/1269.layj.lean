/-! laying's join: a built text, laid -/
theorem lay_join : LAYJ := by
  intro T N kd vl rv pl b L W0 Γ0 σ Γ υ E Δ Γ' g hL hB h77
  obtain ⟨m, nm, cl, c, ls, is, ps, ds, os, es, hT, hNI, hp, hpb, hF, hrn, hm, hcn, hcl, hSW, hkT, hpT, hI, ⟨l0, i0, p0, d0, o0, e0⟩, hcT, hlc, hpc, h23, h24, hCNT, h51, hsrc, ⟨Γ1, hCLS⟩, hQ, hM, hlk, hΔ, hΔ1, hΔ2, hpk, hΓ', hTXS, hsrcC⟩ := hB
  obtain ⟨G, Θ, τ0, K, S, hE, hSD, hV, hAM, hDR, hΘ, hΘ4, hΘ1, hrJ, hA, hZ, hHB, hRT, hbad, hK0, hKc, hCR, hCT, hCK, hDOK, hn120, hKE, h14, hrD, ⟨⟨zr, zr1, zr2⟩, s, s0, s1, s2, s3⟩⟩ := hM
  subst hKc
  have hT1 := hT.1
  have hG : GRW T N kd vl pl G := hE.2.2.2.2.2
  have hN := INM_of hT hp hSD
  have hmm := ITS_lt hI
  have hkr := hSD.2.2.2.2.2.2.2.2.2.1
  have hal := cN_all hp hSD hmm.1
  have hlim := fun z hz => row_lim hp hSD.1 hSD.2.1 hmm.1 hSD.2.2.2.1 hSD.2.2.2.2.1 hSD.2.2.2.2.2.1 (show z < c from hz)
  have hon : ∀ z, z < c → kd (is z) = 236 → cN kd is 5 z < 200 := fun z hz k => by have := hlim z hz; rw [k] at this; exact this
  have hl39 : ls c ≤ 39000 := by omega
  -- the class at the third going's start
  have k0 : ∀ r, r ≠ 3 → K 0 r = Θ r := fun r hr => by rw [hK0, stG_o hr]
  have k04 : ∀ k, k ≠ 0 → k ≠ 7 → k ≠ 12 → (K 0 4).2.1 k = (Γ0 4).2.1 k := fun k a b d => by rw [k0 4 (by omega), hΘ4 k a b d, hQ.1 4 (by omega) (by omega) (by omega)]
  have k07 : K 0 7 = Γ0 7 := by rw [k0 7 (by omega), hΘ 7 (by omega) (by omega), hQ.1 7 (by omega) (by omega) (by omega)]
  obtain ⟨-, -, ⟨-, cl3b, cl3c⟩, cl4, cl5, cl6, cl7, cl8, ki, ko, ki1, ko1, ki2, ko2, ki3, ko3⟩ := hCLS
  -- the reference before laying
  generalize hυ1 : mI (mA υ 85 g) 16 (-1) = υ1
  have u1 : ∀ k, k ≠ 16 → υ1.1 k = υ.1 k := fun k hk => by rw [← hυ1, mI_1, if_neg hk]; rfl
  have u2 : ∀ k, k ≠ 85 → υ1.2 k = υ.2 k := fun k hk => by rw [← hυ1]; show (mA υ 85 g).2 k = _; rw [mA_2, if_neg hk]
  have w1 : ∀ k, k ≠ 14 → k ≠ 15 → k ≠ 33 → k ≠ 34 → k ≠ 43 → ¬ (35 ≤ k ∧ k ≤ 42) → υ.1 k = σ.1 k := fun k a b d e f h => by rw [hrJ.1 k a b d e f, hrD.1 k a b d e h]
  have w2 : ∀ k, k ≠ 20 → k ≠ 21 → k ≠ 28 → k ≠ 29 → k ≠ 30 → k ≠ 31 → k ≠ 32 → υ.2 k = σ.2 k := fun k a b d e f h i => by rw [hrJ.2.1 k a b h i, hrD.2 k d e f h]
  have hA1 : AGM σ υ1 := AGM_keep hA (fun k a b => u2 k (by omega))
  have hKE1 : KE T kd vl rv Θ υ1 := KE_keep hKE (fun k a => u2 k (by omega))
  have hrn1 : rnam m nm υ1 := rnam_congr hrn (by rw [u1 13 (by omega), w1 13 (by omega) (by omega) (by omega) (by omega) (by omega) (by omega)]) (by rw [u2 11 (by omega), w2 11 (by omega) (by omega) (by omega) (by omega) (by omega) (by omega) (by omega)]) (by rw [u2 12 (by omega), w2 12 (by omega) (by omega) (by omega) (by omega) (by omega) (by omega) (by omega)])
  obtain ⟨τ1, a1, a2⟩ := r_lay0 (σ := υ1) (L := L) (n := ls c) (b := b) (by rw [u1 6 (by omega), w1 6 (by omega) (by omega) (by omega) (by omega) (by omega) (by omega)]; exact hsrc.2.1) hsrc.1 (fun i hi => by rw [u2 5 (by omega), w2 5 (by omega) (by omega) (by omega) (by omega) (by omega) (by omega) (by omega)]; exact hsrc.2.2.1 i hi) hsrc.2.2.2 (by rw [u1 23 (by omega), w1 23 (by omega) (by omega) (by omega) (by omega) (by omega) (by omega)]; exact h23) (by omega)
  obtain ⟨τ2, b1, b2⟩ := r_ownAll τ1
  have h0P := LYP_0 (pl := pl) (ls := ls) (is := is) (K := K) (E := K c) ⟨hA1, hKE1, hrn1⟩ a2 b2 (by rw [u2 77 (by omega)]; exact h77) (WST_4 cl5 k07 (k04 9 (by omega) (by omega) (by omega)) (k04 10 (by omega) (by omega) (by omega))) cl6
  obtain ⟨τ, c1, ow, W, hJ, hW, ⟨hD1, hD2⟩, hFR, ⟨hC, hO, hVB, hFRA⟩, hVR, hAR, hON, hEA⟩ := LYP_all hT hp hpb hF hm hG hSD hrD hl39 hI hZ hbad hCR (fun x hx => by
    obtain ⟨-, -, y3, y4, y5⟩ := cl3b x (by omega)
    rw [k04 3 (by omega) (by omega) (by omega), k04 4 (by omega) (by omega) (by omega), k04 5 (by omega) (by omega) (by omega)]
    exact ⟨y3, y4, y5⟩) (fun x hx => by rw [k04 6 (by omega) (by omega) (by omega)]; exact cl3c x hx) h0P
  obtain ⟨y1, y2, y3, y4, y5, y6, y7⟩ := a2
  obtain ⟨v1, v2, -⟩ := b2
  have hint : ∀ k, k ≠ 44 → k ≠ 86 → ¬ (78 ≤ k ∧ k ≤ 84) → k ≠ 63 → τ.1 k = υ1.1 k := fun k a b d e => by rw [hFR.1 k (by omega) (by omega) (by omega), v1, y2 k a b d e]
  have hi78 : ∀ k, k = 44 ∨ k = 86 ∨ (78 ≤ k ∧ k ≤ 82) → τ.1 k = τ1.1 k := fun k hk => by rw [hFR.1 k (by omega) (by omega) (by omega), v1]
  have harr : ∀ k, k ≠ 122 → ¬ (46 ≤ k ∧ k ≤ 62) → ¬ (70 ≤ k ∧ k ≤ 77) → τ.2 k = τ1.2 k := fun k a b d => by rw [hFR.2 k b d a, v2 k (by omega)]
  obtain ⟨x44, x86, x78, x79, x80, x81, x82, -, -, -⟩ := y1
  refine ⟨0, τ, ?_, ⟨by rw [hi78 86 (by omega)]; exact x86, fun p hp4 => by rw [harr 100 (by omega) (by omega) (by omega)]; exact y4 p hp4⟩, fun k hk => by rw [hint k (by omega) (by omega) (by omega) (by omega), u1 k (by omega)], by rw [hint 16 (by omega) (by omega) (by omega) (by omega), ← hυ1]; rfl, ?_, ?_⟩
  · rw [a1, b1, v1, y2 24 (by omega) (by omega) (by omega) (by omega), u1 24 (by omega), w1 24 (by omega) (by omega) (by omega) (by omega) (by omega) (by omega), h24]
    exact c1
  · rw [harr 102 (by omega) (by omega) (by omega), y3 102 (by omega) (by omega) (by omega) (by unfold lyS; omega), u2 102 (by omega)]
  -- counts
  have hnO : 1 ≤ cN kd is 0 c := by
    have := cN_le (kd := kd) (is := is) (q := 0) (a := 0) c
    rw [Nat.zero_add] at this
    exact this
  have hnv : 11 ≤ cN kd is 1 c := by
    have := cN_le (kd := kd) (is := is) (q := 1) (a := 0) c
    rw [Nat.zero_add] at this
    exact this
  have n1 : cN kd is 1 c ≤ 60 := hal c (Nat.le_refl _) 1 (by omega)
  have n2 : cN kd is 2 c ≤ 100 := hal c (Nat.le_refl _) 2 (by omega)
  have n3 : cN kd is 3 c ≤ 20 := hal c (Nat.le_refl _) 3 (by omega)
  have n4 : cN kd is 4 c ≤ 100 := hal c (Nat.le_refl _) 4 (by omega)
  have n5 : cN kd is 5 c ≤ 200 := hal c (Nat.le_refl _) 5 (by omega)
  have n6 : cN kd is 6 c ≤ 20 := hal c (Nat.le_refl _) 6 (by omega)
  have cq : ∀ q, q < 7 → (K c 4).2.1 0 q = J (cN kd is q c : Nat) := fun q hq => by rw [hCK.2.1, stG_o (by omega)]; exact (hDR.1 q hq).1
  have r35 : ∀ q, q < 5 → υ1.1 (fcq q) = J (cN kd is q c : Nat) := fun q hq => by
    have hf : 35 ≤ fcq q ∧ fcq q ≤ 40 := by unfold fcq; split <;> omega
    rw [u1 _ (by omega), hrJ.1 _ (by omega) (by omega) (by omega) (by omega) (by omega)]
    exact (hDR.1 q (by omega)).2.1
  have rq : ∀ q, q < 7 → τ.1 (78 + q) = J (cN kd is q c : Nat) := fun q hq => by
    have hq7 : q = 0 ∨ q = 1 ∨ q = 2 ∨ q = 3 ∨ q = 4 ∨ q = 5 ∨ q = 6 := by omega
    rcases hq7 with rfl | rfl | rfl | rfl | rfl | rfl | rfl
    · rw [hi78 78 (by omega), x78]; exact r35 0 (by omega)
    · rw [hi78 79 (by omega), x79]; exact r35 1 (by omega)
    · rw [hi78 80 (by omega), x80]; exact r35 2 (by omega)
    · rw [hi78 81 (by omega), x81]; exact r35 3 (by omega)
    · rw [hi78 82 (by omega), x82]; exact r35 4 (by omega)
    · exact hJ.2.1.1
    · exact hJ.2.1.2
  -- rows of the class that no item writes
  have cr := fun (k x : Nat) h => cl_rest (k := k) (x := x) hI hN hon hCR h
  have z1 : ∀ x, x ≤ 120 → (K 0 4).2.1 1 x = 0 ∧ (K 0 4).2.1 3 x = J (-1) ∧ (K 0 4).2.1 4 x = 0 ∧ (K 0 4).2.1 5 x = 0 := fun x hx => by
    obtain ⟨p1, -, p3, p4, p5⟩ := cl3b x (by omega)
    rw [k04 1 (by omega) (by omega) (by omega), k04 3 (by omega) (by omega) (by omega), k04 4 (by omega) (by omega) (by omega), k04 5 (by omega) (by omega) (by omega)]
    exact ⟨p1, p3, p4, p5⟩
  have z6 : ∀ x, x < 726 → (K 0 4).2.1 6 x = 0 := fun x hx => by rw [k04 6 (by omega) (by omega) (by omega)]; exact cl3c x hx
  have obj : ∀ x, 2 ≤ x → x ≤ cN kd is 0 c → ∃ z, z < c ∧ kd (is z) ≤ 231 ∧ inum kd is z = x := obj_at c (Nat.le_refl _) hkr
  have hnn : ∀ z, z < c → kd (is z) ≤ 231 → 2 ≤ inum kd is z ∧ inum kd is z ≤ cN kd is 0 c := fun z hz hk => inum_le hz hk
  -- rooms
  have o50 : ∀ z, z < c → kd (is z) ≤ 231 → τ.2 50 (inum kd is z) = (if kd (is z) = 230 then 1 else 0) ∧ (K c 4).2.1 1 (inum kd is z) = if kd (is z) = 230 then 1 else 0 := fun z hz hk => by
    obtain ⟨⟨-, -, ⟨r, r1, r2, r3⟩, -⟩, p1, -⟩ := hO z hz hk
    have e : τ.2 50 (inum kd is z) = if kd (is z) = 230 then 1 else 0 := by
      rw [p1]
      by_cases q : kd (is z) = 230
      · rw [if_pos (by omega), if_pos q]; rfl
      · rw [if_neg (by omega), if_neg q]; rfl
    exact ⟨e, by rw [r3, ← r2]; exact e⟩
  have n50 : ∀ x, x ≤ 120 → (x ≤ 1 ∨ cN kd is 0 c < x) → τ.2 50 x = 0 ∧ (K c 4).2.1 1 x = 0 := fun x hx h => ⟨(hC x hx h).2.2.1, by rw [cr 1 x (Or.inl ⟨by omega, by omega, h⟩)]; exact (z1 x hx).1⟩
  generalize hroom : (fun x : Nat => decide (x ≤ 120) && decide ((K c 4).2.1 1 x = 1)) = room
  have rmi : ∀ x, room x = true ↔ x ≤ 120 ∧ (K c 4).2.1 1 x = 1 := fun x => by
    rw [← hroom]
    dsimp only
    rw [Bool.and_eq_true, decide_eq_true_iff, decide_eq_true_iff]
  have rmz : ∀ x, room x = true → ∃ z, z < c ∧ kd (is z) = 230 ∧ inum kd is z = x := fun x hx => by
    obtain ⟨q1, q2⟩ := (rmi x).mp hx
    by_cases e : x ≤ 1 ∨ cN kd is 0 c < x
    · rw [(n50 x q1 e).2] at q2
      exact absurd q2 (by decide)
    · obtain ⟨z, p1, p2, p3⟩ := obj x (by omega) (by omega)
      refine ⟨z, p1, ?_, p3⟩
      have := (o50 z p1 p2).2
      rw [p3, q2] at this
      by_cases q : kd (is z) = 230
      · exact q
      · rw [if_neg q] at this
        exact absurd this (by decide)
  have zrm : ∀ z, z < c → kd (is z) = 230 → room (inum kd is z) = true := fun z hz hk => by
    refine (rmi _).mpr ⟨by have := hnn z hz (by omega); omega, ?_⟩
    rw [(o50 z hz (by omega)).2, if_pos hk]
  have rm50 : ∀ x, x ≤ 120 → τ.2 50 x = (if room x = true then 1 else 0) ∧ (K c 4).2.1 1 x = if room x = true then 1 else 0 := fun x hx => by
    by_cases e : x ≤ 1 ∨ cN kd is 0 c < x
    · obtain ⟨q1, q2⟩ := n50 x hx e
      rw [if_neg (fun h => by
        have := ((rmi x).mp h).2
        rw [q2] at this
        exact absurd this (by decide))]
      exact ⟨q1, q2⟩
    · obtain ⟨z, p1, p2, p3⟩ := obj x (by omega) (by omega)
      obtain ⟨q1, q2⟩ := o50 z p1 p2
      rw [p3] at q1 q2
      by_cases q : kd (is z) = 230
      · have := zrm z p1 q
        rw [p3] at this
        rw [if_pos q] at q1 q2
        rw [if_pos this]; exact ⟨q1, q2⟩
      · rw [if_neg q] at q1 q2
        rw [if_neg (fun h => by
          have := ((rmi x).mp h).2
          rw [q2] at this
          exact absurd this (by decide))]
        exact ⟨q1, q2⟩
  -- the words
  obtain ⟨⟨W', hW1, -⟩, hWB, -, -⟩ := hW
  obtain rfl : W' = W := DOK_u hW1.1.1 hD1
  have row0 : ∀ x, room x = true → ow x = [] := fun x hx => by
    obtain ⟨z, p1, p2, p3⟩ := rmz x hx
    obtain ⟨-, -, q, -⟩ := hO z p1 (by omega)
    rw [← p3]
    exact List.length_eq_zero_iff.mp (q (by omega)).2
  -- forms
  have c7 : (K c 4).2.1 7 = (Θ 4).2.1 7 := by rw [hCK.2.2.1, stG_o (by omega)]
  have hFD : FD kd vl is c Θ := hDR.2.2.1
  generalize hFF : (fun v : Nat => if v = 0 then 0 else if ((K c 4).2.1 7 v).toNatClampNeg ≤ 2 then ((K c 4).2.1 7 v).toNatClampNeg else 0) = F
  have Fv : ∀ (v : Nat) (f : Int), v ≠ 0 → 0 ≤ f → f ≤ 2 → (K c 4).2.1 7 v = J f → F v = f.toNat := fun v f h1 h2 h3 h4 => by
    rw [← hFF]
    dsimp only
    rw [if_neg h1, h4, J_nat (by omega) (by omega), if_pos (by omega)]
  have F0 : ∀ v, 1 ≤ v → v ≤ 11 → (K c 4).2.1 7 v = J (bform v) := fun v a b' => by rw [c7]; exact hFD.1 v a b'
  have Fb : ∀ v, 1 ≤ v → v ≤ 11 → F v = (bform v).toNat := fun v a b' => Fv v _ (by omega) (bform_rng v).1 (bform_rng v).2 (F0 v a b')
  have F2 : ∀ v, F v ≤ 2 := fun v => by
    rw [← hFF]
    dsimp only
    repeat' split
    all_goals omega
  have hFM : FRMV F := by
    refine ⟨fun v hv => ?_, fun v a b' => ?_, ⟨by rw [Fb 9 (by omega) (by omega)]; rfl, by rw [Fb 10 (by omega) (by omega)]; rfl, by rw [Fb 11 (by omega) (by omega)]; rfl⟩, F2⟩
    · by_cases q : v = 0
      · rw [← hFF, q]; rfl
      · rw [Fb v (by omega) (by omega)]
        unfold bform
        rw [if_neg (by omega), if_pos hv]; rfl
    · rw [Fb v (by omega) (by omega)]
      unfold bform
      rw [if_neg (by omega), if_neg (by omega)]; rfl
  have Fz : ∀ z, z < c → kd (is z) = 232 → (K c 4).2.1 7 (inum kd is z) = J (fmO kd (is (z + 1))) := fun z hz hk => by
    rw [c7, inum_vb hk]; exact (hFD.2 z hz).1 hk
  have vz : ∀ v, 12 ≤ v → v ≤ cN kd is 1 c → ∃ z, z < c ∧ kd (is z) = 232 ∧ inum kd is z = v := fun v a b' => by
    obtain ⟨z, p1, p2, p3⟩ := it_at (kd := kd) (is := is) (q := 1) c (v - 1) (show 11 ≤ v - 1 by omega) (by omega)
    have e := (qOf_inv (hkr z p1)).2.1 p2
    exact ⟨z, p1, e, by rw [inum_vb e]; omega⟩
  have j9 : ∃ k : Nat, k < W'.length ∧ (K c 4).2.1 8 9 = J (k : Nat) ∧ W'.getD k 0 = tm9 [105, 110] := ⟨ki, Nat.lt_of_lt_of_le ki1 hD2.1, by rw [cr 8 9 (Or.inr (Or.inr ⟨rfl, by omega⟩)), k04 8 (by omega) (by omega) (by omega)]; exact ki2, by rw [hD2.2 ki ki1]; exact ki3⟩
  have j10 : ∃ k : Nat, k < W'.length ∧ (K c 4).2.1 8 10 = J (k : Nat) ∧ W'.getD k 0 = tm9 [111, 110] := ⟨ko, Nat.lt_of_lt_of_le ko1 hD2.1, by rw [cr 8 10 (Or.inr (Or.inr ⟨rfl, by omega⟩)), k04 8 (by omega) (by omega) (by omega)]; exact ko2, by rw [hD2.2 ko ko1]; exact ko3⟩
  have nmi : nmW [105, 110] := by unfold nmW; decide +kernel
  have nmo : nmW [111, 110] := by unfold nmW; decide +kernel
  have hVR2 : ∀ v, 1 ≤ v → v ≤ cN kd is 1 c → v ≠ 11 → VWR τ v (ow (120 + v)) ∧ F v ≤ 2 ∧ τ.2 60 v = J (F v : Nat) ∧ (K c 4).2.1 7 v = J (F v : Nat) ∧ (F v = 2 → ∃ (jw : List Int) (m : Nat), nmW jw ∧ τ.2 62 v = J (wsz jw) ∧ (∀ k, k < wmn jw → τ.2 61 (9 * v + k) = J (jw.getD k 0)) ∧ m < W'.length ∧ (K c 4).2.1 8 v = J (m : Nat) ∧ W'.getD m 0 = tm9 jw) := fun v v1 v2 v3 => by
    obtain ⟨g1, g2, g3⟩ := hVB
    by_cases q : v ≤ 10
    · obtain ⟨f1, f2, f3, f4, f5⟩ := g2 v v1 q
      have eo : ow (120 + v) = vwL.getD (v - 1) [] := by
        rw [g1 v v1 (by omega)]
        unfold owS
        rw [if_neg (by omega), if_pos (by omega), show 120 + v - 121 = v - 1 by omega]
      have eF : ((F v : Nat) : Int) = bform v := by
        rw [Fb v v1 (by omega), Int.toNat_of_nonneg (bform_rng v).1]
      rw [eo, eF]
      refine ⟨⟨f1, f2⟩, F2 v, f3, F0 v v1 (by omega), fun h => ?_⟩
      have hb2 : bform v = 2 := by omega
      have hv9 : v = 9 ∨ v = 10 := by
        unfold bform at hb2
        by_cases q9 : v = 9 ∨ v = 10
        · exact q9
        · rw [if_neg q9] at hb2
          split at hb2 <;> omega
      rcases hv9 with rfl | rfl
      · obtain ⟨k, k1, k2, k3⟩ := j9
        exact ⟨[105, 110], k, nmi, f4, f5, k1, k2, k3⟩
      · obtain ⟨k, k1, k2, k3⟩ := j10
        exact ⟨[111, 110], k, nmo, f4, f5, k1, k2, k3⟩
    · obtain ⟨z, p1, p2, p3⟩ := vz v (by omega) v2
      obtain ⟨d, ⟨d1, d2, d3, d4⟩, ⟨f1, f2, f3, f4, f5⟩, d5, d6⟩ := g3 z p1 p2
      have e7 := Fz z p1 p2
      rw [p3] at e7 f1 f2 f3 f4 f5 d6
      have hf : 0 ≤ fmO kd (is (z + 1)) ∧ fmO kd (is (z + 1)) ≤ 2 := by
        rw [← d5]
        split <;> omega
      have eF : ((F v : Nat) : Int) = fmO kd (is (z + 1)) := by
        rw [Fv v _ (by omega) hf.1 hf.2 e7, Int.toNat_of_nonneg hf.1]
      rw [eF]
      refine ⟨⟨f1, f2⟩, F2 v, f3, e7, fun h => ?_⟩
      have h215 : kd (is z + 1 + 2 * d) = 215 := by
        by_cases q2 : kd (is z + 1 + 2 * d) = 215
        · exact q2
        · rw [if_neg q2] at d5
          omega
      obtain ⟨x1, k, k1, k2, k3⟩ := d6 h215
      exact ⟨_, k, x1, f4, f5, k1, k2, k3⟩
  -- nodes
  generalize hRR : (fun (k y : Nat) => if 17 ≤ k then τ.2 (k + 47) y else υ.2 k y) = R
  have R1 : ∀ k, 17 ≤ k → k ≤ 22 → τ.2 (k + 47) = R k := fun k a b' => by
    rw [← hRR]
    funext y
    dsimp only
    rw [if_pos a]
  have R2 : ∀ k y, k ≤ 22 → y < ls c → R k y = υ.2 k y := fun k y a b' => by
    rw [← hRR]
    dsimp only
    by_cases q : 17 ≤ k
    · rw [if_pos q, harr (k + 47) (by omega) (by omega) (by omega), y6 y b' k q a, u2 k (by omega)]
    · rw [if_neg q]
  have h5 : K c 5 = Γ 5 := by rw [hCK.1 5 (by omega) (by omega) (by omega) (by omega), stG_o (by omega), hΘ 5 (by omega) (by omega)]
  obtain ⟨hDN, hRQ⟩ := DNF_of (R := R) (TX := TXw T kd vl rv pl) hT hE hSD hI ⟨d0, o0, e0⟩ hcT p0 h51 (by omega) hl39 hCR.1 h5 hbad hZ hlk hRT hA R2 hΔ2
  have hls : ∀ z, z < c → ls z < ls (z + 1) ∧ ls (z + 1) ≤ ls c := fun z hz => by
    have a := hmm.2 z hz
    have b' := is_le hmm.2 (a := z + 1) (b := c) (by omega) (Nat.le_refl _)
    omega
  have hisT : ∀ z, z < c → is z < is (z + 1) ∧ is (z + 1) ≤ T := fun z hz => by
    have a := hmm.1 z hz
    have b' := is_le hmm.1 (a := z + 1) (b := c) (by omega) (Nat.le_refl _)
    omega
  have hps : ∀ d z, z + d ≤ c → ps z ≤ ps (z + d) := by
    intro d
    induction d with
    | zero => intro z _; exact Nat.le_refl _
    | succ d ih => intro z hz; have := ih z (by omega); have b := (hI (z + d) (by omega)).2.2.2.2.1; rw [show z + (d + 1) = z + d + 1 by omega]; omega
  have hpsc : ∀ z, z ≤ c → ps z ≤ ps c := fun z hz => by
    have := hps (c - z) z (by omega)
    rw [show z + (c - z) = c by omega] at this
    exact this
  have hdc := ds_cN hI ⟨d0, o0, e0⟩ hkr
  -- a routine's block
  have blk : ∀ z, z < c → (kd (is z) = 236 ∨ kd (is z) = 237) → ∀ (y mm : Nat), mm < ls (z + 1) → σ.2 21 (ls z) = J (mm : Nat) → σ.2 19 mm = J (y : Nat) → ∀ p : Nat, (Δ 5).2.1 2 p = J (ps z : Nat) → ∃ (z' lo hi p' q m y' : Nat) (D : Nat → Nat → Prop) (Dq : Prop), J (y : Nat) = J (y' : Nat) ∧ y' < 39990 ∧ R 21 z' = J (m : Nat) ∧ R 19 m = J (y' : Nat) ∧ m < 39990 ∧ (Δ 5).2.1 2 p = J (p' : Nat) ∧ hi ≤ 39990 ∧ q ≤ ps c ∧ ¬ Dq ∧ (∀ u, ¬ D p' u) ∧ RTQ (I1 Δ D) (I3 Δ D (cN kd is 2 c) (cN kd is 3 c)) R (DNd kd σ Γ c ls is) (TXw T kd vl rv pl) Dq z' lo hi p' q := fun z hz hk y mm m1 m2 m3 p hp => by
    obtain ⟨D, x1, x2⟩ := hRQ z hz hk
    obtain ⟨hh, y', m', r', lo', g1, g2, g3, g4, g5, g6, g7, g8, g9, g10⟩ := id x2
    obtain ⟨s1, s2, -⟩ := STQ_rng g5
    obtain ⟨t1, t2⟩ := hls z hz
    have e17 : σ.2 17 (ls z) = J (kd (is z) - 229) := (ITM_hd (hI z hz).1).1
    have e21 : J (m' : Nat) = J (mm : Nat) := by
      rw [← g6, R2 21 (ls z) (by omega) (by omega), ag_21 hA e17 (by omega), m2]
    have em : m' = mm := by
      rw [J_eqN (by omega) (by omega)] at e21; exact e21
    subst em
    refine ⟨ls z, ls z, ls (z + 1), ps z, ps (z + 1), m', y', D, kd (is z) = 235, ?_, by omega, g6, g8, by omega, hp, by omega, hpsc (z + 1) (by omega), by omega, x1, x2⟩
    rw [← g8, R2 19 m' (by omega) (by omega), ag_k hA (by omega), m3]
  have rtb : ∀ z, z < c → 235 ≤ kd (is z) → ∀ p, rti (kd (is z)) (ds z) (os z) (es z) = p → p < 400 → (Δ 5).2.1 2 p = J (ps z : Nat) := fun z hz hk p hp h4 => by
    obtain ⟨lo, bb, -, -, ht⟩ := (ITM_rtn (hI z hz).1).2 hk
    rw [hΔ2 2 (by omega), ← hp]
    exact (ht (by omega)).1
  have hOI : ∀ i, i < cN kd is 5 c → ONI R (cN kd is 2 c) (cN kd is 3 c) (ps c) (TXw T kd vl rv pl) (DNd kd σ Γ c ls is) Δ F τ (K c) i := fun i hi => by
    obtain ⟨z, p1, p2, p3⟩ := it_at (kd := kd) (is := is) (q := 5) c i (Nat.zero_le _) hi
    have e := (qOf_inv (hkr z p1)).2.2.2.2.1 p2
    obtain ⟨cc, y, mm, ⟨q1, q2⟩, ⟨r70, r71, r72, r73, r74⟩, ⟨m1, m2, m3⟩, ⟨t13, t14, t15⟩, q3, q4⟩ := hON z p1 e
    rw [p3] at r70 r71 r72 r73 r74 t13 t14 t15
    obtain ⟨s1, s2⟩ := hisT z p1
    have kd2 : kd (is z + 1) = 2 := (ITM_noI (hI z p1).1).2.2.1 (by omega)
    have hv60 := (nam_of hT hp hSD (show is z + 1 ≤ T by omega) kd2).2 q3
    obtain ⟨f1, f2, -⟩ := hfm_of hT hp hSD hV hAM (is z + 1) (by omega) kd2 q3
    have eF : F (nsF Θ vl (is z + 1)) = (frm Θ vl (is z + 1)).toNat := Fv _ _ (by omega) f1 f2 (by rw [c7]; unfold frm; exact (J_of _).symm)
    have wv : ∀ k, k < cc → 0 ≤ whV Θ kd vl (is z + 2 + k) ∧ whV Θ kd vl (is z + 2 + k) ≤ 1000 ∧ whR Θ kd vl (is z + 2 + k) = if (whV Θ kd vl (is z + 2 + k)).toNat = 0 then -1 else ((whV Θ kd vl (is z + 2 + k)).toNat : Int) := fun k hk => wh_val (q4 k hk).2.2 (fun k2 ks2 => by
      obtain ⟨z', x1, x2, x3⟩ := (nam_of hT hp hSD (show is z + 2 + k ≤ T by omega) k2).1 (Or.inr ks2)
      have := hnn z' x1 (by omega)
      omega)
    have hA0 : (if 1 ≤ cc then (whV Θ kd vl (is z + 2)).toNat else 0) ≤ 1000 := by
      split
      · have := (wv 0 (by omega)).2.1
        rw [Nat.add_zero] at this; omega
      · omega
    have hB0 : (if 2 ≤ cc then (whV Θ kd vl (is z + 3)).toNat else 0) ≤ 1000 := by
      split
      · have := (wv 1 (by omega)).2.1
        rw [show is z + 2 + 1 = is z + 3 by omega] at this; omega
      · omega
    refine ⟨nsF Θ vl (is z + 1), cc, if 1 ≤ cc then (whV Θ kd vl (is z + 2)).toNat else 0, if 2 ≤ cc then (whV Θ kd vl (is z + 3)).toNat else 0, ⟨⟨by omega, q1, hA0, hB0⟩, r70, t13, r71, fun h => ?_, ?_, fun h => ?_, ?_⟩, ?_, ?_⟩
    · have := (wv 0 (by omega)).2.2
      rw [Nat.add_zero] at this
      rw [r72 h, this, if_pos h]
    · rw [t14]
      by_cases q : cc = 0
      · rw [if_pos q, if_pos q]; rfl
      · have := (wv 0 (by omega)).1
        rw [Nat.add_zero] at this
        rw [if_neg q, if_neg q, if_pos (show 1 ≤ cc by omega), Int.toNat_of_nonneg this]
    · have := (wv 1 (by omega)).2.2
      rw [show is z + 2 + 1 = is z + 3 by omega] at this
      rw [r73 h, this, if_pos h]
    · rw [t15]
      by_cases q : cc ≤ 1
      · rw [if_pos q, if_pos q]; rfl
      · have := (wv 1 (by omega)).1
        rw [show is z + 2 + 1 = is z + 3 by omega] at this
        rw [if_neg q, if_neg q, if_pos (show 2 ≤ cc by omega), Int.toNat_of_nonneg this]
    · rw [eF]
      by_cases q : cc = 0
      · omega
      · have := (q4 (cc - 1) (by omega)).2.1
        omega
    · have eR : rti (kd (is z)) (ds z) (os z) (es z) = 100 + i := by
        rw [e, rti_o, (hdc z (by omega)).2.1, p3, if_pos (by omega)]
      obtain ⟨z', lo, hi', p', q, m', y', D, Dq, v1, v2⟩ := blk z p1 (Or.inl e) y mm m1 m2 m3 (100 + i) (rtb z p1 (by omega) _ eR (by omega))
      exact ⟨z', lo, hi', p', q, m', y', D, Dq, by rw [r74]; exact v1, v2⟩
  have hEI : ∀ i, i < cN kd is 6 c → EAI R (cN kd is 2 c) (cN kd is 3 c) (ps c) (TXw T kd vl rv pl) (DNd kd σ Γ c ls is) Δ τ i := fun i hi => by
    obtain ⟨z, p1, p2, p3⟩ := it_at (kd := kd) (is := is) (q := 6) c i (Nat.zero_le _) hi
    have e := (qOf_inv (hkr z p1)).2.2.2.2.2 p2
    obtain ⟨y, mm, r75, m1, m2, m3⟩ := hEA z p1 e
    rw [p3] at r75
    have eR : rti (kd (is z)) (ds z) (os z) (es z) = 300 + i := by
      rw [e, rti_e, (hdc z (by omega)).2.2, p3, if_pos (by omega)]
    obtain ⟨z', lo, hi', p', q, m', y', D, Dq, v1, v2⟩ := blk z p1 (Or.inr e) y mm m1 m2 m3 (300 + i) (rtb z p1 (by omega) _ eR (by omega))
    exact ⟨z', lo, hi', p', q, m', y', D, Dq, by rw [r75]; exact v1, v2⟩
  -- arrays and vars
  have hEn := enF_row (kd := kd) (vl := vl) (is := is) c hAR.2
  generalize hen : (fun k : Nat => (enF kd vl is c k).toNat) = en
  have enI : ∀ k, ((en k : Nat) : Int) = enF kd vl is c k := fun k => by
    rw [← hen]
    exact Int.toNat_of_nonneg (hEn.2 k).1
  have hC10 : 0 ≤ smA kd vl is c ∧ smA kd vl is c ≤ 1000 := hDR.2.1.1
  have hREND : REND τ en (cN kd is 3 c) := ⟨n3, fun k hk => by rw [hAR.1 k hk, enI]⟩
  have hen0 : en 0 = 0 := by
    have := enI 0
    rw [enF_0] at this
    omega
  have henC : en (cN kd is 3 c) = (smA kd vl is c).toNat := by
    have := enI (cN kd is 3 c)
    rw [enF_top] at this
    omega
  have c12 : (K c 4).2.1 12 = (Θ 4).2.1 12 := by rw [hCK.2.2.2.1, stG_o (by omega)]
  have hAEND : ∀ k, k < cN kd is 3 c → (K c 4).2.1 12 k = J (en (k + 1) : Nat) := fun k hk => by
    obtain ⟨z, p1, p2, p3⟩ := it_at (kd := kd) (is := is) (q := 3) c k (Nat.zero_le _) hk
    have e := (qOf_inv (hkr z p1)).2.2.2.1 p2
    have f := (hFD.2 z p1).2 e
    have k1 := enF_keep (kd := kd) (vl := vl) (is := is) (n := z + 1) (k := k + 1) (by rw [cN_3s e]; omega) (c - (z + 1))
    rw [show z + 1 + (c - (z + 1)) = c by omega, show k + 1 = cN kd is 3 (z + 1) by rw [cN_3s e]; omega, enF_top] at k1
    rw [p3] at f
    rw [c12, f, enI, show k + 1 = cN kd is 3 (z + 1) by rw [cN_3s e]; omega, k1]
  have hmono : ∀ k, k < cN kd is 3 c → en k ≤ en (k + 1) ∧ en (k + 1) ≤ (smA kd vl is c).toNat := fun k hk => by
    have a := enI k
    have b' := enI (k + 1)
    obtain ⟨e1, e2, e3⟩ := hEn.2 k
    obtain ⟨f1, f2, f3⟩ := hEn.2 (k + 1)
    omega
  have hvars : ∀ k, k < cN kd is 2 c → (K c 4).2.1 11 k = τ.2 76 k ∧ VL (τ.2 76 k) := fun k hk => by
    obtain ⟨z, p1, p2, p3⟩ := it_at (kd := kd) (is := is) (q := 2) c k (Nat.zero_le _) hk
    have e := (qOf_inv (hkr z p1)).2.2.1 p2
    have en' : inum kd is z = k := by
      unfold inum
      rw [if_neg (by omega), ← p2, p3]
    obtain ⟨v, g1, g2, g3, g4⟩ := hVR z p1 e
    rw [en'] at g1 g2
    exact ⟨by rw [g1, g2], v, g1, g3, g4⟩
  -- objects
  have hcal : ∀ x, 2 ≤ x → x ≤ cN kd is 0 c → ∃ t, t < T ∧ kd t = 4 ∧ τ.2 46 x = J (pl t + 1 : Nat) ∧ τ.2 47 x = J (rv t) ∧ (K c 4).2.1 2 x = J (vl t) := fun x x1 x2 => by
    obtain ⟨z, p1, p2, p3⟩ := obj x x1 x2
    have := (hO z p1 p2).1.2.1
    rw [p3] at this
    exact this
  have hdsc : ∀ x, 1 ≤ x → x ≤ cN kd is 0 c → (τ.2 122 x = 0 ∧ (K c 4).2.1 3 x = J (-1)) ∨ (τ.2 122 x = 1 ∧ ∃ t, t < T ∧ kd t = 4 ∧ τ.2 48 x = J (pl t + 1 : Nat) ∧ τ.2 49 x = J (rv t) ∧ (K c 4).2.1 3 x = J (vl t)) := fun x x1 x2 => by
    by_cases q : x ≤ 1
    · exact Or.inl ⟨(hC x (by omega) (Or.inl q)).1, by rw [cr 3 x (Or.inl ⟨by omega, by omega, Or.inl q⟩)]; exact (z1 x (by omega)).2.1⟩
    · obtain ⟨z, p1, p2, p3⟩ := obj x (by omega) x2
      have := (hO z p1 p2).1.1.1
      rw [p3] at this
      exact this
  have hexi : ∀ r d : Nat, r ≤ 120 → 1 ≤ d → d ≤ 6 → ∃ e : Nat, τ.2 51 (7 * r + d) = J (e : Nat) ∧ (K c 4).2.1 6 (r * 6 + d - 1) = J (e : Nat) ∧ (e = 0 ∨ (1 ≤ e ∧ e ≤ cN kd is 0 c ∧ room e = true)) := fun r d r1 d1 d2 => by
    rw [show r * 6 + d - 1 = 6 * r + d - 1 by omega]
    by_cases q : r ≤ 1 ∨ cN kd is 0 c < r
    · refine ⟨0, ((hC r r1 q).2.2.2 d (by omega)).1, ?_, Or.inl rfl⟩
      rw [cr 6 _ (Or.inr (Or.inl ⟨rfl, by omega⟩))]
      exact z6 _ (by omega)
    · obtain ⟨z, p1, p2, p3⟩ := obj r (by omega) (by omega)
      obtain ⟨⟨⟨-, o2, -⟩, -⟩, -, -, q4⟩ := hO z p1 p2
      rw [p3] at o2 q4
      obtain ⟨m1, m2, m3, m4⟩ := o2 d d1 d2
      obtain ⟨m1', m5, m6⟩ := q4 d d1 d2
      refine ⟨m1, m3, m4, ?_⟩
      rcases m6 with m6 | ⟨u, u1, u2, u3, u4⟩
      · rw [m4, m6, J_eqN (by omega) (by omega)] at m5
        exact Or.inl m5
      · -- an exit leads to a room
        obtain ⟨s1, s2⟩ := hisT z p1
        obtain ⟨z', x1, x2, x3⟩ := exit_room hT hp hG hSD hI hZ hbad p1 s2 (by have := hkr z p1; omega) u1 u2 u3
        have em : m1 = inum kd is z' := by
          have hb := hnn z' x1 (by omega)
          rw [m4, u4, x3, J_eqN (by omega) (by omega)] at m5
          exact m5
        have hb := hnn z' x1 (by omega)
        exact Or.inr ⟨by omega, by omega, by rw [em]; exact zrm z' x1 x2⟩
  -- attributes
  generalize hat : (fun x : Nat => if x = 0 ∨ cN kd is 0 c < x then 0 else ((K c 4).2.1 5 x).toNatClampNeg) = at0
  have hat5 : ∀ x, x ≤ 120 → at0 x < 128 ∧ (K c 4).2.1 5 x = J (at0 x : Nat) ∧ ∀ a, a < 7 → τ.2 53 (7 * x + a) = if (at0 x).testBit a = true then 1 else 0 := fun x hx => by
    by_cases q : x ≤ 1 ∨ cN kd is 0 c < x
    · have e5 : (K c 4).2.1 5 x = 0 := by
        rw [cr 5 x (Or.inl ⟨by omega, by omega, q⟩)]; exact (z1 x hx).2.2.2
      have ea : at0 x = 0 := by
        rw [← hat]
        dsimp only
        rw [e5]
        split
        · rfl
        · decide
      rw [ea]
      refine ⟨by omega, by rw [e5]; rfl, fun a ha => ?_⟩
      rw [((hC x hx q).2.2.2 a ha).2, if_neg (by rw [Nat.zero_testBit]; decide)]
    · obtain ⟨z, p1, p2, p3⟩ := obj x (by omega) (by omega)
      obtain ⟨⟨⟨-, -, y, y1, y2, y3⟩, -⟩, -⟩ := hO z p1 p2
      rw [p3] at y2 y3
      have ea : at0 x = y := by
        rw [← hat]
        dsimp only
        rw [if_neg (by omega), y2, J_natN (by omega)]
      rw [ea]
      exact ⟨y1, y2, y3⟩
  have hat0 : ∀ x, x = 0 ∨ cN kd is 0 c < x → at0 x = 0 := fun x hx => by
    rw [← hat]
    dsimp only
    rw [if_pos hx]
  -- the first room; where things are told to be
  obtain ⟨z0, zf1, zf2, zf3, zf4⟩ : ∃ z0, z0 < c ∧ kd (is z0) = 230 ∧ (∀ z', z' < z0 → kd (is z') ≠ 230) ∧ τ.1 63 = J (inum kd is z0 : Nat) := by
    rcases hFRA with ⟨-, h⟩ | h
    · exact absurd zr2 (h zr zr1)
    · exact h
  have hfr := hnn z0 zf1 (by omega)
  have st0 : ∀ x, 2 ≤ x → x ≤ cN kd is 0 c → τ.2 52 x = J (s x : Nat) ∧ (K c 4).2.1 4 x = J (s x : Nat) := fun x x1 x2 => by
    obtain ⟨z, p1, p2, p3⟩ := obj x x1 x2
    obtain ⟨-, -, -, y, y1, y2, y3⟩ := (hO z p1 p2).1
    rw [p3] at y2 y3
    have := s2 x (by omega) x2
    exact ⟨by rw [y2, ← y3, this], this⟩
  have sroom : ∀ x, room x = true → s x = 0 := fun x hx => by
    obtain ⟨z, p1, p2, p3⟩ := rmz x hx
    obtain ⟨-, -, q, -⟩ := hO z p1 (by omega)
    have := (q (by omega)).1
    have hb := hnn z p1 (by omega)
    rw [p3] at this hb
    have e := (st0 x hb.1 hb.2).1
    have hs := s1 x hb.2
    rw [this, show (0 : Int32) = J ((0 : Nat) : Int) from rfl, J_eqN (by omega) (by omega)] at e
    omega
  have room1 : room 1 = false := Bool.eq_false_iff.mpr (fun h => by
    obtain ⟨z, p1, p2, p3⟩ := rmz 1 h
    have := hnn z p1 (by omega)
    omega)
  have rfr : room (inum kd is z0) = true := zrm z0 zf1 zf2
  have rbef : ∀ k, 1 ≤ k → k < inum kd is z0 → room k = false := fun k k1 k2 => Bool.eq_false_iff.mpr (fun h => by
    obtain ⟨z, p1, p2, p3⟩ := rmz k h
    rcases Nat.lt_trichotomy z z0 with q | q | q
    · exact zf3 z q p2
    · rw [q] at p3; omega
    · have a := cN_ltq (kd := kd) (is := is) q
      rw [qOf_0 (show kd (is z0) ≤ 231 by omega)] at a
      have e1 := inum_obj (kd := kd) (is := is) (z := z0) (by omega)
      have e2 := inum_obj (kd := kd) (is := is) (z := z) (by omega)
      omega)
  generalize hwh : (fun x : Nat => if x = 1 then inum kd is z0 else if x ≤ cN kd is 0 c then s x else 0) = wh
  have wh1 : wh 1 = inum kd is z0 := by rw [← hwh]; dsimp only; rw [if_pos rfl]
  have whs : ∀ x, x ≤ cN kd is 0 c → x ≠ 1 → wh x = s x := fun x a b' => by rw [← hwh]; dsimp only; rw [if_neg b', if_pos a]
  have whn : ∀ x, cN kd is 0 c < x → wh x = 0 := fun x a => by rw [← hwh]; dsimp only; rw [if_neg (by omega), if_neg (by omega)]
  have whf : wh (inum kd is z0) = 0 := by rw [whs _ hfr.2 (by omega)]; exact sroom _ rfr
  have hWHR : WHR (cN kd is 0 c) wh := by
    refine ⟨fun x => ?_, by rw [whs 0 (by omega) (by omega)]; exact s0, whn, fun x => wh_up s0 whs wh1 whn s1 whf s3 x⟩
    by_cases q : x = 1
    · rw [q, wh1]; exact hfr.2
    · by_cases q2 : x ≤ cN kd is 0 c
      · rw [whs x q2 q]; exact s1 x q2
      · rw [whn x (by omega)]; omega
  -- all of it
  have hISW : ISW Δ (ps c) (cN kd is 4 c) (cN kd is 5 c) (cN kd is 6 c) := by
    obtain ⟨Δ', l1, -, -, -, -, l6⟩ := linked hT hE hSD.2.2.2.2.2.2.2.2.1 hI hcT p0 h51 (by omega) hCR.1 h5 hbad
    rw [hlk] at l1
    have ed : Δ = Δ' := congrArg Prod.snd (Option.some.inj l1)
    subst ed
    exact rout_isw hI ⟨d0, o0, e0⟩ n4 n5 n6 hΔ2 l6 hpsc
  have hpl1 : ∀ t, t < T → pl (t + 1) ≤ L := fun t ht => by
    rw [← hpT]
    by_cases q : t + 1 = T
    · rw [q]; exact Nat.le_refl _
    · have := hp (t + 1) T (by omega) (by omega)
      omega
  refine ⟨R, cN kd is 0 c, cN kd is 2 c, (smA kd vl is c).toNat, cN kd is 3 c, room, en, ps c, TXw T kd vl rv pl, DNd kd σ Γ c ls is, Δ, F, cN kd is 5 c, cN kd is 6 c, cN kd is 1 c, ow, W', inum kd is z0, wh, at0, fun Ξ hΞ h07 => ?_⟩
  have e4 : Ξ 4 = K c 4 := by rw [hΞ 4 (by omega) (by omega), hΓ' 4 (by omega), hΔ 4 (by omega)]
  have e5 : Ξ 5 = Δ 5 := by rw [hΞ 5 (by omega) (by omega), hΓ' 5 (by omega)]
  have e6 : Ξ 6 = Γ' 6 := hΞ 6 (by omega) (by omega)
  have e7 : Ξ 7 = K c 7 := by rw [hΞ 7 (by omega) (by omega), hΓ' 7 (by omega), hΔ 7 (by omega)]
  have hTX : TXS b T kd vl rv pl Ξ := TXS_6 hTXS (by rw [e6]) (fun _ _ => by rw [e6])
  have tx : ∀ t, t < T → kd t = 4 → TXR τ Ξ (pl t) (rv t) (vl t) := fun t ht hk => TXR_of hTX hSW (fun x hx => by rw [harr 45 (by omega) (by omega) (by omega)]; exact y5 x hx) (hpl1 t ht) ht hk
  have hCAL : CAL τ Ξ (cN kd is 0 c) := fun x x1 x2 => by
    obtain ⟨t, t1, t2, t3, t4, t5⟩ := hcal x x1 x2
    exact ⟨pl t, rv t, vl t, tx t t1 t2, t3, t4, by rw [e4]; exact t5⟩
  have hDSC : DSC τ Ξ (cN kd is 0 c) := fun x x1 x2 => by
    rw [e4]
    rcases hdsc x x1 x2 with h | ⟨h, t, t1, t2, t3, t4, t5⟩
    · exact Or.inl h
    · exact Or.inr ⟨h, pl t, rv t, vl t, tx t t1 t2, t3, t4, t5⟩
  have hEXI : EXI τ Ξ (cN kd is 0 c) room := fun r d r1 d1 d2 => by
    rw [e4]; exact hexi r d r1 d1 d2
  have hCNT : CNT3 τ (cN kd is 0 c) (cN kd is 2 c) (smA kd vl is c).toNat := ⟨hn120, n2, by omega, rq 0 (by omega), rq 2 (by omega), cN kd is 3 c, by omega, rq 3 (by omega), by rw [hREND.2 _ (Nat.le_refl _), henC]⟩
  have hln : (Ξ 5).1 1 = J (ps c : Nat) := by rw [e5, hΔ1]; exact h51
  refine ⟨⟨⟨hDN, hFM, row0⟩, ⟨R1, ⟨rq 0 (by omega), by rw [e4]; exact cq 0 (by omega), hnO, hn120⟩, fun x hx => by rw [e4]; exact rm50 x hx, ⟨hREND, ⟨n3, fun k hk => by rw [e4]; exact hAEND k hk⟩, hen0, hmono, by omega, n2⟩, hCAL, ⟨hln, by omega⟩, ?_⟩, ⟨hCAL, hDSC, fun x hx => (rm50 x hx).1, rq 0 (by omega), hn120, hEXI⟩, ⟨rq 5 (by omega), n5, fun i hi => ?_⟩, by rw [e4]; exact cq 5 (by omega), ⟨rq 6 (by omega), n6, hEI⟩, by rw [e4]; exact cq 6 (by omega), e5, ⟨rq 1 (by omega), by rw [e4]; exact cq 1 (by omega), n1, ?_, fun v v1 v2 v3 => by rw [e4]; exact hVR2 v v1 v2 v3⟩, hWB, WST_m3 hW1.1 e4 e7 |> fun x => ⟨x, hW1.2⟩, ⟨DOK_7 hD1 e7, by have := hD2.1; omega, fun e he => by rw [hD2.2 e (by omega)]; exact cl7 e he⟩, by rw [e4]; exact cq 0 (by omega), hCNT⟩, ⟨⟨zf4, by omega, hfr.2, rfr, rbef⟩, room1, hWHR, wh1, fun x hx => ?_, fun x x1 x2 => ?_, fun x hx => by rw [e4]; exact hat5 x hx, hat0, fun k hk => by rw [e4]; exact hvars k hk⟩, fun q hq => by rw [e4, cq q hq, rq q hq], ⟨⟨W', DOK_7 hD1 e7⟩, ⟨ps c, cN kd is 4 c, cN kd is 5 c, cN kd is 6 c, hln, by omega, by rw [e4]; exact cq 4 (by omega), by rw [e4]; exact cq 5 (by omega), by rw [e4]; exact cq 6 (by omega), n4, n5, n6, ISW_5 hISW e5⟩, b, T, kd, vl, rv, pl, hTX⟩, rq 3 (by omega), by rw [hi78 44 (by omega)]; exact x44, h07⟩
  · rintro w r v ⟨t, t1, t2, rfl, rfl, rfl⟩
    have ht : t < T := by
      by_cases q : t = T
      · rw [q, hkT] at t2; omega
      · omega
    exact tx t ht t2
  · have := hOI i hi
    unfold ONI ONV at this ⊢
    rw [e4]; exact this
  · rw [show (131 : Nat) = 120 + 11 from rfl, hVB.1 11 (by omega) (by omega)]
    decide +kernel
  · obtain ⟨z, p1, p2, p3⟩ := rmz x hx
    have := hnn z p1 (by omega)
    rw [whs x (by omega) (by omega)]; exact sroom x hx
  · rw [e4, whs x x2 (by omega)]; exact st0 x x1 x2
