/-! the class's meanings, as numbers -/
variable {T N : Nat} {kd vl rv : Nat → Int} {pl : Nat → Nat}
theorem hs_of {G : Nat → HS} {Θ Γs : HS} {σs σK : MS} {DN : Nat → Nat → Nat → Prop} (hE : MEN T N kd vl rv pl G Θ Γs σs σK DN) (hTB : TB T kd vl rv σK Θ) {t : Nat} (ht : t ≤ T) (hk : kd t = 2) (hk1 : kd (t - 1) ≠ 242) {s m D : Nat} {ts sl : Nat → Nat} (hC : SC T kd vl (G t) s m D ts sl) : (0 ≤ srt G Θ kd vl t ∧ srt G Θ kd vl t ≤ 7) ∧ (srt G Θ kd vl t ≠ 0 → (if (G t 3).2.1 5 (vl t).toNat = 0 then (Θ 3).2.1 4 (vl t).toNat else (G t 3).2.1 5 (vl t).toNat - 1) = J (nmb G Θ kd vl t : Nat)) ∧ (srt G Θ kd vl t = 6 → nmb G Θ kd vl t < 100) := by
  obtain ⟨hT, hN, hp, hpb, ⟨hX1, hX2, hX3, hX4⟩, hG⟩ := hE
  obtain ⟨c1, c2⟩ := srt_n (vl := vl) (G := G) (Θ := Θ) hk1
  obtain ⟨b1, b2, b3, b4⟩ := hX2 t ht hk
  have hsn := snF_of hT hC ht hk
  have eS : (G t 3).2.1 5 (vl t).toNat = J (snF G vl t) := snF_J
  rcases hsn with ⟨j, j1, j2, j3, j4⟩ | ⟨j1, j2⟩
  · have h0 : snF G vl t ≠ 0 := by omega
    rw [if_neg h0] at c1 c2
    have hz : ¬ (G t 3).2.1 5 (vl t).toNat = 0 := by
      rw [eS, show (0 : Int32) = J 0 from rfl, J_eq (by omega) (by omega) (by omega) (by omega)]; exact h0
    refine ⟨by omega, fun _ => ?_, fun h => by omega⟩
    rw [if_neg hz, eS, c2, J_lit, J_sub]
    congr 1
    rw [j3]
    show (sl j : Int) + 1 - 1 = _
    omega
  · rw [if_pos j2] at c1 c2
    have hz : (G t 3).2.1 5 (vl t).toNat = 0 := by rw [eS, j2]; rfl
    refine ⟨by omega, fun h => ?_, fun h => ?_⟩
    · rw [if_pos hz, c2]
      have hne : σK.2 28 (rv t).toNat ≠ 0 := by
        rw [b1, show (0 : Int32) = J 0 from rfl, Ne, J_eq (by omega) (by omega) (by omega) (by omega)]; omega
      rw [← (hTB t ht hk).2 hne]
      exact b2 (by omega)
    · rw [c2]
      obtain ⟨z, C, -, -, -, -, -, -, -, z8, -⟩ := hX3 t ht hk (by omega)
      exact z8
/-- what is written down for a NAME that is not bad -/
theorem mvl_J {G : Nat → HS} {Θ Γs : HS} {σs σK : MS} {DN : Nat → Nat → Nat → Prop} (hE : MEN T N kd vl rv pl G Θ Γs σs σK DN) (hTB : TB T kd vl rv σK Θ) {t : Nat} (ht : t ≤ T) (hk : kd t = 2) {s m D : Nat} {ts sl : Nat → Nat} (hC : SC T kd vl (G t) s m D ts sl) (hb : ¬ badB G Θ Γs kd vl t) : mvl G Θ kd vl t = J ((srt G Θ kd vl t).toNat * 65536 + nmb G Θ kd vl t : Nat) ∧ 1 ≤ srt G Θ kd vl t ∧ srt G Θ kd vl t ≤ 7 ∧ nmb G Θ kd vl t ≤ 120 := by
  by_cases q : kd (t - 1) = 242
  · have e1 : srt G Θ kd vl t = 7 := by unfold srt; rw [if_pos q]
    have e2 : nmb G Θ kd vl t = m := by
      unfold nmb; rw [if_pos q, hC.2.1, J_toInt (by have := hC.2.2.2.2.1; omega) (by have := hC.2.2.2.2.1; omega)]; rfl
    have hm := hC.2.2.2.2.1
    refine ⟨?_, by omega, by omega, by omega⟩
    unfold mvl
    rw [if_pos q, hC.2.1, mng_let (by omega), e1, e2]; rfl
  · obtain ⟨⟨h1, h2⟩, h3, h4⟩ := hs_of hE hTB ht hk q hC
    have hw : wantB G Θ Γs kd vl t := Classical.byContradiction (fun h => hb ((badB_want hk q).mpr h))
    have hs1 : 1 ≤ srt G Θ kd vl t ∧ (srt G Θ kd vl t ≠ 3) := by
      unfold wantB at hw
      split at hw
      · omega
      · split at hw
        · omega
        · split at hw
          · omega
          · omega
    obtain ⟨hT, hN, hp, hpb, ⟨hX1, hX2, hX3, hX4⟩, hG⟩ := hE
    have hn : nmb G Θ kd vl t ≤ 120 := by
      obtain ⟨c1, c2⟩ := srt_n (vl := vl) (G := G) (Θ := Θ) q
      rcases snF_of hT hC ht hk with ⟨j, j1, j2, j3, j4⟩ | ⟨j1, j2⟩
      · rw [if_neg (by omega)] at c2; omega
      · rw [if_pos j2] at c1 c2
        obtain ⟨l1, l2, l3⟩ := hX4 t ht hk
        have l6 := h4
        rw [c2] at l6 ⊢
        have b4 := (hX2 t ht hk).2.2
        rcases (show ksF Θ vl t = 1 ∨ ksF Θ vl t = 2 ∨ ksF Θ vl t = 4 ∨ ksF Θ vl t = 5 ∨ ksF Θ vl t = 6 by omega) with e | e | e | e | e
        · exact l3 (Or.inl e)
        · exact l3 (Or.inr e)
        · have := l1 e; omega
        · have := l2 e; omega
        · have := l6 (by omega); omega
    refine ⟨?_, hs1.1, h2, hn⟩
    unfold mvl
    rw [if_neg q, h3 (by omega)]
    have := mng_J (a := (srt G Θ kd vl t).toNat) (b := nmb G Θ kd vl t) (by omega) (by omega)
    rw [show ((srt G Θ kd vl t).toNat : Int) = srt G Θ kd vl t by omega] at this
    exact this
