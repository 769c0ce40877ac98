/-! the third going: a WHAT, good or bad, the class -/
variable {T N : Nat} {kd vl rv : Nat → Int} {pl : Nat → Nat}
def whV (Θ : HS) (kd vl : Nat → Int) (u : Nat) : Int := if kd u = 255 then 0 else if kd u = 228 then 1 else if kd u = 2 then (nsF Θ vl u : Nat) else kd u - 199
theorem c_what (hT : TKE T N kd vl rv pl) {G : Nat → HS} {Θ Γs Γ : HS} {t u v : Nat} {q F : Int} (h : CT3 T N kd vl pl G Θ Γs t Γ) (hu : u ≤ T) (hs0 : kd u = 2 → (G t 3).2.1 5 (vl u).toNat = 0) (hn : nsF Θ vl v ≤ 60) (hf : (Γ 4).2.1 7 (nsF Θ vl v) = J F) (hF : 0 ≤ F ∧ F ≤ 2) (hq : 0 ≤ q ∧ q ≤ 2) (hk : kd u = 2 ∨ (200 ≤ kd u ∧ kd u ≤ 205) ∨ kd u = 255 ∨ kd u = 228) (hks : kd u = 2 → 0 ≤ ksF Θ vl u ∧ ksF Θ vl u ≤ 6) (hns : kd u = 2 → ksF Θ vl u = 2 → (Θ 3).2.1 4 (vl u).toNat = J (nsF Θ vl u : Nat)) : ((q ≤ F ∧ goodWh Θ kd vl v u) → F_X4_whatOf (J (nsF Θ vl v : Nat)) (J (u : Nat)) (J q) Γ = some (J (whV Θ kd vl u), Γ)) ∧ (¬ (q ≤ F ∧ goodWh Θ kd vl v u) → ∃ x : Int32, F_X4_whatOf (J (nsF Θ vl v : Nat)) (J (u : Nat)) (J q) Γ = some (x, failS Γ pl 3 u)) := by
  obtain ⟨n1, n2, n3, n4⟩ := TKE_N hT
  obtain ⟨hc, h16, hA, h3, h4, -⟩ := id h
  have huN : u < N := by omega
  have hkr := kd_le hT huN
  have jk : ∀ c : Int, 0 ≤ c ∧ c ≤ 1000 → (J (kd u) = J c) = (kd u = c) := fun c hc => J255 c hkr hc
  have ef : F_X4_fail 3 (J (u : Nat)) Γ = some (J 0, failS Γ pl 3 u) := c_fail4 hT (f := 3) hc h16 huN
  have hcf : TKc N kd vl pl (failS Γ pl 3 u) := ⟨hc.1, hc.2⟩
  have e11 : (J (nsF Θ vl v : Nat) = 11) = (nsF Θ vl v = 11) := by
    rw [show (11 : Int32) = J 11 from rfl, J_eq (by omega) (by omega) (by omega) (by omega)]
    exact propext ⟨fun h => by omega, fun h => by omega⟩
  have e0 : F_X4_whatOf (J (nsF Θ vl v : Nat)) (J (u : Nat)) (J q) Γ = if q ≤ F then Wj11 (J (nsF Θ vl v : Nat)) (J (u : Nat)) (J (kd u)) Γ else Wj11 (J (nsF Θ vl v : Nat)) (J (u : Nat)) (J (kd u)) (failS Γ pl 3 u) := by
    rw [whatOf_eq, c_kindOf hT hc huN, Option.bind_some, bndE, mrg1_id]
    dsimp only
    rw [if_neg (show ¬ J (kd u) = 123 by rw [show (123 : Int32) = J 123 from rfl, jk 123 (by omega)]; omega), q_g_at_in (n := 61) (i := (nsF Θ vl v : Nat)) (by omega) (by omega) (by omega), Int.toNat_natCast, hf, ef, Option.bind_some]
    have el : (J q ≤ J F) = (q ≤ F) := J_le (by omega) (by omega) (by omega) (by omega)
    by_cases ql : q ≤ F
    · rw [if_pos ql, if_pos (by rw [el]; exact ql)]
    · rw [if_neg ql, if_neg (by rw [el]; exact ql)]
  obtain ⟨y, hy⟩ := numAny hT hcf huN
  have e32 : Wj32 (J (u : Nat)) Γ = some (y, failS Γ pl 3 u) := by
    unfold Wj32
    rw [ef, Option.bind_some, hy, Option.bind_some]
  rw [e0]
  by_cases ql : q ≤ F
  · rw [if_pos ql]
    unfold Wj11
    by_cases q255 : kd u = 255
    · rw [if_pos (show J (kd u) = 255 by rw [q255]; rfl)]
      refine ⟨fun _ => ?_, fun hb => absurd ⟨ql, Or.inl q255⟩ hb⟩
      unfold whV; rw [if_pos q255]; rfl
    rw [if_neg (show ¬ J (kd u) = 255 by rw [show (255 : Int32) = J 255 from rfl, jk 255 (by omega)]; exact q255)]
    by_cases q11 : nsF Θ vl v = 11
    · rw [if_pos (by rw [e11]; exact q11)]
      by_cases qd : 200 ≤ kd u ∧ kd u ≤ 205
      · rw [if_neg (show ¬ J (kd u) < 200 by rw [show (200 : Int32) = J 200 from rfl, J_lt (by omega) (by omega) (by omega) (by omega)]; omega), if_neg (show ¬ 205 < J (kd u) by rw [show (205 : Int32) = J 205 from rfl, J_lt (by omega) (by omega) (by omega) (by omega)]; omega)]
        refine ⟨fun _ => ?_, fun hb => absurd ⟨ql, Or.inr (Or.inl ⟨q11, qd⟩)⟩ hb⟩
        unfold whV
        rw [if_neg q255, if_neg (by omega), if_neg (by omega), show (200 : Int32) = J 200 from rfl, show (1 : Int32) = J 1 from rfl, J_sub, J_add, show kd u - 200 + 1 = kd u - 199 by omega]
      · have e18 : Wj18 (J (nsF Θ vl v : Nat)) (J (u : Nat)) (J (kd u)) Γ = some (y, failS Γ pl 3 u) := by
          unfold Wj18 Wj22
          rw [if_pos (by rw [e11]; exact q11), if_pos (by rw [e11]; exact q11)]
          exact e32
        have ng : ¬ goodWh Θ kd vl v u := by
          rintro (g | g | g)
          · exact q255 g
          · exact qd ⟨g.2.1, g.2.2⟩
          · exact g.1 q11
        refine ⟨fun hg => absurd hg.2 ng, fun _ => ⟨y, ?_⟩⟩
        by_cases ql2 : J (kd u) < 200
        · rw [if_pos ql2]; exact e18
        · rw [if_neg ql2, if_pos (show 205 < J (kd u) by
            rw [show (205 : Int32) = J 205 from rfl, J_lt (by omega) (by omega) (by omega) (by omega)]
            rw [show (200 : Int32) = J 200 from rfl, J_lt (by omega) (by omega) (by omega) (by omega)] at ql2
            omega)]
          exact e18
    · rw [if_neg (by rw [e11]; exact q11)]
      unfold Wj18
      rw [if_neg (by rw [e11]; exact q11)]
      by_cases q228 : kd u = 228
      · rw [if_pos (show J (kd u) = 228 by rw [q228]; rfl)]
        refine ⟨fun _ => ?_, fun hb => absurd ⟨ql, Or.inr (Or.inr ⟨q11, Or.inl q228⟩)⟩ hb⟩
        unfold whV; rw [if_neg q255, if_pos q228]; rfl
      rw [if_neg (show ¬ J (kd u) = 228 by rw [show (228 : Int32) = J 228 from rfl, jk 228 (by omega)]; exact q228)]
      unfold Wj22
      rw [if_neg (by rw [e11]; exact q11)]
      by_cases q2 : kd u = 2
      · have hz := hs0 q2
        have hr := hks q2
        rw [c_sortB hT h hu q2, Option.bind_some, if_pos hz]
        dsimp only
        by_cases k2 : ksF Θ vl u = 2
        · rw [if_pos (show J (ksF Θ vl u) = 2 by rw [k2]; rfl), c_numOf hT h hu q2, Option.bind_some, if_pos hz, hns q2 k2]
          refine ⟨fun _ => ?_, fun hb => absurd ⟨ql, Or.inr (Or.inr ⟨q11, Or.inr ⟨q2, k2⟩⟩)⟩ hb⟩
          unfold whV; rw [if_neg q255, if_neg q228, if_pos q2]
        · rw [if_neg (show ¬ J (ksF Θ vl u) = 2 by rw [show (2 : Int32) = J 2 from rfl, J_eq (by omega) (by omega) (by omega) (by omega)]; exact k2)]
          refine ⟨fun hg => ?_, fun _ => ⟨y, e32⟩⟩
          rcases hg.2 with g | g | g
          · exact absurd g q255
          · exact absurd g.1 q11
          · rcases g.2 with g | g
            · exact absurd g q228
            · exact absurd g.2 k2
      · rw [sortAny hT hc huN q2, Option.bind_some]
        dsimp only
        rw [if_neg (show ¬ (0 : Int32) = 2 by decide)]
        refine ⟨fun hg => ?_, fun _ => ⟨y, e32⟩⟩
        rcases hg.2 with g | g | g
        · exact absurd g q255
        · exact absurd g.1 q11
        · rcases g.2 with g | g
          · exact absurd g q228
          · exact absurd g.1 q2
  · rw [if_neg ql]
    refine ⟨fun hg => absurd hg.1 ql, fun _ => ?_⟩
    exact w_dead hT hcf (f := 3) rfl (by omega) huN _ _
