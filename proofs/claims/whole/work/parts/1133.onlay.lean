/-! the reference lays an on, whole -/
variable {T N : Nat} {kd vl rv : Nat → Int} {pl : Nat → Nat}
/-- what an on's word means, in the reference -/
def whR (Θ : HS) (kd vl : Nat → Int) (u : Nat) : Int := if kd u = 255 then -1 else if kd u = 228 then 1 else if kd u = 2 then (nsF Θ vl u : Nat) else kd u - 199
theorem r_LoN {Θ : HS} {σs τ σ0 : MS} {p0 t8 : Int32} {again : Int32 × MS → MR} {y u o c : Nat} (hy : y < 39990) (ho : o < 200) (hc : c < 1000) (hw : WHT kd rv pl σs y u) (hA : AGM σs τ) (hKE : KE T kd vl rv Θ τ) (hu : u ≤ T) (hrv : kd u = 2 → 0 ≤ rv u ∧ rv u < 8000) (hks : kd u = 2 → ksF Θ vl u ≠ 0) (h83 : τ.1 83 = J (o : Nat)) (h71 : τ.2 71 o = J (c : Nat)) : LoN p0 t8 σ0 again (J (y : Nat), τ) = again (σs.2 22 y, mA (mA τ 71 (upd (τ.2 71) o (J (c + 1 : Nat)))) (if c = 0 then 72 else 73) (upd (τ.2 (if c = 0 then 72 else 73)) o (J (whR Θ kd vl u)))) := by
  obtain ⟨w1, w2, w3⟩ := hw
  have gy := gNn (k := y) (n := 40000) (by omega) (by omega)
  have gy' := g40 hy
  have a19 : τ.2 19 y = σs.2 19 y := by rw [hA.1 19 (by omega)]
  have a20 : τ.2 20 y = σs.2 20 y := hA.2.1 y (by rw [w1]; decide)
  have a22 : τ.2 22 y = σs.2 22 y := by rw [hA.1 22 (by omega)]
  have key : LoN p0 t8 σ0 again (J (y : Nat), τ) = LoNt p0 again (J (y : Nat), τ) (J (whR Θ kd vl u)) τ := by
    rw [LoN_s, if_neg (J_nlt0 (by omega) (by omega)), if_neg gy, bndE, J_natN (by omega), a19]
    unfold whR
    rcases w3 with ⟨b1, b2, b3, b4⟩ | ⟨b1, b2⟩ | ⟨b1, b2⟩ | ⟨b1, b2, b3⟩
    · rw [b3, if_neg (show ¬ J 3 = 0 by decide), if_neg gy', if_pos (show J 3 = 3 from rfl), if_neg gy', a20, b4, if_neg (show ¬ kd u = 255 by omega), if_neg (show ¬ kd u = 228 by omega), if_neg (show ¬ kd u = 2 by omega)]
    · rw [b2, if_pos (show J 0 = 0 from rfl), if_pos b1]; rfl
    · rw [b2, if_neg (show ¬ J 2 = 0 by decide), if_neg gy', if_neg (show ¬ J 2 = 3 by decide), if_neg gy', if_pos (show J 2 = 2 from rfl), if_neg (show ¬ kd u = 255 by omega), if_pos b1]; rfl
    · have hr := hrv b1
      rw [b2, if_neg (show ¬ J 1 = 0 by decide), if_neg gy', if_neg (show ¬ J 1 = 3 by decide), if_neg gy', if_neg (show ¬ J 1 = 2 by decide), if_neg gy', bndE, a20, b3, show J (rv u) = J ((rv u).toNat : Nat) by rw [Int.toNat_of_nonneg hr.1], if_neg (gNn (k := (rv u).toNat) (n := 8000) (by omega) (by omega)), J_natN (by omega), (hKE u hu b1).2.1 (hks b1), if_neg (show ¬ kd u = 255 by omega), if_neg (show ¬ kd u = 228 by omega), if_pos b1]
  rw [key, r_LoNt hy ho hc h83 h71, a22]
/-- an on's end -/
theorem r_LoNe {τ σ0 : MS} {t8 : Int32} {again : Int32 × MS → MR} {x y o : Nat} {v : Int32} (hx : x < 39990) (hy : y < 39990) (ho : o < 200) (h83 : τ.1 83 = J (o : Nat)) (h21 : τ.2 21 x = J (y : Nat)) (h19 : τ.2 19 y = v) : LoN (J (x : Nat)) t8 σ0 again (-1, τ) = some ((0 : Int32), mA (mI τ 83 (J (o + 1 : Nat))) 74 (upd (τ.2 74) o v)) := by
  rw [LoN_s, if_pos (show (-1 : Int32) < 0 by decide), h83, J_suc, bndE, if_neg (gNn (k := x) (n := 40000) (by omega) (by omega)), bndE, J_natN (by omega), show (mI τ 83 (J (o + 1 : Nat))).2 21 x = J (y : Nat) from h21, if_neg (gNn (k := y) (n := 40000) (by omega) (by omega)), J_natN (by omega), bndE, show (mI τ 83 (J (o + 1 : Nat))).2 19 y = v from h19, if_neg (gNn (k := o) (n := 200) (by omega) (by omega)), J_natN (by omega), bndE]
  rfl
/-- what laying an on leaves -/
def ONF (o n c : Nat) (a b v : Int32) (σ τ : MS) : Prop := (∀ k, k ≠ 83 → τ.1 k = σ.1 k) ∧ τ.1 83 = J (o + 1 : Nat) ∧ (∀ k, ¬ (70 ≤ k ∧ k ≤ 74) → τ.2 k = σ.2 k) ∧ (∀ k z, 70 ≤ k → k ≤ 74 → z ≠ o → τ.2 k z = σ.2 k z) ∧ τ.2 70 o = J (n : Nat) ∧ τ.2 71 o = J (c : Nat) ∧ (1 ≤ c → τ.2 72 o = a) ∧ (2 ≤ c → τ.2 73 o = b) ∧ τ.2 74 o = v
theorem lp_on {Θ : HS} {σs ρ : MS} {x y i n o c : Nat} {v : Int32} (hx : x + 2 + c < 39990) (hy : y < 39990) (ho : o < 200) (hc : c ≤ 2) (h17 : σs.2 17 x = J 7) (h20 : σs.2 20 x = (if c = 0 then J (-1) else J (x + 2 : Nat))) (hw : WHS kd rv pl σs (x + 2) c (i + 2)) (hA : AGM σs ρ) (hKE : KE T kd vl rv Θ ρ) (hT : i + 2 + c ≤ T) (hrv : ∀ u, u ≤ T → kd u = 2 → 0 ≤ rv u ∧ rv u < 8000) (hks : ∀ k, k < c → kd (i + 2 + k) = 2 → ksF Θ vl (i + 2 + k) ≠ 0) (h83 : ρ.1 83 = J (o : Nat)) (h21 : ρ.2 21 x = J (y : Nat)) (h19 : ρ.2 19 y = v) : ∃ ρ', LoB (J (x : Nat)) (J (n : Nat)) ρ = some ((0 : Int32), ρ') ∧ ONF o n c (J (whR Θ kd vl (i + 2))) (J (whR Θ kd vl (i + 3))) v ρ ρ' := by
  have gx := gNn (k := x) (n := 40000) (by omega) (by omega)
  have gx' := g40 (show x < 39990 by omega)
  have go := gNn (k := o) (n := 200) (by omega) (by omega)
  have go' := gKn (k := 200) (x := o) ho (by omega)
  have a20 : ρ.2 20 x = σs.2 20 x := hA.2.1 x (by rw [h17]; decide)
  generalize hρ1 : mA (mA ρ 70 (upd (ρ.2 70) o (J (n : Nat)))) 71 (upd (ρ.2 71) o 0) = ρ1
  have o1 : ∀ k, k ≠ 70 → k ≠ 71 → ρ1.2 k = ρ.2 k := fun k a b => by rw [← hρ1, mA_2, if_neg b, mA_2, if_neg a]
  have e70 : ρ1.2 70 = upd (ρ.2 70) o (J (n : Nat)) := by rw [← hρ1]; rfl
  have e71 : ρ1.2 71 = upd (ρ.2 71) o 0 := by rw [← hρ1]; rfl
  have i1 : ρ1.1 = ρ.1 := by rw [← hρ1]; rfl
  have hA1 : AGM σs ρ1 := AGM_keep hA (fun k a b => o1 k (by omega) (by omega))
  have hK1 : KE T kd vl rv Θ ρ1 := KE_K hKE ⟨o1 28 (by omega) (by omega), o1 29 (by omega) (by omega), o1 30 (by omega) (by omega)⟩
  have head : LoB (J (x : Nat)) (J (n : Nat)) ρ = loopF (LoN (J (x : Nat)) (J (n : Nat)) ρ1) FU (σs.2 20 x, ρ1) := by
    unfold LoB
    rw [if_neg gx, bndE, J_natN (by omega), hA.1 17 (by omega), h17, if_neg (by decide), if_neg (by decide), if_neg (by decide), if_neg (by decide), if_pos (show J 7 = 7 from rfl), h83, if_neg go, bndE, J_natN (by omega), show (mA ρ 70 (upd (ρ.2 70) o (J (n : Nat)))).1 83 = J (o : Nat) from h83, if_neg go, J_natN (by omega), bndE, show mA (mA ρ 70 (upd (ρ.2 70) o (J (n : Nat)))) 71 (upd ((mA ρ 70 (upd (ρ.2 70) o (J (n : Nat)))).2 71) o 0) = ρ1 from hρ1, if_neg gx', bndE, o1 20 (by omega) (by omega), a20]
  have z71 : ρ1.2 71 o = J ((0 : Nat) : Int) := by rw [e71, upd_s, if_pos rfl]; rfl
  obtain ⟨F, hF⟩ : ∃ F, FU = F + 3 := ⟨FU - 3, by have := FU_gt (k := 3) (by omega); omega⟩
  have step : ∀ (G : Nat) (l : Int32) (τ : MS), loopF (LoN (J (x : Nat)) (J (n : Nat)) ρ1) (G + 1) (l, τ) = LoN (J (x : Nat)) (J (n : Nat)) ρ1 (loopF (LoN (J (x : Nat)) (J (n : Nat)) ρ1) G) (l, τ) := fun _ _ _ => rfl
  -- what stands at the end
  have fin : ∀ (τ : MS) (G : Nat), τ.1 = ρ1.1 → (∀ k, ¬ (71 ≤ k ∧ k ≤ 73) → τ.2 k = ρ1.2 k) → (∀ k z, z ≠ o → τ.2 k z = ρ1.2 k z) → τ.2 71 o = J (c : Nat) → (1 ≤ c → τ.2 72 o = J (whR Θ kd vl (i + 2))) → (2 ≤ c → τ.2 73 o = J (whR Θ kd vl (i + 3))) → ∃ ρ', loopF (LoN (J (x : Nat)) (J (n : Nat)) ρ1) (G + 1) (-1, τ) = some ((0 : Int32), ρ') ∧ ONF o n c (J (whR Θ kd vl (i + 2))) (J (whR Θ kd vl (i + 3))) v ρ ρ' := by
    intro τ G t1 t2 t3 t4 t5 t6
    refine ⟨_, by rw [step, r_LoNe (y := y) (v := v) (by omega) hy ho (by rw [t1, i1]; exact h83) (by rw [t2 21 (by omega), o1 21 (by omega) (by omega)]; exact h21) (by rw [t2 19 (by omega), o1 19 (by omega) (by omega)]; exact h19)], fun k hk => ?_, rfl, fun k hk => ?_, fun k z k1 k2 hz => ?_, ?_, ?_, fun h => ?_, fun h => ?_, ?_⟩
    · show (mI τ 83 (J (o + 1 : Nat))).1 k = _
      rw [mI_1, if_neg hk, t1, i1]
    · rw [mA_2, if_neg (by omega)]
      show τ.2 k = _
      rw [t2 k (by omega), o1 k (by omega) (by omega)]
    · have e1 : τ.2 k z = ρ.2 k z := by
        rw [t3 k z hz]
        by_cases q : k = 70
        · rw [q, e70, upd_s, if_neg hz]
        · by_cases q1 : k = 71
          · rw [q1, e71, upd_s, if_neg hz]
          · rw [o1 k q q1]
      rw [mA_2]
      by_cases q : k = 74
      · rw [if_pos q, upd_s, if_neg hz, ← q]; exact e1
      · rw [if_neg q]; exact e1
    · rw [mA_2, if_neg (by omega)]
      show τ.2 70 o = _
      rw [t2 70 (by omega), e70, upd_s, if_pos rfl]
    · rw [mA_2, if_neg (by omega)]; exact t4
    · rw [mA_2, if_neg (by omega)]; exact t5 h
    · rw [mA_2, if_neg (by omega)]; exact t6 h
    · rw [mA_2, if_pos rfl, upd_s, if_pos rfl]
  rw [head, h20, hF]
  by_cases c0 : c = 0
  · rw [if_pos c0]
    exact fin ρ1 (F + 2) rfl (fun _ _ => rfl) (fun _ _ _ => rfl) (by rw [c0]; exact z71) (fun h => by omega) (fun h => by omega)
  · rw [if_neg c0, step, r_LoN (c := 0) (u := i + 2) (o := o) (by omega) ho (by omega) (hw 0 (by omega)).1 hA1 hK1 (by omega) (hrv (i + 2) (by omega)) (hks 0 (by omega)) (by rw [i1]; exact h83) z71, if_pos rfl]
    have e22 := (hw 0 (by omega)).2
    generalize hρ2 : mA (mA ρ1 71 (upd (ρ1.2 71) o (J (0 + 1 : Nat)))) 72 (upd (ρ1.2 72) o (J (whR Θ kd vl (i + 2)))) = ρ2
    have p71 : ρ2.2 71 = upd (ρ1.2 71) o (J ((1 : Nat) : Int)) := by rw [← hρ2]; rfl
    have p72 : ρ2.2 72 = upd (ρ1.2 72) o (J (whR Θ kd vl (i + 2))) := by rw [← hρ2]; rfl
    have po : ∀ k, k ≠ 71 → k ≠ 72 → ρ2.2 k = ρ1.2 k := fun k a b => by rw [← hρ2, mA_2, if_neg b, mA_2, if_neg a]
    have p1 : ρ2.1 = ρ1.1 := by rw [← hρ2]; rfl
    have pz : ∀ k z, z ≠ o → ρ2.2 k z = ρ1.2 k z := fun k z hz => by
      by_cases q : k = 71
      · rw [q, p71, upd_s, if_neg hz]
      · by_cases q1 : k = 72
        · rw [q1, p72, upd_s, if_neg hz]
        · rw [po k q q1]
    by_cases c1 : c = 1
    · have e22' : σs.2 22 (x + 2) = J (-1) := by rw [show x + 2 = x + 2 + 0 from rfl, e22, if_neg (by omega)]
      rw [e22']
      exact fin ρ2 (F + 1) p1 (fun k hk => po k (by omega) (by omega)) pz (by rw [p71, upd_s, if_pos rfl, c1]) (fun _ => by rw [p72, upd_s, if_pos rfl]) (fun h => by omega)
    · have e22' : σs.2 22 (x + 2) = J (x + 3 : Nat) := by rw [show x + 2 = x + 2 + 0 from rfl, e22, if_pos (by omega)]
      have hA2 : AGM σs ρ2 := AGM_keep hA1 (fun k a b => po k (by omega) (by omega))
      have hK2 : KE T kd vl rv Θ ρ2 := KE_K hK1 ⟨po 28 (by omega) (by omega), po 29 (by omega) (by omega), po 30 (by omega) (by omega)⟩
      rw [e22', step, r_LoN (c := 1) (u := i + 3) (o := o) (by omega) ho (by omega) (hw 1 (by omega)).1 hA2 hK2 (by omega) (hrv (i + 3) (by omega)) (hks 1 (by omega)) (by rw [p1, i1]; exact h83) (by rw [p71, upd_s, if_pos rfl]), if_neg (show ¬ (1 : Nat) = 0 by omega)]
      have e33 : σs.2 22 (x + 3) = J (-1) := by
        have := (hw 1 (by omega)).2
        rw [if_neg (by omega)] at this; exact this
      rw [e33]
      generalize hρ3 : mA (mA ρ2 71 (upd (ρ2.2 71) o (J (1 + 1 : Nat)))) 73 (upd (ρ2.2 73) o (J (whR Θ kd vl (i + 3)))) = ρ3
      have q71 : ρ3.2 71 = upd (ρ2.2 71) o (J ((2 : Nat) : Int)) := by rw [← hρ3]; rfl
      have q73 : ρ3.2 73 = upd (ρ2.2 73) o (J (whR Θ kd vl (i + 3))) := by rw [← hρ3]; rfl
      have qo : ∀ k, k ≠ 71 → k ≠ 73 → ρ3.2 k = ρ2.2 k := fun k a b => by rw [← hρ3, mA_2, if_neg b, mA_2, if_neg a]
      exact fin ρ3 F (by rw [← hρ3]; exact p1) (fun k hk => by rw [qo k (by omega) (by omega), po k (by omega) (by omega)]) (fun k z hz => by
        rw [← pz k z hz]
        by_cases q : k = 71
        · rw [q, q71, upd_s, if_neg hz]
        · by_cases q1 : k = 73
          · rw [q1, q73, upd_s, if_neg hz]
          · rw [qo k q q1]) (by rw [q71, upd_s, if_pos rfl, show c = 2 by omega]) (fun _ => by rw [qo 72 (by omega) (by omega), p72, upd_s, if_pos rfl]) (fun _ => by rw [q73, upd_s, if_pos rfl])
