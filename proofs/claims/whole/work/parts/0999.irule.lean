/-! on, each: told and declared alike -/
variable {T N : Nat} {kd vl rv : Nat → Int} {pl : Nat → Nat}
theorem rOther {x : Nat} {w : Int} {σ : MS} (hx : x < 39990) (h17 : σ.2 17 x = J w) (hw : 7 ≤ w ∧ w ≤ 8) : F_X12_declareOne (J (x : Nat)) σ = D8 (J (x : Nat)) (J w) σ := by
  have en := g_en (n := x) (by omega)
  have en2 := (ng (n := x) (by omega)).2
  rw [decl_eq2, if_neg en, bndE, en2, h17, isItem_eq (by omega), if_neg (by omega), Option.bind_some, bndE]
  exact if_pos rfl
def rlF (pl : Nat → Nat) (σ : MS) (i e lim c : Nat) : Int32 × Int32 := lenF (if lim < c + 1 then ntF (flt σ) 5 (pl i) else flt σ) (pl e + 1) (pl i) (pl i)
def rlX (pl : Nat → Nat) (σ : MS) (i e lim q c : Nat) : MS := noF (mI σ (fcq q) (J (c + 1 : Nat))) (rlF pl σ i e lim c)
theorem rlX_flt {σ : MS} {i e lim q c : Nat} : flt (rlX pl σ i e lim q c) = rlF pl σ i e lim c := rfl
def rlK (kd : Nat → Int) (i : Nat) (w : Int) (q lim : Nat) : Prop := (kd i = 236 ∧ w = 7 ∧ q = 5 ∧ lim = 200) ∨ (kd i = 237 ∧ w = 8 ∧ q = 6 ∧ lim = 20)
theorem rRule (hpb : ∀ i, i ≤ T + 1 → pl i ≤ 5000) {σs σ : MS} {x i e m n c lim q : Nat} {w : Int} (hA : agA σs σ) (hK : rlK kd i w q lim) (hx : x < 39990) (hm : m < 39990) (h17 : σs.2 17 x = J w) (h18 : σs.2 18 x = J (pl i)) (h21 : σs.2 21 x = J (m : Nat)) (he : σs.2 18 m = J (pl e + 1 : Nat)) (hi : i ≤ T) (he2 : e ≤ T) (hpe : pl e < 5000) (hC : CNn σ n) (hn : n ≤ 4500) (hc : σ.1 (fcq q) = J (c : Nat)) (hc5 : c ≤ 5000) : F_X12_declareOne (J (x : Nat)) σ = some ((0 : Int32), rlX pl σ i e lim q c) ∧ dT kd rv pl n i x σ (rlX pl σ i e lim q c) := by
  have hpi := hpb i (by omega)
  have hw : 7 ≤ w ∧ w ≤ 8 ∧ (q = 5 ∨ q = 6) ∧ 235 < kd i := by unfold rlK at hK; omega
  have h17' : σ.2 17 x = J w := by rw [hA 17 (by omega) (by omega)]; exact h17
  have h18' : σ.2 18 x = J (pl i) := by rw [hA 18 (by omega) (by omega)]; exact h18
  have fin : ∀ σ' : MS, (∀ k, σ'.2 k = σ.2 k) → D24 (J (x : Nat)) (J w) σ' = some ((0 : Int32), noF σ' (lenF (flt σ') (pl e + 1) (pl i) (pl i))) := by
    intro σ' h
    obtain ⟨u, e1, e2⟩ := D24_ok (y := 0) (x := x) (m := m) (e := pl e + 1) (i := pl i) (P := pl i) (w := w) (σ := σ') hx hm (by omega) (by rw [h 21, hA 21 (by omega) (by omega)]; exact h21) (by rw [h 18, hA 18 (by omega) (by omega)]; exact he) (by rw [h 18]; exact h18') ⟨by omega, by omega⟩ (Or.inr ⟨by omega, rfl⟩)
    rw [e1, e2]
  constructor
  · rw [rOther hx h17' (by omega), D8_78 (by omega)]
    rcases hK with ⟨k1, k2, k3, k4⟩ | ⟨k1, k2, k3, k4⟩
    · subst k2 k3 k4
      rw [D20_7 (W := J 7) (x := x) (i := pl i) (n := c) rfl hx h18' hc hc5]
      exact (fin (noF (mI σ 41 (J (c + 1 : Nat))) (if 200 < c + 1 then ntF (flt σ) 5 (pl i) else flt σ)) (fun k => rfl)).trans (by rw [noF_noF, noF_flt]; rfl)
    · subst k2 k3 k4
      rw [D20_8 (W := J 8) (x := x) (i := pl i) (n := c) rfl hx h18' hc hc5]
      exact (fin (noF (mI σ 42 (J (c + 1 : Nat))) (if 20 < c + 1 then ntF (flt σ) 5 (pl i) else flt σ)) (fun k => rfl)).trans (by rw [noF_noF, noF_flt]; rfl)
  · have hq : 35 ≤ fcq q ∧ fcq q ≤ 42 := by unfold fcq; split <;> omega
    have hcn := CNn_c hC (show q < 7 by omega) hn hc hc5
    refine ⟨rD0_trans (rD0_mI hq) rD0_noF, ?_, fun z hz => ?_, fun y => ?_, ?_⟩
    · rw [rlX_flt]
      unfold rlF lenF
      have h1 : nGe (pl i) (flt σ) (if lim < c + 1 then ntF (flt σ) 5 (pl i) else flt σ) := by
        split
        · exact nGe_nt (by omega) (Nat.le_refl _) hpi
        · exact nGe_rfl
      split
      · exact h1
      · exact nGe_trans h1 (nGe_nt (by omega) (Nat.le_refl _) hpi)
    · show ∃ d : Nat, d ≤ n + 1 + 11 ∧ (noF _ _).1 (fcq z) = _
      rw [noF_i (by unfold fcq; split <;> omega) (by unfold fcq; split <;> omega), mI_1]
      by_cases ez : z = q
      · subst ez; rw [if_pos rfl]; exact ⟨c + 1, by omega, rfl⟩
      · rw [if_neg (by
          unfold fcq
          repeat' split
          all_goals omega)]
        obtain ⟨d, d1, d2⟩ := hC z hz
        exact ⟨d, by omega, d2⟩
    · exact ⟨Or.inl, fun h => h.elim id (fun h => by omega)⟩
    · have hqq : q = qOf (kd i) := by
        unfold rlK at hK
        unfold qOf
        rcases hK with ⟨k1, -, k3, -⟩ | ⟨k1, -, k3, -⟩
        · rw [k1, k3]; rfl
        · rw [k1, k3]; rfl
      refine ⟨fun y => ⟨fun h => absurd h.1 (by omega), fun _ => ⟨rfl, rfl, rfl⟩⟩, fun h0 => ⟨fun h => absurd h (by omega), c, by rw [← hqq]; exact hc, ?_⟩, fun z hz => ?_⟩
      · have hl : lim = limK (kd i) := by
          unfold rlK at hK
          rcases hK with ⟨k1, -, -, k4⟩ | ⟨k1, -, -, k4⟩
          · rw [k1, k4]; rfl
          · rw [k1, k4]; rfl
        rw [← hl]
        by_cases q2 : lim < c + 1
        · exfalso
          rw [rlX_flt] at h0
          unfold rlF lenF at h0
          rw [if_pos q2] at h0
          split at h0
          · exact absurd h0 (ntF_ne (by omega))
          · exact absurd h0 (ntF_ne (by omega))
        · omega
      show (noF _ _).1 (fcq z) = _
      rw [noF_i (fcq_rng z).1 (fcq_rng z).2.1, mI_1]
      by_cases e : z = q
      · rw [if_pos (by rw [e]), if_pos (by rw [e]; exact hqq), e, hc, J_lit, J_add]; rfl
      · rw [if_neg (fun h => e (fcq_inj h)), if_neg (fun h => e (by rw [h]; exact hqq.symm))]
theorem fs_rt (hT : TKE T N kd vl rv pl) {Γ : HS} {t : Nat} (hc : TKc N kd vl pl Γ) (ht : t < N) (hk : 235 ≤ kd t ∧ kd t ≤ 237) : F_X4_followScope (J (t : Nat)) Γ = some (J 0, cI' Γ 3 12 (J (kd t))) := by
  have hkr := kd_le hT ht
  have j0 : ∀ c : Int, 0 ≤ c ∧ c ≤ 1000 → (J (kd t) = J c ↔ kd t = c) := fun c hc => by rw [J_eq (by omega) (by omega) (by omega) (by omega)]
  unfold F_X4_followScope
  rw [c_kindOf hT hc ht, Option.bind_some]
  simp only [bndE, mrg1_id]
  rw [if_neg (show ¬ J (kd t) = 59 by rw [show (59 : Int32) = J 59 from rfl, j0 59 (by omega)]; omega), if_neg (show ¬ J (kd t) = 123 by rw [show (123 : Int32) = J 123 from rfl, j0 123 (by omega)]; omega), if_neg (show ¬ J (kd t) = 125 by rw [show (125 : Int32) = J 125 from rfl, j0 125 (by omega)]; omega), if_pos (show J (kd t) = 235 ∨ J (kd t) = 236 ∨ J (kd t) = 237 by rw [show (235 : Int32) = J 235 from rfl, show (236 : Int32) = J 236 from rfl, show (237 : Int32) = J 237 from rfl, j0 235 (by omega), j0 236 (by omega), j0 237 (by omega)]; omega), c_kindOf hT hc ht, Option.bind_some, mrg1_id]
  rfl
