/-! all texts are packed: the loop -/
variable {T N : Nat} {kd vl rv : Nat → Int} {pl : Nat → Nat}
def Pa1  : ((Int32 × HS) → HR) → Int32 × HS → HR := (fun (again_8 : (Int32 × HS) → HR) (s_7 : Int32 × HS) => ( if ((s_7.2 1).1 2) ≤ s_7.1 then ( some (0, s_7.2) ) else ( (F_X10_kindOf s_7.1 s_7.2).bind fun u_14 => bnd (mrg (fun j => j == 1) s_7.2 u_14.2) fun σ_16 => bnd (fun  (σ_18 : HS) => ( bnd (s_7.1 + 1) fun (x_22 : Int32) => again_8 (x_22, σ_18) ) : HS → HR) fun j_19 => if u_14.1 = 4 then ( (F_X10_placeOf s_7.1 σ_16).bind fun u_26 => bnd (mrg (fun j => j == 1) σ_16 u_26.2) fun σ_28 => (F_X9_pack (u_26.1 + 1) σ_28).bind fun u_30 => bnd (mrg (fun j => j == 6) σ_28 u_30.2) fun σ_32 => j_19  σ_32 ) else ( j_19  σ_16 ) ) ))
theorem packAll_eq (Γ : HS) : F_X9_packAll Γ = bnd ((if 16000 < ((Γ 1).1 1) then 16000 else ((Γ 1).1 1))) fun (x_1 : Int32) => if 0 < 0 ∨ 0 < 0 ∨ x_1 < 0 ∨ 16000 < (0 : Int32).toNatClampNeg + x_1.toNatClampNeg ∨ 16000 < (0 : Int32).toNatClampNeg + x_1.toNatClampNeg ∨ ¬ (∀ z, z < x_1.toNatClampNeg → vp_nar .byte (((Γ 1).2.1 0) ((0 : Int32).toNatClampNeg + z)) = ((Γ 1).2.1 0) ((0 : Int32).toNatClampNeg + z)) then none else bnd (cA' Γ 6 7 (va_cpy ((Γ 1).2.1 0) ((Γ 6).2.1 7) (0 : Int32).toNatClampNeg (0 : Int32).toNatClampNeg x_1.toNatClampNeg)) fun σ_5 => loopF Pa1 FU (0, σ_5) := rfl
theorem mrgR1 {Γ Δ : HS} (h : ∀ r, r ≠ 1 → Δ r = Γ r) : mrg (fun j => j == 1) Γ Δ = Δ := mrgE (fun r hr => h r (by rintro rfl; exact absurd hr (by decide)))
theorem mrgR6 {Γ Δ : HS} (h : ∀ r, r ≠ 6 → Δ r = Γ r) : mrg (fun j => j == 6) Γ Δ = Δ := mrgE (fun r hr => h r (by rintro rfl; exact absurd hr (by decide)))
/-- text n is packed in units u0 .. -/
def PKD (Γ : HS) (n u0 nu fr m : Nat) (sb : Nat → Int) : Prop := (Γ 6).2.1 4 n = J (u0 : Nat) ∧ (Γ 6).2.1 5 n = J (fr : Nat) ∧ UNT Γ (cdF (tby sb) m) u0 nu ∧ 1 ≤ nu ∧ cpz (tby sb) m ≤ 3 * nu ∧ 3 * nu ≤ cpz (tby sb) m + 3
/-- all before word j are packed -/
def PAJ (b : Nat → Int) (kd rv : Nat → Int) (pl : Nat → Nat) (Γ0 : HS) (j : Nat) (Δ : HS) : Prop := (∀ r, r ≠ 6 → Δ r = Γ0 r) ∧ (Δ 6).2.1 7 = (Γ0 6).2.1 7 ∧ (Δ 6).1 6 = J (strK kd j : Nat) ∧ ∃ u : Nat, (Δ 6).1 1 = J (u : Nat) ∧ (∀ T, plm T pl → j ≤ T + 1 → u ≤ pl j) ∧ ∀ t, t < j → kd t = 4 → ∃ u0 nu : Nat, u0 + nu ≤ u ∧ PKD Δ (strK kd t) u0 nu (pl t + 1) (rv t).toNat (sbW b pl t)
theorem c_packAll {Γ : HS} {b : Nat → Int} {L : Nat} (hT : TKE T N kd vl rv pl) (hp : plm T pl) (hc : TKc N kd vl pl Γ) (hs : csrc b L Γ) (hw : SWD b T kd vl rv pl) (hL : pl T ≤ L) (h1 : (Γ 6).1 1 = 0) (h6 : (Γ 6).1 6 = 0) : ∃ Γ', F_X9_packAll Γ = some ((0 : Int32), Γ') ∧ (∀ i, i < L → (Γ' 6).2.1 7 i = J (b i)) ∧ ∃ Γ0 : HS, (∀ r, r ≠ 6 → Γ0 r = Γ r) ∧ PAJ b kd rv pl Γ0 N Γ' := by
  obtain ⟨s1, s2, s3, s4⟩ := hs
  have hT1 := hT.1
  have hN : N ≤ T + 2 := by rcases hT.2.2.1 with h | h <;> omega
  have hNl : T < N := by rcases hT.2.2.1 with h | h <;> omega
  have hk4 : ∀ t, T ≤ t → t < N → kd t ≠ 4 := by
    intro t h1 h2
    rcases hT.2.2.1 with ⟨a, b⟩ | ⟨a, b, c⟩
    · rw [show t = T by omega, a]; omega
    · rcases Nat.lt_or_ge T t with q | q
      · rw [show t = T + 1 by omega, b]; omega
      · rw [show t = T by omega, a]; omega
  have hkr : ∀ t, t < N → 0 ≤ kd t ∧ kd t ≤ 256 := by
    intro t ht
    rcases Nat.lt_or_ge t T with h | h
    · have := (hT.2.1 t h).1
      unfold kdOk at this
      omega
    · rcases hT.2.2.1 with ⟨a, b⟩ | ⟨a, b, c⟩
      · rw [show t = T by omega, a]; omega
      · rcases Nat.lt_or_ge T t with q | q
        · rw [show t = T + 1 by omega, b]; omega
        · rw [show t = T by omega, a]; omega
  have hpm : ∀ t, t < N → t ≤ T → pl t ≤ pl (t + 1) := fun t _ h => Nat.le_of_lt (hp t (t + 1) (by omega) (by omega))
  rw [packAll_eq, bndE, s2, if_neg (show ¬ (16000 : Int32) < J (L : Nat) by rw [show (16000 : Int32) = J 16000 from rfl, J_lt (by omega) (by omega) (by omega) (by omega)]; omega), J_natN (by omega), show (0 : Int32).toNatClampNeg = 0 from rfl, if_neg (show ¬ ((0 : Nat) < 0 ∨ (0 : Nat) < 0 ∨ J (L : Nat) < 0 ∨ 16000 < 0 + L ∨ 16000 < 0 + L ∨ ¬ (∀ z, z < L → vp_nar .byte (((Γ 1).2.1 0) (0 + z)) = ((Γ 1).2.1 0) (0 + z))) by
    rintro (c | c | c | c | c | c); exact absurd c (by decide); exact absurd c (by decide); exact J_nlt0 (by omega) (by omega) c; omega; omega
    refine c (fun z hz => ?_)
    rw [show 0 + z = z by omega, s3 z hz]
    have := s4 z hz
    exact J_byte (by omega) (by omega)), bndE]
  generalize hΓ0 : cA' Γ 6 7 (va_cpy ((Γ 1).2.1 0) ((Γ 6).2.1 7) 0 0 L) = Γ0
  have a7 : ∀ i, i < L → (Γ0 6).2.1 7 i = J (b i) := fun i hi => by
    rw [← hΓ0, cA60, if_pos rfl]
    unfold va_cpy
    rw [if_pos (by omega), show 0 + (i - 0) = i by omega]
    exact s3 i hi
  have ar : ∀ r, r ≠ 6 → Γ0 r = Γ r := fun r hr => by rw [← hΓ0, cA_r, if_neg hr]
  have ai : (Γ0 6).1 = (Γ 6).1 := by rw [← hΓ0]; rfl
  have key : Ok (loopF Pa1 FU (0, Γ0)) (fun u => u.1 = 0 ∧ PAJ b kd rv pl Γ0 N u.2) := by
    refine Ok_loop (P := fun t z => ∃ (j : Nat) (Δ : HS), j ≤ N ∧ t = (J (j : Nat), Δ) ∧ PAJ b kd rv pl Γ0 j Δ ∧ z = N - j) ?_ FU _ N (FU_gt (by omega)) ⟨0, Γ0, by omega, rfl, ⟨fun _ _ => rfl, rfl, by rw [ai, h6]; rfl, 0, by rw [ai, h1]; rfl, fun _ _ _ => by omega, fun t ht => by omega⟩, by omega⟩
    rintro again t z ⟨j, Δ, hj, rfl, hP, rfl⟩ ih
    have hP0 := hP
    obtain ⟨p1, p2, p3, u, p4, p5, p6⟩ := hP
    have hc' : TKc N kd vl pl Δ := by
      unfold TKc at hc ⊢
      rw [p1 1 (by omega), ar 1 (by omega)]; exact hc
    unfold Pa1
    simp only [bndE]
    rw [hc'.1]
    by_cases q : j = N
    · rw [if_pos (by rw [q]; exact Int32.le_refl _)]
      exact Ok_some ⟨rfl, q ▸ hP0⟩
    · rw [if_neg (show ¬ J (N : Nat) ≤ J (j : Nat) by rw [J_le (by omega) (by omega) (by omega) (by omega)]; omega), c_kindOf hT hc' (by omega), Option.bind_some]
      dsimp only
      rw [mrg1_id, show J (j : Nat) + 1 = J (j + 1 : Nat) by rw [J_lit, J_add]; rfl]
      by_cases q4 : kd j = 4
      · have hjT : j < T := by
          rcases Nat.lt_or_ge j T with h | h
          · exact h
          · exact absurd q4 (hk4 j h (by omega))
        obtain ⟨w1, w2, w3, w4, w5, w6, w7⟩ := hw j hjT q4
        have hpl : pl (j + 1) ≤ pl T := by
          rcases Nat.lt_or_ge (j + 1) T with h | h
          · exact Nat.le_of_lt (hp _ _ h (by omega))
          · rw [show j + 1 = T by omega]; exact Nat.le_refl _
        have hsk := strK_le (kd := kd) j
        have p5 := p5 T hp (by omega)
        rw [if_pos (show J (kd j) = 4 by rw [q4]; rfl), c_placeOf hT hc' (by omega), Option.bind_some]
        dsimp only
        have ST : STB Δ (pl j + 1) (rv j).toNat (sbW b pl j) := ⟨by omega, by omega, fun k hk => ⟨by rw [p2, a7 _ (by omega)]; rfl, (w5 k hk).1, (w5 k hk).2.1, (w5 k hk).2.2⟩, by rw [p2, a7 _ (by omega), w6]⟩
        rw [mrg1_id, show J (pl j : Nat) + 1 = J (pl j + 1 : Nat) by rw [J_lit, J_add]; rfl]
        obtain ⟨Γ', nu, e1, f1, f2, f3, f4, f5, f6, f7, f8, f9, f10, f11, f12⟩ := c_pack ST p3 (by omega) p4 (by omega)
        rw [e1, Option.bind_some]
        dsimp only
        rw [mrgR6 f1]
        refine ih _ (N - (j + 1)) (by omega) ⟨j + 1, Γ', by omega, rfl, ⟨fun r hr => by rw [f1 r hr, p1 r hr], by rw [f2 7 (by omega) (by omega) (by omega), p2], by rw [f4, strK_yes q4], u + nu, f3, fun _ _ _ => by omega, fun t ht hk => ?_⟩, rfl⟩
        by_cases et : t = j
        · subst et
          exact ⟨u, nu, Nat.le_refl _, by rw [f5, upd_s, if_pos rfl], by rw [f6, upd_s, if_pos rfl], f8, f9, f10, f11⟩
        · obtain ⟨u0, n0, g1, g2, g3, g4, g5, g6, g7⟩ := p6 t (by omega) hk
          have hlt : strK kd t < strK kd j := by
            have := strK_mono (kd := kd) (show t + 1 ≤ j by omega)
            rw [strK_yes hk] at this; omega
          refine ⟨u0, n0, by omega, by rw [f5, upd_s, if_neg (by omega)]; exact g2, by rw [f6, upd_s, if_neg (by omega)]; exact g3, fun y hy => ?_, g5, g6, g7⟩
          rw [f7 _ (by omega)]
          exact g4 y hy
      · have h4 : J (kd j) ≠ 4 := by
          have := hkr j (by omega)
          rw [show (4 : Int32) = J 4 from rfl, Ne, J_eq (by omega) (by omega) (by omega) (by omega)]; exact q4
        rw [if_neg h4]
        refine ih _ (N - (j + 1)) (by omega) ⟨j + 1, Δ, by omega, rfl, ⟨p1, p2, by rw [p3, strK_no q4], u, p4, fun T' h1 h2 => ?_, fun t ht hk => ?_⟩, rfl⟩
        · have := h1 j (j + 1) (by omega) h2
          have := p5 T' h1 (by omega)
          omega
        · have : t ≠ j := by rintro rfl; exact q4 hk
          exact p6 t (by omega) hk
  obtain ⟨⟨x, Γ'⟩, e, h0, hP⟩ := key
  dsimp only at h0 hP
  subst h0
  exact ⟨Γ', e, fun i hi => by rw [hP.2.1]; exact a7 i hi, Γ0, ar, hP⟩
