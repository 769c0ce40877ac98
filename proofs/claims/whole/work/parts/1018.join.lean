/-! both have cut the same words: one word -/
theorem kixF_is {w : List Int} : ∀ (c k : Nat), 0 ≤ kixF w c k → ∃ j : Nat, k ≤ j ∧ j < k + c ∧ kixF w c k = j ∧ KWL.getD j [] = w := by
  intro c
  induction c with
  | zero => intro k h; exact absurd h (by unfold kixF; decide)
  | succ c ih =>
    intro k h
    unfold kixF at h ⊢
    by_cases q : KWL.getD k [] = w
    · rw [if_pos q]; exact ⟨k, Nat.le_refl k, by omega, rfl, q⟩
    · rw [if_neg q] at h ⊢
      obtain ⟨j, h1, h2, h3, h4⟩ := ih (k + 1) h
      exact ⟨j, by omega, by omega, h3, h4⟩
theorem KWC_kix : ∀ c, c < 57 → kix (KWC.getD c []) = KRL.getD c 0 := by decide +kernel
theorem KWL_KWC : ∀ k, k < 57 → (List.range 57).any (fun c => decide (KWC.getD c [] = KWL.getD k [])) = true := by decide +kernel
theorem KWC_nm : ∀ c, c < 67 → nmW (KWC.getD c []) := by unfold nmW; decide +kernel
theorem wd_nmW {b : Nat → Int} {L p : Nat} (hp : p < L) (h1 : isLt (b p) = true) (h2 : wOk b L p) : nmW (wd b L p) := by
  have e : wEnd b L p = endF isLF b L p := by unfold wEnd; rw [if_pos h1]
  unfold wOk at h2
  rw [if_pos h1] at h2
  have h3 := endF_lt (p := isLF) hp (by unfold isLF; rw [h1]; rfl)
  unfold wd
  refine ⟨by rw [wl_len, e]; omega, by rw [wl_len, e]; omega, fun k hk => ?_⟩
  rw [wl_len] at hk
  rw [wl_get hk]
  rw [e] at hk
  exact (endF_in (p := isLF) (i := p) (by omega) (show p + k < endF isLF b L p by omega)).2
/-- one word, as both have it -/
def jOne (b : Nat → Int) (L m : Nat) (nm : Nat → List Int) (cl : List Int) (p : Nat) (k v r : Int) : Prop := kdOk k ∧ k ≠ 0 ∧ k ≠ 1 ∧ (k = 2 → (0 ≤ r ∧ r < m ∧ 57 ≤ v ∧ v < cl.length) ∧ isLt (b p) = true ∧ nm r.toNat = wd b L p ∧ cl.getD v.toNat 0 = pk (wd b L p)) ∧ (k = 3 → 0 ≤ v ∧ v ≤ 32767) ∧ (k = 4 → 0 ≤ r ∧ r ≤ 200 ∧ 0 ≤ v ∧ v ≤ 4096 ∧ b p = 34)
theorem jTok {b : Nat → Int} {L m p q : Nat} {nm : Nat → List Int} {cl : List Int} {K V K' P' V' N' M' : Int32} (hp : p < L) (hw : wOk b L p) (hq : q ≤ 4096) (hm : m ≤ 4200) (hl : cl.length ≤ 4200) (hcl : ∀ c, c < 67 → cl.getD c 0 = pk (KWC.getD c [])) (hl2 : 67 ≤ cl.length) (hinj : ∀ c e, c < cl.length → e < cl.length → cl.getD c 0 = cl.getD e 0 → c = e) (hr : rTk b L m nm K V p) (hc : cTk b L cl K' P' V' N' M' p q) : jOne b L m nm cl p K'.toInt V'.toInt V.toInt ∧ K = J (rkO K'.toInt) ∧ V = J (if K'.toInt = 2 then V.toInt else if K'.toInt = 3 then V'.toInt else if K'.toInt = 4 then V.toInt else rvS K'.toInt) := by
  unfold rTk at hr
  unfold cTk at hc
  obtain ⟨-, -, -, hc⟩ := hc
  unfold jOne
  by_cases q1 : isLt (b p) = true
  · rw [if_pos q1] at hr hc
    obtain ⟨c, c1, c2, c3, c4⟩ := hc
    have hn := wd_nmW hp q1 hw
    by_cases q2 : c < 57
    · rw [if_pos q2] at c3
      have e1 : wd b L p = KWC.getD c [] := (pk_inj hn (KWC_nm c (by omega))).mp (by rw [← c2, hcl c (by omega)])
      have e2 : kix (wd b L p) = KRL.getD c 0 := by rw [e1, KWC_kix c q2]
      have e3 := KRL_rng c q2
      rw [if_pos (by omega), e2] at hr
      have ek : K'.toInt = 200 + c := by rw [c3, J_toInt (by omega) (by omega)]
      rw [ek]
      refine ⟨⟨by unfold kdOk; omega, by omega, by omega, fun h => by omega, fun h => by omega, fun h => by omega⟩, ?_, ?_⟩
      · rw [hr.1]; unfold rkO; rw [if_neg (by omega), if_neg (by omega), if_neg (by omega), if_neg (by omega), if_neg (by omega), if_pos (by omega)]
      · rw [hr.2, if_neg (by omega), if_neg (by omega), if_neg (by omega)]; unfold rvS; rw [if_pos (by omega), show (200 + (c : Int) - 200).toNat = c by omega]
    · rw [if_neg q2] at c3
      have e2 : ¬ 0 ≤ kix (wd b L p) := by
        intro h
        obtain ⟨j, j1, j2, j3, j4⟩ := kixF_is 57 0 h
        have h5 := KWL_KWC j (by omega)
        rw [List.any_eq_true] at h5
        obtain ⟨e, e1, e2⟩ := h5
        have e1 := List.mem_range.mp e1
        have e2 := of_decide_eq_true e2
        have := hinj c e c1 (by omega) (by rw [c2, hcl e (by omega), e2, j4])
        omega
      rw [if_neg e2] at hr
      obtain ⟨r1, r, r2, r3, r4⟩ := hr
      have ek : K'.toInt = 2 := by rw [c3]; exact J_toInt (by omega) (by omega)
      have ev : V'.toInt = c := by rw [c4, J_toInt (by omega) (by omega)]
      have er : V.toInt = r := by rw [r3, J_toInt (by omega) (by omega)]
      rw [ek, ev, er]
      refine ⟨⟨by unfold kdOk; omega, by omega, by omega, fun _ => ⟨⟨by omega, by omega, by omega, by omega⟩, q1, r4, c2⟩, fun h => by omega, fun h => by omega⟩, ?_, ?_⟩
      · rw [r1]; rfl
      · rw [if_pos rfl]; exact r3
  · rw [if_neg q1] at hr hc
    by_cases q2 : isFg (b p) = true
    · rw [if_pos q2] at hr hc
      have ek : K'.toInt = 3 := by rw [hc.1]; exact J_toInt (by omega) (by omega)
      have e : wEnd b L p = endF isFg b L p := by unfold wEnd; rw [if_neg q1, if_pos q2]
      unfold wOk at hw
      rw [if_neg q1, if_pos q2] at hw
      have hge : 0 ≤ valN b p (endF isFg b L p - p) := valN_ge _ (fun k hk => (endF_in (p := isFg) (i := p) (by omega) (show p + k < endF isFg b L p by omega)).2)
      rw [e] at hr hc
      have ev : V'.toInt = valN b p (endF isFg b L p - p) := by rw [hc.2, J_toInt (by omega) (by omega)]
      rw [ek, ev]
      refine ⟨⟨by unfold kdOk; omega, by omega, by omega, fun h => by omega, fun _ => ⟨by omega, by omega⟩, fun h => by omega⟩, ?_, ?_⟩
      · rw [hr.1]; rfl
      · rw [if_neg (by omega), if_pos rfl]; exact hr.2
    · rw [if_neg q2] at hr hc
      by_cases q3 : b p = 34
      · rw [if_pos q3] at hr hc
        have ek : K'.toInt = 4 := by rw [hc.1]; exact J_toInt (by omega) (by omega)
        have e : wEnd b L p = endF inStr b L (p + 1) + 1 := by unfold wEnd; rw [if_neg q1, if_neg q2, if_pos q3]
        unfold wOk at hw
        rw [if_neg q1, if_neg q2, if_pos q3] at hw
        have h5 := endF_ge (p := inStr) (b := b) (L := L) (p + 1)
        have er : V.toInt = ((wEnd b L p - p - 2 : Nat) : Int) := by rw [hr.2, J_toInt (by omega) (by omega)]
        have ev : V'.toInt = q := by rw [hc.2, J_toInt (by omega) (by omega)]
        rw [ek, er, ev]
        refine ⟨⟨by unfold kdOk; omega, by omega, by omega, fun h => by omega, fun h => by omega, fun _ => ⟨by omega, by omega, by omega, by omega, q3⟩⟩, ?_, ?_⟩
        · rw [hr.1]; rfl
        · rw [if_neg (by omega), if_neg (by omega), if_pos rfl]; exact hr.2
      · rw [if_neg q3] at hr hc
        unfold wOk at hw
        rw [if_neg q1, if_neg q2, if_neg q3] at hw
        by_cases q4 : dbl (b p) = true ∧ byt b L (p + 1) = 61
        · rw [if_pos q4] at hr hc
          have hd := q4.1
          unfold dbl at hd
          simp only [Bool.or_eq_true, decide_eq_true_eq] at hd
          rcases hd with ((hd | hd) | hd) | hd
          all_goals rw [hd] at hr hc
          · have ek : K'.toInt = 5 := by rw [hc.1]; exact J_toInt (by omega) (by omega)
            rw [ek]
            exact ⟨⟨by unfold kdOk; omega, by omega, by omega, fun h => by omega, fun h => by omega, fun h => by omega⟩, by rw [hr.1]; rfl, by rw [hr.2]; rfl⟩
          · have ek : K'.toInt = 6 := by rw [hc.1]; exact J_toInt (by omega) (by omega)
            rw [ek]
            exact ⟨⟨by unfold kdOk; omega, by omega, by omega, fun h => by omega, fun h => by omega, fun h => by omega⟩, by rw [hr.1]; rfl, by rw [hr.2]; rfl⟩
          · have ek : K'.toInt = 7 := by rw [hc.1]; exact J_toInt (by omega) (by omega)
            rw [ek]
            exact ⟨⟨by unfold kdOk; omega, by omega, by omega, fun h => by omega, fun h => by omega, fun h => by omega⟩, by rw [hr.1]; rfl, by rw [hr.2]; rfl⟩
          · have ek : K'.toInt = 8 := by rw [hc.1]; exact J_toInt (by omega) (by omega)
            rw [ek]
            exact ⟨⟨by unfold kdOk; omega, by omega, by omega, fun h => by omega, fun h => by omega, fun h => by omega⟩, by rw [hr.1]; rfl, by rw [hr.2]; rfl⟩
        · rw [if_neg q4] at hr hc
          have hs : sgnOk (b p) = true := by rcases hw with h | h; exact absurd h q4; exact h
          have hg := sgnOk_rng hs
          have ek : K'.toInt = b p := by rw [hc.1, J_toInt (by omega) (by omega)]
          rw [ek]
          refine ⟨⟨Or.inr (Or.inr (Or.inr (Or.inr (Or.inr (Or.inr (Or.inl ⟨hs, hg⟩)))))), by omega, by omega, fun h => by omega, fun h => by omega, fun h => by omega⟩, ?_, ?_⟩
          · rw [hr.1]; unfold rkO; rw [if_neg (by omega), if_neg (by omega), if_neg (by omega), if_neg (by omega), if_neg (by omega), if_neg (by omega)]
          · rw [hr.2, if_neg (by omega), if_neg (by omega), if_neg (by omega)]; unfold rvS; rw [if_neg (by omega), if_neg (by omega), if_neg (by omega), if_neg (by omega), if_neg (by omega), if_neg (by omega)]
