/-! items that leave the words alone, in the class -/
variable {T N : Nat} {kd vl rv : Nat → Int} {pl : Nat → Nat}
theorem o13_k {Γ : HS} {v : Int32} {k : Nat} (h : k ≠ 13) : ((o13 Γ v) 4).2.1 k = (Γ 4).2.1 k := by
  unfold o13; rw [cA4g, if_neg h]
theorem o14_k {Γ : HS} {o w : Int32} {k : Nat} (h : k ≠ 14) : ((o14 Γ o w) 4).2.1 k = (Γ 4).2.1 k := by
  unfold o14; rw [cA4g, if_neg h]
theorem o15_k {Γ : HS} {o w : Int32} {k : Nat} (h : k ≠ 15) : ((o15 Γ o w) 4).2.1 k = (Γ 4).2.1 k := by
  unfold o15; rw [cI_r, if_neg (by omega), cA4g, if_neg h]
theorem CIT_words {G : Nat → HS} {Θ : HS} {cl : List Int} {σs : MS} {is : Nat → Nat} {z x hi : Nat} {Γ E : HS} (h : CIT T G Θ kd vl cl is z Γ E) (hk : 233 ≤ kd (is z)) (hI : kd (is z) ≤ 234 → VRB kd rv pl σs x hi (is z) (is (z + 1)) ∨ VRD kd vl rv pl σs x hi (is z) (is (z + 1)) ∨ ARD kd vl rv pl σs x hi (is z) (is (z + 1))) : (E 4).2.1 9 = (Γ 4).2.1 9 ∧ (E 4).2.1 10 = (Γ 4).2.1 10 ∧ E 7 = Γ 7 := by
  rcases (show kd (is z) ≤ 234 ∨ 235 ≤ kd (is z) by omega) with q | q
  · have hW := it_one (hI q) (h.1 q)
    by_cases q3 : kd (is z) = 233
    · have hm := WEF_var hW q3
      refine ⟨by rw [hm.1 4 (by omega)]; unfold vrS; rw [cA4g, if_neg (by omega)], by rw [hm.1 4 (by omega)]; unfold vrS; rw [cA4g, if_neg (by omega)], by rw [hm.1 7 (by omega)]; unfold vrS; rw [cA_r, if_neg (by omega)]⟩
    · have hm : m3 Γ E := WEF_no hW (by unfold wno; omega)
      exact ⟨by rw [hm.1 4 (by omega)], by rw [hm.1 4 (by omega)], hm.1 7 (by omega)⟩
  · obtain ⟨b, b1, b2, b3, b4, b5, b6⟩ := h.2 q
    by_cases q6 : kd (is z) = 236
    · obtain ⟨cc, c1, c2, c3⟩ := b6 q6
      have e4 : E 4 = (onE Θ kd vl (is z) cc Γ) 4 := c3.1 4 (by omega) (by omega)
      have e7 : E 7 = (onE Θ kd vl (is z) cc Γ) 7 := (CKP_MV c3).2
      have eo : ∀ k, k ≠ 13 → k ≠ 14 → k ≠ 15 → ((onE Θ kd vl (is z) cc Γ) 4).2.1 k = (Γ 4).2.1 k := fun k a b c => by
        unfold onE
        rw [o15_k c, o14_k b, o13_k a]
      exact ⟨by rw [e4, eo 9 (by omega) (by omega) (by omega)], by rw [e4, eo 10 (by omega) (by omega) (by omega)], by rw [e7]; exact CKP_on.2⟩
    · have hM := b5 q6
      have e4 : E 4 = Γ 4 := hM.1 4 (by omega) (by omega)
      exact ⟨by rw [e4], by rw [e4], (CKP_MV hM).2⟩
