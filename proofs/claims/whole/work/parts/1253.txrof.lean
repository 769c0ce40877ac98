/-! laying's join: a STRING of the source is the same text in both -/
variable {T N : Nat} {kd vl rv : Nat → Int} {pl : Nat → Nat}
theorem getD_mr (f : Nat → Int) {n k : Nat} (hk : k < n) : ((List.range n).map f).getD k 0 = f k := by
  rw [List.getD_eq_getElem?_getD, List.getElem?_map, List.getElem?_range hk]; rfl
theorem TXR_of {b : Nat → Int} {L t : Nat} {τ : MS} {Γ : HS} (h : TXS b T kd vl rv pl Γ) (hS : SWD b T kd vl rv pl) (h45 : ∀ x, x < L → τ.2 45 x = J (b x)) (hpl : pl (t + 1) ≤ L) (ht : t < T) (hk : kd t = 4) : TXR τ Γ (pl t) (rv t) (vl t) := by
  obtain ⟨a1, a2, a3, a4, a5, a6, a7⟩ := h.2 t ht hk
  obtain ⟨s1, s2, s3, s4, s5, s6, s7⟩ := hS t ht hk
  have len : ((List.range (rv t).toNat).map (fun k => ((tby (sbW b pl t) k : Nat) : Int))).length = (rv t).toNat := by rw [List.length_map, List.length_range]
  have v8 : vl t < 8000 := by
    obtain ⟨-, cnt, u0, nu, tot, cd, c1, c2, -⟩ := a2
    omega
  refine ⟨(List.range (rv t).toNat).map (fun k => ((tby (sbW b pl t) k : Nat) : Int)), tby (sbW b pl t), by rw [len]; omega, a1, v8, ⟨by rw [len]; omega, by rw [len]; omega, fun k hk2 => ?_⟩, by rw [len]; exact a2, fun k hk2 => ?_⟩
  · rw [len] at hk2
    have c := s5 k hk2
    refine ⟨b (pl t + 1 + k), h45 _ (by omega), by omega, by omega, ?_⟩
    rw [getD_mr _ hk2]
    unfold tby toldB sbW
    split
    · rfl
    · omega
  · rw [len] at hk2
    exact getD_mr _ hk2
