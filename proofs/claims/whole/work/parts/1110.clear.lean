/-! a story with nothing of its own: all of it -/
variable {T N : Nat} {kd vl rv : Nat → Int} {pl : Nat → Nat}
theorem g_fillE {n : Nat} {f : Nat → Int32} {v : Int32} {i : Nat} : g_fill n f v i = if i < n then v else f i := rfl
/-- what clearing leaves -/
def CLS (Γ Γ' : HS) (W : List Int) : Prop := (∀ r, r ≠ 4 → r ≠ 5 → r ≠ 6 → r ≠ 7 → Γ' r = Γ r) ∧ ((Γ' 5).1 1 = 0 ∧ (Γ' 5).1 5 = 0 ∧ (Γ' 5).1 6 = 0 ∧ (Γ' 5).1 7 = 0 ∧ (Γ' 5).1 8 = J (-1) ∧ (Γ' 6).1 1 = 0 ∧ (Γ' 6).1 6 = 0) ∧ ((∀ q, q < 7 → (Γ' 4).2.1 0 q = J (if q = 0 then 1 else if q = 1 then 11 else 0)) ∧ (∀ x, x < 121 → (Γ' 4).2.1 1 x = 0 ∧ (Γ' 4).2.1 2 x = J (-1) ∧ (Γ' 4).2.1 3 x = J (-1) ∧ (Γ' 4).2.1 4 x = 0 ∧ (Γ' 4).2.1 5 x = 0) ∧ ∀ x, x < 726 → (Γ' 4).2.1 6 x = 0) ∧ (∀ v, 1 ≤ v → v ≤ 11 → (Γ' 4).2.1 7 v = J (bform v)) ∧ WST Γ' W (fun o => (owS 11 o).length) (fun o e => tm9 ((owS 11 o).getD e [])) ∧ W.length ≤ 60 ∧ (∀ e, e < 21 → W.getD e 0 = tm9 (OFXw.getD e [])) ∧ 21 ≤ W.length ∧ ∃ ki ko : Nat, ki < W.length ∧ ko < W.length ∧ (Γ' 4).2.1 8 9 = J (ki : Nat) ∧ (Γ' 4).2.1 8 10 = J (ko : Nat) ∧ W.getD ki 0 = tm9 [105, 110] ∧ W.getD ko 0 = tm9 [111, 110]
theorem c_clear (Γ : HS) : ∃ (Γ' : HS) (W : List Int), F_X7_clear Γ = some ((0 : Int32), Γ') ∧ CLS Γ Γ' W := by
  rw [clear_eq]
  simp only [bndE]
  generalize h1 : cA' Γ 4 0 (g_fill 7 ((Γ 4).2.1 0) 0) = Γ1
  generalize h2 : cA' Γ1 4 0 (upd ((Γ1 4).2.1 0) (0 : Int32).toNatClampNeg 1) = Γ2
  generalize h3 : cA' Γ2 4 0 (upd ((Γ2 4).2.1 0) (1 : Int32).toNatClampNeg 11) = Γ3
  generalize h4 : cA' Γ3 4 2 (g_fill 121 ((Γ3 4).2.1 2) (-1)) = Γ4
  generalize h5 : cA' Γ4 4 3 (g_fill 121 ((Γ4 4).2.1 3) (-1)) = Γ5
  generalize h6 : cA' Γ5 4 4 (g_fill 121 ((Γ5 4).2.1 4) 0) = Γ6
  generalize h7 : cA' Γ6 4 5 (g_fill 121 ((Γ6 4).2.1 5) 0) = Γ7
  generalize h8 : cA' Γ7 4 6 (g_fill 726 ((Γ7 4).2.1 6) 0) = Γ8
  generalize h9 : cA' Γ8 4 10 (g_fill 181 ((Γ8 4).2.1 10) 0) = Γ9
  have er : ∀ r, r ≠ 4 → Γ9 r = Γ r := fun r hr => by
    rw [← h9, cA_r, if_neg hr, ← h8, cA_r, if_neg hr, ← h7, cA_r, if_neg hr, ← h6, cA_r, if_neg hr, ← h5, cA_r, if_neg hr, ← h4, cA_r, if_neg hr, ← h3, cA_r, if_neg hr, ← h2, cA_r, if_neg hr, ← h1, cA_r, if_neg hr]
  have x0 : ∀ q, q < 7 → (Γ9 4).2.1 0 q = J (if q = 0 then 1 else if q = 1 then 11 else 0) := fun q hq => by
    rw [← h9, cA4g, if_neg (by omega), ← h8, cA4g, if_neg (by omega), ← h7, cA4g, if_neg (by omega), ← h6, cA4g, if_neg (by omega), ← h5, cA4g, if_neg (by omega), ← h4, cA4g, if_neg (by omega), ← h3, cA4g, if_pos rfl, show (1 : Int32).toNatClampNeg = 1 from rfl, upd_s]
    by_cases q1 : q = 1
    · rw [if_pos q1, if_neg (by omega), if_pos q1]; rfl
    · rw [if_neg q1, ← h2, cA4g, if_pos rfl, show (0 : Int32).toNatClampNeg = 0 from rfl, upd_s]
      by_cases q0 : q = 0
      · rw [if_pos q0, if_pos q0]; rfl
      · rw [if_neg q0, if_neg q0, if_neg q1, ← h1, cA4g, if_pos rfl, g_fillE, if_pos hq]; rfl
  have x2 : ∀ x, x < 121 → (Γ9 4).2.1 2 x = J (-1) := fun x hx => by
    rw [← h9, cA4g, if_neg (by omega), ← h8, cA4g, if_neg (by omega), ← h7, cA4g, if_neg (by omega), ← h6, cA4g, if_neg (by omega), ← h5, cA4g, if_neg (by omega), ← h4, cA4g, if_pos rfl, g_fillE, if_pos hx]; rfl
  have x3 : ∀ x, x < 121 → (Γ9 4).2.1 3 x = J (-1) := fun x hx => by
    rw [← h9, cA4g, if_neg (by omega), ← h8, cA4g, if_neg (by omega), ← h7, cA4g, if_neg (by omega), ← h6, cA4g, if_neg (by omega), ← h5, cA4g, if_pos rfl, g_fillE, if_pos hx]; rfl
  have x4 : ∀ x, x < 121 → (Γ9 4).2.1 4 x = 0 := fun x hx => by
    rw [← h9, cA4g, if_neg (by omega), ← h8, cA4g, if_neg (by omega), ← h7, cA4g, if_neg (by omega), ← h6, cA4g, if_pos rfl, g_fillE, if_pos hx]
  have x5 : ∀ x, x < 121 → (Γ9 4).2.1 5 x = 0 := fun x hx => by
    rw [← h9, cA4g, if_neg (by omega), ← h8, cA4g, if_neg (by omega), ← h7, cA4g, if_pos rfl, g_fillE, if_pos hx]
  have x6 : ∀ x, x < 726 → (Γ9 4).2.1 6 x = 0 := fun x hx => by
    rw [← h9, cA4g, if_neg (by omega), ← h8, cA4g, if_pos rfl, g_fillE, if_pos hx]
  have x10 : ∀ x, x ≤ 180 → (Γ9 4).2.1 10 x = 0 := fun x hx => by
    rw [← h9, cA4g, if_pos rfl, g_fillE, if_pos (by omega)]
  clear h1 h2 h3 h4 h5 h6 h7 h8 h9
  have key : Ok (loopF Cl1 FU (0, Γ9)) (fun u => u.1 = 0 ∧ ∃ W, CLS Γ u.2 W) := by
    refine Ok_loop (P := fun t z => ∃ (k : Nat) (Δ : HS), k ≤ 121 ∧ t = (J (k : Nat), Δ) ∧ (∀ r, r ≠ 4 → Δ r = Γ9 r) ∧ (∀ j, j ≠ 1 → (Δ 4).2.1 j = (Γ9 4).2.1 j) ∧ (∀ x, x < k → (Δ 4).2.1 1 x = 0) ∧ z = 121 - k) ?_ FU _ 121 (FU_gt (by omega)) ⟨0, Γ9, by omega, rfl, fun _ _ => rfl, fun _ _ => rfl, fun x hx => by omega, by omega⟩
    rintro again t z ⟨k, Δ, hk, rfl, d1, d2, d3, rfl⟩ ih
    unfold Cl1
    simp only [bndE]
    by_cases q : k = 121
    · rw [if_pos (by rw [q]; decide)]
      obtain ⟨Γ0, Γ', W, e, ⟨⟨c1, c2, c3, c4, c5⟩, c6⟩, c7⟩ := c_Cl2 (Γ := Δ) (fun o ho => by rw [d2 10 (by omega)]; exact x10 o ho)
      rw [e]
      have g0 : ∀ r, r ≠ 5 → r ≠ 6 → r ≠ 7 → Γ0 r = Δ r := fun r r5 r6 r7 => by
        rw [← c7, cI_r, if_neg r7, cI_r, if_neg r6, cI_r, if_neg r6, cI_r, if_neg r5, cI_r, if_neg r5, cI_r, if_neg r5, cI_r, if_neg r5, cI_r, if_neg r5]
      refine Ok_some ⟨rfl, W, ?_⟩
      show CLS Γ Γ' W
      refine ⟨fun r r4 r5 r6 r7 => by rw [c2 r r4 r7, g0 r r5 r6 r7, d1 r r4, er r r4], ⟨by rw [c2 5 (by omega) (by omega), ← c7]; rfl, by rw [c2 5 (by omega) (by omega), ← c7]; rfl, by rw [c2 5 (by omega) (by omega), ← c7]; rfl, by rw [c2 5 (by omega) (by omega), ← c7]; rfl, by rw [c2 5 (by omega) (by omega), ← c7]; rfl, by rw [c2 6 (by omega) (by omega), ← c7]; rfl, by rw [c2 6 (by omega) (by omega), ← c7]; rfl⟩, ⟨fun q hq => ?_, fun x hx => ⟨?_, ?_, ?_, ?_, ?_⟩, fun x hx => ?_⟩, c5, c1, c6⟩
      · rw [c4 0 (by omega) (by omega) (by omega) (by omega), g0 4 (by omega) (by omega) (by omega), d2 0 (by omega)]; exact x0 q hq
      · rw [c4 1 (by omega) (by omega) (by omega) (by omega), g0 4 (by omega) (by omega) (by omega)]; exact d3 x (by omega)
      · rw [c4 2 (by omega) (by omega) (by omega) (by omega), g0 4 (by omega) (by omega) (by omega), d2 2 (by omega)]; exact x2 x hx
      · rw [c4 3 (by omega) (by omega) (by omega) (by omega), g0 4 (by omega) (by omega) (by omega), d2 3 (by omega)]; exact x3 x hx
      · rw [c4 4 (by omega) (by omega) (by omega) (by omega), g0 4 (by omega) (by omega) (by omega), d2 4 (by omega)]; exact x4 x hx
      · rw [c4 5 (by omega) (by omega) (by omega) (by omega), g0 4 (by omega) (by omega) (by omega), d2 5 (by omega)]; exact x5 x hx
      · rw [c4 6 (by omega) (by omega) (by omega) (by omega), g0 4 (by omega) (by omega) (by omega), d2 6 (by omega)]; exact x6 x hx
    · rw [if_neg (show ¬ (121 : Int32) ≤ J (k : Nat) by rw [show (121 : Int32) = J 121 from rfl, J_le (by omega) (by omega) (by omega) (by omega)]; omega), if_neg (show ¬ (J (k : Nat) < 0 ∨ 121 ≤ (J (k : Nat)).toNatClampNeg) by rintro (c | c); exact J_nlt0 (by omega) (by omega) c; rw [J_natN (by omega)] at c; omega), J_natN (by omega), show J (k : Nat) + 1 = J (k + 1 : Nat) by rw [J_lit, J_add]; rfl]
      refine ih _ (121 - (k + 1)) (by omega) ⟨k + 1, _, by omega, rfl, fun r hr => by rw [cA_r, if_neg hr]; exact d1 r hr, fun j hj => by rw [cA4g, if_neg hj]; exact d2 j hj, fun x hx => ?_, rfl⟩
      rw [cA4g, if_pos rfl, upd_s]
      by_cases e : x = k
      · rw [if_pos e]; rfl
      · rw [if_neg e]; exact d3 x (by omega)
  obtain ⟨⟨x, Γ'⟩, e, h0, W, hW⟩ := key
  dsimp only at h0 hW
  subst h0
  exact ⟨Γ', W, e, hW⟩
