/-! sound is answered alike -/
variable {R : Nat → Nat → Int32} {nO nV nC nA ln : Nat} {room : Nat → Bool} {en : Nat → Nat} {TX : Nat → Int → Int → Prop} {DN : Nat → Nat → Nat → Prop}
theorem UFt_rfl {Γ : HS} : UFt Γ Γ := ⟨fun _ _ => rfl, rfl, fun _ _ => rfl, rfl⟩
theorem TXR_U {σ : MS} {Γ Δ : HS} {w : Nat} {r v : Int} (h : TXR σ Γ w r v) (u : UFt Γ Δ) : TXR σ Δ w r v := by
  obtain ⟨L, by_, a, b, c, d, e, f⟩ := h
  exact ⟨L, by_, a, b, c, d, TXD_keep e u.2.1 (u.2.2.1 0 (by omega)) (u.2.2.1 4 (by omega)), f⟩
theorem CAL_U {σ : MS} {Γ Δ : HS} (h : CAL σ Γ nO) (u : UFt Γ Δ) : CAL σ Δ nO := fun x x2 xn => by
  obtain ⟨w, r, v, a, b, c, d⟩ := h x x2 xn
  exact ⟨w, r, v, TXR_U a u, b, c, by rw [u.1 4 (by omega)]; exact d⟩
theorem DSC_U {σ : MS} {Γ Δ : HS} (h : DSC σ Γ nO) (u : UFt Γ Δ) : DSC σ Δ nO := fun x x2 xn => by
  rcases h x x2 xn with ⟨a, b⟩ | ⟨a, w, r, v, b, c, d, e⟩
  · exact Or.inl ⟨a, by rw [u.1 4 (by omega)]; exact b⟩
  · exact Or.inr ⟨a, w, r, v, TXR_U b u, c, d, by rw [u.1 4 (by omega)]; exact e⟩
theorem PSR_U {Γ0 : HS} {F : Nat → Nat} {no ne nv : Nat} {ow : Nat → List (List Int)} {W : List Int} {σ : MS} {Γ Δ : HS} (h : PSR R nO nV nC nA room en ln TX DN Γ0 F no ne nv ow W σ Γ) (u : UFt Γ Δ) : PSR R nO nV nC nA room en ln TX DN Γ0 F no ne nv ow W σ Δ := by
  obtain ⟨h0, ⟨s1, s2, s3, s4, s5, s6, s7⟩, ⟨l1, l2, l3, l4, l5, l6⟩, hN, hn, hE, he, h5, hV, hB, hW, hF, hz, hc⟩ := h
  have e4 := u.1 4 (by omega)
  have e5 := u.1 5 (by omega)
  have e7 := u.1 7 (by omega)
  refine ⟨h0, ⟨s1, by rw [e4]; exact s2, by rw [e4]; exact s3, ?_, CAL_U s5 u, by rw [e5]; exact s6, fun w r v hw => TXR_U (s7 w r v hw) u⟩, ⟨CAL_U l1 u, DSC_U l2 u, l3, l4, l5, ?_⟩, ⟨hN.1, hN.2.1, fun i hi => ?_⟩, by rw [e4]; exact hn, hE, by rw [e4]; exact he, e5.trans h5, ?_, hB, WSO_r hW e4 e7, FXW_r hF e7, by rw [e4]; exact hz, hc⟩
  · unfold AEND; rw [e4]; exact s4
  · intro r d x1 x2 x3
    rw [e4]; exact l6 r d x1 x2 x3
  · obtain ⟨vb, c, A, B, hV, hF', z, lo, hi', p, q, m, y', D, Dq, k1, k2⟩ := hN.2.2 i hi
    refine ⟨vb, c, A, B, ?_, hF', z, lo, hi', p, q, m, y', D, Dq, k1, k2⟩
    unfold ONV at hV ⊢
    rw [e4]; exact hV
  · unfold VRBB at hV ⊢
    rw [e4]; exact hV
theorem PLG_U {Γ0 : HS} {F : Nat → Nat} {no ne nv : Nat} {ow : Nat → List (List Int)} {W : List Int} {σ : MS} {T T' : TS} (h : PLG R nO nV nC nA room en ln TX DN Γ0 F no ne nv ow W σ T) (u : UFt T.1 T'.1) (e2 : T'.2 = T.2) : PLG R nO nV nC nA room en ln TX DN Γ0 F no ne nv ow W σ T' := by
  obtain ⟨⟨h1, h2, h3, h4, h5, h6⟩, hU, hS, h86, h8⟩ := h
  have e0 := u.1 0 (by omega)
  have e8 := u.1 8 (by omega)
  have e10 := u.1 10 (by omega)
  refine ⟨⟨PSR_U h1 u, PL_keep h2 (fun _ _ => rfl) (fun _ _ => rfl) (u.1 9 (by omega)), ?_, ?_, WAI_10 (by rw [e10]) h5, h6⟩, ?_, ?_, h86, by rw [e0]; exact h8⟩
  · obtain ⟨w, o1, o2⟩ := h3
    exact ⟨w, o1, OL_congr o2 (by rw [e8]) (by rw [e8])⟩
  · unfold NOU at h4 ⊢
    rw [e10]; exact h4
  · rw [e2]
    exact UND_keep hU rfl rfl (by rw [e0]) (by rw [e0])
  · rw [e2]
    unfold SVD at hS ⊢
    rw [e0]; exact hS
/-- what sound looks at in a built story -/
def SND (Γ : HS) : Prop := (∃ W, DOK Γ W) ∧ (∃ ln nd no ne : Nat, (Γ 5).1 1 = J (ln : Nat) ∧ ln ≤ 39000 ∧ (Γ 4).2.1 0 4 = J (nd : Nat) ∧ (Γ 4).2.1 0 5 = J (no : Nat) ∧ (Γ 4).2.1 0 6 = J (ne : Nat) ∧ nd ≤ 100 ∧ no ≤ 200 ∧ ne ≤ 20 ∧ ISW Γ ln nd no ne) ∧ ∃ (b : Nat → Int) (T : Nat) (kd vl rv : Nat → Int) (pl : Nat → Nat), TXS b T kd vl rv pl Γ
abbrev bW : Nat → Bool := fun j => j == 10 || j == 9 || j == 8 || j == 4 || j == 5 || j == 6 || j == 7
def H_sound (T : TS) : HA := if (T.1 0).1 7 = 0 then some ((0, 1), T) else (F_X1_isInOrder T.1).bind fun u1 => bnd (mrg (fun j => j == 7) T.1 u1.2) fun Γ1 => if u1.1 = 0 then some ((0, 0), (Γ1, T.2)) else (F_X0_isWhole Γ1).bind fun u2 => bnd (mrg (fun j => j == 4 || j == 5) Γ1 u2.2) fun Γ2 => if u2.1 = 0 then some ((0, 0), (Γ2, T.2)) else (F_X9_isFaithful Γ2).bind fun u3 => bnd (mrg (fun j => j == 6) Γ2 u3.2) fun Γ3 => if u3.1 = 0 then some ((0, 0), (Γ3, T.2)) else if (Γ3 0).1 8 = 0 then some ((0, 1), (Γ3, T.2)) else (F_X6_isTree ((Γ3 4).2.1 0 0) Γ3).bind fun u4 => bnd (mrg (fun j => j == 9) Γ3 u4.2) fun Γ4 => if u4.1 = 0 then some ((0, 0), (Γ4, T.2)) else if (Γ4 9).1 10 = 0 then (F_X3_waits Γ4).bind fun u5 => bnd (mrg bW Γ4 u5.2) fun Γ5 => if u5.1 = 0 then some ((0, 0), (Γ5, T.2)) else some ((0, 1), (Γ5, T.2)) else some ((0, 1), (Γ4, T.2))
theorem W_sound {σ : MS} {T : TS} (h : QU σ T.1 ∨ ((T.1 0).1 7 = 1 ∧ SND T.1 ∧ ((T.1 0).1 8 = 0 ∨ ((T.1 0).1 8 = 1 ∧ (T.1 4).2.1 0 0 = J (nO : Nat) ∧ PL nO room nV nC σ T.1 ∧ WAI T.1)))) : ALK (fun σ' T' => rTh σ σ' ∧ UFt T.1 T'.1 ∧ T'.2 = T.2) (F_X12_sound σ) (H_sound T) := by
  have e : F_X12_sound σ = some (1, mI σ 0 0) := by unfold F_X12_sound; rw [bndE]
  rw [e]
  unfold H_sound
  rcases h with h | ⟨h7, ⟨⟨W, d⟩, ⟨ln, nd, no, ne, a1, a2, a3, a4, a5, a6, a7, a8, a9⟩, b, Tn, kd, vl, rv, pl, tx⟩, h8⟩
  · rw [if_pos h.2]
    exact ⟨1, 1, 0, mI σ 0 0, T, rfl, rfl, rfl, fun _ => rfl, rTh_i, UFt_rfl, rfl⟩
  · obtain ⟨Γ3, f1, f2⟩ := c_isFaithful tx
    rw [if_neg (show ¬ (T.1 0).1 7 = 0 by rw [h7]; decide), c_inOrder d, Option.bind_some]
    dsimp only
    rw [mrg_self, bndE, if_neg (show ¬ (1 : Int32) = 0 by decide), c_isWhole a1 a2 a3 a4 a5 a6 a7 a8 a9, Option.bind_some]
    dsimp only
    rw [mrg_self, bndE, if_neg (show ¬ (1 : Int32) = 0 by decide), f1, Option.bind_some]
    dsimp only
    rw [mrgE (fun r hr => f2.1 r (by rintro rfl; exact absurd hr (by decide))), bndE, if_neg (show ¬ (1 : Int32) = 0 by decide), f2.1 0 (by omega)]
    rcases h8 with h8 | ⟨h8, h40, ⟨pa, fi, nx, ch, tr, P⟩, hw⟩
    · rw [if_pos h8]
      exact ⟨1, 1, 0, mI σ 0 0, _, rfl, rfl, rfl, fun _ => rfl, rTh_i, f2, rfl⟩
    · rw [if_neg (show ¬ (T.1 0).1 8 = 0 by rw [h8]; decide), f2.1 4 (by omega), h40, c_isTree P.1 (Γ := Γ3) (by unfold CTr; rw [f2.1 9 (by omega)]; exact P.2.2.1), Option.bind_some]
      dsimp only
      rw [mrg_self, bndE, if_neg (show ¬ (1 : Int32) = 0 by decide), c_waits (WAI_10 (by rw [f2.1 10 (by omega)]) hw), Option.bind_some]
      dsimp only
      rw [mrg_self, bndE, if_neg (show ¬ (1 : Int32) = 0 by decide)]
      refine ⟨1, 1, 0, mI σ 0 0, (Γ3, T.2), rfl, ?_, rfl, fun _ => rfl, rTh_i, f2, rfl⟩
      split <;> rfl
