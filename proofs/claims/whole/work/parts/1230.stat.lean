/-! all that stays while a story stands, in both -/
variable {R : Nat → Nat → Int32} {nO nV nC nA ln : Nat} {room : Nat → Bool} {en : Nat → Nat} {TX : Nat → Int → Int → Prop} {DN : Nat → Nat → Nat → Prop}
def PSR (R : Nat → Nat → Int32) (nO nV nC nA : Nat) (room : Nat → Bool) (en : Nat → Nat) (ln : Nat) (TX : Nat → Int → Int → Prop) (DN : Nat → Nat → Nat → Prop) (Γ0 : HS) (F : Nat → Nat) (no ne nv : Nat) (ow : Nat → List (List Int)) (W : List Int) (σ : MS) (Γ : HS) : Prop := (DNF R nV nA ln TX DN Γ0 ∧ FRMV F ∧ ∀ x, room x = true → ow x = []) ∧ STA R nO nV nC nA room en ln TX σ Γ ∧ SLK σ Γ nO room ∧ ONS R nV nA ln TX DN Γ0 F σ Γ no ∧ (Γ 4).2.1 0 5 = J (no : Nat) ∧ EAS R nV nA ln TX DN Γ0 σ ne ∧ (Γ 4).2.1 0 6 = J (ne : Nat) ∧ Γ 5 = Γ0 5 ∧ VRBB ow W F nv σ Γ ∧ WOB σ ow ∧ WSO Γ W ow ∧ FXW Γ W ∧ (Γ 4).2.1 0 0 = J (nO : Nat) ∧ CNT3 σ nO nV nC
/-- what the story is made of stays -/
def rSt (σ τ : MS) : Prop := (∀ k, 78 ≤ k → k ≤ 84 → τ.1 k = σ.1 k) ∧ ∀ k, (45 ≤ k ∧ k ≤ 77) ∨ k = 122 → τ.2 k = σ.2 k
theorem rSt_rfl {σ : MS} : rSt σ σ := ⟨fun _ _ _ => rfl, fun _ _ => rfl⟩
theorem rSt_trans {σ τ υ : MS} (h : rSt σ τ) (g : rSt τ υ) : rSt σ υ := ⟨fun k a b => by rw [g.1 k a b, h.1 k a b], fun k a => by rw [g.2 k a, h.2 k a]⟩
theorem rSt_n {σ τ : MS} (h : rWn σ τ) : rSt σ τ := ⟨fun k a b => h.1 k (by omega) (by omega) (by omega) (by omega), fun k a => h.2 k (by omega) (by omega) (by omega) (by omega) (by omega)⟩
theorem PSR_keep {Γ0 : HS} {F : Nat → Nat} {no ne nv : Nat} {ow : Nat → List (List Int)} {W : List Int} {σ τ : MS} {Γ Δ : HS} (h : PSR R nO nV nC nA room en ln TX DN Γ0 F no ne nv ow W σ Γ) (hr : rSt σ τ) (hc : ∀ r, 4 ≤ r → r ≤ 7 → Δ r = Γ r) : PSR R nO nV nC nA room en ln TX DN Γ0 F no ne nv ow W τ Δ := by
  obtain ⟨h0, ⟨s1, s2, s3, s4, s5, s6, s7⟩, ⟨l1, l2, l3, l4, l5, l6⟩, hN, hn, hE, he, h5, hV, hB, hW, hF, hz, c1, c2, c3, c4, c5, z, c6, c7, c8⟩ := h
  have e4 := hc 4 (by omega) (by omega)
  have e5 := hc 5 (by omega) (by omega)
  have e6 := hc 6 (by omega) (by omega)
  have e7 := hc 7 (by omega) (by omega)
  have i78 := hr.1 78 (by omega) (by omega)
  refine ⟨h0, ⟨fun k k1 k2 => by rw [hr.2 _ (by omega)]; exact s1 k k1 k2, by rw [e4, i78]; exact s2, by rw [e4, hr.2 50 (by omega)]; exact s3, ?_, CAL_keep s5 (fun k hk => hr.2 k (by omega)) e4 e6, by rw [e5]; exact s6, fun w r v hw => TXR_keep (s7 w r v hw) (hr.2 45 (by omega)) e6⟩, ⟨CAL_keep l1 (fun k hk => hr.2 k (by omega)) e4 e6, DSC_keep l2 (fun k hk => hr.2 k (by omega)) e4 e6, by rw [hr.2 50 (by omega)]; exact l3, by rw [i78]; exact l4, l5, ?_⟩, ⟨by rw [hr.1 83 (by omega) (by omega)]; exact hN.1, hN.2.1, fun i hi => ?_⟩, by rw [e4]; exact hn, ⟨by rw [hr.1 84 (by omega) (by omega)]; exact hE.1, hE.2.1, fun i hi => ?_⟩, by rw [e4]; exact he, e5.trans h5, ?_, ?_, WSO_r hW e4 e7, FXW_r hF e7, by rw [e4]; exact hz, c1, c2, c3, by rw [i78]; exact c4, by rw [hr.1 80 (by omega) (by omega)]; exact c5, z, c6, by rw [hr.1 81 (by omega) (by omega)]; exact c7, by rw [hr.2 77 (by omega)]; exact c8⟩
  · unfold REND AEND; rw [e4, hr.2 77 (by omega)]; exact s4
  · intro r d x1 x2 x3
    rw [hr.2 51 (by omega), e4]; exact l6 r d x1 x2 x3
  · obtain ⟨vb, c, A, B, hV, hF', z, lo, hi', p, q, m, y', D, Dq, k1, k2⟩ := hN.2.2 i hi
    refine ⟨vb, c, A, B, ?_, hF', z, lo, hi', p, q, m, y', D, Dq, by rw [hr.2 74 (by omega)]; exact k1, k2⟩
    unfold ONV
    rw [hr.2 70 (by omega), hr.2 71 (by omega), hr.2 72 (by omega), hr.2 73 (by omega), e4]; exact hV
  · obtain ⟨z, lo, hi', p, q, m, y, D, Dq, k1, k2⟩ := hE.2.2 i hi
    exact ⟨z, lo, hi', p, q, m, y, D, Dq, by rw [hr.2 75 (by omega)]; exact k1, k2⟩
  · unfold VRBB VWR RW at hV ⊢
    rw [hr.1 79 (by omega) (by omega), hr.2 57 (by omega), hr.2 58 (by omega), hr.2 59 (by omega), hr.2 60 (by omega), hr.2 61 (by omega), hr.2 62 (by omega), e4]; exact hV
  · unfold WOB RW at hB ⊢
    rw [hr.2 54 (by omega), hr.2 55 (by omega), hr.2 56 (by omega)]; exact hB
