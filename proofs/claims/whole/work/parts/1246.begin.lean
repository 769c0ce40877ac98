/-! begin is answered alike -/
variable {R : Nat → Nat → Int32} {nO nV nC nA ln : Nat} {room : Nat → Bool} {en : Nat → Nat} {TX : Nat → Int → Int → Prop} {DN : Nat → Nat → Nat → Prop}
abbrev bS : Nat → Bool := fun j => j == 9 || j == 4 || j == 5 || j == 6 || j == 7
def H_begin (p : Int32) (T : TS) : HA := if (T.1 0).1 7 = 0 then some ((1, 0), T) else (F_X5_wipe T.1).bind fun u1 => bnd (mrg (fun j => j == 8) T.1 u1.2) fun Γ1 => bnd (cI' Γ1 0 18 0) fun Γ2 => (F_X6_start p Γ2).bind fun u2 => bnd (mrg bS Γ2 u2.2) fun Γ3 => bnd (cI' Γ3 0 8 1) fun Γ4 => (F_X8_look Γ4).bind fun u3 => bnd (mrg bE Γ4 u3.2) fun Γ5 => some ((0, 0), (Γ5, T.2))
theorem BGF_keep {fr : Nat} {wh at0 : Nat → Nat} {σ τ : MS} {Γ Δ : HS} (h : BGF nO nV room fr wh at0 σ Γ) (h63 : τ.1 63 = σ.1 63) (ha : ∀ k, 45 ≤ k → k ≤ 77 → τ.2 k = σ.2 k) (hc : Δ 4 = Γ 4) : BGF nO nV room fr wh at0 τ Δ := by
  unfold BGF at h ⊢
  rw [h63, ha 52 (by omega) (by omega), ha 53 (by omega) (by omega), ha 76 (by omega) (by omega), hc]; exact h
def rBe (σ τ : MS) : Prop := (∀ k, k ≠ 0 → k ≠ 86 → ¬ (93 ≤ k ∧ k ≤ 98) → ¬ (101 ≤ k ∧ k ≤ 103) → τ.1 k = σ.1 k) ∧ ∀ k, ¬ (87 ≤ k ∧ k ≤ 92) → k ≠ 102 → τ.2 k = σ.2 k
def cBe (Γ Δ : HS) : Prop := (∀ r, r ≠ 0 → r ≠ 8 → r ≠ 9 → r ≠ 10 → Δ r = Γ r) ∧ (∀ k, k ≠ 8 → k ≠ 18 → (Δ 0).1 k = (Γ 0).1 k) ∧ (Δ 0).2 = (Γ 0).2
theorem W_beginR (p : Int32) {σ : MS} {T : TS} (h : σ.1 44 = 0 ∧ (T.1 0).1 7 = 0) : RQ σ T (F_X12_begin p σ) (H_begin p T) := by
  rw [begin_eq, bndE, if_pos h.1]
  unfold H_begin
  rw [if_pos h.2]
  dsimp only
  rw [r_ref1 (by decide), Option.bind_some]
  dsimp only
  rw [if_neg (show ¬ (1 : Int32) = 0 by decide)]
  exact RQ_no (k := 1) (by decide) rfl rfl
theorem W_begin {Γ0 : HS} {F : Nat → Nat} {no ne nv fr : Nat} {ow : Nat → List (List Int)} {W : List Int} {wh at0 : Nat → Nat} {σ : MS} {T : TS} (p : Int32) (hS : PSR R nO nV nC nA room en ln TX DN Γ0 F no ne nv ow W σ T.1) (hB : BGF nO nV room fr wh at0 σ T.1) (h44 : σ.1 44 = 1 ∧ (T.1 0).1 7 = 1) (hN : NOU σ T.1) (hWt : WAI T.1) (h0 : σ.1 113 = J 0 ∧ σ.1 115 = J 0) (hv : SVD nO room nV nC σ T.1 T.2.2.1) (h17 : ∃ nw : Nat, nw < 6 ∧ (T.1 0).1 17 = J (nw : Nat)) : ALK (fun σ' T' => PLG R nO nV nC nA room en ln TX DN Γ0 F no ne nv ow W σ' T' ∧ rBe σ σ' ∧ cBe T.1 T'.1 ∧ T'.2 = T.2) (F_X12_begin p σ) (H_begin p T) := by
  obtain ⟨nw, n1, n2⟩ := h17
  have hC : CNT3 σ nO nV nC := hS.2.2.2.2.2.2.2.2.2.2.2.2.2
  have hSt := hS.2.1
  have h40 : (T.1 4).2.1 0 0 = J (nO : Nat) := hSt.2.1.2.1
  have Γr : ∀ r, r ≠ 0 → r ≠ 8 → (cI' (cI' T.1 8 1 0) 0 18 0) r = T.1 r := fun r r0 r8 => by rw [cI_r, if_neg r0, cI_r, if_neg r8]
  have s0 : ∀ k, k ≠ 0 → k ≠ 86 → k ≠ 103 → k ≠ 101 → (mI (mI (mI (mI σ 0 0) 86 1) 103 0) 101 0).1 k = σ.1 k := fun k a b c d => by rw [mI_1, if_neg d, mI_1, if_neg c, mI_1, if_neg b, mI_1, if_neg a]
  obtain ⟨τ, Δ, e1, e2, f1, f2, P⟩ := W_start0 (nC := nC) (σ := mI (mI (mI (mI σ 0 0) 86 1) 103 0) 101 0) (Γ := cI' (cI' T.1 8 1 0) 0 18 0) p (BGF_keep hB (s0 63 (by omega) (by omega) (by omega) (by omega)) (fun _ _ _ => rfl) (Γr 4 (by omega) (by omega))) hC.1 hC.2.1 hC.2.2.1 (by rw [s0 78 (by omega) (by omega) (by omega) (by omega)]; exact hC.2.2.2.1) (by rw [s0 80 (by omega) (by omega) (by omega) (by omega)]; exact hC.2.2.2.2.1) (by rw [Γr 4 (by omega) (by omega)]; exact h40) (fun x hx => by rw [Γr 4 (by omega) (by omega)]; exact (hSt.2.2.1 x hx).2)
  have tI : ∀ k, ¬ (93 ≤ k ∧ k ≤ 98) → (bgI p τ).1 k = (mI (mI (mI (mI σ 0 0) 86 1) 103 0) 101 0).1 k := fun k hk => by
    rw [← f1.1]
    unfold bgI
    rw [mI_1, if_neg (by omega), mI_1, if_neg (by omega), mI_1, if_neg (by omega), mI_1, if_neg (by omega), mI_1, if_neg (by omega)]
  have tA : ∀ k, ¬ (87 ≤ k ∧ k ≤ 92) → (bgI p τ).2 k = σ.2 k := fun k hk => f1.2 k hk
  have Dr : ∀ r, r ≠ 0 → r ≠ 8 → r ≠ 9 → (cI' Δ 0 8 1) r = T.1 r := fun r a b c => by rw [cI_r, if_neg a, f2 r c, Γr r a b]
  have hS' : PSR R nO nV nC nA room en ln TX DN Γ0 F no ne nv ow W (bgI p τ) (cI' Δ 0 8 1) := PSR_keep hS ⟨fun k a b => by rw [tI k (by omega), s0 k (by omega) (by omega) (by omega) (by omega)], fun k a => tA k (by omega)⟩ (fun r r4 r7 => Dr r (by omega) (by omega) (by omega))
  have hP' : PL nO room nV nC (bgI p τ) (cI' Δ 0 8 1) := PL_keep P (fun _ _ => rfl) (fun _ _ => rfl) (by rw [cI_r, if_neg (by omega)])
  have hO' : OUT (bgI p τ) (cI' Δ 0 8 1) := by
    refine ⟨[], ?_, ?_⟩
    · show OL _ ((bgI p τ).1 103) []
      rw [tI 103 (by omega)]; exact OL_nil
    · show OL _ (((cI' Δ 0 8 1) 8).1 1) []
      rw [cI_r, if_neg (by omega), f2 8 (by omega)]; exact OL_nil
  have hN' : NOU (bgI p τ) (cI' Δ 0 8 1) := by
    unfold NOU at hN ⊢
    rw [Dr 10 (by omega) (by omega) (by omega), tI 108 (by omega), tI 109 (by omega), s0 108 (by omega) (by omega) (by omega) (by omega), s0 109 (by omega) (by omega) (by omega) (by omega)]; exact hN
  have hY : PLY R nO nV nC nA room en ln TX DN Γ0 F no ne nv ow W (bgI p τ) (cI' Δ 0 8 1) := ⟨hS', hP', hO', hN', WAI_10 (by rw [Dr 10 (by omega) (by omega) (by omega)]) hWt, by rw [tI 113 (by omega), s0 113 (by omega) (by omega) (by omega) (by omega)]; exact h0.1, by rw [tI 115 (by omega), s0 115 (by omega) (by omega) (by omega) (by omega)]; exact h0.2⟩
  have hL := hS'.2.2.1
  obtain ⟨υ, Θ, l1, l2, l3⟩ := W_look hP' hO' hL.1 hL.2.1 hL.2.2.1 hL.2.2.2.1
  have hY2 := PLY_told hY l3
  obtain ⟨⟨o1, o2⟩, ⟨y1, y2, y3⟩, _⟩ := l3
  have u0 : ∀ k, k ≠ 103 → ¬ (93 ≤ k ∧ k ≤ 98) → υ.1 k = (mI (mI (mI (mI σ 0 0) 86 1) 103 0) 101 0).1 k := fun k a b => by rw [o1 k a, tI k b]
  have uA : ∀ k, ¬ (87 ≤ k ∧ k ≤ 92) → k ≠ 102 → υ.2 k = σ.2 k := fun k a b => by rw [o2 k b, tA k a]
  have T0 : Θ 0 = (cI' Δ 0 8 1) 0 := y1 0 (by omega) (by omega)
  have D0 : Δ 0 = (cI' (cI' T.1 8 1 0) 0 18 0) 0 := f2 0 (by omega)
  have T0i : ∀ k, k ≠ 8 → k ≠ 18 → (Θ 0).1 k = (T.1 0).1 k := fun k a b => by
    rw [T0]
    show upd (Δ 0).1 8 1 k = _
    rw [upd_s, if_neg a, D0]
    show upd (T.1 0).1 18 0 k = _
    rw [upd_s, if_neg b]
  have T02 : (Θ 0).2 = (T.1 0).2 := by
    rw [T0]
    show (Δ 0).2 = _
    rw [D0]; rfl
  have eW : F_X5_wipe T.1 = some ((0 : Int32), cI' T.1 8 1 0) := by unfold F_X5_wipe; rw [bndE]
  refine ⟨0, 0, 0, υ, (Θ, T.2), ?_, ?_, ?_, fun _ => rfl, ⟨hY2, ⟨0, nw, by omega, n1, ?_, ?_, ?_, fun j hj => absurd hj (Nat.not_lt_zero _)⟩, fun q hq => ?_, ?_, ?_⟩, ⟨fun k a b c d => ?_, fun k a b => uA k a b⟩, ⟨fun r a b c d => ?_, T0i, T02⟩, rfl⟩
  · rw [begin_eq, bndE, if_neg (show ¬ σ.1 44 = 0 by rw [h44.1]; decide)]
    dsimp only
    rw [r_ref0, Option.bind_some]
    dsimp only
    rw [if_pos rfl, bndE, bndE, bndE, e1]
    unfold bgEn
    rw [l1, Option.bind_some]
  · unfold H_begin
    rw [if_neg (show ¬ (T.1 0).1 7 = 0 by rw [h44.2]; decide), eW, Option.bind_some]
    dsimp only
    rw [mrgE (fun r hr => by rw [cI_r, if_neg (by rintro rfl; exact absurd hr (by decide))]), bndE, bndE, e2, Option.bind_some]
    dsimp only
    rw [mrgE (fun r hr => f2 r (by rintro rfl; exact absurd hr (by decide))), bndE, bndE, l2, Option.bind_some]
    dsimp only
    rw [mrgE (fun r hr => y1 r (by rintro rfl; exact absurd hr (by decide)) (by rintro rfl; exact absurd hr (by decide))), bndE]
  · rw [u0 0 (by omega) (by omega)]; rfl
  · rw [u0 101 (by omega) (by omega)]; rfl
  · show (Θ 0).1 18 = _
    rw [T0]
    show upd (Δ 0).1 8 1 18 = _
    rw [upd_s, if_neg (by omega), D0]; rfl
  · show (Θ 0).1 17 = _
    rw [T0i 17 (by omega) (by omega)]; exact n2
  · show (υ.2 100 q = 0 ∧ (Θ 0).2.1 15 q = 0) ∨ (υ.2 100 q = 1 ∧ (Θ 0).2.1 15 q = 1 ∧ SLOT nO room nV nC (υ.2 99) (2600 * q) (T.2.2.1 q))
    rw [uA 100 (by omega) (by omega), uA 99 (by omega) (by omega), T02]
    exact hv q hq
  · rw [u0 86 (by omega) (by omega)]; rfl
  · show (Θ 0).1 8 = 1
    rw [T0]; rfl
  · rw [u0 k (by omega) c, s0 k a b (by omega) (by omega)]
  · show Θ r = T.1 r
    rw [y1 r b d, Dr r a b c]
