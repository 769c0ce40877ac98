/-! what holds between two calls, and each call but build keeps it -/
/-- on either side of a call: nothing is played, nothing is saved -/
def IDL (σ : MS) (Γ : HS) : Prop := σ.1 86 = 0 ∧ (Γ 0).1 8 = 0 ∧ (∀ p, p < 4 → σ.2 100 p = 0 ∧ (Γ 0).2.1 15 p = 0) ∧ ∃ nw : Nat, nw < 6 ∧ (Γ 0).1 17 = J (nw : Nat)
def RST (σ : MS) (Γ : HS) : Prop := (Γ 0).1 9 = σ.1 16 ∧ OUT σ Γ ∧ NOU σ Γ ∧ WAI Γ ∧ (σ.1 113 = J 0 ∧ σ.1 115 = J 0)
def LVP (R : Nat → Nat → Int32) (nO nV nC nA : Nat) (room : Nat → Bool) (en : Nat → Nat) (ln : Nat) (TX : Nat → Int → Int → Prop) (DN : Nat → Nat → Nat → Prop) (Γ0 : HS) (F : Nat → Nat) (no ne nv : Nat) (ow : Nat → List (List Int)) (W : List Int) (fr : Nat) (wh at0 : Nat → Nat) (σ : MS) (Γ : HS) : Prop := PSR R nO nV nC nA room en ln TX DN Γ0 F no ne nv ow W σ Γ ∧ BGF nO nV room fr wh at0 σ Γ ∧ CN7S σ Γ ∧ SND Γ ∧ σ.1 81 = J (nA : Nat) ∧ (σ.1 44 = 1 ∧ (Γ 0).1 7 = 1)
def LIV (σ : MS) (T : TS) : Prop := ∃ (R : Nat → Nat → Int32) (nO nV nC nA : Nat) (room : Nat → Bool) (en : Nat → Nat) (ln : Nat) (TX : Nat → Int → Int → Prop) (DN : Nat → Nat → Nat → Prop) (Γ0 : HS) (F : Nat → Nat) (no ne nv : Nat) (ow : Nat → List (List Int)) (W : List Int) (fr : Nat) (wh at0 : Nat → Nat), LVP R nO nV nC nA room en ln TX DN Γ0 F no ne nv ow W fr wh at0 σ T.1 ∧ (IDL σ T.1 ∨ PLG R nO nV nC nA room en ln TX DN Γ0 F no ne nv ow W σ T)
def TOP (L : Nat) (σ : MS) (T : TS) : Prop := TPD L σ T.1 ∧ RST σ T.1 ∧ ((QU σ T.1 ∧ IDL σ T.1 ∧ σ.2 77 0 = 0) ∨ LIV σ T)
def TPO (L : Nat) (σ : MS) (T : TS) : Prop := ∃ L', L' ≤ L + 8 ∧ TOP L' σ T
theorem ALK_mono {P Q : MS → TS → Prop} {mR : MR} {mC : HA} (h : ALK P mR mC) (i : ∀ σ T, P σ T → Q σ T) : ALK Q mR mC := by
  obtain ⟨v, w, k, σ', T', a, b, c, d, e⟩ := h
  exact ⟨v, w, k, σ', T', a, b, c, d, i _ _ e⟩
theorem ISW_5 {Γ Δ : HS} {ln nd no ne : Nat} (h : ISW Γ ln nd no ne) (e : Δ 5 = Γ 5) : ISW Δ ln nd no ne := by
  unfold ISW ISR op1 op3 at h ⊢
  rw [e]; exact h
theorem TXS_6 {b : Nat → Int} {T : Nat} {kd vl rv : Nat → Int} {pl : Nat → Nat} {Γ Δ : HS} (h : TXS b T kd vl rv pl Γ) (hi : (Δ 6).1 = (Γ 6).1) (hk : ∀ k, k ≠ 8 → (Δ 6).2.1 k = (Γ 6).2.1 k) : TXS b T kd vl rv pl Δ := by
  obtain ⟨h1, h2⟩ := h
  refine ⟨by rw [hi]; exact h1, fun t ht hk4 => ?_⟩
  obtain ⟨a, c, d⟩ := h2 t ht hk4
  exact ⟨a, TXD_keep c hi (hk 0 (by omega)) (hk 4 (by omega)), by rw [hk 5 (by omega), hk 7 (by omega)]; exact d⟩
theorem SND_k {Γ Δ : HS} (h : SND Γ) (e4 : Δ 4 = Γ 4) (e5 : Δ 5 = Γ 5) (hi : (Δ 6).1 = (Γ 6).1) (hk : ∀ k, k ≠ 8 → (Δ 6).2.1 k = (Γ 6).2.1 k) (e7 : Δ 7 = Γ 7) : SND Δ := by
  obtain ⟨⟨W, d⟩, ⟨ln, nd, no, ne, a1, a2, a3, a4, a5, a6, a7, a8, a9⟩, b, Tn, kd, vl, rv, pl, tx⟩ := h
  exact ⟨⟨W, DOK_r d e7⟩, ⟨ln, nd, no, ne, by rw [e5]; exact a1, a2, by rw [e4]; exact a3, by rw [e4]; exact a4, by rw [e4]; exact a5, a6, a7, a8, ISW_5 a9 e5⟩, b, Tn, kd, vl, rv, pl, TXS_6 tx hi hk⟩
variable {R : Nat → Nat → Int32} {nO nV nC nA ln : Nat} {room : Nat → Bool} {en : Nat → Nat} {TX : Nat → Int → Int → Prop} {DN : Nat → Nat → Nat → Prop} {Γ0 : HS} {F : Nat → Nat} {no ne nv fr : Nat} {ow : Nat → List (List Int)} {W : List Int} {wh at0 : Nat → Nat}
theorem LVP_keep {σ τ : MS} {Γ Δ : HS} (h : LVP R nO nV nC nA room en ln TX DN Γ0 F no ne nv ow W fr wh at0 σ Γ) (hi : ∀ k, k = 44 ∨ k = 63 ∨ (78 ≤ k ∧ k ≤ 84) → τ.1 k = σ.1 k) (ha : ∀ k, (45 ≤ k ∧ k ≤ 77) ∨ k = 122 → τ.2 k = σ.2 k) (hc : ∀ r, 4 ≤ r → r ≤ 7 → Δ r = Γ r) (h7 : (Δ 0).1 7 = (Γ 0).1 7) : LVP R nO nV nC nA room en ln TX DN Γ0 F no ne nv ow W fr wh at0 τ Δ := by
  obtain ⟨h1, h2, h3, h4, h5, h6⟩ := h
  have e4 := hc 4 (by omega) (by omega)
  have e6 := hc 6 (by omega) (by omega)
  refine ⟨PSR_keep h1 ⟨fun k a b => hi k (by omega), fun k a => ha k a⟩ hc, BGF_keep h2 (hi 63 (by omega)) (fun k a b => ha k (by omega)) e4, fun q hq => ?_, SND_k h4 e4 (hc 5 (by omega) (by omega)) (by rw [e6]) (fun _ _ => by rw [e6]) (hc 7 (by omega) (by omega)), by rw [hi 81 (by omega)]; exact h5, by rw [hi 44 (by omega)]; exact h6.1, by rw [h7]; exact h6.2⟩
  rw [e4, hi (78 + q) (by omega)]; exact h3 q hq
theorem TPD_keep {L : Nat} {σ τ : MS} {Γ Δ : HS} (h : TPD L σ Γ) (h4 : τ.1 4 = σ.1 4) (h3 : τ.2 3 = σ.2 3) (h1 : (Δ 0).1 1 = (Γ 0).1 1) (h13 : Δ 13 = Γ 13) : TPD L τ Δ := by
  unfold TPD at h ⊢
  rw [h4, h3, h1, h13]; exact h
theorem RST_of {σ : MS} {T : TS} (h : PLG R nO nV nC nA room en ln TX DN Γ0 F no ne nv ow W σ T) (h9 : (T.1 0).1 9 = σ.1 16) : RST σ T.1 := ⟨h9, h.1.2.2.1, h.1.2.2.2.1, h.1.2.2.2.2.1, h.1.2.2.2.2.2⟩
theorem PLG_fr {σ τ : MS} {T T' : TS} (h : PLG R nO nV nC nA room en ln TX DN Γ0 F no ne nv ow W σ T) (hi : ∀ k, k ≠ 0 → k ≠ 4 → τ.1 k = σ.1 k) (ha : ∀ k, k ≠ 3 → τ.2 k = σ.2 k) (hc : ∀ r, r ≠ 0 → r ≠ 13 → T'.1 r = T.1 r) (h0 : ∀ j, j ≠ 1 → (T'.1 0).1 j = (T.1 0).1 j) (h02 : (T'.1 0).2 = (T.1 0).2) (e2 : T'.2 = T.2) : PLG R nO nV nC nA room en ln TX DN Γ0 F no ne nv ow W τ T' := by
  obtain ⟨h1, hU, hS, h86, h8⟩ := h
  refine ⟨PLY_same h1 (fun k hk => hi k (by omega) (by omega)) (fun k hk => ha k (by omega)) (fun r a b => hc r (by omega) (by omega)), ?_, ?_, by rw [hi 86 (by omega) (by omega)]; exact h86, by rw [h0 8 (by omega)]; exact h8⟩
  · rw [e2]
    exact UND_keep hU (ha 99 (by omega)) (hi 101 (by omega) (by omega)) (h0 18 (by omega)) (h0 17 (by omega))
  · rw [e2]
    unfold SVD at hS ⊢
    rw [ha 100 (by omega), ha 99 (by omega), h02]; exact hS
theorem IDL_fr {σ τ : MS} {Γ Δ : HS} (h : IDL σ Γ) (h86 : τ.1 86 = σ.1 86) (h100 : τ.2 100 = σ.2 100) (h8 : (Δ 0).1 8 = (Γ 0).1 8) (h17 : (Δ 0).1 17 = (Γ 0).1 17) (h02 : (Δ 0).2 = (Γ 0).2) : IDL τ Δ := by
  unfold IDL at h ⊢
  rw [h86, h100, h8, h17, h02]; exact h
theorem TOP_fr {L L' : Nat} {σ τ : MS} {T T' : TS} (h : TOP L σ T) (hi : ∀ k, k ≠ 0 → k ≠ 4 → τ.1 k = σ.1 k) (ha : ∀ k, k ≠ 3 → τ.2 k = σ.2 k) (hc : ∀ r, r ≠ 0 → r ≠ 13 → T'.1 r = T.1 r) (h0 : ∀ j, j ≠ 1 → (T'.1 0).1 j = (T.1 0).1 j) (h02 : (T'.1 0).2 = (T.1 0).2) (e2 : T'.2 = T.2) (ht : TPD L' τ T'.1) : TOP L' τ T' := by
  obtain ⟨-, ⟨r1, ⟨w, o1, o2⟩, r3, r4, r5⟩, h⟩ := h
  have idl : IDL σ T.1 → IDL τ T'.1 := fun g => IDL_fr g (hi 86 (by omega) (by omega)) (ha 100 (by omega)) (h0 8 (by omega)) (h0 17 (by omega)) h02
  refine ⟨ht, ⟨by rw [h0 9 (by omega), hi 16 (by omega) (by omega)]; exact r1, ⟨w, OL_congr o1 (ha 102 (by omega)) (hi 103 (by omega) (by omega)), OL_congr o2 (by rw [hc 8 (by omega) (by omega)]) (by rw [hc 8 (by omega) (by omega)])⟩, ?_, WAI_10 (by rw [hc 10 (by omega) (by omega)]) r4, by rw [hi 113 (by omega) (by omega)]; exact r5.1, by rw [hi 115 (by omega) (by omega)]; exact r5.2⟩, ?_⟩
  · unfold NOU at r3 ⊢
    rw [hc 10 (by omega) (by omega), hi 108 (by omega) (by omega), hi 109 (by omega) (by omega)]; exact r3
  · rcases h with ⟨⟨a, b⟩, g, g77⟩ | ⟨R, nO, nV, nC, nA, room, en, ln, TX, DN, Γ0, F, no, ne, nv, ow, W, fr, wh, at0, hL, g⟩
    · exact Or.inl ⟨⟨by rw [hi 44 (by omega) (by omega)]; exact a, by rw [h0 7 (by omega)]; exact b⟩, idl g, by rw [ha 77 (by omega)]; exact g77⟩
    · refine Or.inr ⟨R, nO, nV, nC, nA, room, en, ln, TX, DN, Γ0, F, no, ne, nv, ow, W, fr, wh, at0, LVP_keep hL (fun k hk => hi k (by omega) (by omega)) (fun k hk => ha k (by omega)) (fun r a b => hc r (by omega) (by omega)) (h0 7 (by omega)), ?_⟩
      rcases g with g | g
      · exact Or.inl (idl g)
      · exact Or.inr (PLG_fr g hi ha hc h0 h02 e2)
theorem TOP_th {L : Nat} {σ τ : MS} {T : TS} (h : TOP L σ T) (e : rTh σ τ) : TOP L τ T := TOP_fr h (fun k a _ => e.1 k a) (fun k _ => by rw [e.2]) (fun _ _ _ => rfl) (fun _ _ => rfl) rfl rfl (TPD_keep h.1 (e.1 4 (by omega)) (by rw [e.2]) rfl rfl)
theorem top_q {L : Nat} {σ : MS} {T : TS} {mR : MR} {mC : HA} (h : TOP L σ T) (g : RQ σ T mR mC) : ALK (TPO L) mR mC := ALK_mono g (fun σ' T' ⟨a, b⟩ => by rw [b]; exact ⟨L, by omega, TOP_th h a⟩)
theorem top_QQ {L : Nat} {σ : MS} {T : TS} (h : TOP L σ T) : QQ σ T.1 := by
  obtain ⟨-, -, ⟨a, -⟩ | ⟨R, nO, nV, nC, nA, room, en, ln, TX, DN, Γ0, F, no, ne, nv, ow, W, fr, wh, at0, ⟨h1, h2, h3, h4, h5, h6⟩, g⟩⟩ := h
  · exact Or.inl a
  · have hC : CNT3 σ nO nV nC := h1.2.2.2.2.2.2.2.2.2.2.2.2.2
    have st := h1.2.1
    refine Or.inr ⟨nO, room, nV, nC, nA, en, h6, ⟨hC.2.2.2.1, st.2.1.2.1, hC.1⟩, ⟨hC.2.2.2.2.1, by rw [h3 2 (by omega)]; exact hC.2.2.2.2.1, hC.2.1⟩, ⟨h5, by rw [h3 3 (by omega)]; exact h5⟩, ⟨st.2.2.2.1.1, st.2.2.2.1.2.1, st.2.2.2.1.2.2.1, st.2.2.2.1.2.2.2.1, hC.2.2.1⟩, ?_⟩
    rcases g with g | g
    · exact Or.inl ⟨g.1, g.2.1⟩
    · exact Or.inr ⟨g.2.2.2.1, g.2.2.2.2, g.1.2.1⟩
theorem top_QT {L : Nat} {σ : MS} {T : TS} (h : TOP L σ T) : QT σ T.1 := by
  obtain ⟨-, -, ⟨a, -⟩ | ⟨R, nO, nV, nC, nA, room, en, ln, TX, DN, Γ0, F, no, ne, nv, ow, W, fr, wh, at0, ⟨h1, h2, h3, h4, h5, h6⟩, g⟩⟩ := h
  · exact Or.inl a
  · refine Or.inr ⟨h6, h3, ?_⟩
    rcases g with g | g
    · exact Or.inl ⟨g.1, g.2.1⟩
    · obtain ⟨pa, fi, nx, ch, tr, P⟩ := g.1.2.1
      obtain ⟨u, nw, -, -, u1, u2, -⟩ := g.2.1
      have i4 := P.2.2.2.2.2.2.1
      exact Or.inr ⟨g.2.2.2.1, g.2.2.2.2, i4.1, i4.2.1, i4.2.2.1, i4.2.2.2, by rw [u2, u1]⟩
theorem top_holder {L : Nat} {σ : MS} {T : TS} (h : TOP L σ T) (x : Int32) : ALK (TPO L) (F_X12_holder x σ) (H_holder x T) := top_q h (W_holder (top_QQ h) x)
theorem top_first {L : Nat} {σ : MS} {T : TS} (h : TOP L σ T) (x n : Int32) : ALK (TPO L) (F_X12_first x n σ) (H_first x n T) := top_q h (W_first (top_QQ h) x n)
theorem top_has {L : Nat} {σ : MS} {T : TS} (h : TOP L σ T) (x a : Int32) : ALK (TPO L) (F_X12_has_ x a σ) (H_has x a T) := top_q h (W_has (top_QQ h) x a)
theorem top_value {L : Nat} {σ : MS} {T : TS} (h : TOP L σ T) (x : Int32) : ALK (TPO L) (F_X12_value x σ) (H_value x T) := top_q h (W_value (top_QQ h) x)
theorem top_cell {L : Nat} {σ : MS} {T : TS} (h : TOP L σ T) (x i : Int32) : ALK (TPO L) (F_X12_cell x i σ) (H_cell x i T) := top_q h (W_cell (top_QQ h) x i)
theorem top_told {L : Nat} {σ : MS} {T : TS} (h : TOP L σ T) (x : Int32) : ALK (TPO L) (F_X12_told x σ) (H_told x T) := top_q h (W_told (top_QT h) x)
theorem top_size {L : Nat} {σ : MS} {T : TS} (h : TOP L σ T) : ALK (TPO L) (F_X12_size σ) (H_size T) := top_q h (W_size h.2.1.2.1)
theorem top_out {L : Nat} {σ : MS} {T : TS} (h : TOP L σ T) (x : Int32) : ALK (TPO L) (F_X12_out x σ) (H_out x T) := top_q h (W_outR h.2.1.2.1 x)
theorem top_place {L : Nat} {σ : MS} {T : TS} (h : TOP L σ T) : ALK (TPO L) (F_X12_place_ σ) (H_place T) := top_q h (W_place h.2.1.1)
theorem top_feed {L : Nat} {σ : MS} {T : TS} (h : TOP L σ T) (hL : L + 8 ≤ 16000) (p : Int64) (x : Int32) : ALK (TPO L) (F_X12_feed p x σ) (H_feed p x T) := ALK_mono (W_feed h.1 hL p x) (fun σ' T' ⟨⟨L', l1, l2⟩, a, b, c, d, e, f⟩ => ⟨L', l1, TOP_fr h a b c d e f l2⟩)
