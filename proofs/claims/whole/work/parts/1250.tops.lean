/-! the calls of a play keep what holds between two calls -/
theorem W_undoR {σ : MS} {T : TS} (h : σ.1 86 = 0 ∧ (T.1 0).1 8 = 0) : RQ σ T (F_X12_undo σ) (H_undo T) := by
  rw [undo_eq, bndE, if_pos h.1]
  unfold H_undo
  rw [if_pos h.2]
  dsimp only
  rw [r_ref1 (by decide), Option.bind_some]
  dsimp only
  rw [if_neg (show ¬ (1 : Int32) = 0 by decide)]
  exact RQ_no (k := 1) (by decide) rfl rfl
theorem W_enterR {σ : MS} {T : TS} (h : σ.1 86 = 0 ∧ (T.1 0).1 8 = 0) : RQ σ T (F_X12_enter σ) (H_enter T) := by
  rw [ent_eq, bndE, if_pos h.1]
  unfold H_enter
  rw [if_pos h.2]
  dsimp only
  rw [r_ref1 (by decide), Option.bind_some]
  dsimp only
  rw [if_neg (show ¬ (1 : Int32) = 0 by decide)]
  exact RQ_no (k := 1) (by decide) rfl rfl
theorem top_idle {L : Nat} {σ : MS} {T : TS} (h : TOP L σ T) : IDL σ T.1 ∨ ∃ (R : Nat → Nat → Int32) (nO nV nC nA : Nat) (room : Nat → Bool) (en : Nat → Nat) (ln : Nat) (TX : Nat → Int → Int → Prop) (DN : Nat → Nat → Nat → Prop) (Γ0 : HS) (F : Nat → Nat) (no ne nv : Nat) (ow : Nat → List (List Int)) (W : List Int) (fr : Nat) (wh at0 : Nat → Nat), LVP R nO nV nC nA room en ln TX DN Γ0 F no ne nv ow W fr wh at0 σ T.1 ∧ PLG R nO nV nC nA room en ln TX DN Γ0 F no ne nv ow W σ T := by
  obtain ⟨-, -, ⟨-, a, -⟩ | ⟨R, nO, nV, nC, nA, room, en, ln, TX, DN, Γ0, F, no, ne, nv, ow, W, fr, wh, at0, hL, g⟩⟩ := h
  · exact Or.inl a
  · rcases g with g | g
    · exact Or.inl g
    · exact Or.inr ⟨R, nO, nV, nC, nA, room, en, ln, TX, DN, Γ0, F, no, ne, nv, ow, W, fr, wh, at0, hL, g⟩
theorem top_undo {L : Nat} {σ : MS} {T : TS} (h : TOP L σ T) : ALK (TPO L) (F_X12_undo σ) (H_undo T) := by
  rcases top_idle h with g | ⟨R, nO, nV, nC, nA, room, en, ln, TX, DN, Γ0, F, no, ne, nv, ow, W, fr, wh, at0, hL, g⟩
  · exact top_q h (W_undoR ⟨g.1, g.2.1⟩)
  · refine ALK_mono (W_undo g) (fun σ' T' ⟨a, b, c, d, e, f⟩ => ⟨L, by omega, TPD_keep h.1 c (b.2 3 (by omega) (by omega) (by omega) (by omega)) e (d.1 13 (by omega)), RST_of a (by rw [d.2.1 9 (by omega) (by omega) (by omega), b.1 16 (by omega) (by omega) (by omega) (by omega)]; exact h.2.1.1), Or.inr ⟨R, nO, nV, nC, nA, room, en, ln, TX, DN, Γ0, F, no, ne, nv, ow, W, fr, wh, at0, LVP_keep hL (fun k hk => b.1 k (by omega) (by omega) (by omega) (by omega)) (fun k hk => b.2 k (by omega) (by omega) (by omega) (by omega)) (fun r r4 r7 => d.1 r (by omega)) (d.2.1 7 (by omega) (by omega) (by omega)), Or.inr a⟩⟩)
theorem top_restore {L : Nat} {σ : MS} {T : TS} (h : TOP L σ T) (p : Int32) : ALK (TPO L) (F_X12_restore p σ) (H_restore p T) := by
  rcases i32_c p 4 (by omega) with hp | ⟨k, hk, rfl⟩
  · exact top_q h (W_restoreR (Or.inl hp))
  · rcases top_idle h with g | ⟨R, nO, nV, nC, nA, room, en, ln, TX, DN, Γ0, F, no, ne, nv, ow, W, fr, wh, at0, hL, g⟩
    · exact top_q h (W_restoreR (Or.inr ⟨k, hk, rfl, g.2.2.1 k hk⟩))
    · rcases g.2.2.1 k hk with s | s
      · exact top_q h (W_restoreR (Or.inr ⟨k, hk, rfl, s⟩))
      · refine ALK_mono (W_restore g hk s) (fun σ' T' ⟨a, b, c, d, e, f⟩ => ⟨L, by omega, TPD_keep h.1 c (b.2 3 (by omega) (by omega) (by omega) (by omega)) e (d.1 13 (by omega)), RST_of a (by rw [d.2.1 9 (by omega) (by omega) (by omega), b.1 16 (by omega) (by omega) (by omega) (by omega)]; exact h.2.1.1), Or.inr ⟨R, nO, nV, nC, nA, room, en, ln, TX, DN, Γ0, F, no, ne, nv, ow, W, fr, wh, at0, LVP_keep hL (fun k hk => b.1 k (by omega) (by omega) (by omega) (by omega)) (fun k hk => b.2 k (by omega) (by omega) (by omega) (by omega)) (fun r r4 r7 => d.1 r (by omega)) (d.2.1 7 (by omega) (by omega) (by omega)), Or.inr a⟩⟩)
theorem top_save {L : Nat} {σ : MS} {T : TS} (h : TOP L σ T) (p : Int32) : ALK (TPO L) (F_X12_save p σ) (H_save p T) := by
  rcases i32_c p 4 (by omega) with hp | ⟨k, hk, rfl⟩
  · exact top_q h (W_saveR (Or.inl hp))
  · rcases top_idle h with g | ⟨R, nO, nV, nC, nA, room, en, ln, TX, DN, Γ0, F, no, ne, nv, ow, W, fr, wh, at0, hL, g⟩
    · exact top_q h (W_saveR (Or.inr ⟨⟨k, hk, rfl⟩, g.1, g.2.1⟩))
    · refine ALK_mono (W_save g hk) (fun σ' T' ⟨a, b, c, d, e, f⟩ => ⟨L, by omega, TPD_keep h.1 (b 4 (by omega)) (c 3 (by omega) (by omega)) (by rw [e]) (d 13 (by omega)), RST_of a (by rw [e, b 16 (by omega)]; exact h.2.1.1), Or.inr ⟨R, nO, nV, nC, nA, room, en, ln, TX, DN, Γ0, F, no, ne, nv, ow, W, fr, wh, at0, LVP_keep hL (fun k hk => b k (by omega)) (fun k hk => c k (by omega) (by omega)) (fun r r4 r7 => d r (by omega)) (by rw [e]), Or.inr a⟩⟩)
theorem top_begin {L : Nat} {σ : MS} {T : TS} (h : TOP L σ T) (p : Int32) : ALK (TPO L) (F_X12_begin p σ) (H_begin p T) := by
  obtain ⟨ht, hR, ⟨a, -⟩ | ⟨R, nO, nV, nC, nA, room, en, ln, TX, DN, Γ0, F, no, ne, nv, ow, W, fr, wh, at0, hL, g⟩⟩ := id h
  · exact top_q h (W_beginR p a)
  · have hv : SVD nO room nV nC σ T.1 T.2.2.1 ∧ ∃ nw : Nat, nw < 6 ∧ (T.1 0).1 17 = J (nw : Nat) := by
      rcases g with g | g
      · exact ⟨fun q hq => Or.inl (g.2.2.1 q hq), g.2.2.2⟩
      · obtain ⟨u, nw, -, n1, -, -, n2, -⟩ := g.2.1
        exact ⟨g.2.2.1, nw, n1, n2⟩
    refine ALK_mono (W_begin p hL.1 hL.2.1 hL.2.2.2.2.2 hR.2.2.1 hR.2.2.2.1 hR.2.2.2.2 hv.1 hv.2) (fun σ' T' ⟨a, b, d, e⟩ => ⟨L, by omega, TPD_keep ht (b.1 4 (by omega) (by omega) (by omega) (by omega)) (b.2 3 (by omega) (by omega)) (d.2.1 1 (by omega) (by omega)) (d.1 13 (by omega) (by omega) (by omega) (by omega)), RST_of a (by rw [d.2.1 9 (by omega) (by omega), b.1 16 (by omega) (by omega) (by omega) (by omega)]; exact hR.1), Or.inr ⟨R, nO, nV, nC, nA, room, en, ln, TX, DN, Γ0, F, no, ne, nv, ow, W, fr, wh, at0, LVP_keep hL (fun k hk => b.1 k (by omega) (by omega) (by omega) (by omega)) (fun k hk => b.2 k (by omega) (by omega)) (fun r r4 r7 => d.1 r (by omega) (by omega) (by omega) (by omega)) (d.2.1 7 (by omega) (by omega)), Or.inr a⟩⟩)
theorem top_enter {L : Nat} {σ : MS} {T : TS} (h : TOP L σ T) : ALK (TPO L) (F_X12_enter σ) (H_enter T) := by
  rcases top_idle h with g | ⟨R, nO, nV, nC, nA, room, en, ln, TX, DN, Γ0, F, no, ne, nv, ow, W, fr, wh, at0, hL, g⟩
  · exact top_q h (W_enterR ⟨g.1, g.2.1⟩)
  · obtain ⟨t1, t2, t3, t4⟩ := h.1
    obtain ⟨v, σ', Δ, ps, e1, e2, hY, hU, h99, b, b0, b4, d, d1⟩ := W_enter (b := fun j => (σ.2 3 j).toInt) g.1 g.2.1 t1 t2 t3 (fun j hj => by
      obtain ⟨w, w1, w2, w3⟩ := t4 j hj
      refine ⟨(J_of _).symm, by rw [w2, J_of, w1], ?_⟩
      rw [w1, J_toInt (by omega) (by omega)]; omega) g.2.2.2.1 g.2.2.2.2
    have hG : PLG R nO nV nC nA room en ln TX DN Γ0 F no ne nv ow W σ' (Δ, T.2.1, T.2.2.1, ps) := by
      refine ⟨hY, hU, fun q hq => ?_, by rw [b.1 86 (by omega) (by omega) (by omega) (by omega)]; exact g.2.2.2.1, by show (Δ 0).1 8 = 1; rw [d.2.1 8 (by omega) (by omega) (by omega)]; exact g.2.2.2.2⟩
      show (σ'.2 100 q = 0 ∧ (Δ 0).2.1 15 q = 0) ∨ (σ'.2 100 q = 1 ∧ (Δ 0).2.1 15 q = 1 ∧ SLOT nO room nV nC (σ'.2 99) (2600 * q) (T.2.2.1 q))
      rw [b.2 100 (by omega) (by omega) (by omega) (by omega), d.2.2]
      rcases g.2.2.1 q hq with s | ⟨s1, s2, s3⟩
      · exact Or.inl s
      · have hC : CNT3 σ nO nV nC := g.1.1.2.2.2.2.2.2.2.2.2.2.2.2.2
        exact Or.inr ⟨s1, s2, SLOT_shift hC.1 hC.2.1 hC.2.2.1 s3 (fun i hi => h99 _ (by omega))⟩
    exact ⟨v, v, 0, σ', (Δ, T.2.1, T.2.2.1, ps), e1, e2, b0, fun _ => rfl, 0, by omega, ⟨by omega, b4, d1, fun j hj => absurd hj (Nat.not_lt_zero _)⟩, RST_of hG (by show (Δ 0).1 9 = _; rw [d.2.1 9 (by omega) (by omega) (by omega), b.1 16 (by omega) (by omega) (by omega) (by omega)]; exact h.2.1.1), Or.inr ⟨R, nO, nV, nC, nA, room, en, ln, TX, DN, Γ0, F, no, ne, nv, ow, W, fr, wh, at0, LVP_keep hL (fun k hk => b.1 k (by omega) (by omega) (by omega) (by omega)) (fun k hk => b.2 k (by omega) (by omega) (by omega) (by omega)) (fun r r4 r7 => d.1 r (by omega)) (d.2.1 7 (by omega) (by omega) (by omega)), Or.inr hG⟩⟩
theorem TOP_U {L : Nat} {σ : MS} {T T' : TS} (h : TOP L σ T) (u : UFt T.1 T'.1) (e2 : T'.2 = T.2) : TOP L σ T' := by
  have e0 := u.1 0 (by omega)
  have e8 := u.1 8 (by omega)
  have e10 := u.1 10 (by omega)
  obtain ⟨ht, ⟨r1, ⟨w, o1, o2⟩, r3, r4, r5⟩, h⟩ := h
  have idl : IDL σ T.1 → IDL σ T'.1 := fun g => IDL_fr g rfl rfl (by rw [e0]) (by rw [e0]) (by rw [e0])
  refine ⟨TPD_keep ht rfl rfl (by rw [e0]) (u.1 13 (by omega)), ⟨by rw [e0]; exact r1, ⟨w, o1, OL_congr o2 (by rw [e8]) (by rw [e8])⟩, ?_, WAI_10 (by rw [e10]) r4, r5⟩, ?_⟩
  · unfold NOU at r3 ⊢
    rw [e10]; exact r3
  · rcases h with ⟨⟨a, b⟩, g, g77⟩ | ⟨R, nO, nV, nC, nA, room, en, ln, TX, DN, Γ0, F, no, ne, nv, ow, W, fr, wh, at0, ⟨h1, h2, h3, h4, h5, h6⟩, g⟩
    · exact Or.inl ⟨⟨a, by rw [e0]; exact b⟩, idl g, g77⟩
    · refine Or.inr ⟨R, nO, nV, nC, nA, room, en, ln, TX, DN, Γ0, F, no, ne, nv, ow, W, fr, wh, at0, ⟨PSR_U h1 u, BGF_keep h2 rfl (fun _ _ _ => rfl) (u.1 4 (by omega)), fun q hq => by rw [u.1 4 (by omega)]; exact h3 q hq, SND_k h4 (u.1 4 (by omega)) (u.1 5 (by omega)) u.2.1 u.2.2.1 (u.1 7 (by omega)), h5, h6.1, by rw [e0]; exact h6.2⟩, ?_⟩
      rcases g with g | g
      · exact Or.inl (idl g)
      · exact Or.inr (PLG_U g u e2)
theorem top_sound {L : Nat} {σ : MS} {T : TS} (h : TOP L σ T) : ALK (TPO L) (F_X12_sound σ) (H_sound T) := by
  have go : ALK (fun σ' T' => rTh σ σ' ∧ UFt T.1 T'.1 ∧ T'.2 = T.2) (F_X12_sound σ) (H_sound T) := by
    obtain ⟨-, hR, ⟨a, -⟩ | ⟨R, nO, nV, nC, nA, room, en, ln, TX, DN, Γ0, F, no, ne, nv, ow, W, fr, wh, at0, hL, g⟩⟩ := id h
    · exact W_sound (nO := 0) (nV := 0) (nC := 0) (room := fun _ => false) (Or.inl a)
    · refine W_sound (nO := nO) (nV := nV) (nC := nC) (room := room) (Or.inr ⟨hL.2.2.2.2.2.2, hL.2.2.2.1, ?_⟩)
      rcases g with g | g
      · exact Or.inl g.2.1
      · exact Or.inr ⟨g.2.2.2.2, hL.1.2.1.2.1.2.1, g.1.2.1, hR.2.2.2.1⟩
  exact ALK_mono go (fun σ' T' ⟨a, b, c⟩ => ⟨L, by omega, TOP_U (TOP_th h a) b c⟩)
