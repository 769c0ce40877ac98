/-! statements and blocks are seen alike -/
variable {T N : Nat} {kd vl rv : Nat → Int} {pl : Nat → Nat}
theorem sCln_trans {σ υ ω : MS} {Γ Δ : HS} {i j k s m D s' m' : Nat} {ts sl ts' sl' : Nat → Nat} (h1 : CW W2 Γ i Δ j) (h2 : m3 Γ Δ) (h4 : (Δ 3).1 12 = (Γ 3).1 12) (h6 : s ≤ s') (h7 : m ≤ m' ∧ m' ≤ m + (j - i)) (h8 : ∀ k, k < s → ts' k = ts k ∧ sl' k = sl k) (h9 : ∀ d, d < D → (Δ 3).2.1 10 d = (Γ 3).2.1 10 d) (h10 : flt υ = flt σ) (g : sCln T N kd vl rv pl υ ω Δ j k s' m' D ts' sl') : sCln T N kd vl rv pl σ ω Γ i k s m D ts sl := by
  obtain ⟨Θ, s'', m'', ts'', sl'', g1, g2, g3, g4, g5, g6, g7, g8, g9, g10⟩ := g
  have i1 := h1.1
  have i2 := g1.1
  exact ⟨Θ, s'', m'', ts'', sl'', CW_trans h1 g1, m3_trans h2 g2, g3, by rw [g4, h4], g5, by omega, ⟨by omega, by omega⟩, fun k hk => ⟨by rw [(g8 k (by omega)).1, (h8 k hk).1], by rw [(g8 k (by omega)).2, (h8 k hk).2]⟩, fun d hd => by rw [g9 d hd, h9 d hd], by rw [g10, h10]⟩
theorem sFlt_trans {υ : MS} {Γ Δ : HS} {i j k m m' : Nat} (h1 : CW W2 Γ i Δ j) (h2 : m3 Γ Δ) (h7 : m' ≤ m + (j - i)) (hjk : j ≤ k) (g : sFlt pl υ Δ j k m') : sFlt pl υ Γ i k m := by
  obtain ⟨f, w, g1, g2, g3, g4, g5, s'', m'', g6, g7⟩ := g
  have i1 := h1.1
  exact ⟨f, w, g1, by omega, g3, CW_CF h1 g4 (m3_cfM h2), g5, s'', m'', g6, by omega⟩
theorem see_list (hp : plm T pl) {σs τ0 : MS} {Γs : HS} {n c d D j : Nat} {xs ls is js ps : Nat → Nat} (hj : j ≤ T + 1) (b1 : ∀ k, k < c → σs.2 22 (xs k) = J (if k + 1 < c then (xs (k + 1) : Int) else -1)) (b4 : ∀ k, k < c → ls k ≤ xs k ∧ xs k < ls (k + 1) ∧ STX kd vl rv pl σs Γs n 0 (ls k) (ls (k + 1)) (xs k) (is k) (js k) (ps k) (ps (k + 1))) (hi9 : ∀ k, k ≤ c → ls k ≤ 39000) (b9 : ∀ k, k < c → is k < js k ∧ is (k + 1) = js k) (hic : is c ≤ j) (hTT : T ≤ 4096) (hpb : ∀ i, i ≤ T + 1 → pl i ≤ 5000) (hg : ∀ k τ s m, k < c → agA σs τ → WS τ s m → m + (js k - is k) ≤ 5000 → Ok (gV d 1 (J (xs k : Nat)) 0 0 τ) (gRes pl τ (is k) (js k) m)) (hst : ∀ k τ Γ s m ts sl, k < c → agA σs τ → CE N kd vl pl Γ → SRC T kd vl rv τ Γ s m D ts sl → STT T kd vl rv τ Γ → nBeh (pl (js k - 1)) (flt τ) → Ok (gV d 1 (J (xs k : Nat)) 0 0 τ) fun u => rS τ u.2 ∧ (sCln T N kd vl rv pl τ u.2 Γ (is k) (js k) s m D ts sl ∨ sFlt pl u.2 Γ (is k) (js k) m)) (h0 : ∃ s0 m0, WS τ0 s0 m0) : ∀ (e k N' : Nat) (τ : MS) (Γ : HS) (s m : Nat) (ts sl : Nat → Nat), k + e = c → e < N' → agA σs τ → CE N kd vl pl Γ → SRC T kd vl rv τ Γ s m D ts sl → STT T kd vl rv τ Γ → nBeh (pl (is c)) (flt τ) → Ok (loopF (Sb1 τ0 (gV d)) N' (J (if k < c then (xs k : Int) else -1), τ)) fun u => rS τ u.2 ∧ ((∃ υ, u.2 = mI υ 33 (τ0.1 33) ∧ sCln T N kd vl rv pl τ υ Γ (is k) (is c) s m D ts sl) ∨ sFlt pl u.2 Γ (is k) (is c) m) := by
  have mono : ∀ e k, k + e ≤ c → is k + e ≤ is (k + e) := by
    intro e
    induction e with
    | zero => intro k _; exact Nat.le_refl _
    | succ e ih => intro k hk; have := ih k (by omega); have b := b9 (k + e) (by omega); rw [show k + (e + 1) = k + e + 1 by omega]; omega
  intro e
  induction e with
  | zero =>
    intro k N' τ Γ s m ts sl hk hN ha hc hR hS hb
    obtain ⟨N', rfl⟩ : ∃ z, N' = z + 1 := ⟨N' - 1, by omega⟩
    have hkc : k = c := by omega
    rw [Sb1_s, if_neg (show ¬ k < c by omega), if_pos (show J (-1) < 0 by decide)]
    refine Ok_bnd (Ok_some ⟨rS_mI (by omega), Or.inl ⟨τ, rfl, ?_⟩⟩)
    rw [hkc]
    exact sCln_rfl hR hc.2.2
  | succ e ih =>
    intro k N' τ Γ s m ts sl hk hN ha hc hR hS hb
    obtain ⟨N', rfl⟩ : ∃ z, N' = z + 1 := ⟨N' - 1, by omega⟩
    have hkc : k < c := by omega
    have bk := b4 k hkc
    have hl := hi9 (k + 1) (by omega)
    have b9k := b9 k hkc
    have mk := mono (c - (k + 1)) (k + 1) (by omega)
    rw [show k + 1 + (c - (k + 1)) = c by omega] at mk
    have hjc : js k ≤ is c := by omega
    have hpj : pl (js k - 1) ≤ pl (is c) := by have := hp (js k - 1) (is c) (by omega) (by omega); omega
    rw [Sb1_s, if_pos hkc, if_neg (J_nlt0 (by omega) (by omega))]
    refine Ok_bind (Ok_mono (hst k τ Γ s m ts sl hkc ha hc hR hS (nBeh_le hb hpj)) (fun u hu => ?_))
    obtain ⟨u1, u2⟩ := hu
    have ha' := agA_rS ha u1
    refine Ok_neg (g_en (by omega)) (Ok_bnd ?_)
    rw [(ng (n := xs k) (by omega)).2, ha' 22 (by omega) (by omega), b1 k hkc]
    rcases u2 with ⟨Δ, s', m', ts', sl', g1, g2, g3, g4, g5, g6, g7, g8, g9, g10⟩ | ⟨f, w, g1, g2, g3, g4, g5, s', m', g6, g7⟩
    · have g1' : CW W2 Γ (is k) Δ (is (k + 1)) := by rw [b9k.2]; exact g1
      refine Ok_mono (ih (k + 1) N' u.2 Δ s' m' ts' sl' (by omega) (by omega) ha' (CE_keep hc g2 g3) g5 (STT_keep hS u1 g2) (by rw [g10]; exact hb)) (fun v hv => ?_)
      obtain ⟨v1, v2⟩ := hv
      refine ⟨rS_trans u1 v1, ?_⟩
      rcases v2 with ⟨υ, v3, v4⟩ | v4
      · exact Or.inl ⟨υ, v3, sCln_trans g1' g2 g4 g6 (by rw [b9k.2]; exact g7) g8 g9 g10 v4⟩
      · exact Or.inr (sFlt_trans g1' g2 (by rw [b9k.2]; exact g7.2) (by rw [b9k.2]; exact hjc) v4)
    · have hm14 := hR.1.2.2.2.2.1
      refine Ok_mono (gsee_list (τ0 := τ0) (lo := 0) (hi := 0) (i := 0) (p := 0) (q := 0) (d := d) hp hj b1 b4 hi9 b9 hic hg e (k + 1) N' u.2 s' m' (by omega) (by omega) ha' g6 (by omega) (by obtain ⟨s0, m0, h0⟩ := h0; exact ⟨s0, Or.inr ⟨m0, h0⟩⟩)) (fun v hv => ?_)
      obtain ⟨v1, v2, s'', m'', v3, v4⟩ := hv
      have hw : pl w ≤ pl (is (k + 1)) := by
        rw [b9k.2]; have := hp w (js k) g3 (by omega); omega
      have e1 : flt v.2 = (J f, J (pl w : Nat)) := by
        rcases v2 with v2 | v2
        · rw [v2]; exact g5
        · rw [nGe_keep v2 g5 g1 hw (hpb w (by omega))]; exact g5
      exact ⟨rS_trans u1 v1, Or.inr ⟨f, w, g1, g2, by omega, g4, e1, s'', m'', v3, by omega⟩⟩
def bO (g : Nat) : Nat := if g = 0 then 2 else if g = 2 ∨ g = 3 then 1 else 0
theorem see (hT : TKE T N kd vl rv pl) (hN : NMI T kd vl rv) (hp : plm T pl) (hpb : ∀ i, i ≤ T + 1 → pl i ≤ 5000) {σs : MS} {Γs : HS} : ∀ (n g lo hi x i j p q : Nat), STX kd vl rv pl σs Γs n g lo hi x i j p q → hi ≤ 39000 → j ≤ T → ∀ (d : Nat) (τ : MS) (Γ : HS) (s m D : Nat) (ts sl : Nat → Nat), agA σs τ → CE N kd vl pl Γ → SRC T kd vl rv τ Γ s m D ts sl → STT T kd vl rv τ Γ → 1 ≤ D → n + 3 * D ≤ 93 + bO g → 2 * n + 3 ≤ 3 * d + fO g → nBeh (pl (j - 1)) (flt τ) → Ok (gV d (cO g) (J (x : Nat)) 0 0 τ) fun u => rS τ u.2 ∧ (sCln T N kd vl rv pl τ u.2 Γ i j s m D ts sl ∨ sFlt pl u.2 Γ i j m) := by
  obtain ⟨n1, n2, n3, n4⟩ := TKE_N hT
  intro n
  induction n with
  | zero => intro g lo hi x i j p q h; exact absurd h (by simp [STX])
  | succ n ih =>
    intro g lo hi x i j p q h hhi hj d τ Γ s m D ts sl ha hc hR hS hD hbo hd hb
    have hr := STX_rng h
    have h' := h
    have en := g_en (n := x) (by omega)
    have en2 := (ng (n := x) (by omega)).2
    unfold STX at h
    obtain ⟨b1, b2, b3, b4, h⟩ := h
    have e17 := ha 17 (by omega) (by omega)
    have hsm := hR.1.2.2.2.1
    have hm14 := hR.1.2.2.2.2.1
    rcases h with ⟨g0, hpq, h18, h⟩ | ⟨g1, f, c, j', a1, a2, a3, a4, a5, a6⟩ | ⟨g2, a0, e, b, k, k2, m3', m2, r, r2, t, a1, a2, a3, a4, a5, a6, ⟨lo', a7, a8⟩, a9, a10⟩ | ⟨g', g3, a1⟩
    · subst g0
      rcases h with ⟨j', a1, a2, a3⟩ | ⟨a1, a2, a3⟩ | ⟨e, b, k, m3', r, q', a1, a2, a3, a4, a5, a6, a7, a8, a9, a10, a11⟩
      · -- a plain statement
        obtain ⟨d, rfl⟩ : ∃ z, d = z + 1 := ⟨d - 1, by unfold fO at hd; simp at hd; omega⟩
        show Ok (gV (d + 1) 1 (J (x : Nat)) 0 0 τ) _
        rw [q_gV_1]
        obtain ⟨z1, z2, z3⟩ := PST_quiet a3
        by_cases q21 : kd i = 242
        · rcases z2 with z2 | ⟨y0, y1, y2, y3, y, y4, y5, y6⟩
          · unfold qs at z2; omega
          · have hyN : NMN rv pl τ y (i + 1) := ⟨by rw [e17]; exact y5.1, by rw [ha 18 (by omega) (by omega)]; exact y5.2.1, by rw [ha 19 (by omega) (by omega)]; exact y5.2.2⟩
            obtain ⟨υ, f1, f2, f3⟩ := sLet hT hN hp hpb (y := y) (by omega) q21 y1 y2 z1 a2 (by omega) hyN hc hR hS (by rw [a1] at hb; exact hb)
            rw [ss_let (by omega) (by rw [e17]; exact y3) (by rw [ha 19 (by omega) (by omega)]; exact y4) f1 (by rw [f2.2 17 (by omega), e17]; exact y3)]
            subst a1
            exact Ok_some ⟨f2, f3⟩
        · obtain ⟨w, w1, w2, w3, w4, w5, w6⟩ := z3 q21
          rw [ss_plain (by omega) (by rw [e17]; exact w1) ⟨w2, by omega, w4, w5, w6⟩]
          refine Ok_some ⟨rS_rfl, Or.inl ?_⟩
          have zi : qs (kd i) := by
            rcases z2 with z2 | ⟨y0, -⟩
            · exact z2
            · exact absurd y0 q21
          have s1 := W2_qq hT hc.1 hc.2.1 (i := i) (j := j') (by omega) (by omega) (fun t h1 h2 => by
            by_cases q : t = i
            · rw [q]; exact zi
            · exact z1 t (by omega) h2)
          have s2 := W2_f hT hc.1 hc.2.1 (t := j') (by omega) (by rw [a2]; unfold qt; omega) (fs_semi hT hc.1 (by omega) a2 hc.2.2) rfl
          rw [a1]
          exact ⟨Γ, s, m, ts, sl, CW_trans s1 s2, m3_rfl, hc.2.2, rfl, hR, Nat.le_refl _, ⟨Nat.le_refl _, by omega⟩, fun _ _ => ⟨rfl, rfl⟩, fun _ _ => rfl, rfl⟩
      · -- if
        have st := W2_q hT hc.1 hc.2.1 1 i (by omega) (fun t h1 h2 => by rw [show t = i by omega, a1]; unfold qs; omega)
        refine Ok_mono (ih 2 lo hi x (i + 1) j p q a3 hhi hj d τ Γ s m D ts sl ha hc hR hS hD (by unfold bO at hbo ⊢; simp at hbo ⊢; omega) (by unfold fO at hd ⊢; simp at hd ⊢; omega) hb) (fun u hu => ⟨hu.1, ?_⟩)
        have r2' := STX_rng a3
        rcases hu.2 with hu | hu
        · exact Or.inl (sCln_trans st m3_rfl rfl (Nat.le_refl _) ⟨Nat.le_refl _, by omega⟩ (fun _ _ => ⟨rfl, rfl⟩) (fun _ _ => rfl) rfl hu)
        · exact Or.inr (sFlt_trans st m3_rfl (by omega) (by omega) hu)
      · -- while
        obtain ⟨d, rfl⟩ : ∃ z, d = z + 1 := ⟨d - 1, by unfold fO at hd; simp at hd; omega⟩
        have r11 := STX_rng a11
        have r10 := EX_rng a10
        show Ok (gV (d + 1) 1 (J (x : Nat)) 0 0 τ) _
        rw [q_gV_1]
        have st := W2_qq hT hc.1 hc.2.1 (i := i) (j := k) (by omega) (by omega) (fun t h1 h2 => by
          by_cases q : t = i
          · rw [q, a1]; unfold qs; omega
          · exact qs_qk (EX_quiet a10 t (by omega) h2))
        refine ss_while (b := b) (by omega) (by rw [e17]; exact a3) (by rw [ha 20 (by omega) (by omega)]; exact a5) ?_
        refine Ok_mono (ih 3 _ _ _ _ _ _ _ a11 (by omega) hj d τ Γ s m D ts sl ha hc hR hS hD (by unfold bO at hbo ⊢; simp at hbo ⊢; omega) (by unfold fO at hd ⊢; simp at hd ⊢; omega) hb) (fun u hu => ⟨by rw [hu.1.2 17 (by omega), e17]; exact a3, hu.1, ?_⟩)
        rcases hu.2 with hu | hu
        · exact Or.inl (sCln_trans st m3_rfl rfl (Nat.le_refl _) ⟨Nat.le_refl _, by omega⟩ (fun _ _ => ⟨rfl, rfl⟩) (fun _ _ => rfl) rfl hu)
        · exact Or.inr (sFlt_trans st m3_rfl (by omega) (by omega) hu)
    · -- a block
      subst g1
      obtain ⟨d, rfl⟩ : ∃ z, d = z + 1 := ⟨d - 1, by unfold fO at hd; simp at hd; omega⟩
      have hD30 : D ≤ 30 := by unfold bO at hbo; simp at hbo; omega
      show Ok (gV (d + 1) 0 (J (x : Nat)) 0 0 τ) _
      rw [q_gV_0, seeBlock_eq, if_neg en]
      refine Ok_bnd ?_
      rw [en2, ha 19 (by omega) (by omega), a5]
      obtain ⟨xs, ls, is, js, ps, c1, c2, c3, c4, c5, c6, c7, c8, c9, c10, c11⟩ := a6
      have hrng := LST_rng c4 c9 c10
      have c9' : ∀ k, k < c → is k < js k ∧ is (k + 1) = js k := fun k hk => ⟨(c9 k hk).1, by rw [(c9 k hk).2]; split <;> omega⟩
      have hls : ∀ k, k ≤ c → ls k ≤ 39000 := fun k hk => by
        have := hrng (c - k) k (by omega)
        rw [show k + (c - k) = c by omega] at this; omega
      have r0c := hrng c 0 (by omega)
      rw [Nat.zero_add] at r0c
      have his : ∀ k, k < c → js k ≤ is c := fun k hk => by
        have := hrng (c - (k + 1)) (k + 1) (by omega)
        rw [show k + 1 + (c - (k + 1)) = c by omega] at this
        have := c9' k hk; omega
      have hcc : ∀ k, k ≤ c → k ≤ is k := by
        intro k
        induction k with
        | zero => intro _; omega
        | succ k ihk => intro hk; have := ihk (by omega); have := c9' k (by omega); omega
      have hcc' := hcc c (Nat.le_refl c)
      have ef : (if 0 < c then (xs 0 : Int) else -1) = f := by
        rw [c1.1]
        by_cases q : c = 0
        · rw [if_pos q, if_neg (by omega)]
        · rw [if_neg q, if_pos (by omega)]
      -- the class opens
      have so := W2_f hT hc.1 hc.2.1 (t := i) (by omega) (by rw [a1]; unfold qt; omega) (fs_open hT hc.1 (by omega) a1 hR.1 hD30) rfl
      have mo : m3 Γ (opM Γ s D) := opM_m3
      have co : CE N kd vl pl (opM Γ s D) := CE_keep hc mo hc.2.2
      have ro : SRC T kd vl rv τ (opM Γ s D) s m (D + 1) ts sl := ⟨opM_SC hR.1 hD30, hR.2⟩
      have key := see_list (N := N) (τ0 := τ) (d := d) (D := D + 1) hp (show j ≤ T + 1 by omega) c1.2 c4 hls c9' (by omega) n3 hpb (fun k υ s m hk ha' hw' hm' => gsee hT hp hpb n 0 _ _ _ _ _ _ _ (c4 k hk).2.2 (hls (k + 1) (by omega)) (by have := his k hk; omega) d υ s m ha' hw' hm' (by unfold fO at hd ⊢; simp at hd ⊢; omega)) (fun k υ Γ' s m ts sl hk ha' hc' hR' hS' hb' => ih 0 _ _ _ _ _ _ _ (c4 k hk).2.2 (hls (k + 1) (by omega)) (by have := his k hk; omega) d υ Γ' s m (D + 1) ts sl ha' hc' hR' hS' (by omega) (by unfold bO at hbo ⊢; simp at hbo ⊢; omega) (by unfold fO at hd ⊢; simp at hd ⊢; omega) hb') ⟨s, m, SRC_WS hR⟩ c 0 FU τ (opM Γ s D) s m ts sl (by omega) (FU_gt (by omega)) ha co ro (STT_keep hS rS_rfl mo) (by rw [c6]; rw [a3] at hb; exact hb)
      rw [ef] at key
      refine Ok_mono key (fun u hu => ⟨hu.1, ?_⟩)
      rcases hu.2 with ⟨υ, u3, Δ, s', m', ts', sl', g1, g2, g3, g4, g5, g6, g7, g8, g9, g10⟩ | g
      · left
        rw [c5, c6] at g1
        have c2 := CE_keep co g2 g3
        obtain ⟨Θ, f1, f2, f3, f4, f5, f6⟩ := fs_shut hT (D := D) (L := s) c2.1 (show j' < N by omega) a2 g5.1 g6 ⟨fun h => absurd h (by omega), fun _ => by rw [g9 D (by omega)]; show upd _ _ _ _ = _; rw [upd_s, if_pos rfl]⟩
        rw [if_neg (by omega)] at f3 f5
        have sz := W2_f hT c2.1 c2.2.1 (t := j') (by omega) (by rw [a2]; unfold qt; omega) f1 (f2.1 1 (by omega))
        refine ⟨Θ, s, m', ts', sl', CW_trans so (CW_trans g1 (by rw [a3]; exact sz)), m3_trans mo (m3_trans g2 f2), by rw [f4, g3], by rw [f5, g4]; rfl, ⟨f3, by rw [u3, mI_1, if_pos rfl]; exact hR.2.1, by rw [u3, mI_1, if_neg (by omega)]; exact g5.2.2.1, fun k hk => by rw [u3, mI_2]; exact g5.2.2.2 k (by omega)⟩, Nat.le_refl _, ⟨g7.1, by omega⟩, g8, fun d' hd' => ?_, by rw [u3, flt_mI (by omega) (by omega), g10]⟩
        rw [f6, g9 d' (by omega)]
        show upd _ _ _ _ = _
        rw [upd_s, if_neg (by omega)]
      · right
        rw [c5, c6] at g
        exact sFlt_trans (m' := m) so mo (by omega) (by omega) (by obtain ⟨f', w, z1, z2, z3, z4⟩ := g; exact ⟨f', w, z1, z2, by omega, z4.1, z4.2.1, by obtain ⟨s'', m'', z5, z6⟩ := z4.2.2; exact ⟨s'', m'', z5, by omega⟩⟩)
    · -- behind an if
      subst g2
      obtain ⟨d, rfl⟩ : ∃ z, d = z + 1 := ⟨d - 1, by unfold fO at hd; simp at hd; omega⟩
      have r8 := EX_rng a8
      have r9 := STX_rng a9
      have hk2 : k2 ≤ j := by
        rcases a10 with ⟨c1, c2, c3, c4, c5⟩ | ⟨c1, c2, c3, y, c4, ⟨c5, c6, c7⟩ | ⟨c5, c6⟩⟩
        · omega
        · have := STX_rng c7; omega
        · have := STX_rng c6; omega
      show Ok (gV (d + 1) 1 (J (x : Nat)) 0 0 τ) _
      rw [q_gV_1]
      have st := W2_qq hT hc.1 hc.2.1 (i := i) (j := k) (by omega) (by omega) (fun t h1 h2 => qs_qk (EX_quiet a8 t h1 h2))
      have hpk : pl (k2 - 1) ≤ pl (j - 1) := by
        by_cases q : k2 = j
        · rw [q]; exact Nat.le_refl _
        · have := hp (k2 - 1) (j - 1) (by omega) (by omega); omega
      refine ss_if (b := b) (by omega) (by rw [e17]; exact a0) (by rw [ha 20 (by omega) (by omega)]; exact a2) ?_
      refine Ok_mono (ih 1 _ _ _ _ _ _ _ a9 (by omega) (by omega) d τ Γ s m D ts sl ha hc hR hS hD (by unfold bO at hbo ⊢; simp at hbo ⊢; omega) (by unfold fO at hd ⊢; simp at hd ⊢; omega) (nBeh_le hb hpk)) (fun u hu => ?_)
      obtain ⟨u1, u2⟩ := hu
      have ha' := agA_rS ha u1
      refine ⟨by rw [ha' 17 (by omega) (by omega)]; exact a0, ?_⟩
      have u2' : sCln T N kd vl rv pl τ u.2 Γ i k2 s m D ts sl ∨ sFlt pl u.2 Γ i k2 m := by
        rcases u2 with u2 | u2
        · exact Or.inl (sCln_trans st m3_rfl rfl (Nat.le_refl _) ⟨Nat.le_refl _, by omega⟩ (fun _ _ => ⟨rfl, rfl⟩) (fun _ _ => rfl) rfl u2)
        · exact Or.inr (sFlt_trans st m3_rfl (by omega) (by omega) u2)
      rcases a10 with ⟨c1, c2, c3, c4, c5⟩ | ⟨c1, c2, c3, y, c4, c5⟩
      · left
        refine ⟨by rw [ha' 21 (by omega) (by omega)]; exact c5, u1, ?_⟩
        rw [c2]; exact u2'
      · right
        have hy : y < hi ∧ k2 + 1 < j ∧ m2 ≤ y := by
          rcases c5 with ⟨c5, c6, c7⟩ | ⟨c5, c6⟩
          · have := STX_rng c7; omega
          · have := STX_rng c6; omega
        refine ⟨y, by rw [ha' 21 (by omega) (by omega)]; exact c4, by omega, ?_⟩
        -- what comes then, whichever it is
        have fin : ∀ (g : Nat) (i3 : Nat) (P : MS → Prop), (g = 4 ∧ i3 = k2 + 2 ∨ g = 1 ∧ i3 = k2 + 1) → (∃ r', STX kd vl rv pl σs Γs n g m2 hi y i3 j r' q) → (∀ t, k2 ≤ t → t < i3 → qs (kd t)) → Ok (gV d (cO g) (J (y : Nat)) 0 0 u.2) fun v => rS τ v.2 ∧ (sCln T N kd vl rv pl τ v.2 Γ i j s m D ts sl ∨ sFlt pl v.2 Γ i j m) := by
          intro g i3 P hg hx hq
          obtain ⟨r', hx⟩ := hx
          have rx := STX_rng hx
          rcases u2' with ⟨Δ, s', m', ts', sl', g1, g2, g3, g4, g5, g6, g7, g8, g9, g10⟩ | ⟨f, w, g1, g2, g3, g4, g5, s', m', g6, g7⟩
          · have c2 := CE_keep hc g2 g3
            have st2 := W2_qq hT c2.1 c2.2.1 (i := k2) (j := i3) (by omega) (by omega) hq
            refine Ok_mono (ih g _ _ _ _ _ _ _ hx hhi hj d u.2 Δ s' m' D ts' sl' ha' c2 g5 (STT_keep hS u1 g2) hD ?_ ?_ (by rw [g10]; exact hb)) (fun v hv => ⟨rS_trans u1 hv.1, ?_⟩)
            · rcases hg with ⟨hg, -⟩ | ⟨hg, -⟩ <;> subst hg <;> (unfold bO at hbo ⊢; simp at hbo ⊢; omega)
            · rcases hg with ⟨hg, -⟩ | ⟨hg, -⟩ <;> subst hg <;> (unfold fO at hd ⊢; simp at hd ⊢; omega)
            · have i1 := g1.1
              rcases hv.2 with hv | hv
              · exact Or.inl (sCln_trans (CW_trans g1 st2) g2 g4 g6 ⟨g7.1, by omega⟩ g8 g9 g10 hv)
              · exact Or.inr (sFlt_trans (CW_trans g1 st2) g2 (by omega) (by omega) hv)
          · refine Ok_mono (gsee hT hp hpb n g _ _ _ _ _ _ _ hx hhi (by omega) d u.2 s' m' ha' g6 (by omega) ?_) (fun v hv => ⟨rS_trans u1 hv.1, ?_⟩)
            · rcases hg with ⟨hg, -⟩ | ⟨hg, -⟩ <;> subst hg <;> (unfold fO at hd ⊢; simp at hd ⊢; omega)
            · obtain ⟨v1, v2, s'', m'', v3, v4⟩ := hv
              have hw : pl w ≤ pl i3 := by have := hp w i3 (by omega) (by omega); omega
              have e1 : flt v.2 = (J f, J (pl w : Nat)) := by rw [nGe_keep v2 g5 g1 hw (hpb w (by omega))]; exact g5
              exact Or.inr ⟨f, w, g1, g2, by omega, g4, e1, s'', m'', v3, by omega⟩
        rcases c5 with ⟨c5, c6, c7⟩ | ⟨c5, c6⟩
        · left
          refine ⟨by rw [ha' 17 (by omega) (by omega)]; exact (STX_kind _ _ _ _ _ _ _ _ _ c7).2 (by omega), fin 4 (k2 + 2) (fun _ => True) (Or.inl ⟨rfl, rfl⟩) ⟨_, c7⟩ (fun t h1 h2 => ?_)⟩
          by_cases q1 : t = k2
          · rw [q1, c1]; unfold qs; omega
          · rw [show t = k2 + 1 by omega, c5]; unfold qs; omega
        · right
          refine ⟨by rw [ha' 17 (by omega) (by omega)]; exact (STX_kind _ _ _ _ _ _ _ _ _ c6).1 (by omega), fin 1 (k2 + 1) (fun _ => True) (Or.inr ⟨rfl, rfl⟩) ⟨_, c6⟩ (fun t h1 h2 => ?_)⟩
          rw [show t = k2 by omega, c1]; unfold qs; omega
    · have hg : fO g = fO g' + 2 ∧ cO g = cO g' ∧ bO g ≤ bO g' + 1 := by
        rcases g3 with ⟨b1, b2⟩ | ⟨b1, b2⟩ | ⟨b1, b2⟩ <;> subst b1 <;> subst b2 <;> exact ⟨rfl, rfl, by decide⟩
      rw [hg.2.1]
      exact ih g' lo hi x i j p q a1 hhi hj d τ Γ s m D ts sl ha hc hR hS hD (by omega) (by omega) hb
