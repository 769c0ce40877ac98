/-! which local numbers are known where: statements and blocks -/
variable {T N : Nat} {kd vl rv : Nat → Int} {pl : Nat → Nat}
/-- what a stretch of statements leaves: names that are seen, and its code -/
def FLR (T : Nat) (kd vl : Nat → Int) (G : Nat → HS) (Θ Γs : HS) (g i j p q s D : Nat) (ts sl : Nat → Nat) : Prop := ∃ (s' m' : Nat) (ts' sl' : Nat → Nat), SC T kd vl (G j) s' m' D ts' sl' ∧ s ≤ s' ∧ (∀ k, k < s → ts' k = ts k ∧ sl' k = sl k) ∧ (g ≠ 0 → s' = s) ∧ (G j 3).1 9 = J (-1) ∧ (∀ d, d < D → (G j 3).2.1 10 d = (G i 3).2.1 10 d) ∧ FL Γs (LDW G Θ kd vl) p q (LB s sl) (LB s' sl')
theorem LB_eq {s : Nat} {sl sl' : Nat → Nat} (h : ∀ k, k < s → sl' k = sl k) : LB s sl' = LB s sl := by
  funext u
  refine propext ⟨?_, ?_⟩
  · rintro ⟨k, k1, k2⟩; exact ⟨k, k1, by rw [← h k k1]; exact k2⟩
  · rintro ⟨k, k1, k2⟩; exact ⟨k, k1, by rw [h k k1]; exact k2⟩
theorem LB_sub {s s' : Nat} {sl sl' : Nat → Nat} (hs : s ≤ s') (h : ∀ k, k < s → sl' k = sl k) : ∀ u, LB s sl u → LB s' sl' u := by
  rintro u ⟨k, k1, k2⟩; exact ⟨k, by omega, by rw [h k k1]; exact k2⟩
/-- words behind which a stretch begins that has no let ahead -/
theorem q_prev {i w : Nat} (h0 : kd (i - 1) ≠ 242) (hq : ∀ t, i ≤ t → t < w → kd t ≠ 242) (hw : i ≤ w) : kd (w - 1) ≠ 242 := by
  by_cases e : w = i
  · rw [e]; exact h0
  · exact hq (w - 1) (by omega) (by omega)
theorem fl_ex {G : Nat → HS} {Θ Γs : HS} {σs σK : MS} {DN : Nat → Nat → Nat → Prop} (hE : MEN T N kd vl rv pl G Θ Γs σs σK DN) {lo hi x i j p q jl jh : Nat} (h : EX kd vl rv pl σs Γs lo hi x i j p q) (hj : j ≤ T) (h0 : kd (i - 1) ≠ 242) {s m D : Nat} {ts sl : Nat → Nat} (hC : SC T kd vl (G i) s m D ts sl) (h3 : jl ≤ p) (h4 : q ≤ jh) : FLS Γs (LDW G Θ kd vl) (fun _ => LB s sl) jl jh p q := by
  obtain ⟨hT, hN, hp, hpb, hX, hG⟩ := id hE
  have hqt := EX_quiet h
  have hGa : ∀ t, i ≤ t → t ≤ j → G t = G i := fun t t1 t2 => g_qq hT hG (show j ≤ T by omega) (fun t t1 t2 => qs_qk (hqt t t1 t2)) t1 t2
  refine FLS_ic (EX_ic h (Nat.le_refl _) (Nat.le_refl _) h3 h4) (by have := hE.1.1; omega) (fun w w1 w2 w3 u hu => ?_)
  exact LDW_LB hT hX.2.1 (show SC T kd vl (G w) s m D ts sl by rw [hGa w w1 (by omega)]; exact hC) (by omega) w3 (q_prev h0 (fun t t1 t2 => (hqt t t1 (by omega)).2.2.2.2.2.1) w1) hu
theorem fl_pst {G : Nat → HS} {Θ Γs : HS} {σs σK : MS} {DN : Nat → Nat → Nat → Prop} (hE : MEN T N kd vl rv pl G Θ Γs σs σK DN) {hi x i j p q : Nat} (h : PST kd vl rv pl σs Γs hi x i j p q) (hj : j + 1 ≤ T) (hk0 : kd (i - 1) ≠ 242) (hk59 : kd j = 59) (hij : i < j) {s m D : Nat} {ts sl : Nat → Nat} (hC : SC T kd vl (G i) s m D ts sl) (h9 : (G i 3).1 9 = J (-1)) : FLR T kd vl G Θ Γs 0 i (j + 1) p q s D ts sl := by
  obtain ⟨hT, hN, hp, hpb, hX, hG⟩ := id hE
  obtain ⟨n1, n2, n3, n4⟩ := TKE_N hT
  obtain ⟨z1, z2, -⟩ := PST_quiet h
  by_cases q21 : kd i = 242
  · rcases h with ⟨f, c, k0, -⟩ | ⟨y, e, q', a1, a2, a3, a4, a5, a6, a7, a8, a9, a10, a11, a12⟩ | ⟨y, e, q', k0, -⟩ | ⟨y, e, e2, k, m', r, q', k0, -⟩ | ⟨e, e2, k, m', r, q', k0, -⟩ | ⟨w, o, e, q', k0, -⟩ | ⟨d, o, e, k, q', k0, -⟩ | ⟨w, o, k0, -⟩ | ⟨f, y, c, k, q', k0, -⟩
    · omega
    · have r := EX_rng a12
      obtain ⟨g1, g2, g3⟩ := g_let hT hG (show i + 1 ≤ T by omega) a1 a2 hC
      have hqt := EX_quiet a12
      have hq : ∀ t, i + 1 ≤ t → t < j → qs (kd t) := fun t t1 t2 => by
        by_cases e1 : t = i + 1
        · rw [e1, a2]; unfold qs; omega
        by_cases e2 : t = i + 2
        · rw [e2, a3]; unfold qs; omega
        exact qs_qk (hqt t (by omega) t2)
      have hGt : ∀ t, i + 1 ≤ t → t ≤ j → G t = cI' (G i) 3 9 (J (vl (i + 1))) := fun t t1 t2 => by rw [g_qq hT hG (show j ≤ T by omega) hq t1 t2, g1]
      have hC1 : SC T kd vl (cI' (G i) 3 9 (J (vl (i + 1)))) s m D ts sl := hC
      have hGj := hGt j (by omega) (Nat.le_refl _)
      have hcj := (hG.1 j (by omega)).1
      have hGj1 : G (j + 1) = cI' (seeS (G j) s m (vl (i + 1))) 3 9 (-1) := g_f hT hG (by omega) (by rw [hk59]; unfold qt; omega) (fs_semi2 hT hcj (by omega) hk59 (by rw [hGj]; rfl) (show i + 1 ≤ T by omega) a2 (by rw [hGj]; exact hC1) g2)
      have hCj : SC T kd vl (G (j + 1)) (s + 1) (m + 1) D (extS ts s (i + 1)) (extS sl s m) := by
        rw [hGj1, hGj]
        have z := seeS_SC (Γ := cI' (G i) 3 9 (J (vl (i + 1)))) hT hC1 g2 (show i + 1 ≤ T by omega) a2 g3
        exact z
      have hkk : kd (i + 1 - 1) = 242 := by rw [show i + 1 - 1 = i by omega]; exact a1
      have hLD : LDW G Θ kd vl (i + 1) m := by
        refine ⟨by unfold srt; rw [if_pos hkk], ?_⟩
        unfold nmb; rw [if_pos hkk, g1, show ((cI' (G i) 3 9 (J (vl (i + 1)))) 3).1 8 = (G i 3).1 8 from rfl, hC.2.1, J_toInt (by omega) (by omega)]; rfl
      refine ⟨s + 1, m + 1, extS ts s (i + 1), extS sl s m, hCj, by omega, fun k hk => ?_, fun h => absurd rfl h, by rw [hGj1]; rfl, fun d hd => ?_, fun t => if t ≤ q' then LB s sl else LB (s + 1) (extS sl s m), by dsimp only; rw [if_pos (by omega)], by dsimp only; rw [if_neg (by omega)], ?_⟩
      · unfold extS
        rw [if_neg (by omega), if_neg (by omega)]; exact ⟨rfl, rfl⟩
      · rw [hGj1, show ((cI' (seeS (G j) s m (vl (i + 1))) 3 9 (-1)) 3).2.1 10 = (G j 3).2.1 10 from rfl, hGj]; rfl
      · refine FLS_app (FLS_congr (fl_ex (Θ := Θ) hE a12 (by omega) (by rw [show i + 3 - 1 = i + 2 by omega]; omega) (show SC T kd vl (G (i + 3)) s m D ts sl by rw [hGt _ (by omega) (by omega)]; exact hC1) (Nat.le_refl _) (Nat.le_refl _)) (Nat.le_refl _) (by omega) (fun t t1 t2 => if_pos t2) (Nat.le_refl _) (Nat.le_refl _)) (FLS_one (Or.inr ⟨50, _, a11, by omega, by omega, by omega, fun u hu => ?_, fun h => by omega, fun h => by omega, fun h1 h2 => by omega⟩))
        dsimp only at hu ⊢
        rw [if_neg (by omega)] at hu
        rw [if_pos (Nat.le_refl _)]
        obtain ⟨k, k1, k2⟩ := hu
        unfold extS at k2
        by_cases ek : k = s
        · rw [if_pos ek] at k2
          refine Or.inr ⟨rfl, ?_⟩
          rw [← k2]; exact hLD
        · rw [if_neg ek] at k2
          exact Or.inl ⟨k, by omega, k2⟩
    · omega
    · omega
    · omega
    · unfold eTb at k0; omega
    · unfold gTb at k0; omega
    · unfold dTb at k0; omega
    · omega
  · have hqi : qs (kd i) := by
      rcases z2 with z | z
      · exact z
      · exact absurd z.1 q21
    have hq : ∀ t, i ≤ t → t < j → qs (kd t) := fun t t1 t2 => by
      by_cases e : t = i
      · rw [e]; exact hqi
      · exact z1 t (by omega) t2
    have hGt : ∀ t, i ≤ t → t ≤ j → G t = G i := fun t t1 t2 => g_qq hT hG (show j ≤ T by omega) hq t1 t2
    have hGj : G (j + 1) = G i := by
      rw [g_semi hT hG (by omega) hk59 (by rw [hGt j (by omega) (Nat.le_refl _)]; exact h9), hGt j (by omega) (Nat.le_refl _)]
    refine ⟨s, m, ts, sl, by rw [hGj]; exact hC, Nat.le_refl _, fun k hk => ⟨rfl, rfl⟩, fun _ => rfl, by rw [hGj]; exact h9, fun d hd => by rw [hGj], FL_ic (PST_ic h) (by have := hE.1.1; omega) (fun w w1 w2 w3 u hu => ?_)⟩
    exact LDW_LB hT hX.2.1 (show SC T kd vl (G w) s m D ts sl by rw [hGt w w1 (by omega)]; exact hC) (by omega) w3 (q_prev hk0 (fun t t1 t2 => (hq t t1 (by omega)).2.2.2.2.1) w1) hu
set_option maxHeartbeats 4000000 in
theorem flx {G : Nat → HS} {Θ Γs : HS} {σs σK : MS} {DN : Nat → Nat → Nat → Prop} (hE : MEN T N kd vl rv pl G Θ Γs σs σK DN) : ∀ (n g lo hi x i j p q : Nat), STX kd vl rv pl σs Γs n g lo hi x i j p q → j ≤ T → 1 ≤ i → kd (i - 1) ≠ 242 → ∀ (s m D : Nat) (ts sl : Nat → Nat), SC T kd vl (G i) s m D ts sl → (G i 3).1 9 = J (-1) → 1 ≤ D → n + 3 * D ≤ 93 + bO g → FLR T kd vl G Θ Γs g i j p q s D ts sl := by
  obtain ⟨hT, hN, hp, hpb, hX, hG⟩ := id hE
  obtain ⟨n1, n2, n3, n4⟩ := TKE_N hT
  intro n
  induction n with
  | zero => intro g lo hi x i j p q h; exact absurd h (by simp [STX])
  | succ n ih =>
    intro g lo hi x i j p q h hj hi1 hk0 s m D ts sl hC h9 hD hbo
    have hr := STX_rng h
    unfold STX at h
    obtain ⟨b1, b2, b3, b4, h⟩ := h
    rcases h with ⟨g0, hpq, h18, h⟩ | ⟨g1, f, c, j', a1, a2, a3, a4, a5, a6⟩ | ⟨g2, a0, e, b, k, k2, m3', m2, r, r2, t, a1, a2, a3, a4, a5, a6, ⟨lo', a7, a8⟩, a9, a10⟩ | ⟨g', g3, a1⟩
    · subst g0
      rcases h with ⟨j', a1, a2, a3⟩ | ⟨a1, a2, a3⟩ | ⟨e, b, k, m3', r, q', a1, a2, a3, a4, a5, a6, a7, a8, a9, a10, a11⟩
      · subst a1
        have hij : i < j' := by
          rcases Nat.lt_or_ge i j' with q | q
          · exact q
          · exfalso
            obtain rfl : i = j' := by omega
            rcases a3 with ⟨f, c, k0, -⟩ | ⟨y, e, q', k0, -⟩ | ⟨y, e, q', k0, -⟩ | ⟨y, e, e2, k, m', r, q', k0, -⟩ | ⟨e, e2, k, m', r, q', k0, -⟩ | ⟨w, o, e, q', k0, -⟩ | ⟨dd, o, e, k, q', k0, -⟩ | ⟨w, o, k0, -⟩ | ⟨f, y, c, k, q', k0, -⟩
            · omega
            · omega
            · omega
            · omega
            · omega
            · unfold eTb at k0; omega
            · unfold gTb at k0; omega
            · unfold dTb at k0; omega
            · omega
        exact fl_pst hE a3 hj hk0 a2 hij hC h9
      · have hGi : G (i + 1) = G i := g_q hT hG (by omega) (by rw [a1]; unfold qs; omega)
        obtain ⟨s', m', ts', sl', y1, y2, y3, y4, y5, y6, y7⟩ := ih 2 lo hi x (i + 1) j p q a3 hj (by omega) (by rw [show i + 1 - 1 = i by omega]; omega) s m D ts sl (by rw [hGi]; exact hC) (by rw [hGi]; exact h9) hD (by unfold bO at hbo ⊢; simp at hbo ⊢; omega)
        exact ⟨s', m', ts', sl', y1, y2, y3, fun h => absurd rfl h, y5, fun d hd => by rw [y6 d hd, hGi], y7⟩
      · -- while
        have r11 := STX_rng a11
        have r10 := EX_rng a10
        have hqt := EX_quiet a10
        have hGi : G (i + 1) = G i := g_q hT hG (by omega) (by rw [a1]; unfold qs; omega)
        have hGa : ∀ t, i + 1 ≤ t → t ≤ k → G t = G i := fun t t1 t2 => by rw [g_qq hT hG (show k ≤ T by omega) (fun t t1 t2 => qs_qk (hqt t t1 t2)) t1 t2, hGi]
        have hGk := hGa k (by omega) (Nat.le_refl _)
        obtain ⟨s', m', ts', sl', y1, y2, y3, y4, y5, y6, y7⟩ := ih 3 _ _ _ _ _ _ _ a11 hj (by omega) (hqt (k - 1) (by omega) (by omega)).2.2.2.2.2.1 s m D ts sl (by rw [hGk]; exact hC) (by rw [hGk]; exact h9) hD (by unfold bO at hbo ⊢; simp at hbo ⊢; omega)
        obtain rfl := y4 (by omega)
        have eB : LB s' sl' = LB s' sl := LB_eq (fun k hk => (y3 k hk).2)
        rw [eB] at y7
        obtain ⟨S, w1, w2, w3⟩ := y7
        refine ⟨s', m', ts', sl', y1, Nat.le_refl _, y3, fun _ => rfl, y5, fun d hd => by rw [y6 d hd, hGk], fun t => if r + 4 ≤ t ∧ t ≤ q' then S t else LB s' sl, by dsimp only; rw [if_neg (by omega)], by dsimp only; rw [if_neg (by omega), eB], ?_⟩
        have out : ∀ t, ¬ (r + 4 ≤ t ∧ t ≤ q') ∨ t = r + 4 ∨ t = q' → (if r + 4 ≤ t ∧ t ≤ q' then S t else LB s' sl) = LB s' sl := fun t ht => by
          rcases ht with e | e | e
          · exact if_neg e
          · by_cases e3 : r + 4 ≤ t ∧ t ≤ q'
            · rw [if_pos e3, e, w1]
            · exact if_neg e3
          · by_cases e3 : r + 4 ≤ t ∧ t ≤ q'
            · rw [if_pos e3, e, w2]
            · exact if_neg e3
        refine FLS_app (FLS_congr (fl_ex (Θ := Θ) hE a10 (by omega) (by rw [show i + 1 - 1 = i by omega]; omega) (show SC T kd vl (G (i + 1)) s' m D ts sl by rw [hGi]; exact hC) (Nat.le_refl _) (Nat.le_refl _)) (Nat.le_refl _) (by omega) (fun t t1 t2 => out t (Or.inl (by omega))) (Nat.le_refl _) (Nat.le_refl _)) ?_
        refine FLS_app (FLS_one (q := r + 3) (Or.inr ⟨42, _, a6, by omega, by omega, rfl, fun u hu => Or.inl ?_, fun h => by omega, fun h => by omega, fun h1 h2 => ⟨q, rfl, by omega, Nat.le_refl _, fun u hu => ?_⟩⟩)) (FLS_app (FLS_one (q := r + 4) (Or.inl ⟨3, a7, by omega, by omega, rfl, fun u hu => ?_⟩)) (FLS_app (FLS_congr w3 (by omega) (by omega) (fun t t1 t2 => if_pos ⟨t1, t2⟩) (Nat.le_refl _) (Nat.le_refl _)) (FLS_one (Or.inr ⟨41, _, a8, by omega, by omega, a2, fun u hu => Or.inl ?_, fun h => by omega, fun h => by omega, fun h1 h2 => ⟨p, rfl, Nat.le_refl _, by omega, fun u hu => ?_⟩⟩))))
        · dsimp only at hu ⊢
          rw [out _ (Or.inl (by omega))] at hu ⊢; exact hu
        · dsimp only at hu ⊢
          rw [out _ (Or.inl (by omega))] at hu ⊢; exact hu
        · dsimp only at hu ⊢
          rw [out _ (Or.inr (Or.inl rfl))] at hu
          rw [out _ (Or.inl (by omega))]; exact hu
        · dsimp only at hu ⊢
          rw [out _ (Or.inl (by omega))] at hu
          rw [out _ (Or.inr (Or.inr rfl))]; exact hu
        · dsimp only at hu ⊢
          rw [out _ (Or.inl (by omega))] at hu
          rw [out _ (Or.inr (Or.inr rfl))]; exact hu
    · -- a block
      subst g1
      have hD30 : D ≤ 30 := by unfold bO at hbo; simp at hbo; omega
      obtain ⟨xs, ls, is, js, ps, c1, c2, c3, c4, c5, c6, c7, c8, c9, c10, c11⟩ := a6
      have hrng := LST_rng c4 c9 c10
      have c9' : ∀ k, k < c → is k < js k ∧ is (k + 1) = js k := fun k hk => ⟨(c9 k hk).1, by rw [(c9 k hk).2]; split <;> omega⟩
      have his : ∀ k, k < c → js k ≤ is c := fun k hk => by
        have := hrng (c - (k + 1)) (k + 1) (by omega)
        rw [show k + 1 + (c - (k + 1)) = c by omega] at this
        have := c9' k hk; omega
      have hi0 : ∀ k, k ≤ c → i + 1 ≤ is k := fun k hk => by
        have := hrng (k - 0) 0 (by omega)
        rw [show 0 + (k - 0) = k by omega] at this; omega
      have hG1 : G (i + 1) = opM (G i) s D := g_f hT hG (by omega) (by rw [a1]; unfold qt; omega) (fs_open hT (hG.1 i (by omega)).1 (by omega) a1 hC hD30)
      have hC1 : SC T kd vl (G (is 0)) s m (D + 1) ts sl := by rw [c5, hG1]; exact opM_SC hC hD30
      have hk0' : ∀ k, k < c → kd (is k - 1) ≠ 242 := fun k hk => by
        by_cases q : k = 0
        · rw [q, c5, show i + 1 - 1 = i by omega, a1]; omega
        · have b9 := (c9' (k - 1) (by omega)).2
          rw [show k - 1 + 1 = k by omega] at b9
          rw [b9]
          have := STX_last _ _ _ _ _ _ _ _ _ (c4 (k - 1) (by omega)).2.2
          omega
      have key : ∀ k, k ≤ c → FLR T kd vl G Θ Γs 0 (is 0) (is k) (ps 0) (ps k) s (D + 1) ts sl := by
        intro k
        induction k with
        | zero => intro _; exact ⟨s, m, ts, sl, hC1, Nat.le_refl _, fun k hk => ⟨rfl, rfl⟩, fun _ => rfl, by rw [c5, hG1]; exact h9, fun d hd => rfl, FL_nil⟩
        | succ k ihk =>
          intro hk
          obtain ⟨s1, m1, ts1, sl1, y1, y2, y3, y4, y5, y6, y7⟩ := ihk (by omega)
          have hh := his k (by omega)
          obtain ⟨s2, m2, ts2, sl2, z1, z2, z3, z4, z5, z6, z7⟩ := ih 0 _ _ _ _ _ _ _ (c4 k (by omega)).2.2 (by omega) (by have := hi0 k (by omega); omega) (hk0' k (by omega)) s1 m1 (D + 1) ts1 sl1 y1 y5 (by omega) (by unfold bO at hbo ⊢; simp at hbo ⊢; omega)
          rw [(c9' k (by omega)).2]
          refine ⟨s2, m2, ts2, sl2, z1, by omega, fun t ht => ?_, fun h => absurd rfl h, z5, fun d hd => by rw [z6 d hd, y6 d hd], FL_app y7 z7⟩
          rw [(z3 t (by omega)).1, (z3 t (by omega)).2]; exact y3 t ht
      obtain ⟨s', m', ts', sl', y1, y2, y3, y4, y5, y6, y7⟩ := key c (Nat.le_refl _)
      rw [c6] at y1 y5 y6
      rw [c5] at y6
      obtain ⟨Δ, f1, f2, f3, f4, f5, f6⟩ := fs_shut hT (D := D) (L := s) (hG.1 j' (by omega)).1 (show j' < N by omega) a2 y1 y2 ⟨fun h => absurd h (by omega), fun _ => by rw [y6 D (by omega), hG1]; show upd _ _ _ _ = _; rw [upd_s, if_pos rfl]⟩
      rw [if_neg (by omega)] at f3 f5
      have hGj : G j = Δ := by rw [a3]; exact g_f hT hG (by omega) (by rw [a2]; unfold qt; omega) f1
      have eB : LB s sl' = LB s sl := LB_eq (fun k hk => (y3 k hk).2)
      rw [c7, c8] at y7
      refine ⟨s, m', ts', sl', by rw [hGj]; exact f3, Nat.le_refl _, y3, fun _ => rfl, by rw [hGj, f4]; exact y5, fun d' hd' => ?_, ?_⟩
      · rw [hGj, f6, y6 d' (by omega), hG1]
        show upd _ _ _ _ = _
        rw [upd_s, if_neg (by omega)]
      · by_cases hpq : p < q
        · exact FL_end y7 hpq (LB_sub y2 (fun k _ => rfl))
        · have e1 : p = q := by omega
          rw [← e1, eB]; exact FL_nil
    · -- behind an if
      subst g2
      have r8 := EX_rng a8
      have r9 := STX_rng a9
      have hqt := EX_quiet a8
      have hk2 : k2 ≤ j := by
        rcases a10 with ⟨c1, c2, c3, c4, c5⟩ | ⟨c1, c2, c3, y, c4, ⟨c5, c6, c7⟩ | ⟨c5, c6⟩⟩
        · omega
        · have := STX_rng c7; omega
        · have := STX_rng c6; omega
      have hGa : ∀ t, i ≤ t → t ≤ k → G t = G i := fun t t1 t2 => g_qq hT hG (show k ≤ T by omega) (fun t t1 t2 => qs_qk (hqt t t1 t2)) t1 t2
      have hGk := hGa k (by omega) (Nat.le_refl _)
      obtain ⟨s', m', ts', sl', y1, y2, y3, y4, y5, y6, y7⟩ := ih 1 _ _ _ _ _ _ _ a9 (by omega) (by omega) (hqt (k - 1) (by omega) (by omega)).2.2.2.2.2.1 s m D ts sl (by rw [hGk]; exact hC) (by rw [hGk]; exact h9) hD (by unfold bO at hbo ⊢; simp at hbo ⊢; omega)
      obtain rfl := y4 (by omega)
      have eB : LB s' sl' = LB s' sl := LB_eq (fun k hk => (y3 k hk).2)
      rw [eB] at y7
      obtain ⟨S, w1, w2, w3⟩ := y7
      have r3 := FLS_rng w3
      have pre : ∀ (S' : Nat → Nat → Prop) (jh : Nat), r2 ≤ jh → (t ≤ r + 2 ∨ t > jh → False) → (∀ x, x ≤ r + 3 → S' x = LB s' sl) → S' t = LB s' sl → (∀ x, r + 3 ≤ x → x ≤ r2 → S' x = S x) → FLS Γs (LDW G Θ kd vl) S' p jh p r2 := by
        intro S' jh hjh ht hS1 hS2 hS3
        refine FLS_app (FLS_congr (fl_ex (Θ := Θ) hE a8 (by omega) hk0 hC (Nat.le_refl _) (Nat.le_refl _)) (Nat.le_refl _) (by omega) (fun t t1 t2 => hS1 t (by omega)) (Nat.le_refl _) (Nat.le_refl _)) (FLS_app (FLS_one (q := r + 3) (Or.inr ⟨42, _, a3, by omega, by omega, rfl, fun u hu => Or.inl ?_, fun h => by omega, fun h => by omega, fun h1 h2 => ⟨t, rfl, ?_, ?_, fun u hu => ?_⟩⟩)) (FLS_congr w3 (by omega) hjh (fun t t1 t2 => hS3 t t1 t2) (Nat.le_refl _) (Nat.le_refl _)))
        · rw [hS1 _ (Nat.le_refl _)] at hu
          rw [hS1 _ (by omega)]; exact hu
        · rcases Nat.lt_or_ge t p with q | q
          · exact (ht (Or.inl (by omega))).elim
          · exact q
        · rcases Nat.lt_or_ge jh t with q | q
          · exact (ht (Or.inr q)).elim
          · exact q
        · rw [hS2] at hu
          rw [hS1 _ (by omega)]; exact hu
      rcases a10 with ⟨c1, c2, c3, c4, c5⟩ | ⟨c1, c2, c3, y, c4, c5⟩
      · subst c2
        refine ⟨s', m', ts', sl', y1, Nat.le_refl _, y3, fun _ => rfl, y5, fun d hd => by rw [y6 d hd, hGk], fun t => if r + 3 ≤ t ∧ t ≤ r2 then S t else LB s' sl, by dsimp only; rw [if_neg (by omega)], ?_, ?_⟩
        · dsimp only
          rw [c3, if_pos (by omega), w2, eB]
        · rw [c3]
          refine pre _ r2 (Nat.le_refl _) (fun h => by omega) (fun x hx => ?_) ?_ (fun x h1 h2 => if_pos ⟨h1, h2⟩)
          · try dsimp only
            by_cases e : r + 3 ≤ x ∧ x ≤ r2
            · rw [if_pos e, show x = r + 3 by omega, w1]
            · exact if_neg e
          · try dsimp only
            rw [c4, if_pos (by omega), w2]
      · have hGk2 : G (k2 + 1) = G k2 := by
          have : k2 < j := by
            rcases c5 with ⟨c5, c6, c7⟩ | ⟨c5, c6⟩
            · have := STX_rng c7; omega
            · have := STX_rng c6; omega
          exact g_q hT hG (by omega) (by rw [c1]; unfold qs; omega)
        have fin : ∀ (g i3 : Nat), (g = 4 ∧ i3 = k2 + 2) ∨ (g = 1 ∧ i3 = k2 + 1) → STX kd vl rv pl σs Γs n g m2 hi y i3 j (r2 + 3) q → kd (i3 - 1) ≠ 242 → G i3 = G k2 → FLR T kd vl G Θ Γs 2 i j p q s' D ts sl := by
          intro g i3 hg hx hk3 hG3
          have rx := STX_rng hx
          obtain ⟨s4, m4, ts4, sl4, z1, z2, z3, z4, z5, z6, z7⟩ := ih g _ _ _ _ _ _ _ hx hj (by omega) hk3 s' m' D ts' sl' (by rw [hG3]; exact y1) (by rw [hG3]; exact y5) hD (by rcases hg with ⟨hg, -⟩ | ⟨hg, -⟩ <;> subst hg <;> (unfold bO at hbo ⊢; simp at hbo ⊢; omega))
          obtain rfl := z4 (by omega)
          have eB2 : LB s4 sl4 = LB s4 sl' := LB_eq (fun k hk => (z3 k hk).2)
          rw [eB2, eB] at z7
          obtain ⟨S2, v1, v2, v3⟩ := z7
          have r4 := FLS_rng v3
          refine ⟨s4, m4, ts4, sl4, z1, Nat.le_refl _, fun k hk => ⟨by rw [(z3 k hk).1, (y3 k hk).1], by rw [(z3 k hk).2, (y3 k hk).2]⟩, fun _ => rfl, z5, fun d hd => by rw [z6 d hd, hG3, y6 d hd, hGk], fun t => if r + 3 ≤ t ∧ t ≤ r2 then S t else if r2 + 3 ≤ t then S2 t else LB s4 sl, by dsimp only; rw [if_neg (by omega), if_neg (by omega)], by dsimp only; rw [if_neg (by omega), if_pos (by omega), v2, eB2, eB], ?_⟩
          refine FLS_app (pre _ q (by omega) (fun h => by omega) (fun x hx => ?_) ?_ (fun x h1 h2 => if_pos ⟨h1, h2⟩)) (FLS_app (FLS_one (q := r2 + 3) (Or.inr ⟨41, _, c3, by omega, by omega, rfl, fun u hu => Or.inl ?_, fun h => by omega, fun h => by omega, fun h1 h2 => ⟨q, rfl, by omega, Nat.le_refl _, fun u hu => ?_⟩⟩)) (FLS_congr v3 (by omega) (Nat.le_refl _) (fun t t1 t2 => by first | rw [if_neg (by omega), if_pos t1] | (dsimp only; rw [if_neg (by omega), if_pos t1])) (Nat.le_refl _) (Nat.le_refl _)))
          · try dsimp only
            by_cases e : r + 3 ≤ x ∧ x ≤ r2
            · rw [if_pos e, show x = r + 3 by omega, w1]
            · rw [if_neg e, if_neg (by omega)]
          · try dsimp only
            rw [c2, if_neg (by omega), if_pos (Nat.le_refl _), v1]
          · dsimp only at hu ⊢
            rw [if_neg (by omega), if_pos (Nat.le_refl _), v1] at hu
            rw [if_pos (by omega), w2]; exact hu
          · dsimp only at hu ⊢
            rw [if_neg (by omega), if_pos (by omega), v2] at hu
            rw [if_pos (by omega), w2]; exact hu
        rcases c5 with ⟨c5, c6, c7⟩ | ⟨c5, c6⟩
        · have r7 := STX_rng c7
          exact fin 4 (k2 + 2) (Or.inl ⟨rfl, rfl⟩) c7 (by rw [show k2 + 2 - 1 = k2 + 1 by omega]; omega) (by rw [g_q hT hG (t := k2 + 1) (by omega) (by rw [c5]; unfold qs; omega), hGk2])
        · exact fin 1 (k2 + 1) (Or.inr ⟨rfl, rfl⟩) c6 (by rw [show k2 + 1 - 1 = k2 by omega]; omega) hGk2
    · obtain ⟨s', m', ts', sl', y1, y2, y3, y4, y5, y6, y7⟩ := ih g' lo hi x i j p q a1 hj hi1 hk0 s m D ts sl hC h9 hD (by
        rcases g3 with ⟨b1, b2⟩ | ⟨b1, b2⟩ | ⟨b1, b2⟩ <;> subst b1 <;> subst b2 <;> (unfold bO at hbo ⊢; simp at hbo ⊢; omega))
      exact ⟨s', m', ts', sl', y1, y2, y3, fun _ => y4 (by omega), y5, y6, y7⟩
