/-! what statements and blocks mean, whole -/
variable {T N : Nat} {kd vl rv : Nat → Int} {pl : Nat → Nat}
theorem gM_m (d : Nat) (x : Nat) (τ : MS) : gM (d + 1) 0 (J (x : Nat)) 0 0 τ = F_X12_mean (gM d) (J (x : Nat)) τ := q_gM_0 d _ τ
theorem gM_b (d : Nat) (x : Nat) (τ : MS) : gM (d + 1) 1 (J (x : Nat)) 0 0 τ = F_X12_meanBlock (gM d) (J (x : Nat)) τ := q_gM_1 d _ τ
set_option maxHeartbeats 4000000 in
theorem mst {G : Nat → HS} {Θ Γs : HS} {σs σK : MS} {DN : Nat → Nat → Nat → Prop} (hE : MEN T N kd vl rv pl G Θ Γs σs σK DN) {TX : Nat → Int → Int → Prop} {Dq : Prop} (hTX : ∀ t, t ≤ T → kd t = 4 → TX (pl t) (rv t) (vl t)) : ∀ (n g lo hi x i j p q : Nat), STX kd vl rv pl σs Γs n g lo hi x i j p q → hi ≤ 39000 → j ≤ T → 1 ≤ i → kd (i - 1) ≠ 242 → ∀ (d s m D : Nat) (ts sl : Nat → Nat) (τ : MS), MID T kd vl rv G σs σK Dq i s m D ts sl τ → 1 ≤ D → n + 3 * D ≤ 93 + bO g → 2 * n + 3 ≤ 3 * d + fO g → Ok (gM d (cM g) (J (x : Nat)) 0 0 τ) (mSt T kd vl rv pl (badB G Θ Γs kd vl) σs G (fun R => STQ (op1 Γs) (lk3 G Θ Γs kd vl) R DN TX Dq n g lo hi x p q) lo hi i j s D ts sl τ) := by
  obtain ⟨hT, hN, hp, hpb, hX, hG⟩ := id hE
  obtain ⟨n1, n2, n3, n4⟩ := TKE_N hT
  intro n
  induction n with
  | zero => intro g lo hi x i j p q h; exact absurd h (by simp [STX])
  | succ n ih =>
    intro g lo hi x i j p q h hhi hj hi1 hk0 d s m D ts sl τ hM hD hbo hd
    have hr := STX_rng h
    have h0 := h
    unfold STX at h
    obtain ⟨b1, b2, b3, b4, h⟩ := h
    obtain ⟨en, en2⟩ := en_of (show x < 39990 by omega)
    obtain ⟨hC, h9, hS, hDq, h43⟩ := id hM
    have e17 := st_k hS (show (17 : Nat) = 17 ∨ 17 = 18 ∨ 17 = 19 ∨ 17 = 22 by omega) x
    rcases h with ⟨g0, hpq, h18, h⟩ | ⟨g1, f, c, j', a1, a2, a3, a4, a5, a6⟩ | ⟨g2, a0, e, b, k, k2, m3', m2, r, r2, t, a1, a2, a3, a4, a5, a6, ⟨lo', a7, a8⟩, a9, a10⟩ | ⟨g', g3, a1⟩
    · subst g0
      rcases h with ⟨j', a1, a2, a3⟩ | ⟨a1, a2, a3⟩ | ⟨e, b, k, m3', r, q', a1, a2, a3, a4, a5, a6, a7, a8, a9, a10, a11⟩
      · -- without blocks
        obtain ⟨d, rfl⟩ : ∃ z, d = z + 1 := ⟨d - 1, by unfold fO at hd; simp at hd; omega⟩
        show Ok (gM (d + 1) 0 (J (x : Nat)) 0 0 τ) _
        rw [gM_m]
        subst a1
        have hij : i < j' := by
          rcases Nat.lt_or_ge i j' with q | q
          · exact q
          · exfalso
            obtain rfl : i = j' := by omega
            rcases a3 with ⟨f, c, k0, -⟩ | ⟨y, e, q', k0, -⟩ | ⟨y, e, q', k0, -⟩ | ⟨y, e, e2, k, m', r, q', k0, -⟩ | ⟨e, e2, k, m', r, q', k0, -⟩ | ⟨w, o, e, q', k0, -⟩ | ⟨dd, o, e, k, q', k0, -⟩ | ⟨w, o, k0, -⟩ | ⟨f, y, c, k, q', k0, -⟩
            · omega
            · omega
            · omega
            · omega
            · omega
            · unfold eTb at k0; omega
            · unfold gTb at k0; omega
            · unfold dTb at k0; omega
            · omega
        refine Ok_mono (PST_mean hE hTX a3 b2 hij hhi hj hk0 a2 hC h9 hS h18 hDq h43) (fun u hu => ?_)
        obtain ⟨u1, u2, u3, u4, u5, u6, u7, u8⟩ := hu
        refine ⟨rB_wide u1 b1 (Nat.le_refl _), u2, u3, u4, u5, u6, u7, fun hn => ?_⟩
        unfold STQ
        exact ⟨b1, b2, b4, Or.inl ⟨rfl, hpq, Or.inl (u8 hn)⟩⟩
      · -- if
        have hGi : G (i + 1) = G i := g_q hT hG (by omega) (by rw [a1]; unfold qs; omega)
        refine Ok_mono (ih 2 lo hi x (i + 1) j p q a3 hhi hj (by omega) (by rw [show i + 1 - 1 = i by omega]; omega) d s m D ts sl τ (by unfold MID; rw [hGi]; exact hM) hD (by unfold bO at hbo ⊢; simp at hbo ⊢; omega) (by unfold fO at hd ⊢; simp at hd ⊢; omega)) (fun u hu => ?_)
        refine mSt_pre hp hu (fun t t1 t2 => by
          by_cases q : t = i
          · rw [q]
          · rw [show t = i + 1 by omega, hGi]) (by omega) (by omega) (by omega) (fun t t1 t2 => badB_eq (show t = i by omega) a1 (by omega)) (fun z => ?_)
        unfold STQ
        refine ⟨b1, b2, b4, Or.inl ⟨rfl, hpq, Or.inr (Or.inl ⟨?_, z⟩)⟩⟩
        rw [ag_k hu.2.1 (by omega)]; exact a2
      · -- while
        obtain ⟨d, rfl⟩ : ∃ z, d = z + 1 := ⟨d - 1, by unfold fO at hd; simp at hd; omega⟩
        have r11 := STX_rng a11
        have r10 := EX_rng a10
        have hk123 := STX_first _ _ _ _ _ _ _ _ _ a11 (Or.inr rfl)
        have hqt := EX_quiet a10
        have hGi : G (i + 1) = G i := g_q hT hG (by omega) (by rw [a1]; unfold qs; omega)
        have hGa : ∀ t, i + 1 ≤ t → t ≤ k → G t = G (i + 1) := fun t t1 t2 => g_qq hT hG (show k ≤ T by omega) (fun t t1 t2 => qs_qk (hqt t t1 t2)) t1 t2
        have hM1 : MID T kd vl rv G σs σK Dq (i + 1) s m D ts sl τ := by unfold MID; rw [hGi]; exact hM
        show Ok (gM (d + 1) 0 (J (x : Nat)) 0 0 τ) _
        rw [gM_m, mean_k (gM d) (show x < 39990 by omega) (e17.trans a3) (by omega), if_neg (by omega), if_neg (by omega), if_neg (by omega), if_neg (by omega), if_neg (by omega), if_neg (by omega), if_neg (by omega), if_pos rfl]
        unfold MN28
        rw [if_neg en, en2, st_k hS (by omega), a4]
        rw [en2] at en
        refine Ok_bind (Ok_mono (m_EX hE a10 (by omega) (by omega) (by omega) (by rw [show i + 1 - 1 = i by omega]; omega) (by omega) hM1.1 hS) (fun u hu => Ok_neg en ?_))
        have hu1 := mSt_ex hM1 hu (by omega) hGa
        obtain ⟨s', m', ts', sl', hM2, y3, y4⟩ := MID_mSt hM1 hu1
        rw [ag_20 hu.2.1 a3 (by omega), a5]
        refine Ok_bind (Ok_mono (ih 3 _ _ _ _ _ _ _ a11 (by omega) hj (by omega) (hqt (k - 1) (by omega) (by omega)).2.2.2.2.2.1 d s' m' D ts' sl' u.2 hM2 hD (by unfold bO at hbo ⊢; simp at hbo ⊢; omega) (by unfold fO at hd ⊢; simp at hd ⊢; omega)) (fun v hv => Ok_some ?_))
        have hv' : mSt T kd vl rv pl (badB G Θ Γs kd vl) σs G (fun R => STQ (op1 Γs) (lk3 G Θ Γs kd vl) R DN TX Dq n 3 m3' hi b (r + 4) q') m3' hi k j s' D ts' sl' u.2 ((0 : Int32), v.2) := hv
        refine mSt_pre hp (mSt_seq (Q3 := fun R => EQx (op1 Γs) (lk3 G Θ Γs kd vl) R DN (x + 1) m3' e p r ∧ STQ (op1 Γs) (lk3 G Θ Γs kd vl) R DN TX Dq n 3 m3' hi b (r + 4) q') (lo := lo) (hi := hi) hp hpb hu1 hv' y3 y4 (by omega) (by omega) (by omega) (Nat.le_refl _) (by omega) (by omega) (by omega) (fun z1 z2 => ⟨EQx_R z1 (fun kk y y0 y1 y2 => hv.1.2.2 kk y (by omega) (by omega) (by omega)), z2⟩)) (fun t t1 t2 => by
          by_cases q : t = i
          · rw [q]
          · rw [show t = i + 1 by omega, hGi]) (by omega) (by omega) (by omega) (fun t t1 t2 => badB_eq (show t = i by omega) a1 (by omega)) (fun z => ?_)
        unfold STQ
        refine ⟨b1, b2, b4, Or.inl ⟨rfl, hpq, Or.inr (Or.inr ⟨e, b, m3', r, q', a2, ?_, ?_, ?_, lk3_op a6 (by unfold isNO; omega), a7, lk3_op a8 (by unfold isNO; omega), a9, z.1, z.2⟩)⟩⟩
        · show v.2.2 17 x = _; rw [ag_k hv.2.1 (by omega)]; exact a3
        · show v.2.2 19 x = _; rw [ag_k hv.2.1 (by omega)]; exact a4
        · show v.2.2 20 x = _; rw [ag_20 hv.2.1 a3 (by omega)]; exact a5
    · -- a block
      subst g1
      obtain ⟨d, rfl⟩ : ∃ z, d = z + 1 := ⟨d - 1, by unfold fO at hd; simp at hd; omega⟩
      have hD30 : D ≤ 30 := by unfold bO at hbo; simp at hbo; omega
      show Ok (gM (d + 1) 1 (J (x : Nat)) 0 0 τ) _
      rw [gM_b, meanBlock_eq, if_neg en, bndE, en2, st_k hS (by omega), a5]
      obtain ⟨xs, ls, is, js, ps, c1, c2, c3, c4, c5, c6, c7, c8, c9, c10, c11⟩ := a6
      have hrng := LST_rng c4 c9 c10
      have c9' : ∀ k, k < c → is k < js k ∧ is (k + 1) = js k := fun k hk => ⟨(c9 k hk).1, by rw [(c9 k hk).2]; split <;> omega⟩
      have hls : ∀ k, k ≤ c → ls k ≤ 39000 := fun k hk => by
        have := hrng (c - k) k (by omega)
        rw [show k + (c - k) = c by omega] at this; omega
      have r0c := hrng c 0 (by omega)
      rw [Nat.zero_add] at r0c
      have his : ∀ k, k < c → js k ≤ is c := fun k hk => by
        have := hrng (c - (k + 1)) (k + 1) (by omega)
        rw [show k + 1 + (c - (k + 1)) = c by omega] at this
        have := c9' k hk; omega
      have hi0 : ∀ k, k ≤ c → i + 1 ≤ is k := fun k hk => by
        have := hrng (k - 0) 0 (by omega)
        rw [show 0 + (k - 0) = k by omega] at this; omega
      have hcc : ∀ k, k ≤ c → k ≤ is k := by
        intro k
        induction k with
        | zero => intro _; omega
        | succ k ihk => intro hk; have := ihk (by omega); have := c9' k (by omega); omega
      have hcc' := hcc c (Nat.le_refl c)
      have ef : (if 0 < c then (xs 0 : Int) else -1) = f := by
        rw [c1.1]
        by_cases q : c = 0
        · rw [if_pos q, if_neg (by omega)]
        · rw [if_neg q, if_pos (by omega)]
      -- the row opens
      have hG1 : G (i + 1) = opM (G i) s D := g_f hT hG (by omega) (by rw [a1]; unfold qt; omega) (fs_open hT (hG.1 i (by omega)).1 (by omega) a1 hC hD30)
      have hM1 : MID T kd vl rv G σs σK Dq (is 0) s m (D + 1) ts sl τ := by
        rw [c5]
        unfold MID
        rw [hG1]
        exact ⟨opM_SC hC hD30, h9, hS, hDq, h43⟩
      have hk0' : ∀ k, k < c → kd (is k - 1) ≠ 242 := fun k hk => by
        by_cases q : k = 0
        · rw [q, c5, show i + 1 - 1 = i by omega, a1]; omega
        · have b9 := (c9' (k - 1) (by omega)).2
          rw [show k - 1 + 1 = k by omega] at b9
          rw [b9]
          have := STX_last _ _ _ _ _ _ _ _ _ (c4 (k - 1) (by omega)).2.2
          omega
      have key := mb_list (T := T) (kd := kd) (vl := vl) (rv := rv) (pl := pl) (bad := badB G Θ Γs kd vl) (G := G) (σs := σs) (σK := σK) (τ0 := τ) (Dq := Dq) (d := d) (D := D + 1) (c := c) (xs := xs) (ls := ls) (is := is) (js := js) (Q := fun k R => STQ (op1 Γs) (lk3 G Θ Γs kd vl) R DN TX Dq n 0 (ls k) (ls (k + 1)) (xs k) (ps k) (ps (k + 1))) hp hpb c1.2 (fun k hk => by have := (c4 k hk).2.1; have := hls (k + 1) (by omega); omega) (fun k hk => by have := c4 k hk; omega) c9' (by omega) (fun k R S hk hQ hRS => STQ_R _ _ _ _ _ _ _ hQ hRS) (fun k s m ts sl υ hk hMk => ih 0 _ _ _ _ _ _ _ (c4 k hk).2.2 (hls (k + 1) (by omega)) (by have := his k hk; omega) (by have := hi0 k (by omega); omega) (hk0' k hk) d s m (D + 1) ts sl υ hMk (by omega) (by unfold bO at hbo ⊢; simp at hbo ⊢; omega) (by unfold fO at hd ⊢; simp at hd ⊢; omega)) c 0 FU s m ts sl τ (by omega) (FU_gt (by omega)) hM1
      rw [ef] at key
      refine Ok_mono key (fun u hu => ?_)
      obtain ⟨υ, u0, u1, u2, u3, ⟨s', m', ts', sl', y1, y2, y3, y4⟩, u5, u6, u7, u8⟩ := hu
      rw [c5, c6] at u3 u8
      rw [c6] at y1 u5 u6 u7
      rw [c5] at u6 u7
      -- and shuts
      obtain ⟨Δ, f1, f2, f3, f4, f5, f6⟩ := fs_shut hT (D := D) (L := s) (hG.1 j' (by omega)).1 (show j' < N by omega) a2 y1 y3 ⟨fun h => absurd h (by omega), fun _ => by rw [u7.1 D (by omega), hG1]; show upd _ _ _ _ = _; rw [upd_s, if_pos rfl]⟩
      rw [if_neg (by omega)] at f3 f5
      have hGj : G j = Δ := by rw [a3]; exact g_f hT hG (by omega) (by rw [a2]; unfold qt; omega) f1
      have hu : u.2.2 = υ.2 := by rw [u0]; rfl
      refine ⟨?_, ?_, ?_, ⟨s, m', ts', sl', by rw [hGj]; exact f3, ?_, Nat.le_refl _, y4⟩, by rw [hGj, f4]; exact u5, by rw [hGj, f5, u6, hG1]; rfl, ⟨fun d' hd' => ?_, fun t t1 t2 => ?_⟩, fun hn => ?_⟩
      · rw [u0]
        exact rB_trans (rB_wide u1 c2 (by omega)) (rB_mI (by omega))
      · rw [u0]; exact u2
      · rw [u0, flt_mI (by omega) (by omega)]
        exact NT_wide hp u3 (by omega) (by omega) (by omega) (fun w w1 w2 => badB_eq (show w = i by omega) a1 (by omega)) (fun w w1 w2 => badB_eq (show w = j' by omega) a2 (by omega))
      · obtain ⟨w1, w2, w3, w4, w5⟩ := y2
        have hwτ := hS.2.2.1
        rw [u0]
        refine ⟨by rw [mI_1, if_pos rfl]; exact hwτ, by rw [mI_1, if_neg (by omega)]; exact w2, by omega, w4, fun k hk => w5 k (by omega)⟩
      · rw [hGj, f6, u7.1 d' (by omega), hG1]
        show upd _ _ _ _ = _
        rw [upd_s, if_neg (by omega)]
      · by_cases q1 : t = i
        · rw [q1]; exact ⟨DPT_SC hC, rfl⟩
        by_cases q2 : t ≤ j'
        · obtain ⟨⟨e, e1, e2⟩, z2⟩ := u7.2 t (by omega) q2
          exact ⟨⟨e, by omega, e2⟩, by rw [z2, hG1]; rfl⟩
        · rw [show t = j by omega]
          exact ⟨by rw [hGj]; exact DPT_SC f3, by rw [hGj, f5, u6, hG1]; rfl⟩
      · show STQ _ _ _ _ _ _ _ _ _ _ _ _ _
        unfold STQ
        rw [hu]
        have z := u8 (fun w w1 w2 => hn w (by omega) (by omega))
        refine ⟨b1, b2, b4, Or.inr (Or.inl ⟨rfl, f, c, ?_, ?_, by omega, xs, ls, ps, c1.1, fun k hk => ?_, c2, c3, fun k hk => ⟨(c4 k hk).1, (c4 k hk).2.1, c10 k hk, z k (Nat.zero_le _) hk⟩, c7, c8⟩)⟩
        · rw [ag_k u2 (by omega)]; exact a4
        · rw [ag_k u2 (by omega)]; exact a5
        · rw [ag_k u2 (by omega)]; exact c1.2 k hk
    · -- behind an if
      subst g2
      obtain ⟨d, rfl⟩ : ∃ z, d = z + 1 := ⟨d - 1, by unfold fO at hd; simp at hd; omega⟩
      have r8 := EX_rng a8
      have r9 := STX_rng a9
      have hk123 := STX_first _ _ _ _ _ _ _ _ _ a9 (Or.inl rfl)
      have hqt := EX_quiet a8
      have hk2 : k2 ≤ j := by
        rcases a10 with ⟨c1, c2, c3, c4, c5⟩ | ⟨c1, c2, c3, y, c4, ⟨c5, c6, c7⟩ | ⟨c5, c6⟩⟩
        · omega
        · have := STX_rng c7; omega
        · have := STX_rng c6; omega
      have hGa : ∀ t, i ≤ t → t ≤ k → G t = G i := fun t t1 t2 => g_qq hT hG (show k ≤ T by omega) (fun t t1 t2 => qs_qk (hqt t t1 t2)) t1 t2
      show Ok (gM (d + 1) 0 (J (x : Nat)) 0 0 τ) _
      rw [gM_m, mean_k (gM d) (show x < 39990 by omega) (e17.trans a0) (by omega), if_neg (by omega), if_neg (by omega), if_neg (by omega), if_neg (by omega), if_neg (by omega), if_neg (by omega), if_pos rfl]
      unfold MN27
      rw [if_neg en, en2, st_k hS (by omega), a1]
      rw [en2] at en
      refine Ok_bind (Ok_mono (m_EX hE a8 (by omega) (by omega) hi1 hk0 (by omega) hC hS) (fun u hu => Ok_neg en ?_))
      have hu1 := mSt_ex hM hu (by omega) hGa
      obtain ⟨s', m', ts', sl', hM2, y3, y4⟩ := MID_mSt hM hu1
      rw [ag_20 hu.2.1 a0 (by omega), a2]
      refine Ok_bind (Ok_mono (ih 1 _ _ _ _ _ _ _ a9 (by omega) (by omega) (by omega) (hqt (k - 1) (by omega) (by omega)).2.2.2.2.2.1 d s' m' D ts' sl' u.2 hM2 hD (by unfold bO at hbo ⊢; simp at hbo ⊢; omega) (by unfold fO at hd ⊢; simp at hd ⊢; omega)) (fun v hv => Ok_neg en ?_))
      obtain ⟨s'', m'', ts'', sl'', hM3, z3, z4⟩ := MID_mSt hM2 hv
      have hv2 := mSt_seq (Q3 := fun R => EQx (op1 Γs) (lk3 G Θ Γs kd vl) R DN lo' m3' e p r ∧ STQ (op1 Γs) (lk3 G Θ Γs kd vl) R DN TX Dq n 1 m3' m2 b (r + 3) r2) (lo := x) (hi := m2) hp hpb hu1 hv y3 y4 (by omega) (by omega) (by omega) (Nat.le_refl _) (by omega) (by omega) (by omega) (fun z1 z2 => ⟨EQx_R z1 (fun kk y y0 y1 y2 => hv.1.2.2 kk y (by omega) (by omega) (by omega)), z2⟩)
      rw [bndE, ag_21 hv.2.1 a0 (by omega)]
      rcases a10 with ⟨c1, c2, c3, c4, c5⟩ | ⟨c1, c2, c3, y, c4, c5⟩
      · rw [c5, if_pos (by decide)]
        dsimp only
        rw [if_neg en, ag_21 hv.2.1 a0 (by omega), c5, if_pos (by decide)]
        subst c2
        refine Ok_some ?_
        obtain ⟨u1, u2, u3, u4, u5, u6, u7, u8⟩ := hv2
        refine ⟨rB_wide u1 b1 a6, u2, u3, u4, u5, u6, u7, fun hn => ?_⟩
        show STQ _ _ _ _ _ _ _ _ _ _ _ _ _
        unfold STQ
        obtain ⟨w1, w2⟩ := u8 hn
        refine ⟨b1, b2, b4, Or.inr (Or.inr (Or.inl ⟨rfl, ?_, e, b, m3', m2, r, r2, t, ?_, ?_, lk3_op a3 (by unfold isNO; omega), a4, a5, a6, ⟨lo', a7, w1⟩, w2, Or.inl ⟨c3, c4, ?_⟩⟩))⟩
        · rw [ag_k u2 (by omega)]; exact a0
        · rw [ag_k u2 (by omega)]; exact a1
        · rw [ag_20 u2 a0 (by omega)]; exact a2
        · rw [ag_21 u2 a0 (by omega)]; exact c5
      · rw [c4]
        have hy : y < hi ∧ k2 + 1 < j ∧ m2 ≤ y := by
          rcases c5 with ⟨c5, c6, c7⟩ | ⟨c5, c6⟩
          · have := STX_rng c7; omega
          · have := STX_rng c6; omega
        obtain ⟨gn, gn2⟩ := en_of (show y < 39990 by omega)
        have hGk2 : G (k2 + 1) = G k2 := g_q hT hG (by omega) (by rw [c1]; unfold qs; omega)
        rw [if_neg (J_nlt0 (by omega) (by omega)), if_neg en, bndE, if_neg gn, gn2, ag_k hv.2.1 (by omega)]
        -- what comes then, whichever it is
        have fin : ∀ (g i3 : Nat), (g = 4 ∧ i3 = k2 + 2 ∧ σs.2 17 y = J 27) ∨ (g = 1 ∧ i3 = k2 + 1 ∧ σs.2 17 y = J 34) → STX kd vl rv pl σs Γs n g m2 hi y i3 j (r2 + 3) q → kd (i3 - 1) ≠ 242 → (∀ t, k2 ≤ t → t ≤ i3 → G t = G k2) → (∀ t, k2 ≤ t → t < i3 → ¬ badB G Θ Γs kd vl t) → Ok (gM d (cM g) (J (y : Nat)) 0 0 v.2) (fun w => mSt T kd vl rv pl (badB G Θ Γs kd vl) σs G (fun R => STQ (op1 Γs) (lk3 G Θ Γs kd vl) R DN TX Dq (n + 1) 2 lo hi x p q) lo hi i j s D ts sl τ ((0 : Int32), w.2)) := by
          intro g i3 hg hx hk3 hG3 hb3
          have rx := STX_rng hx
          refine Ok_mono (ih g _ _ _ _ _ _ _ hx hhi hj (by omega) hk3 d s'' m'' D ts'' sl'' v.2 (by unfold MID; rw [hG3 i3 (by omega) (Nat.le_refl _)]; exact hM3) hD ?_ ?_) (fun w hw => ?_)
          · rcases hg with ⟨hg, -⟩ | ⟨hg, -⟩ <;> subst hg <;> (unfold bO at hbo ⊢; simp at hbo ⊢; omega)
          · rcases hg with ⟨hg, -⟩ | ⟨hg, -⟩ <;> subst hg <;> (unfold fO at hd ⊢; simp at hd ⊢; omega)
          · have hw' : mSt T kd vl rv pl (badB G Θ Γs kd vl) σs G (fun R => STQ (op1 Γs) (lk3 G Θ Γs kd vl) R DN TX Dq n g m2 hi y (r2 + 3) q) m2 hi k2 j s'' D ts'' sl'' v.2 ((0 : Int32), w.2) := by
              have hw2 : mSt T kd vl rv pl (badB G Θ Γs kd vl) σs G (fun R => STQ (op1 Γs) (lk3 G Θ Γs kd vl) R DN TX Dq n g m2 hi y (r2 + 3) q) m2 hi i3 j s'' D ts'' sl'' v.2 ((0 : Int32), w.2) := hw
              exact mSt_pre hp hw2 hG3 (by omega) (by omega) (by omega) hb3 (fun z => z)
            refine mSt_seq (lo := lo) (hi := hi) hp hpb hv2 hw' (by omega) (fun z hz => ⟨by rw [(z4 z (by omega)).1, (y4 z hz).1], by rw [(z4 z (by omega)).2, (y4 z hz).2]⟩) b1 a6 (by omega) (Nat.le_refl _) (by omega) (by omega) (by omega) (fun z1 z2 => ?_)
            unfold STQ
            refine ⟨b1, b2, b4, Or.inr (Or.inr (Or.inl ⟨rfl, ?_, e, b, m3', m2, r, r2, t, ?_, ?_, lk3_op a3 (by unfold isNO; omega), a4, a5, a6, ⟨lo', a7, EQx_R z1.1 (fun kk y y0 y1 y2 => hw.1.2.2 kk y (by omega) (by omega) (by omega))⟩, STQ_R _ _ _ _ _ _ _ z1.2 (fun kk y y0 y1 y2 => hw.1.2.2 kk y (by omega) (by omega) (by omega)), Or.inr ⟨c2, lk3_op c3 (by unfold isNO; omega), y, ?_, ?_⟩⟩))⟩
            · show w.2.2 17 x = _; rw [ag_k hw.2.1 (by omega)]; exact a0
            · show w.2.2 19 x = _; rw [ag_k hw.2.1 (by omega)]; exact a1
            · show w.2.2 20 x = _; rw [ag_20 hw.2.1 a0 (by omega)]; exact a2
            · show w.2.2 21 x = _; rw [ag_21 hw.2.1 a0 (by omega)]; exact c4
            · rcases hg with ⟨hg, -, h17⟩ | ⟨hg, -, h17⟩
              · subst hg; exact Or.inl ⟨by show w.2.2 17 y = _; rw [ag_k hw.2.1 (by omega)]; exact h17, z2⟩
              · subst hg; exact Or.inr ⟨by show w.2.2 17 y = _; rw [ag_k hw.2.1 (by omega)]; exact h17, z2⟩
        rcases c5 with ⟨c5, c6, c7⟩ | ⟨c5, c6⟩
        · have h17 := (STX_kind _ _ _ _ _ _ _ _ _ c7).2 (by omega)
          have hGk3 : G (k2 + 2) = G k2 := by rw [g_q hT hG (t := k2 + 1) (by omega) (by rw [c5]; unfold qs; omega), hGk2]
          rw [h17, if_pos (by rfl), if_neg en]
          refine Ok_bind (Ok_mono (fin 4 (k2 + 2) (Or.inl ⟨rfl, rfl, h17⟩) c7 (by rw [show k2 + 2 - 1 = k2 + 1 by omega]; omega) (fun t t1 t2 => by
            by_cases q1 : t = k2
            · rw [q1]
            by_cases q2 : t = k2 + 1
            · rw [q2, hGk2]
            · rw [show t = k2 + 2 by omega, hGk3]) (fun t' t1 t2 => ?_)) (fun w hw => Ok_some hw))
          by_cases e1 : t' = k2
          · exact badB_eq e1 c1 (by omega)
          · exact badB_eq (show t' = k2 + 1 by omega) c5 (by omega)
        · have h17 := (STX_kind _ _ _ _ _ _ _ _ _ c6).1 (by omega)
          rw [h17, if_neg (by decide)]
          dsimp only
          rw [if_neg en, ag_21 hv.2.1 a0 (by omega), c4, if_neg (J_nlt0 (by omega) (by omega)), if_neg en]
          exact Ok_bind (Ok_mono (fin 1 (k2 + 1) (Or.inr ⟨rfl, rfl, h17⟩) c6 (by rw [show k2 + 1 - 1 = k2 by omega]; omega) (fun t t1 t2 => by
            by_cases q1 : t = k2
            · rw [q1]
            · rw [show t = k2 + 1 by omega, hGk2]) (fun t' t1 t2 => badB_eq (show t' = k2 by omega) c1 (by omega))) (fun w hw => Ok_some hw))
    · have hg : fO g = fO g' + 2 ∧ cM g = cM g' ∧ bO g + 1 ≥ bO g' := by
        rcases g3 with ⟨b1, b2⟩ | ⟨b1, b2⟩ | ⟨b1, b2⟩ <;> subst b1 <;> subst b2 <;> exact ⟨rfl, rfl, by decide⟩
      rw [hg.2.1]
      refine Ok_mono (ih g' lo hi x i j p q a1 hhi hj hi1 hk0 d s m D ts sl τ hM hD ?_ (by omega)) (fun u hu => ?_)
      · rcases g3 with ⟨b1, b2⟩ | ⟨b1, b2⟩ | ⟨b1, b2⟩ <;> subst b1 <;> subst b2 <;> (unfold bO at hbo ⊢; simp at hbo ⊢; omega)
      obtain ⟨u1, u2, u3, u4, u5, u6, u7, u8⟩ := hu
      refine ⟨u1, u2, u3, u4, u5, u6, u7, fun hn => ?_⟩
      show STQ _ _ _ _ _ _ _ _ _ _ _ _ _
      unfold STQ
      exact ⟨b1, b2, b4, Or.inr (Or.inr (Or.inr ⟨g', g3, u8 hn⟩))⟩
