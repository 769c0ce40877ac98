/-! what statements without blocks mean: a call, a say -/
variable {T N : Nat} {kd vl rv : Nat → Int} {pl : Nat → Nat}
theorem mn_20 {G : Nat → HS} {Θ Γs : HS} {σs σK : MS} {DN : Nat → Nat → Nat → Prop} (hE : MEN T N kd vl rv pl G Θ Γs σs σK DN) {TX : Nat → Int → Int → Prop} {Dq : Prop} (hTX : ∀ t, t ≤ T → kd t = 4 → TX (pl t) (rv t) (vl t)) {hi x i j p q c : Nat} {f : Int} (hc : 0 < c) (h : LST kd σs (TEL kd vl rv pl σs Γs) 1 (x + 1) hi f c (i + 1) j p q) (hhi : hi ≤ 39000) (hj : j ≤ T) (hki : kd i = 241) (hk59 : kd j = 59) {s m D : Nat} {ts sl : Nat → Nat} (hC : ∀ t, i ≤ t → t ≤ j → SC T kd vl (G t) s m D ts sl) {τ : MS} (hS : STM rv σs σK τ s m ts sl) (h17 : σs.2 17 x = J 20) (h19 : σs.2 19 x = J f) (hx : x < 39990) : Ok (MN20 (J (x : Nat)) τ) (mPl pl (badB G Θ Γs kd vl) σs (fun R => PSQ (op1 Γs) (lk3 G Θ Γs kd vl) R DN TX Dq hi x p q) x hi i j τ) := by
  obtain ⟨hT, hN, hp, hpb, hX, hG⟩ := id hE
  have hT1 := hT.1
  obtain ⟨en, en2⟩ := en_of hx
  obtain ⟨xs, ls, is, js, ps, d1, d2, d3, d4, d5, d6, d7, d8, d9, d10, d11⟩ := h
  have hrng := LST_rng d4 d9 d10
  have hcb : c ≤ 4200 := by
    have mono : ∀ e, e ≤ c → is 0 + e ≤ is e := by
      intro e
      induction e with
      | zero => intro _; exact Nat.le_refl _
      | succ e ih =>
        intro he
        have := ih (by omega)
        have b := d9 e (by omega)
        rw [b.2]; split <;> omega
    have := mono c (Nat.le_refl _); omega
  have h0c := (hrng c 0 (by omega)).2.1
  rw [Nat.zero_add, d5, d6] at h0c
  have key := mn_say (TX := TX) (s := s) (m := m) (D := D) (ts := ts) (sl := sl) hE hTX (c := c) (i := i) (hi := hi) d1.2 d4 (fun k d hk => (hrng d k hk).1) d3 hhi (fun k hk => d9 k hk) (fun k hk => d11 k hk rfl) (by rw [d6]; exact hk59) (by rw [d6]; exact hj) d5 hki (fun t t1 t2 => hC t t1 (by rw [d6] at t2; exact t2)) c 0 τ FU (by omega) (FU_gt (by omega)) hS
  rw [show (if 0 < c then (xs 0 : Int) else -1) = f by
    rw [d1.1]
    by_cases q0 : c = 0
    · rw [if_neg (by omega), if_pos q0]
    · rw [if_pos (by omega), if_neg q0]] at key
  unfold MN20
  rw [if_neg en, bndE, en2, st_k hS (by omega), h19]
  refine Ok_mono key (fun u hu => ?_)
  obtain ⟨u1, u2, u3, u4⟩ := hu
  rw [d5, d6] at u3 u4
  refine ⟨rM_wide u1 (by omega) d3, u2, NT_wide hp u3 (by omega) (Nat.le_refl _) (by omega) (fun w w1 w2 => badB_eq (show w = i by omega) hki (by omega)) (fun w w1 w2 => by omega), fun hn => Or.inl ⟨f, c, hc, ?_, ?_, xs, ls, ps, d1.1, fun k hk => ?_, d2, d3, fun k hk => ⟨(d4 k hk).1, (d4 k hk).2.1, d10 k hk, u4 (fun w w1 w2 => hn w (by omega) w2) k (Nat.zero_le _) hk⟩, d7, d8⟩⟩
  · show u.2.2 17 x = _; rw [ag_k u2 (by omega)]; exact h17
  · show u.2.2 19 x = _; rw [ag_k u2 (by omega)]; exact h19
  · show u.2.2 22 (xs k) = _; rw [ag_k u2 (by omega)]; exact d1.2 k hk
theorem mn_33 {G : Nat → HS} {Θ Γs : HS} {σs σK : MS} {DN : Nat → Nat → Nat → Prop} (hE : MEN T N kd vl rv pl G Θ Γs σs σK DN) {TX : Nat → Int → Int → Prop} {Dq : Prop} {hi x y i k p q c : Nat} {f : Int} (h : LST kd σs (EX kd vl rv pl σs Γs) 1 (y + 1) hi f c (i + 2) k p q) (hhi : hi ≤ 39000) (hj : k + 1 ≤ T) (hj2 : k + 1 < 4200) (hki : kd i = 2) (hk1 : kd (i + 1) = 40) (hkk : kd k = 41) (hk0 : kd (i - 1) ≠ 242) (hy : NMN rv pl σs y i) (hxy : x < y) (hyh : y < hi) {s m D : Nat} {ts sl : Nat → Nat} (hC : ∀ t, i ≤ t → t ≤ k + 1 → SC T kd vl (G t) s m D ts sl) {τ : MS} (hS : STM rv σs σK τ s m ts sl) (h17 : σs.2 17 x = J 33) (h19 : σs.2 19 x = J (y : Nat)) (h20 : σs.2 20 x = J f) (h6 : (Γs 1).2.1 6 i = J (c : Nat)) (ho : op3 Γs q 40 (i : Nat)) (ho1 : op1 Γs (q + 3) 1) : Ok (MN33 (J (x : Nat)) τ) (mPl pl (badB G Θ Γs kd vl) σs (fun R => PSQ (op1 Γs) (lk3 G Θ Γs kd vl) R DN TX Dq hi x p (q + 4)) x hi i (k + 1) τ) := by
  obtain ⟨hT, hN, hp, hpb, hX, hG⟩ := id hE
  obtain ⟨hX1, hX2, hX3, hX4⟩ := id hX
  have hT1 := hT.1
  obtain ⟨en, en2⟩ := en_of (show x < 39990 by omega)
  obtain ⟨gn, gn2⟩ := en_of (show y < 39990 by omega)
  obtain ⟨xs, ls, is, js, ps, d1, d2, d3, d4, d5, d6, d7, d8, d9, d10, d11⟩ := h
  have hrng := LST_rng d4 d9 d10
  have hiT : i ≤ T := by
    have := (hrng c 0 (by omega)).2.1
    rw [Nat.zero_add] at this; omega
  have g8 := rv_J hT hiT hki
  have hC0 := hC i (Nat.le_refl _) (by have := (hrng c 0 (by omega)).2.1; rw [Nat.zero_add] at this; omega)
  obtain ⟨c1, c2⟩ := srt_n (vl := vl) (G := G) (Θ := Θ) hk0
  have hls0 := hrng c 0 (by omega)
  rw [Nat.zero_add] at hls0
  have hij : ∀ k, k < c → js k ≤ is (k + 1) ∧ is (k + 1) ≤ is c := fun k hk => by
    have := hrng (c - (k + 1)) (k + 1) (by omega)
    rw [show k + 1 + (c - (k + 1)) = c by omega] at this
    have b := (d9 k hk).2
    split at b <;> omega
  have hlen : ∀ z, z < c → js z - is z + 2 * (c - 1) ≤ k - (i + 2) := fun z hz => by
    have := LST_len (fun k hk => d9 k hk) z hz
    rwa [d5, d6] at this
  have hi2 : i + 2 ≤ k := by
    have := (hrng c 0 (by omega)).2.1
    rw [Nat.zero_add] at this; omega
  have hccj : i + 2 + c ≤ k + 1 := by
    by_cases q0 : c = 0
    · subst q0; omega
    · have := hlen 0 (by omega); have := (d9 0 (by omega)).1; omega
  have hn61 : ∀ z, z < c → kd (js z) ≠ 61 := fun z hz => by
    by_cases qk : z + 1 < c
    · rw [d11 z qk rfl]; omega
    · have b := (d9 z hz).2
      rw [if_neg qk, show z + 1 = c by omega, d6] at b
      rw [← b, hkk]; omega
  have hn242 : ∀ z, z < c → kd (is z - 1) ≠ 242 := fun z hz => by
    by_cases q : z = 0
    · rw [q, d5, show i + 2 - 1 = i + 1 by omega]; omega
    · have b2 := (d9 (z - 1) (by omega)).2
      rw [if_pos (by omega), show z - 1 + 1 = z by omega] at b2
      rw [b2, show js (z - 1) + 1 - 1 = js (z - 1) by omega, d11 (z - 1) (by omega) rfl]; omega
  obtain ⟨υ, v1, v2, v3, v4, v5⟩ := m_args (kd := kd) (rv := rv) (pl := pl) (T := T) (bad := badB G Θ Γs kd vl) (O1 := op1 Γs) (O3 := lk3 G Θ Γs kd vl) (DN := DN) (σs := σs) (σK := σK) (s := s) (m := m) (ts := ts) (sl := sl) (n' := 2660000) (d := 1399) (c := c) (xs := xs) (ls := ls) (is := is) (js := js) (ps := ps) (P0 := J (rv i)) (P1 := J (pl i : Nat)) hp hpb d1.2 (fun k hk => ⟨(d4 k hk).1, (d4 k hk).2.1⟩) (fun k dd hk => (hrng dd k hk).1) (by omega) (fun k hk => d9 k hk) (fun t ht => badB_kd ht (by omega)) (fun k hk => d11 k hk rfl) (by omega) (fun z hz υ hυ => by
    obtain ⟨n', ex, hn'⟩ := (d4 z hz).2.2
    have hkj := hij z hz
    have b9 := (d9 z hz).1
    have r1 := hrng z 0 (by omega)
    rw [Nat.zero_add] at r1
    have r2 := hrng (c - (z + 1)) (z + 1) (by omega)
    rw [show z + 1 + (c - (z + 1)) = c by omega] at r2
    rw [show gX 1399 0 (J (xs z : Nat)) 0 0 υ = loopF (Mx1 (gX 1398)) FU (J (xs z : Nat), υ) from gX_00 1398 _ _]
    refine Ok_mono (m_loop hT hN hp hpb hX n' _ _ _ _ _ _ _ ex (by omega) (by omega) (by omega) (hn242 z hz) (hn61 z hz) s m D ts sl (hC _ (by omega) (by omega)) 1398 FU υ (by omega) (FU_gt (by omega)) hυ) (fun u hu => ?_)
    obtain ⟨u1, u2, u3, u4⟩ := hu
    exact ⟨u1, u2, u3, fun hn => EXQ_mono n' 2660000 _ _ _ _ _ _ _ _ _ hn' (Nat.le_refl _) (Nat.le_refl _) (Nat.le_refl _) (u4 hn)⟩) c 0 τ (by omega) hS
  have hSυ := STM_rM hS v2 v3
  obtain ⟨ω, o1, o2, o3⟩ := r_callEnd hT hN hX2 hX3 hC0 hSυ.2.2 hSυ.2.1 v3 hiT hki hk0 hk1 (show c ≤ 5000 by omega) h6 (gX 1399) (FU - c - 1)
  have hFc : c + 1 < FU := FU_gt (by omega)
  have eL : loopF (Mc1 (gX 1399) (J (rv i)) (J (pl i : Nat))) FU (J ((0 : Nat) : Int), J f, τ) = some ((0 : Int32), ω) := by
    have := v1 FU (by omega)
    rw [show (if 0 < c then (xs 0 : Int) else -1) = f by
      rw [d1.1]
      by_cases q0 : c = 0
      · rw [if_neg (by omega), if_pos q0]
      · rw [if_pos (by omega), if_neg q0]] at this
    rw [this, show FU - c = (FU - c - 1) + 1 by omega]; exact o1
  have eG : G_X12_meanCall (J (rv i)) (J (pl i : Nat)) (J f) τ = some ((0 : Int32), ω) := by
    have e0 : G_X12_meanCall (J (rv i)) (J (pl i : Nat)) (J f) τ = F_X12_meanCall (gX 1399) (J (rv i)) (J (pl i : Nat)) (J f) τ := gX_11 1399 _ _ _ _
    rw [e0, meanCall_eq]; exact eL
  have hωA : AGM σs ω := by
    by_cases hb : badB G Θ Γs kd vl i
    · rw [o2 hb]; exact AGM_noF v3
    · rw [o3 hb]; exact v3
  have hωr : rM (x + 1) hi τ ω := by
    have : rM (x + 1) hi τ υ := rM_wide v2 (by omega) d3
    by_cases hb : badB G Θ Γs kd vl i
    · rw [o2 hb]; exact rM_trans this rM_noF
    · rw [o3 hb]; exact this
  have hωN : NT pl (badB G Θ Γs kd vl) i (k + 1) (flt τ) (flt ω) := by
    refine NT_rl hp (k := i + 1) ?_ (NT_one hpb (by omega) (fun hb => by rw [o2 hb]; rfl) (fun hb => by rw [o3 hb])) (by omega) (by omega) (by omega)
    refine NT_wide hp v4 (by omega) (by omega) (by omega) (fun w w1 w2 => badB_eq (show w = i + 1 by omega) hk1 (by omega)) (fun w w1 w2 => badB_eq (show w = k by omega) hkk (by omega))
  have e30 : ω.2 30 = σK.2 30 := by rw [hωr.2.1 30 (by omega) (by omega)]; exact hS.2.1.2.2
  have w19 : ω.2 19 x = J (y : Nat) := by rw [ag_k hωA (by omega)]; exact h19
  have w19y : ω.2 19 y = J (rv i) := by rw [ag_k hωA (by omega)]; exact hy.2.2
  unfold MN33
  rw [if_neg en, bndE, en2, st_k hS (by omega) x, h19, if_neg gn]
  rw [en2] at en
  rw [if_neg en, bndE, if_neg gn, if_neg en, gn2, st_k hS (by omega) y, hy.2.2, st_k hS (by omega) y, hy.2.1, st_20 hS h17 (by omega), h20, eG, Option.bind_some, if_neg en, bndE]
  dsimp only
  rw [w19, if_neg gn, gn2, bndE, w19y, if_neg g8.1, g8.2, bndE, if_neg en, bndE]
  refine Ok_some ⟨rM_trans (rM_wide hωr (by omega) (Nat.le_refl _)) (rM_21 (Nat.le_refl _) (by omega)), AGM_21 hωA (Or.inr (Or.inr (Or.inr h17))), hωN, fun hn => ?_⟩
  have hb := hn i (Nat.le_refl _) (by omega)
  have eω := o3 hb
  have hsr : srt G Θ kd vl i = 6 ∧ (Γs 1).2.1 6 i = (Γs 5).2.1 4 (nmb G Θ kd vl i) := by
    refine Classical.byContradiction (fun hh => hb (Or.inl ⟨hki, hk0, Or.inl ⟨hk1, hh⟩⟩))
  rcases snF_of hT hC0 hiT hki with ⟨t', t1, t2, t3, t4⟩ | ⟨t1, t2⟩
  · rw [c1, if_neg (by omega)] at hsr; omega
  rw [c1, c2, if_pos t2, if_pos t2] at hsr
  obtain ⟨zn, C, z1, z2, z3, z4, z5, z6, z7, z8, z9⟩ := hX3 i hiT hki hsr.1
  have hCc : C = c := by
    have := hsr.2
    rw [h6, z7, J_eq (by omega) (by omega) (by omega) (by omega)] at this; omega
  subst hCc
  have hel := v5 (fun w w1 w2 => hn w (by omega) (by omega))
  have A21 := AGM_21 (v := ω.2 30 (rv i).toNat) hωA (Or.inr (Or.inr (Or.inr h17)))
  refine Or.inr (Or.inr (Or.inr (Or.inr (Or.inr (Or.inr (Or.inr (Or.inr ⟨f, y, C, nsF Θ vl i, zn, q, rfl, ?_, ?_, hxy, hyh, ?_, ?_, z9, by omega, Or.inr ⟨40, i, by unfold isNO; omega, ho, by omega, ?_, ?_, fun h => by omega⟩, ho1, xs, ls, ps, d1.1, fun k hk => ?_, d2, d3, fun z hz => ⟨(d4 z hz).1, (d4 z hz).2.1, d10 z hz, ?_⟩, d7, d8⟩)))))))
  · exact (ag_k A21 (by omega) x).trans h17
  · exact (ag_k A21 (by omega) x).trans h19
  · exact (ag_20 A21 h17 (by omega)).trans h20
  · show upd _ _ _ _ = _; rw [upd_s, if_pos rfl, e30, z1]
  · rw [c1, if_pos t2, hsr.1]; rfl
  · rw [c2, if_pos t2]
  · exact (ag_k A21 (by omega) _).trans (d1.2 k hk)
  · have hE1 := hel z (by omega) hz
    rw [← eω] at hE1
    have r1 := hrng z 0 (by omega)
    rw [Nat.zero_add] at r1
    have r3 := hrng (z - 0) 0 (by omega)
    rw [show 0 + (z - 0) = z by omega] at r3
    refine ⟨2660000, js z - is z, Nat.le_refl _, by have := hlen z hz; omega, EXQ_ag _ _ _ _ _ _ _ (fun kk y' _ y1 y2 => ?_) (fun _ _ _ _ h => h) (fun _ _ _ _ _ h => h) (fun _ _ _ h => h) hE1⟩
    rw [mA_2]
    by_cases ek : kk = 21
    · rw [if_pos ek, ek, upd_s, if_neg (by omega)]
    · rw [if_neg ek]
