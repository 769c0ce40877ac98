/-! what an expression means -/
variable {T N : Nat} {kd vl rv : Nat → Int} {pl : Nat → Nat}
theorem lk3_op {G : Nat → HS} {Θ Γs : HS} {p : Nat} {o v : Int} (h : op3 Γs p o v) (ho : ¬ isNO o ∧ ¬ (o = 34 ∨ o = 35 ∨ o = 37 ∨ o = 38)) : lk3 G Θ Γs kd vl p o v := Or.inl ⟨ho, h⟩
theorem badB_kd {G : Nat → HS} {Θ Γs : HS} {t : Nat} {k : Int} (e : kd t = k) (h : k ≠ 2 ∧ k ≠ 251 ∧ k ≠ 252) : ¬ badB G Θ Γs kd vl t := badB_no (by rw [e]; exact h.1) (by rw [e]; exact h.2.1) (by rw [e]; exact h.2.2)
theorem badB_eq {G : Nat → HS} {Θ Γs : HS} {t i : Nat} {k : Int} (e : t = i) (h : kd i = k) (hk : k ≠ 2 ∧ k ≠ 251 ∧ k ≠ 252) : ¬ badB G Θ Γs kd vl t := by rw [e]; exact badB_kd h hk
theorem LST_len {c : Nat} {is js : Nat → Nat} (h : ∀ k, k < c → is k < js k ∧ is (k + 1) = if k + 1 < c then js k + 1 else js k) : ∀ k, k < c → js k - is k + 2 * (c - 1) ≤ is c - is 0 := by
  have A : ∀ z, z < c → is 0 + 2 * z ≤ is z := by
    intro z
    induction z with
    | zero => intro _; exact Nat.le_refl _
    | succ z ih =>
      intro hz
      have := ih (by omega)
      have b := h z (by omega)
      rw [b.2, if_pos hz]; omega
  have B : ∀ d k, k + d + 1 = c → js k + 2 * d ≤ is c := by
    intro d
    induction d with
    | zero =>
      intro k hk
      have b := h k (by omega)
      rw [if_neg (by omega), show k + 1 = c by omega] at b
      omega
    | succ d ih =>
      intro k hk
      have := ih (k + 1) (by omega)
      have b := h k (by omega)
      have b2 := h (k + 1) (by omega)
      rw [if_pos (by omega)] at b
      omega
  intro k hk
  have a := A k hk
  have b := B (c - 1 - k) k (by omega)
  have := (h k hk).1
  omega
theorem G_same {G : Nat → HS} {i j : Nat} (h : ∀ t, i ≤ t → t < j → G (t + 1) = G t) : ∀ d, i + d ≤ j → G (i + d) = G i := by
  intro d
  induction d with
  | zero => intro _; rfl
  | succ d ih => intro hd; rw [show i + (d + 1) = i + d + 1 by omega, h (i + d) (by omega) (by omega), ih (by omega)]
theorem G_at {G : Nat → HS} {i j t : Nat} (h : ∀ t, i ≤ t → t < j → G (t + 1) = G t) (h1 : i ≤ t) (h2 : t ≤ j) : G t = G i := by
  have := G_same h (t - i) (by omega)
  rwa [show i + (t - i) = t by omega] at this
theorem rv_J (hT : TKE T N kd vl rv pl) {i : Nat} (hi : i ≤ T) (hk : kd i = 2) : ¬ (J (rv i) < 0 ∨ 8000 ≤ (J (rv i)).toNatClampNeg) ∧ (J (rv i)).toNatClampNeg = (rv i).toNat := by
  have hv := SC_vl hT hi hk
  exact ng8 (by omega)
theorem bTb_q {k w d o : Int} (h : bTb k w d o) : bTq w d o ∧ (w = 56 ∨ w = 57) ∧ (k ≠ 2 ∧ k ≠ 251 ∧ k ≠ 252 ∧ k ≠ 61 ∧ k ≠ 242) := by
  unfold bTb at h
  unfold bTq
  rcases h with ⟨rfl, rfl, rfl, rfl⟩ | ⟨rfl, rfl, rfl, rfl⟩ | ⟨rfl, rfl, rfl, rfl⟩ | ⟨rfl, rfl, rfl, rfl⟩ | ⟨rfl, rfl, rfl, rfl⟩ | ⟨rfl, rfl, rfl, rfl⟩ | ⟨rfl, rfl, rfl, rfl⟩ | ⟨rfl, rfl, rfl, rfl⟩ | ⟨rfl, rfl, rfl, rfl⟩ | ⟨rfl, rfl, rfl, rfl⟩ | ⟨rfl, rfl, rfl, rfl⟩ | ⟨rfl, rfl, rfl, rfl⟩ <;> decide
set_option maxHeartbeats 8000000 in
theorem m_loop (hT : TKE T N kd vl rv pl) (hN : NMI T kd vl rv) (hp : plm T pl) (hpb : ∀ i, i ≤ T + 1 → pl i ≤ 5000) {G : Nat → HS} {Θ Γs : HS} {σs σK : MS} {DN : Nat → Nat → Nat → Prop} (hX : CTX T kd vl rv G Θ Γs σs σK DN) : ∀ (n lo hi x i j p q : Nat), EXP kd vl rv pl σs Γs n lo hi x i j p q → hi ≤ 39000 → j ≤ T → 1 ≤ i → kd (i - 1) ≠ 242 → kd j ≠ 61 → ∀ (s m D : Nat) (ts sl : Nat → Nat), SC T kd vl (G i) s m D ts sl → ∀ (d N' : Nat) (τ : MS), n ≤ 2000 * d → j - i < N' → STM rv σs σK τ s m ts sl → Ok (loopF (Mx1 (gX d)) N' (J (x : Nat), τ)) (mEx pl (badB G Θ Γs kd vl) σs (op1 Γs) (lk3 G Θ Γs kd vl) DN n lo hi x i j p q τ) := by
  have hT1 := hT.1
  obtain ⟨hX1, hX2, hX3, hX4⟩ := hX
  intro n
  induction n using Nat.strongRecOn with
  | _ n ih =>
    intro lo hi x i j p q h hhi hj hi1 hk1 hk61 s m D ts sl hC d N' τ hd hN' hS
    have hqt := EXP_quiet n lo hi x i j p q h
    have hG : ∀ t, i ≤ t → t < j → G (t + 1) = G t := fun t t1 t2 => hX1 t (by omega) (hqt t t1 t2)
    have hSC : ∀ t, i ≤ t → t ≤ j → SC T kd vl (G t) s m D ts sl := fun t t1 t2 => by rw [G_at hG t1 t2]; exact hC
    have n242 : ∀ t, i ≤ t → t < j → kd t ≠ 242 := fun t t1 t2 => (hqt t t1 t2).2.2.2.2.2.1
    have h0 := h
    unfold EXP at h
    obtain ⟨b0, b1, b2, b3, b4, h⟩ := h
    obtain ⟨N', rfl⟩ : ∃ z, N' = z + 1 := ⟨N' - 1, by omega⟩
    have hx : x < 39990 := by omega
    have en := g_en (n := x) (by omega)
    have en2 := (ng (n := x) (by omega)).2
    rw [en2] at en
    obtain ⟨hA, h3K, hw⟩ := hS
    have hE := KE_K hX2 h3K
    have e17 := congrFun (hA.1 17 (by omega)) x
    have e18 := congrFun (hA.1 18 (by omega)) x
    have e19 := congrFun (hA.1 19 (by omega)) x
    have leaf : ∀ w : Int, σs.2 17 x = J w → (w = 40 ∨ (44 ≤ w ∧ w ≤ 47)) → loopF (Mx1 (gX d)) (N' + 1) (J (x : Nat), τ) = some ((0 : Int32), τ) := by
      intro w hw1 hw2
      have e := fun c hc => J17 (e17.trans hw1) (by omega) (c := c) hc
      have ne : ∀ c : Int, 0 ≤ c ∧ c < 1000 → w ≠ c → ¬ τ.2 17 x = J c := fun c hc hne h => hne (by rw [← e c hc]; exact h)
      rw [mx_not hx (e17.trans hw1) (by omega) (by omega), if_neg (show ¬ τ.2 17 x = 41 from ne 41 (by omega) (by omega)), if_neg (show ¬ τ.2 17 x = 42 from ne 42 (by omega) (by omega)), if_neg (show ¬ τ.2 17 x = 43 from ne 43 (by omega) (by omega))]
      rw [if_neg]
      rintro (h | h | h | h | h | h | h)
      · exact ne 48 (by omega) (by omega) h
      · exact ne 49 (by omega) (by omega) h
      · exact ne 50 (by omega) (by omega) h
      · exact ne 51 (by omega) (by omega) h
      · exact ne 52 (by omega) (by omega) h
      · exact ne 53 (by omega) (by omega) h
      · exact ne 58 (by omega) (by omega) h
    have one : ∀ w : Int, σs.2 17 x = J w → (w = 48 ∨ w = 49 ∨ w = 50 ∨ w = 51 ∨ w = 52 ∨ w = 53 ∨ w = 58) → loopF (Mx1 (gX d)) (N' + 1) (J (x : Nat), τ) = (gX d 0 (σs.2 19 x) 0 0 τ).bind fun u => some ((0 : Int32), u.2) := by
      intro w hw1 hw2
      have e := fun c hc => J17 (e17.trans hw1) (by omega) (c := c) hc
      have ne : ∀ c : Int, 0 ≤ c ∧ c < 1000 → w ≠ c → ¬ τ.2 17 x = J c := fun c hc hne h => hne (by rw [← e c hc]; exact h)
      rw [mx_not hx (e17.trans hw1) (by omega) (by omega), if_neg (show ¬ τ.2 17 x = 41 from ne 41 (by omega) (by omega)), if_neg (show ¬ τ.2 17 x = 42 from ne 42 (by omega) (by omega)), if_neg (show ¬ τ.2 17 x = 43 from ne 43 (by omega) (by omega))]
      rw [if_pos, if_neg en, e19]
      rcases hw2 with h | h | h | h | h | h | h
      · exact Or.inl ((e 48 (by omega)).mpr h)
      · exact Or.inr (Or.inl ((e 49 (by omega)).mpr h))
      · exact Or.inr (Or.inr (Or.inl ((e 50 (by omega)).mpr h)))
      · exact Or.inr (Or.inr (Or.inr (Or.inl ((e 51 (by omega)).mpr h))))
      · exact Or.inr (Or.inr (Or.inr (Or.inr (Or.inl ((e 52 (by omega)).mpr h)))))
      · exact Or.inr (Or.inr (Or.inr (Or.inr (Or.inr (Or.inl ((e 53 (by omega)).mpr h))))))
      · exact Or.inr (Or.inr (Or.inr (Or.inr (Or.inr (Or.inr ((e 58 (by omega)).mpr h))))))
    have sub : ∀ (n' lo' hi' y i' j' p' q' : Nat), EXP kd vl rv pl σs Γs n' lo' hi' y i' j' p' q' → n' + 2000 ≤ n → hi' ≤ 39000 → i ≤ i' → j' ≤ j → 1 ≤ i' → kd (i' - 1) ≠ 242 → kd j' ≠ 61 → ∀ υ, STM rv σs σK υ s m ts sl → Ok (gX d 0 (J (y : Nat)) 0 0 υ) (mEx pl (badB G Θ Γs kd vl) σs (op1 Γs) (lk3 G Θ Γs kd vl) DN n' lo' hi' y i' j' p' q' υ) := by
      intro n' lo' hi' y i' j' p' q' hE' hn' hhi' hi' hj' hi1' hk' hk61' υ hυ
      have rr := EXP_rng hE'
      obtain ⟨d, rfl⟩ : ∃ z, d = z + 1 := ⟨d - 1, by omega⟩
      rw [gX_00]
      exact ih n' (by omega) _ _ _ _ _ _ _ hE' hhi' (by omega) hi1' hk' hk61' s m D ts sl (hSC i' hi' (by omega)) d FU υ (by omega) (FU_gt (by omega)) hυ
    rcases h with ⟨a1, a2, a3, a4, a5, a6⟩ | ⟨a1, a2, a3, a4, a5, a6, a7, a8, a9⟩ | ⟨n', hn, f, c, j', q', a1, a2, a3, a4, a5, a6, a7, a8, a9, a10, a11, a12⟩ | ⟨n', hn, y, j', q', a1, a2, a3, a4, a5, a6, a7, a8, a9, a10, a11⟩ | ⟨n', hn, j', lo', a1, a2, a3, a4, a5⟩ | ⟨w, o, a1, a2, a3, a4, a5⟩ | ⟨a1, a2, a3, a4, a5⟩ | ⟨n', hn, w, o, y, q', lo', hi', a1, a2, a3, a4, a5, a6, a7, a8, a9⟩ | ⟨n1, hn1, n2, hn2, w, o, y, z, k, r, q', mm, a1, a2, a3, a4, a5, a6, a7, a8, a9, a10⟩ | ⟨n1, hn1, n2, hn2, w, d', o, y, z, k, r, q', mm, a1, a2, a3, a4, a5, a6, a7, a8, a9, a10⟩ | ⟨n', hn, y, k, q', a1, a2, a3, a4, a5, a6, a7, a8, a9, a10⟩
    · -- a NUMBER
      have hv := (hT.2.2.2 i (by omega)).2.2.1 a1
      rw [leaf 40 a4 (Or.inl rfl)]
      refine Ok_some ⟨rM_rfl, hA, NT_none (fun w w1 w2 => badB_eq (show w = i by omega) a1 (by omega)), fun _ => ?_⟩
      unfold EXQ
      exact ⟨by omega, by omega, b1, b2, b4, Or.inl ⟨vl i, a3, by rw [← a4]; exact e17, by rw [← a5]; exact e19, hv.1, hv.2, lk3_op a6 (by unfold isNO; omega)⟩⟩
    · -- a NAME
      have hiT : i ≤ T := by omega
      have hv := SC_vl hT hiT a1
      obtain ⟨c1, c2⟩ := srt_n (vl := vl) (G := G) (Θ := Θ) hk1
      obtain ⟨zz, z1, z2⟩ := r_means hT hN hC hw hE hiT a1 hx (e19.trans a8) (ob := 1) (Or.inr rfl)
      have hsn := snF_of hT hC hiT a1
      have hAm : AGM σs (mnR τ x (mnB G vl rv τ i) (mnD G vl rv τ i)) := AGM_mnR hA a6
      have hrm : rM lo hi τ (mnR τ x (mnB G vl rv τ i) (mnD G vl rv τ i)) := rM_mnR b1 b2
      have hks := hE i hiT a1
      rw [mx_not hx (e17.trans a6) (by omega) (by omega), if_pos (show τ.2 17 x = 41 by rw [e17, a6]; rfl), show F_X12_means (J (x : Nat)) 1 τ = _ from z1, Option.bind_some]
      subst a2
      rcases z2 with ⟨g1, g2⟩ | ⟨g1, g2⟩
      · -- known
        have nb : ¬ badB G Θ Γs kd vl i := by
          rintro (⟨-, -, h | h | h | h⟩ | h | h)
          · exact a3 h.1
          · exact a4 h.1
          · exact hk61 h.1
          · rw [c1] at h
            by_cases q0 : snF G vl i = 0
            · rw [if_pos q0] at h; omega
            · rw [if_neg q0] at h; omega
          · omega
          · omega
        rw [if_neg (by rw [g1]; exact J1_ne)]
        refine Ok_some ⟨hrm, hAm, NT_none (fun w w1 w2 => by rw [show w = i by omega]; exact nb), fun _ => ?_⟩
        have r20 : (mnR τ x (mnB G vl rv τ i) (mnD G vl rv τ i)).2 20 x = mnB G vl rv τ i := by unfold mnR; show upd _ _ _ _ = _; rw [upd_s, if_pos rfl]
        have r21 : (mnR τ x (mnB G vl rv τ i) (mnD G vl rv τ i)).2 21 x = mnD G vl rv τ i := by unfold mnR; show upd _ _ _ _ = _; rw [upd_s, if_pos rfl]
        unfold EXQ
        refine ⟨by omega, by omega, b1, b2, b4, Or.inr (Or.inl ?_)⟩
        rcases hsn with ⟨t', t1, t2, t3, t4⟩ | ⟨t1, t2⟩
        · refine ⟨9, sl t', 35, a5, hAm.1 17 (by omega) ▸ a6, ?_, ?_, Or.inl ⟨rfl, t4, rfl⟩, Or.inr ⟨49, i, Or.inl rfl, a9, by omega, ?_, ?_, fun h => by omega⟩⟩
          · rw [r20]; unfold mnB; rw [if_neg (by omega)]
          · rw [r21]; unfold mnD; rw [if_neg (by omega), t3]; exact congrArg J (by omega)
          · rw [c1, if_neg (by omega)]; rfl
          · rw [c2, if_neg (by omega), t3]; exact congrArg _ (by omega)
        · obtain ⟨l4, l5, l12⟩ := hX4 i hiT a1
          have hkk : ksF Θ vl i = 4 ∨ ksF Θ vl i = 1 ∨ ksF Θ vl i = 2 := by omega
          refine ⟨ksF Θ vl i, nsF Θ vl i, if ksF Θ vl i = 4 then 34 else 33, a5, hAm.1 17 (by omega) ▸ a6, ?_, ?_, ?_, Or.inr ⟨49, i, Or.inl rfl, a9, by omega, ?_, ?_, fun h => by omega⟩⟩
          · rw [r20]; unfold mnB; rw [if_pos t2]; exact hks.1
          · rw [r21]; unfold mnD; rw [if_pos t2]; exact hks.2.1 (by omega)
          · rcases hkk with e | e | e
            · exact Or.inr (Or.inl ⟨e, l4 e, if_pos e⟩)
            · exact Or.inr (Or.inr ⟨Or.inl e, l12 (Or.inl e), if_neg (by omega)⟩)
            · exact Or.inr (Or.inr ⟨Or.inr e, l12 (Or.inr e), if_neg (by omega)⟩)
          · rw [c1, if_pos t2]
            unfold lnkO
            rw [if_pos rfl]
            by_cases q4 : ksF Θ vl i = 4
            · rw [if_pos q4, if_pos q4]
            · rw [if_neg q4, if_neg q4, if_neg (by omega)]
          · rw [c2, if_pos t2]
      · -- not known
        have hb : badB G Θ Γs kd vl i := by
          refine Or.inl ⟨a1, hk1, Or.inr (Or.inr (Or.inr ⟨a3, a4, hk61, ?_⟩))⟩
          rw [c1, if_pos (by omega)]
          omega
        rw [if_pos g1]
        dsimp only
        rw [if_neg en, show (mnR τ x (mnB G vl rv τ i) (mnD G vl rv τ i)).2 18 x = J (pl i : Nat) by rw [hAm.1 18 (by omega)]; exact a7, r_wrong, Option.bind_some]
        refine Ok_some ⟨rM_trans hrm rM_noF, AGM_noF hAm, NT_one hpb (by omega) (fun _ => rfl) (fun h => absurd hb h), fun hn => absurd hb (hn i (Nat.le_refl _) (by omega))⟩
    · -- a call
      have hiT : i ≤ T := by omega
      have hv := SC_vl hT hiT a1
      have g8 := rv_J hT hiT a1
      obtain ⟨c1, c2⟩ := srt_n (vl := vl) (G := G) (Θ := Θ) hk1
      obtain ⟨xs, ls, is, js, ps, d1, d2, d3, d4, d5, d6, d7, d8, d9, d10, d11⟩ := a12
      have hrng := LST_rng d4 d9 d10
      have hls0 := hrng c 0 (by omega)
      rw [Nat.zero_add] at hls0
      have hij : ∀ k, k < c → js k ≤ is (k + 1) ∧ is (k + 1) ≤ is c := fun k hk => by
        have := hrng (c - (k + 1)) (k + 1) (by omega)
        rw [show k + 1 + (c - (k + 1)) = c by omega] at this
        have b := (d9 k hk).2
        split at b <;> omega
      have hlen : ∀ k, k < c → js k - is k + 2 * (c - 1) ≤ j' - (i + 2) := fun k hk => by
        have := LST_len (fun k hk => d9 k hk) k hk
        rwa [d5, d6] at this
      have hccj : i + 2 + c ≤ j' + 1 := by
        by_cases q0 : c = 0
        · subst q0; omega
        · have := hlen 0 (by omega); have := (d9 0 (by omega)).1; omega
      have hi2 : i + 2 ≤ j' := by
        have := (hrng c 0 (by omega)).2.1
        rw [Nat.zero_add] at this; omega
      obtain ⟨d, rfl⟩ : ∃ z, d = z + 1 := ⟨d - 1, by omega⟩
      obtain ⟨d, rfl⟩ : ∃ z, d = z + 1 := ⟨d - 1, by omega⟩
      obtain ⟨υ, v1, v2, v3, v4, v5⟩ := m_args (kd := kd) (rv := rv) (pl := pl) (T := T) (bad := badB G Θ Γs kd vl) (O1 := op1 Γs) (O3 := lk3 G Θ Γs kd vl) (DN := DN) (σs := σs) (σK := σK) (s := s) (m := m) (ts := ts) (sl := sl) (n' := n') (d := d + 1) (c := c) (xs := xs) (ls := ls) (is := is) (js := js) (ps := ps) (P0 := J (rv i)) (P1 := J (pl i : Nat)) hp hpb d1.2 (fun k hk => ⟨(d4 k hk).1, (d4 k hk).2.1⟩) (fun k dd hk => (hrng dd k hk).1) (by omega) (fun k hk => d9 k hk) (fun t ht => badB_kd ht (by omega)) (fun k hk => d11 k hk rfl) (by omega) (fun k hk υ hυ => by
        rw [gX_00]
        have hkj := hij k hk
        have b9 := (d9 k hk).1
        have r1 := hrng k 0 (by omega)
        rw [Nat.zero_add] at r1
        have r2 := hrng (c - (k + 1)) (k + 1) (by omega)
        rw [show k + 1 + (c - (k + 1)) = c by omega] at r2
        refine ih n' (by omega) _ _ _ _ _ _ _ (d4 k hk).2.2 (by omega) (by omega) (by omega) ?_ ?_ s m D ts sl (hSC _ (by omega) (by omega)) d FU υ (by omega) (FU_gt (by omega)) hυ
        · exact n242 _ (by omega) (by omega)
        · by_cases qk : k + 1 < c
          · rw [d11 k qk rfl]; omega
          · have b := (d9 k hk).2
            rw [if_neg qk, show k + 1 = c by omega, d6] at b
            rw [← b, a3]; omega) c 0 τ (by omega) ⟨hA, h3K, hw⟩
      have hSυ := STM_rM ⟨hA, h3K, hw⟩ v2 v3
      obtain ⟨ω, o1, o2, o3⟩ := r_callEnd hT hN hX2 hX3 hC hSυ.2.2 hSυ.2.1 v3 hiT a1 hk1 a2 (show c ≤ 5000 by omega) a10 (gX (d + 1)) (FU - c - 1)
      have hFc : c + 1 < FU := FU_gt (by omega)
      have eL : loopF (Mc1 (gX (d + 1)) (J (rv i)) (J (pl i : Nat))) FU (J ((0 : Nat) : Int), J f, τ) = some ((0 : Int32), ω) := by
        have := v1 FU (by omega)
        rw [show (if 0 < c then (xs 0 : Int) else -1) = f by
          rw [d1.1]
          by_cases q0 : c = 0
          · rw [if_neg (by omega), if_pos q0]
          · rw [if_pos (by omega), if_neg q0]] at this
        rw [this, show FU - c = (FU - c - 1) + 1 by omega]; exact o1
      have hωA : AGM σs ω := by
        by_cases hb : badB G Θ Γs kd vl i
        · rw [o2 hb]; exact AGM_noF v3
        · rw [o3 hb]; exact v3
      have hωr : rM (x + 1) hi τ ω := by
        have : rM (x + 1) hi τ υ := rM_wide v2 d2 d3
        by_cases hb : badB G Θ Γs kd vl i
        · rw [o2 hb]; exact rM_trans this rM_noF
        · rw [o3 hb]; exact this
      rw [mx_not hx (e17.trans a6) (by omega) (by omega), if_neg (by rw [e17, a6]; decide), if_pos (show τ.2 17 x = 42 by rw [e17, a6]; rfl), if_neg en, if_neg en, if_neg en, e19, a8, e18, a7]
      rw [hA.2.1 x (by rw [a6]; exact J_ne (by omega) (by omega) (by omega) (by omega) (by omega)), a9, gX_11, meanCall_eq, show loopF (Mc1 (gX (d + 1)) (J (rv i)) (J (pl i : Nat))) FU (0, J f, τ) = some ((0 : Int32), ω) from eL, Option.bind_some, if_neg en, bndE]
      dsimp only
      rw [hωA.1 19 (by omega), a8, if_neg g8.1, bndE, g8.2, if_neg en, bndE]
      have e30 : ω.2 30 = σK.2 30 := by rw [hωr.2.1 30 (by omega) (by omega)]; exact h3K.2.2
      refine Ok_some ⟨rM_trans (rM_wide hωr (by omega) (Nat.le_refl _)) (rM_21 b1 b2), AGM_21 hωA (Or.inr (Or.inl a6)), ?_, fun hn => ?_⟩
      · show NT pl _ i j (flt τ) (flt ω)
        refine NT_rl hp (k := i + 1) ?_ (NT_one hpb (by omega) (fun hb => by rw [o2 hb]; rfl) (fun hb => by rw [o3 hb])) (by omega) (by omega) (by omega)
        refine NT_wide hp v4 (by omega) (by omega) (by omega) (fun w w1 w2 => badB_eq (show w = i + 1 by omega) a2 (by omega)) (fun w w1 w2 => badB_eq (show w = j' by omega) a3 (by omega))
      · have hb := hn i (Nat.le_refl _) (by omega)
        have eω := o3 hb
        have hsr : srt G Θ kd vl i = 6 ∧ (Γs 1).2.1 6 i = (Γs 5).2.1 4 (nmb G Θ kd vl i) := by
          refine Classical.byContradiction (fun hh => hb (Or.inl ⟨a1, hk1, Or.inl ⟨a2, hh⟩⟩))
        rcases snF_of hT hC hiT a1 with ⟨t', t1, t2, t3, t4⟩ | ⟨t1, t2⟩
        · rw [c1, if_neg (by omega)] at hsr; omega
        rw [c1, c2, if_pos t2, if_pos t2] at hsr
        obtain ⟨zn, C, z1, z2, z3, z4, z5, z6, z7, z8, z9⟩ := hX3 i hiT a1 hsr.1
        have hCc : C = c := by
          have := hsr.2
          rw [a10, z7, J_eq (by omega) (by omega) (by omega) (by omega)] at this; omega
        subst hCc
        have hel := v5 (fun w w1 w2 => hn w (by omega) (by omega))
        unfold EXQ
        refine ⟨by omega, by omega, b1, b2, b4, Or.inr (Or.inr (Or.inl ⟨n', by omega, j' - (i + 2) - 2 * (C - 1), f, C, q', nsF Θ vl i, zn, a5, ?_, ?_, ?_, z9, Or.inr ⟨40, i, by unfold isNO; omega, a11, by omega, ?_, ?_, fun h => by omega⟩, by omega, xs, ls, ps, d1.1, fun k hk => ?_, d2, d3, fun k hk => ⟨(d4 k hk).1, (d4 k hk).2.1, d10 k hk, ?_⟩, d7, d8⟩))⟩
        · show ω.2 17 x = _; rw [hωA.1 17 (by omega)]; exact a6
        · show ω.2 20 x = _; rw [hωA.2.1 x (by rw [a6]; exact J_ne (by omega) (by omega) (by omega) (by omega) (by omega))]; exact a9
        · show upd _ _ _ _ = _; rw [upd_s, if_pos rfl, e30, z1]
        · rw [c1, if_pos t2, hsr.1]; rfl
        · rw [c2, if_pos t2]
        · show ω.2 22 (xs k) = _; rw [hωA.1 22 (by omega)]; exact d1.2 k hk
        · have hE1 := hel k (by omega) hk
          rw [← eω] at hE1
          have r1 := hrng k 0 (by omega)
          rw [Nat.zero_add] at r1
          have r2 := hrng (C - (k + 1)) (k + 1) (by omega)
          rw [show k + 1 + (C - (k + 1)) = C by omega] at r2
          refine EXQ_mono n' n' _ _ _ _ _ _ _ _ _ (Nat.le_refl _) (by have := hlen k hk; omega) (Nat.le_refl _) (Nat.le_refl _) (EXQ_ag _ _ _ _ _ _ _ (fun kk y _ y1 y2 => ?_) (fun _ _ _ _ h => h) (fun _ _ _ _ _ h => h) (fun _ _ _ h => h) hE1)
          rw [mA_2]
          by_cases ek : kk = 21
          · rw [if_pos ek, ek, upd_s, if_neg (by omega)]
          · rw [if_neg ek]
    · -- a cell
      have rr := EXP_rng a11
      have hiT : i ≤ T := by omega
      have hv := SC_vl hT hiT a1
      have g8 := rv_J hT hiT a1
      obtain ⟨c1, c2⟩ := srt_n (vl := vl) (G := G) (Θ := Θ) hk1
      have hsn := snF_of hT hC hiT a1
      have hks := hE i hiT a1
      have n41 : σs.2 17 x ≠ J 41 := by rw [a6]; exact J_ne (by omega) (by omega) (by omega) (by omega) (by omega)
      have hbi : badB G Θ Γs kd vl i ↔ ¬ (snF G vl i = 0 ∧ ksF Θ vl i = 5) := by
        constructor
        · rintro (⟨-, -, h | h | h | h⟩ | h | h) h'
          · omega
          · rw [c1, if_pos h'.1] at h; exact h.2 h'.2
          · omega
          · omega
          · omega
          · omega
        · intro h'
          refine Or.inl ⟨a1, hk1, Or.inr (Or.inl ⟨a2, ?_⟩)⟩
          rw [c1]
          split
          · intro e; exact h' ⟨by assumption, e⟩
          · omega
      -- what is behind the name
      have tail : ∀ υ : MS, AGM σs υ → STM rv σs σK υ s m ts sl → rM lo hi τ υ → NT pl (badB G Θ Γs kd vl) i (i + 1) (flt τ) (flt υ) → Ok ((gX d 0 (J (y : Nat)) 0 0 (mA υ 21 (upd (υ.2 21) x (υ.2 29 (rv i).toNat)))).bind fun u_98 => some ((0 : Int32), u_98.2)) (mEx pl (badB G Θ Γs kd vl) σs (op1 Γs) (lk3 G Θ Γs kd vl) DN n lo hi x i j p q τ) := by
        intro υ hA2 hS2 hr2 hN2
        have hA3 : AGM σs (mA υ 21 (upd (υ.2 21) x (υ.2 29 (rv i).toNat))) := AGM_21 hA2 (Or.inr (Or.inr (Or.inl a6)))
        have hr3 : rM lo hi υ (mA υ 21 (upd (υ.2 21) x (υ.2 29 (rv i).toNat))) := rM_21 b1 b2
        refine Ok_bind (Ok_mono (sub n' (x + 1) hi y (i + 2) j' p q' a11 hn hhi (by omega) (by omega) (by omega) (by rw [show i + 2 - 1 = i + 1 by omega, a2]; omega) (by rw [a3]; omega) _ (STM_rM hS2 hr3 hA3)) (fun u hu' => Ok_some ?_))
        obtain ⟨u1, u2, u3, u4⟩ := hu'
        refine ⟨rM_trans hr2 (rM_trans hr3 (rM_wide u1 (by omega) (Nat.le_refl _))), u2, NT_lr hp hpb (k := i + 1) hN2 (NT_wide hp u3 (by omega) (by omega) (by omega) (fun w w1 w2 => badB_eq (show w = i + 1 by omega) a2 (by omega)) (fun w w1 w2 => badB_eq (show w = j' by omega) a3 (by omega))) (by omega) (by omega) (by omega), fun hn' => ?_⟩
        have hg := hn' i (Nat.le_refl _) (by omega)
        rw [hbi] at hg
        have hg : snF G vl i = 0 ∧ ksF Θ vl i = 5 := Classical.byContradiction hg
        unfold EXQ
        refine ⟨by omega, by omega, b1, b2, b4, Or.inr (Or.inr (Or.inr (Or.inl ⟨n', hn, j' - (i + 2), y, q', nsF Θ vl i, a5, ?_, ?_, ?_, (hX4 i hiT a1).2.1 hg.2, Or.inr ⟨36, i, by unfold isNO; omega, a10, by omega, ?_, ?_, fun _ => by rw [c1, if_pos hg.1]; exact hg.2⟩, by omega, u4 (fun w w1 w2 => hn' w (by omega) (by omega))⟩)))⟩
        · show u.2.2 17 x = _; rw [u2.1 17 (by omega)]; exact a6
        · show u.2.2 20 x = _; rw [u2.2.1 x n41]; exact a9
        · show u.2.2 21 x = _
          rw [u1.2.2 21 x (by omega)]
          show upd _ _ _ _ = _
          rw [upd_s, if_pos rfl, hS2.2.1.2.1, ← h3K.2.1]
          exact hks.2.1 (by omega)
        · rw [c1, if_pos hg.1, hg.2]; rfl
        · rw [c2, if_pos hg.1]
      rw [mx_not hx (e17.trans a6) (by omega) (by omega), if_neg (by rw [e17, a6]; decide), if_neg (by rw [e17, a6]; decide), if_pos (show τ.2 17 x = 43 by rw [e17, a6]; rfl), if_neg en, e19, a8, show F_X12_is (J (rv i)) 5 τ = _ from r_is hT hE hiT a1 (c := 5) (by omega), Option.bind_some]
      simp only [bndE]
      have eW : Ok (if J (x : Nat) < 0 ∨ 40000 ≤ x then none else (F_X12_wrong (τ.2 18 x) τ).bind fun u_106 => if J (x : Nat) < 0 ∨ 40000 ≤ x then none else if u_106.2.2 19 x < 0 ∨ 8000 ≤ (u_106.2.2 19 x).toNatClampNeg then none else if J (x : Nat) < 0 ∨ 40000 ≤ x then none else if J (x : Nat) < 0 ∨ 40000 ≤ x then none else (gX d 0 ((mA u_106.2 21 (upd (u_106.2.2 21) x (u_106.2.2 29 (u_106.2.2 19 x).toNatClampNeg))).2 20 x) 0 0 (mA u_106.2 21 (upd (u_106.2.2 21) x (u_106.2.2 29 (u_106.2.2 19 x).toNatClampNeg)))).bind fun u_98 => some ((0 : Int32), u_98.2)) (fun u => badB G Θ Γs kd vl i → mEx pl (badB G Θ Γs kd vl) σs (op1 Γs) (lk3 G Θ Γs kd vl) DN n lo hi x i j p q τ u) := by
        refine Ok_neg en ?_
        rw [e18, a7, r_wrong, Option.bind_some]
        refine Ok_neg en ?_
        have e19' : (noF τ (ntF (flt τ) 3 (pl i))).2 19 x = J (rv i) := e19.trans a8
        have e20' : (mA (noF τ (ntF (flt τ) 3 (pl i))) 21 (upd ((noF τ (ntF (flt τ) 3 (pl i))).2 21) x ((noF τ (ntF (flt τ) 3 (pl i))).2 29 (rv i).toNat))).2 20 x = J (y : Nat) := (hA.2.1 x n41).trans a9
        rw [e19', if_neg g8.1, g8.2, if_neg en, if_neg en, e20']
        by_cases hb : badB G Θ Γs kd vl i
        · exact Ok_mono (tail _ (AGM_noF hA) (STM_rM (lo := lo) (hi := hi) ⟨hA, h3K, hw⟩ (rM_noF (a := ntF (flt τ) 3 (pl i))) (AGM_noF hA)) (rM_noF (a := ntF (flt τ) 3 (pl i))) (NT_one hpb (by omega) (fun _ => rfl) (fun h => absurd hb h))) (fun u hu _ => hu)
        · have hS2 := STM_rM (lo := lo) (hi := hi) ⟨hA, h3K, hw⟩ (rM_noF (a := ntF (flt τ) 3 (pl i))) (AGM_noF hA)
          have hA3 : AGM σs (mA (noF τ (ntF (flt τ) 3 (pl i))) 21 (upd ((noF τ (ntF (flt τ) 3 (pl i))).2 21) x ((noF τ (ntF (flt τ) 3 (pl i))).2 29 (rv i).toNat))) := AGM_21 (AGM_noF hA) (Or.inr (Or.inr (Or.inl a6)))
          refine Ok_bind (Ok_mono (sub n' (x + 1) hi y (i + 2) j' p q' a11 hn hhi (by omega) (by omega) (by omega) (by rw [show i + 2 - 1 = i + 1 by omega, a2]; omega) (by rw [a3]; omega) _ (STM_rM hS2 (rM_21 b1 b2) hA3)) (fun u hu' => Ok_some (fun h => absurd h hb)))
      have eG : snF G vl i = 0 ∧ ksF Θ vl i = 5 → Ok (if J (x : Nat) < 0 ∨ 40000 ≤ x then none else if τ.2 19 x < 0 ∨ 8000 ≤ (τ.2 19 x).toNatClampNeg then none else if J (x : Nat) < 0 ∨ 40000 ≤ x then none else if J (x : Nat) < 0 ∨ 40000 ≤ x then none else (gX d 0 ((mA τ 21 (upd (τ.2 21) x (τ.2 29 (τ.2 19 x).toNatClampNeg))).2 20 x) 0 0 (mA τ 21 (upd (τ.2 21) x (τ.2 29 (τ.2 19 x).toNatClampNeg)))).bind fun u_98 => some ((0 : Int32), u_98.2)) (mEx pl (badB G Θ Γs kd vl) σs (op1 Γs) (lk3 G Θ Γs kd vl) DN n lo hi x i j p q τ) := by
        intro hg
        have e20' : (mA τ 21 (upd (τ.2 21) x (τ.2 29 (rv i).toNat))).2 20 x = J (y : Nat) := (hA.2.1 x n41).trans a9
        refine Ok_neg en ?_
        rw [e19, a8, if_neg g8.1, g8.2, if_neg en, if_neg en, e20']
        exact tail τ hA ⟨hA, h3K, hw⟩ rM_rfl (NT_none (fun w w1 w2 => by rw [show w = i by omega, hbi]; exact fun h => h hg))
      by_cases q5 : ksF Θ vl i = 5
      · rw [if_pos q5, if_neg J1_ne, if_neg en]
        rw [e19, a8, r_slotOf hT hN hC hw hiT a1, Option.bind_some]
        rcases hsn with ⟨t', t1, t2, t3, t4⟩ | ⟨t1, t2⟩
        · rw [if_neg (show ¬ J (snF G vl i - 1) < 0 from J_nlt0 (by omega) (by omega))]
          exact Ok_mono eW (fun u hu => hu (hbi.mpr (by omega)))
        · rw [if_pos (show J (snF G vl i - 1) < 0 by rw [t2]; decide)]
          have := eG ⟨t2, q5⟩
          exact this
      · rw [if_neg q5, if_pos J0_eq]
        exact Ok_mono eW (fun u hu => hu (hbi.mpr (by omega)))
    · -- brackets
      have rr := EXP_rng a5
      refine Ok_mono (ih n' hn _ _ _ _ _ _ _ a5 hhi (by omega) (by omega) (by rw [show i + 1 - 1 = i by omega, a1]; omega) (by rw [a2]; omega) s m D ts sl (hSC _ (by omega) (by omega)) d (N' + 1) τ (by omega) (by omega) ⟨hA, h3K, hw⟩) (fun u hu => ?_)
      obtain ⟨u1, u2, u3, u4⟩ := hu
      refine ⟨rM_wide u1 a4 (Nat.le_refl _), u2, NT_wide hp u3 (by omega) (by omega) (by omega) (fun w w1 w2 => badB_eq (show w = i by omega) a1 (by omega)) (fun w w1 w2 => badB_eq (show w = j' by omega) a2 (by omega)), fun hn' => ?_⟩
      exact EXQ_mono n' n _ _ _ _ _ _ _ _ _ (by omega) (by omega) a4 (Nat.le_refl _) (u4 (fun w w1 w2 => hn' w (by omega) (by omega)))
    · -- here, noun, second
      have hz : (w = 44 ∧ o = 28) ∨ (w = 45 ∧ o = 29) ∨ (w = 46 ∧ o = 30) := by unfold zTb at a1; omega
      rw [leaf w a4 (by omega)]
      refine Ok_some ⟨rM_rfl, hA, NT_none (fun w' w1 w2 => ?_), fun _ => ?_⟩
      · rw [show w' = i by omega]
        exact badB_no (by unfold zTb at a1; omega) (by unfold zTb at a1; omega) (by unfold zTb at a1; omega)
      · unfold EXQ
        exact ⟨by omega, by omega, b1, b2, b4, Or.inr (Or.inr (Or.inr (Or.inr (Or.inl ⟨w, o, hz, a3, by rw [← a4]; exact e17, a5⟩))))⟩
    · -- player
      rw [leaf 47 a4 (by omega)]
      refine Ok_some ⟨rM_rfl, hA, NT_none (fun w' w1 w2 => by rw [show w' = i by omega]; exact badB_kd a1 (by omega)), fun _ => ?_⟩
      unfold EXQ
      exact ⟨by omega, by omega, b1, b2, b4, Or.inr (Or.inr (Or.inr (Or.inr (Or.inr (Or.inl ⟨a3, by rw [← a4]; exact e17, lk3_op a5 (by unfold isNO; omega)⟩)))))⟩
    · -- one side
      have rr := EXP_rng a9
      have hu : (w = 48 ∧ o = 24) ∨ (w = 49 ∧ o = 25) ∨ (w = 50 ∧ o = 26) ∨ (w = 51 ∧ o = 27) ∨ (w = 52 ∧ o = 9) ∨ (w = 53 ∧ o = 8) := by unfold uTb at a1; omega
      rw [one w a3 (by omega), a4]
      refine Ok_bind (Ok_mono (sub n' lo' hi' y (i + 1) j p q' a9 hn (by omega) (by omega) (Nat.le_refl _) (by omega) (by rw [show i + 1 - 1 = i by omega]; unfold uTb at a1; omega) hk61 τ ⟨hA, h3K, hw⟩) (fun u hu' => Ok_some ?_))
      obtain ⟨u1, u2, u3, u4⟩ := hu'
      have hbi : ¬ badB G Θ Γs kd vl i := badB_no (by unfold uTb at a1; omega) (by unfold uTb at a1; omega) (by unfold uTb at a1; omega)
      refine ⟨rM_wide u1 a6 a7, u2, NT_wide hp u3 (by omega) (Nat.le_refl _) (by omega) (fun w' w1 w2 => by rw [show w' = i by omega]; exact hbi) (fun w' w1 w2 => by omega), fun hn' => ?_⟩
      unfold EXQ
      refine ⟨by omega, by omega, b1, b2, b4, Or.inr (Or.inr (Or.inr (Or.inr (Or.inr (Or.inr (Or.inl ⟨n', hn, j - (i + 1), w, o, y, q', lo', hi', hu, a2, ?_, ?_, a5, a6, a7, by omega, u4 (fun w' w1 w2 => hn' w' (by omega) w2)⟩))))))⟩
      · show u.2.2 17 x = _; rw [u2.1 17 (by omega)]; exact a3
      · show u.2.2 19 x = _; rw [u2.1 19 (by omega)]; exact a4
    · -- and, or
      have r1 := EXP_rng a9
      have r2 := EXP_rng a10
      have hw' : (w = 54 ∧ o = 43) ∨ (w = 55 ∧ o = 44) := by unfold lTb at a1; omega
      have hkk : kd k = 216 ∨ kd k = 217 := by unfold lTb at a1; omega
      rw [mx_bin hx (e17.trans a3) (by omega), hA.2.1 x (by rw [a3]; exact J_ne (by omega) (by omega) (by omega) (by omega) (by omega)), a5]
      refine Ok_bind (Ok_mono (sub n2 mm x z (k + 1) j (r + 3) q' a10 hn2 (by omega) (by omega) (Nat.le_refl _) (by omega) (by rw [show k + 1 - 1 = k by omega]; omega) hk61 τ ⟨hA, h3K, hw⟩) (fun u hu' => ?_))
      obtain ⟨u1, u2, u3, u4⟩ := hu'
      rw [u2.1 19 (by omega), a4]
      refine Ok_mono (ih n1 hn1 _ _ _ _ _ _ _ a9 (by omega) (by omega) hi1 hk1 (by omega) s m D ts sl hC d N' u.2 (by omega) (by omega) (STM_rM ⟨hA, h3K, hw⟩ u1 u2)) (fun v hv' => ?_)
      obtain ⟨v1, v2, v3, v4⟩ := hv'
      have hbk : ¬ badB G Θ Γs kd vl k := badB_no (by omega) (by omega) (by omega)
      refine ⟨rM_trans (rM_wide u1 (by omega) (by omega)) (rM_wide v1 (Nat.le_refl _) (by omega)), v2, NT_rl hp (k := k) (NT_wide hp u3 (by omega) (Nat.le_refl _) (by omega) (fun w' w1 w2 => by rw [show w' = k by omega]; exact hbk) (fun w' w1 w2 => by omega)) v3 (by omega) (by omega) (by omega), fun hn' => ?_⟩
      unfold EXQ
      refine ⟨by omega, by omega, b1, b2, b4, Or.inr (Or.inr (Or.inr (Or.inr (Or.inr (Or.inr (Or.inr (Or.inl ⟨n1, hn1, n2, hn2, k - i, j - (k + 1), w, o, y, z, r, q', mm, hw', a2, ?_, ?_, ?_, lk3_op a6 (by unfold isNO; omega), a7, a8, by omega, by omega, v4 (fun w' w1 w2 => hn' w' w1 (by omega)), ?_⟩)))))))⟩
      · show v.2.2 17 x = _; rw [v2.1 17 (by omega)]; exact a3
      · show v.2.2 19 x = _; rw [v2.1 19 (by omega)]; exact a4
      · show v.2.2 20 x = _; rw [v2.2.1 x (by rw [a3]; exact J_ne (by omega) (by omega) (by omega) (by omega) (by omega))]; exact a5
      · exact EXQ_ag _ _ _ _ _ _ _ (fun kk y' _ y1 y2 => v1.2.2 kk y' (by omega)) (fun _ _ _ _ h => h) (fun _ _ _ _ _ h => h) (fun _ _ _ h => h) (u4 (fun w' w1 w2 => hn' w' (by omega) w2))
    · -- two sides
      have r1 := EXP_rng a9
      have r2 := EXP_rng a10
      obtain ⟨hw', hww, hkk⟩ := bTb_q a1
      rw [mx_bin hx (e17.trans a3) (by omega), hA.2.1 x (by rw [a3]; exact J_ne (by omega) (by omega) (by omega) (by omega) (by omega)), a5]
      refine Ok_bind (Ok_mono (sub n2 mm x z (k + 1) j r q' a10 (by omega) (by omega) (by omega) (Nat.le_refl _) (by omega) (by rw [show k + 1 - 1 = k by omega]; omega) hk61 τ ⟨hA, h3K, hw⟩) (fun u hu' => ?_))
      obtain ⟨u1, u2, u3, u4⟩ := hu'
      rw [u2.1 19 (by omega), a4]
      refine Ok_mono (ih n1 hn1 _ _ _ _ _ _ _ a9 (by omega) (by omega) hi1 hk1 (by omega) s m D ts sl hC d N' u.2 (by omega) (by omega) (STM_rM ⟨hA, h3K, hw⟩ u1 u2)) (fun v hv' => ?_)
      obtain ⟨v1, v2, v3, v4⟩ := hv'
      have hbk : ¬ badB G Θ Γs kd vl k := badB_no (by omega) (by omega) (by omega)
      have hn41 : σs.2 17 x ≠ J 41 ∧ σs.2 17 x ≠ J 42 ∧ σs.2 17 x ≠ J 43 ∧ σs.2 17 x ≠ J 33 := by
        rw [a3]
        exact ⟨J_ne (by omega) (by omega) (by omega) (by omega) (by omega), J_ne (by omega) (by omega) (by omega) (by omega) (by omega), J_ne (by omega) (by omega) (by omega) (by omega) (by omega), J_ne (by omega) (by omega) (by omega) (by omega) (by omega)⟩
      refine ⟨rM_trans (rM_wide u1 (by omega) (by omega)) (rM_wide v1 (Nat.le_refl _) (by omega)), v2, NT_rl hp (k := k) (NT_wide hp u3 (by omega) (Nat.le_refl _) (by omega) (fun w' w1 w2 => by rw [show w' = k by omega]; exact hbk) (fun w' w1 w2 => by omega)) v3 (by omega) (by omega) (by omega), fun hn' => ?_⟩
      unfold EXQ
      refine ⟨by omega, by omega, b1, b2, b4, Or.inr (Or.inr (Or.inr (Or.inr (Or.inr (Or.inr (Or.inr (Or.inr (Or.inl ⟨n1, hn1, n2, hn2, k - i, j - (k + 1), w, d', o, y, z, r, q', mm, hw', a2, ?_, ?_, ?_, ?_, a7, a8, by omega, by omega, v4 (fun w' w1 w2 => hn' w' w1 (by omega)), ?_⟩))))))))⟩
      · show v.2.2 17 x = _; rw [v2.1 17 (by omega)]; exact a3
      · show v.2.2 19 x = _; rw [v2.1 19 (by omega)]; exact a4
      · show v.2.2 20 x = _; rw [v2.2.1 x hn41.1]; exact a5
      · show v.2.2 21 x = _; rw [v2.2.2 x hn41.1 hn41.2.1 hn41.2.2.1 hn41.2.2.2]; exact a6
      · exact EXQ_ag _ _ _ _ _ _ _ (fun kk y' _ y1 y2 => v1.2.2 kk y' (by omega)) (fun _ _ _ _ h => h) (fun _ _ _ _ _ h => h) (fun _ _ _ h => h) (u4 (fun w' w1 w2 => hn' w' (by omega) w2))
    · -- has
      have rr := EXP_rng a10
      have hn41 : σs.2 17 x ≠ J 41 ∧ σs.2 17 x ≠ J 42 ∧ σs.2 17 x ≠ J 43 ∧ σs.2 17 x ≠ J 33 := by
        rw [a6]
        exact ⟨J_ne (by omega) (by omega) (by omega) (by omega) (by omega), J_ne (by omega) (by omega) (by omega) (by omega) (by omega), J_ne (by omega) (by omega) (by omega) (by omega) (by omega), J_ne (by omega) (by omega) (by omega) (by omega) (by omega)⟩
      rw [one 58 a6 (by omega), a7]
      refine Ok_bind (Ok_mono (sub n' lo x y i k p q' a10 hn (by omega) (Nat.le_refl _) (by omega) hi1 hk1 (by omega) τ ⟨hA, h3K, hw⟩) (fun u hu' => Ok_some ?_))
      obtain ⟨u1, u2, u3, u4⟩ := hu'
      refine ⟨rM_wide u1 (Nat.le_refl _) (by omega), u2, NT_wide hp u3 (Nat.le_refl _) (by omega) (by omega) (fun w' w1 w2 => by omega) (fun w' w1 w2 => ?_), fun hn' => ?_⟩
      · by_cases e : w' = k
        · rw [e]; exact badB_kd a1 (by omega)
        · rw [show w' = k + 1 by omega]; exact badB_no (by omega) (by omega) (by omega)
      · unfold EXQ
        refine ⟨by omega, by omega, b1, b2, b4, Or.inr (Or.inr (Or.inr (Or.inr (Or.inr (Or.inr (Or.inr (Or.inr (Or.inr ⟨n', hn, k - i, y, q', kd (k + 1) - 206, a5, ?_, ?_, ?_, by omega, by omega, lk3_op a9 (by unfold isNO; omega), by omega, u4 (fun w' w1 w2 => hn' w' w1 (by omega))⟩))))))))⟩
        · show u.2.2 17 x = _; rw [u2.1 17 (by omega)]; exact a6
        · show u.2.2 19 x = _; rw [u2.1 19 (by omega)]; exact a7
        · show u.2.2 21 x = _; rw [u2.2.2 x hn41.1 hn41.2.1 hn41.2.2.1 hn41.2.2.2]; exact a8
