/-! what a let means; any statement without blocks -/
variable {T N : Nat} {kd vl rv : Nat → Int} {pl : Nat → Nat}
/-- as deep as D at least -/
def DPT (T : Nat) (kd vl : Nat → Int) (D : Nat) (Γ : HS) : Prop := ∃ e : Nat, D ≤ e ∧ ∃ (s m : Nat) (ts sl : Nat → Nat), SC T kd vl Γ s m e ts sl
theorem DPT_SC {Γ : HS} {s m D : Nat} {ts sl : Nat → Nat} (h : SC T kd vl Γ s m D ts sl) : DPT T kd vl D Γ := ⟨D, Nat.le_refl _, s, m, ts, sl, h⟩
def mSt (T : Nat) (kd vl rv : Nat → Int) (pl : Nat → Nat) (bad : Nat → Prop) (σs : MS) (G : Nat → HS) (Q : (Nat → Nat → Int32) → Prop) (lo hi i j s D : Nat) (ts sl : Nat → Nat) (τ : MS) (u : Int32 × MS) : Prop := rB lo hi τ u.2 ∧ AGM σs u.2 ∧ NT pl bad i j (flt τ) (flt u.2) ∧ (∃ (s' m' : Nat) (ts' sl' : Nat → Nat), SC T kd vl (G j) s' m' D ts' sl' ∧ WS3 rv u.2 s' m' ts' sl' ∧ s ≤ s' ∧ ∀ k, k < s → ts' k = ts k ∧ sl' k = sl k) ∧ (G j 3).1 9 = J (-1) ∧ (G j 3).1 12 = (G i 3).1 12 ∧ ((∀ d, d < D → (G j 3).2.1 10 d = (G i 3).2.1 10 d) ∧ (∀ t, i ≤ t → t ≤ j → DPT T kd vl D (G t) ∧ (G t 3).1 12 = (G i 3).1 12)) ∧ ((∀ w, i ≤ w → w < j → ¬ bad w) → Q u.2.2)
theorem AGM_mA {σs σ : MS} {k : Nat} {g : Nat → Int32} (h : AGM σs σ) (hk : k = 31 ∨ k = 32) : AGM σs (mA σ k g) := ⟨fun j hj => by rw [mA_2, if_neg (by omega)]; exact h.1 j hj, fun y a => by rw [mA_2, if_neg (by omega)]; exact h.2.1 y a, fun y a b c d => by rw [mA_2, if_neg (by omega)]; exact h.2.2 y a b c d⟩
theorem AGM_mI {σs σ : MS} {k : Nat} {v : Int32} (h : AGM σs σ) : AGM σs (mI σ k v) := h
theorem AGM_seeR {σs τ : MS} {s m y : Nat} {r : Int32} (h : AGM σs τ) (hy : σs.2 17 y = J 41) : AGM σs (seeR τ s m y r) := by
  unfold seeR
  exact AGM_21 (AGM_mI (AGM_mA (AGM_mI (AGM_mA h (Or.inl rfl))) (Or.inr rfl))) (Or.inl hy)
theorem rB_seeR {lo hi : Nat} {τ : MS} {s m y : Nat} {r : Int32} (h1 : lo ≤ y) (h2 : y < hi) : rB lo hi τ (seeR τ s m y r) := by
  unfold seeR
  refine ⟨fun k a b c d => ?_, fun k a b c d => ?_, fun k z a b c => ?_⟩
  · rw [mA_1, mI_1, if_neg d, mA_1, mI_1, if_neg c, mA_1]
  · rw [mA_2, if_neg b, mI_2, mA_2, if_neg d, mI_2, mA_2, if_neg c]
  · rw [mA_2]
    by_cases e : k = 21
    · rw [if_pos e, e, upd_s, if_neg (by omega)]
    · rw [if_neg e, mI_2, mA_2, if_neg b, mI_2, mA_2, if_neg a]
theorem WS3_seeR {τ : MS} {s m y t : Nat} {ts sl : Nat → Nat} (h : WS3 rv τ s m ts sl) (hm : m < 14) : WS3 rv (seeR τ s m y (J (rv t))) (s + 1) (m + 1) (extS ts s t) (extS sl s m) := by
  obtain ⟨w1, w2, w3, w4, w5⟩ := h
  refine ⟨rfl, rfl, by omega, by omega, fun k hk => ?_⟩
  have e31 : (seeR τ s m y (J (rv t))).2 31 k = if k = s then J (rv t) else τ.2 31 k := rfl
  have e32 : (seeR τ s m y (J (rv t))).2 32 k = if k = s then J (m : Nat) else τ.2 32 k := rfl
  rw [e31, e32]
  unfold extS
  by_cases q : k = s
  · rw [if_pos q, if_pos q, if_pos q, if_pos q]; exact ⟨rfl, rfl⟩
  · rw [if_neg q, if_neg q, if_neg q, if_neg q]; exact w5 k (by omega)
theorem seeR_flt {τ : MS} {s m y : Nat} {r : Int32} : flt (seeR τ s m y r) = flt τ := rfl
/-- a let -/
theorem mn_21 {G : Nat → HS} {Θ Γs : HS} {σs σK : MS} {DN : Nat → Nat → Nat → Prop} (hE : MEN T N kd vl rv pl G Θ Γs σs σK DN) {TX : Nat → Int → Int → Prop} {Dq : Prop} {hi x y e i j p q : Nat} (h : EX kd vl rv pl σs Γs (y + 1) hi e (i + 3) j p q) (hhi : hi ≤ 39000) (hj : j + 1 ≤ T) (hj2 : j < 4200) (hki : kd i = 242) (hk1 : kd (i + 1) = 2) (hk2 : kd (i + 2) = 61) (hk59 : kd j = 59) (hy : NMN rv pl σs y (i + 1)) (hxy : x < y) (hyh : y < hi) {s m D : Nat} {ts sl : Nat → Nat} (hC : SC T kd vl (G i) s m D ts sl) {τ : MS} (hS : STM rv σs σK τ s m ts sl) (h17 : σs.2 17 x = J 21) (h19 : σs.2 19 x = J (y : Nat)) (h20 : σs.2 20 x = J (e : Nat)) (ho : op3 Γs q 50 (i + 1 : Nat)) : Ok (MN21 (J (x : Nat)) τ) (mSt T kd vl rv pl (badB G Θ Γs kd vl) σs G (fun R => PSQ (op1 Γs) (lk3 G Θ Γs kd vl) R DN TX Dq hi x p (q + 3)) x hi i (j + 1) s D ts sl τ) := by
  obtain ⟨hT, hN, hp, hpb, hX, hG⟩ := id hE
  obtain ⟨n1, n2, n3, n4⟩ := TKE_N hT
  have r := EX_rng h
  obtain ⟨en, en2⟩ := en_of (show x < 39990 by omega)
  obtain ⟨g1, g2, g3⟩ := g_let hT hG (show i + 1 ≤ T by omega) hki hk1 hC
  have hqt := EX_quiet h
  have hq : ∀ t, i + 1 ≤ t → t < j → qs (kd t) := fun t t1 t2 => by
    by_cases e1 : t = i + 1
    · rw [e1, hk1]; unfold qs; omega
    by_cases e2 : t = i + 2
    · rw [e2, hk2]; unfold qs; omega
    exact qs_qk (hqt t (by omega) t2)
  have hGt : ∀ t, i + 1 ≤ t → t ≤ j → G t = cI' (G i) 3 9 (J (vl (i + 1))) := fun t t1 t2 => by rw [g_qq hT hG (show j ≤ T by omega) hq t1 t2, g1]
  have hC1 : SC T kd vl (cI' (G i) 3 9 (J (vl (i + 1)))) s m D ts sl := hC
  have hsm := hC.2.2.2.1
  have hGj := hGt j (by omega) (Nat.le_refl _)
  have hcj := (hG.1 j (by omega)).1
  have hGj1 : G (j + 1) = cI' (seeS (G j) s m (vl (i + 1))) 3 9 (-1) := g_f hT hG (by omega) (by rw [hk59]; unfold qt; omega) (fs_semi2 hT hcj (by omega) hk59 (by rw [hGj]; rfl) (show i + 1 ≤ T by omega) hk1 (by rw [hGj]; exact hC1) g2)
  have hCj : SC T kd vl (G (j + 1)) (s + 1) (m + 1) D (extS ts s (i + 1)) (extS sl s m) := by
    rw [hGj1, hGj]
    have z := seeS_SC (Γ := cI' (G i) 3 9 (J (vl (i + 1)))) hT hC1 g2 (show i + 1 ≤ T by omega) hk1 g3
    exact z
  unfold MN21
  rw [if_neg en, en2, st_20 hS h17 (by omega), h20]
  rw [en2] at en
  refine Ok_bind (Ok_mono (m_EX hE h hhi (by omega) (by omega) (by rw [show i + 3 - 1 = i + 2 by omega]; omega) (by omega) (show SC T kd vl (G (i + 3)) s m D ts sl by rw [hGt _ (by omega) (by omega)]; exact hC1) hS) (fun u hu => Ok_neg en ?_))
  obtain ⟨u1, u2, u3, u4⟩ := hu
  have hw := WS3_rM hS.2.2 u1
  have e19y : u.2.2 19 y = J (rv (i + 1)) := by rw [ag_k u2 (by omega)]; exact hy.2.2
  rw [ag_k u2 (by omega), h19, r_see (show y < 39990 by omega) hw.1 hw.2.1 (by omega) g2, Option.bind_some, e19y]
  refine Ok_some ⟨rB_trans (rB_rM (rM_wide u1 (by omega) (Nat.le_refl _))) (rB_seeR (by omega) hyh), AGM_seeR u2 hy.1, ?_, ⟨s + 1, m + 1, extS ts s (i + 1), extS sl s m, hCj, WS3_seeR hw g2, by omega, fun k hk => ?_⟩, by rw [hGj1]; rfl, ?_, ⟨fun d hd => ?_, fun t t1 t2 => ?_⟩, fun hn => ?_⟩
  · show NT pl _ i (j + 1) (flt τ) (flt u.2)
    refine NT_wide hp u3 (by omega) (by omega) (by omega) (fun w w1 w2 => ?_) (fun w w1 w2 => badB_eq (show w = j by omega) hk59 (by omega))
    by_cases e1 : w = i
    · exact badB_eq e1 hki (by omega)
    by_cases e2 : w = i + 1
    · rw [e2]; exact badB_let hk1 (by rw [show i + 1 - 1 = i by omega]; exact hki)
    · exact badB_eq (show w = i + 2 by omega) hk2 (by omega)
  · unfold extS
    rw [if_neg (by omega), if_neg (by omega)]; exact ⟨rfl, rfl⟩
  · rw [hGj1, show ((cI' (seeS (G j) s m (vl (i + 1))) 3 9 (-1)) 3).1 12 = (G j 3).1 12 from rfl, hGj]; rfl
  · rw [hGj1, show ((cI' (seeS (G j) s m (vl (i + 1))) 3 9 (-1)) 3).2.1 10 = (G j 3).2.1 10 from rfl, hGj]; rfl
  · by_cases q1 : t = i
    · rw [q1]; exact ⟨DPT_SC hC, rfl⟩
    by_cases q2 : t ≤ j
    · rw [hGt t (by omega) q2]; exact ⟨DPT_SC hC1, rfl⟩
    · rw [show t = j + 1 by omega]
      exact ⟨DPT_SC hCj, by rw [hGj1, show ((cI' (seeS (G j) s m (vl (i + 1))) 3 9 (-1)) 3).1 12 = (G j 3).1 12 from rfl, hGj]; rfl⟩
  · have hkk : kd (i + 1 - 1) = 242 := by rw [show i + 1 - 1 = i by omega]; exact hki
    have A := AGM_seeR (s := s) (m := m) (r := J (rv (i + 1))) u2 hy.1
    refine Or.inr (Or.inl ⟨y, e, m, q, rfl, (ag_k A (by omega) x).trans h17, (ag_k A (by omega) x).trans h19, hxy, hyh, ?_, g2, (ag_20 A h17 (by omega)).trans h20, Or.inr ⟨50, i + 1, by unfold isNO; omega, ho, by omega, ?_, ?_, fun h => by omega⟩, EQx_R (u4 (fun w w1 w2 => hn w (by omega) (by omega))) (fun kk z z0 z1 z2 => ?_)⟩)
    · show upd _ _ _ _ = _
      rw [upd_s, if_pos rfl]
    · unfold srt; rw [if_pos hkk]; rfl
    · unfold nmb; rw [if_pos hkk, g1, show ((cI' (G i) 3 9 (J (vl (i + 1)))) 3).1 8 = (G i 3).1 8 from rfl, hC.2.1, J_toInt (by omega) (by omega)]; rfl
    · show (mA (mI (mA (mI (mA u.2 31 _) 33 _) 32 _) 34 _) 21 _).2 kk z = _
      rw [mA_2]
      by_cases e21 : kk = 21
      · rw [if_pos e21, e21, upd_s, if_neg (by omega)]
      · rw [if_neg e21, mI_2, mA_2, if_neg (by omega), mI_2, mA_2, if_neg (by omega)]
theorem PST_mean {G : Nat → HS} {Θ Γs : HS} {σs σK : MS} {DN : Nat → Nat → Nat → Prop} (hE : MEN T N kd vl rv pl G Θ Γs σs σK DN) {TX : Nat → Int → Int → Prop} {Dq : Prop} (hTX : ∀ t, t ≤ T → kd t = 4 → TX (pl t) (rv t) (vl t)) {rec : GF} {hi x i j p q : Nat} (h : PST kd vl rv pl σs Γs hi x i j p q) (hxh : x < hi) (hij : i < j) (hhi : hi ≤ 39000) (hj : j + 1 ≤ T) (hk0 : kd (i - 1) ≠ 242) (hk59 : kd j = 59) {s m D : Nat} {ts sl : Nat → Nat} (hC : SC T kd vl (G i) s m D ts sl) (h9 : (G i 3).1 9 = J (-1)) {τ : MS} (hS : STM rv σs σK τ s m ts sl) (h18 : σs.2 18 x = J (pl i : Nat)) (hDq : (G i 3).1 12 = J 235 ↔ Dq) (h43 : τ.1 43 = 0 ↔ ¬ Dq) : Ok (F_X12_mean rec (J (x : Nat)) τ) (mSt T kd vl rv pl (badB G Θ Γs kd vl) σs G (fun R => PSQ (op1 Γs) (lk3 G Θ Γs kd vl) R DN TX Dq hi x p q) x hi i (j + 1) s D ts sl τ) := by
  obtain ⟨hT, hN, hp, hpb, hX, hG⟩ := id hE
  obtain ⟨n1, n2, n3, n4⟩ := TKE_N hT
  have hx : x < 39990 := by omega
  obtain ⟨z1, z2, z3⟩ := PST_quiet h
  have e17 := st_k hS (show (17 : Nat) = 17 ∨ 17 = 18 ∨ 17 = 19 ∨ 17 = 22 by omega) x
  by_cases q21 : kd i = 242
  · rcases h with ⟨f, c, k0, -⟩ | ⟨y, e, q', a1, a2, a3, a4, a5, a6, a7, a8, a9, a10, a11, a12⟩ | ⟨y, e, q', k0, -⟩ | ⟨y, e, e2, k, m', r, q', k0, -⟩ | ⟨e, e2, k, m', r, q', k0, -⟩ | ⟨w, o, e, q', k0, -⟩ | ⟨d, o, e, k, q', k0, -⟩ | ⟨w, o, k0, -⟩ | ⟨f, y, c, k, q', k0, -⟩
    · omega
    · rw [mean_k rec hx (e17.trans a5) (by omega)]
      rw [if_neg (by omega), if_pos rfl, a4]
      exact mn_21 hE a12 hhi hj (by omega) a1 a2 a3 hk59 a7 a8 a9 hC hS a5 a6 a10 a11
    · omega
    · omega
    · omega
    · unfold eTb at k0; omega
    · unfold gTb at k0; omega
    · unfold dTb at k0; omega
    · omega
  · -- the row does not change
    have hqi : qs (kd i) := by
      rcases z2 with z | z
      · exact z
      · exact absurd z.1 q21
    have hq : ∀ t, i ≤ t → t < j → qs (kd t) := fun t t1 t2 => by
      by_cases e : t = i
      · rw [e]; exact hqi
      · exact z1 t (by omega) t2
    have hGt : ∀ t, i ≤ t → t ≤ j → G t = G i := fun t t1 t2 => g_qq hT hG (show j ≤ T by omega) hq t1 t2
    have hGj : G (j + 1) = G i := by
      rw [g_semi hT hG (by omega) hk59 (by rw [hGt j (by omega) (Nat.le_refl _)]; exact h9), hGt j (by omega) (Nat.le_refl _)]
    have hCt : ∀ t, i ≤ t → t ≤ j → SC T kd vl (G t) s m D ts sl := fun t t1 t2 => by rw [hGt t t1 t2]; exact hC
    have fin : ∀ R : MR, Ok R (mPl pl (badB G Θ Γs kd vl) σs (fun R => PSQ (op1 Γs) (lk3 G Θ Γs kd vl) R DN TX Dq hi x p q) x hi i j τ) → Ok R (mSt T kd vl rv pl (badB G Θ Γs kd vl) σs G (fun R => PSQ (op1 Γs) (lk3 G Θ Γs kd vl) R DN TX Dq hi x p q) x hi i (j + 1) s D ts sl τ) := fun R hR => Ok_mono hR (fun u hu => by
      obtain ⟨u1, u2, u3, u4⟩ := hu
      refine ⟨rB_rM u1, u2, NT_wide hp u3 (Nat.le_refl _) (by omega) (by omega) (fun w w1 w2 => by omega) (fun w w1 w2 => badB_eq (show w = j by omega) hk59 (by omega)), ⟨s, m, ts, sl, by rw [hGj]; exact hC, WS3_rM hS.2.2 u1, Nat.le_refl _, fun k hk => ⟨rfl, rfl⟩⟩, by rw [hGj]; exact h9, by rw [hGj], ⟨fun d hd => by rw [hGj], fun t t1 t2 => ?_⟩, fun hn => u4 (fun w w1 w2 => hn w w1 (by omega))⟩
      by_cases q2 : t ≤ j
      · rw [hGt t t1 q2]; exact ⟨DPT_SC hC, rfl⟩
      · rw [show t = j + 1 by omega, hGj]; exact ⟨DPT_SC hC, rfl⟩)
    refine fin _ ?_
    rcases h with ⟨f, c, a1, a2, a3, a4, a5⟩ | ⟨y, e, q', a1, -⟩ | ⟨y, e, q', a1, a2, a3, a4, a5, a6, a7, a8, a9, a10, a11⟩ | ⟨y, e, e2, k, m', r, q', a1, a2, a3, a4, a5, a6, a7, a8, a9, a10, a11, a12, a13, a14, a15, a16⟩ | ⟨e, e2, k, m', r, q', a1, a2, a3, a4, a5, a6, a7, a8, a9, a10⟩ | ⟨w, o, e, q', a1, a2, a3, a4, a5, a6⟩ | ⟨d, o, e, k, q', a1, a2, a3, a4, a5, a6, a7, a8, a9, a10, a11⟩ | ⟨w, o, a1, a2, a3, a4, a5⟩ | ⟨f, y, c, k, q', a1, a2, a3, a4, a5, a6, a7, a8, a9, a10, a11, a12, a13, a14, a15⟩
    · rw [mean_k rec hx (e17.trans a3) (by omega), if_pos rfl]
      exact mn_20 hE hTX a2 a5 hhi (by omega) a1 hk59 hCt hS a3 a4 hx
    · exact absurd a1 q21
    · rw [mean_k rec hx (e17.trans a4) (by omega), if_neg (by omega), if_neg (by omega), if_pos rfl, a3]
      exact mn_22 hE a11 hhi (by omega) (by omega) a1 a2 hk0 hk59 a6 a7 hCt hS a4 a5 a9 a10
    · rw [mean_k rec hx (e17.trans a6) (by omega), if_neg (by omega), if_neg (by omega), if_neg (by omega), if_pos rfl, a5]
      exact mn_23 hE a15 a16 hhi a14 (by omega) (by omega) a1 a2 a3 a4 hk0 hk59 a8 a9 hCt hS a6 a7 a11 a12 a13
    · rw [mean_k rec hx (e17.trans a4) (by omega), if_neg (by omega), if_neg (by omega), if_neg (by omega), if_neg (by omega), if_pos rfl, a3]
      exact mn_24 hE a9 a10 hhi a8 (by omega) a1 a2 hk59 hCt hS a4 a5 a6 a7
    · rw [a2]
      have hw : (w = 25 ∧ o = 22 ∧ kd i = 245) ∨ (w = 29 ∧ o = 2 ∧ kd i = 251) := by unfold eTb at a1; omega
      rcases hw with ⟨rfl, rfl, hki⟩ | ⟨rfl, rfl, hki⟩
      · rw [mean_k rec hx (e17.trans a3) (by omega), if_neg (by omega), if_neg (by omega), if_neg (by omega), if_neg (by omega), if_neg (by omega), if_pos (by omega)]
        exact mn_25 hE a6 hhi (by omega) hki hk59 hCt hS a3 a4 a5
      · rw [mean_k rec hx (e17.trans a3) (by omega), if_neg (by omega), if_neg (by omega), if_neg (by omega), if_neg (by omega), if_neg (by omega), if_neg (by omega), if_neg (by omega), if_neg (by omega), if_pos rfl]
        exact mn_29 hE a6 hhi (by omega) hki hk59 hCt hS a3 h18 a4 a5 hDq h43
    · rw [mean_k rec hx (e17.trans a6) (by omega), if_neg (by omega), if_neg (by omega), if_neg (by omega), if_neg (by omega), if_neg (by omega), if_pos (by omega), a5, a4]
      exact mn_26 hE a11 hhi (by omega) a1 ⟨a2, a3⟩ (fun t t1 t2 => hCt t t1 (by omega)) hS a6 a7 a8 a9 a10
    · rw [a3, a2]
      have hw : (w = 30 ∧ o = 4 ∧ kd i = 252) ∨ (w = 31 ∧ o = 5 ∧ kd i = 253) ∨ (w = 32 ∧ o = 6 ∧ kd i = 254) := by unfold dTb at a1; omega
      rcases hw with ⟨rfl, rfl, hki⟩ | hw
      · rw [mean_k rec hx (e17.trans a4) (by omega), if_neg (by omega), if_neg (by omega), if_neg (by omega), if_neg (by omega), if_neg (by omega), if_neg (by omega), if_neg (by omega), if_neg (by omega), if_neg (by omega), if_pos rfl]
        exact mn_30 hE hx (by omega) hki hS a4 h18 a5 hDq h43
      · rw [mean_k rec hx (e17.trans a4) (by omega), if_neg (by omega), if_neg (by omega), if_neg (by omega), if_neg (by omega), if_neg (by omega), if_neg (by omega), if_neg (by omega), if_neg (by omega), if_neg (by omega), if_neg (by omega), if_neg (by omega)]
        refine Ok_some ⟨rM_rfl, hS.1, NT_none (fun w' w1 w2 => badB_no (by rw [show w' = i by omega]; omega) (by rw [show w' = i by omega]; omega) (by rw [show w' = i by omega]; omega)), fun _ => Or.inr (Or.inr (Or.inr (Or.inr (Or.inr (Or.inr (Or.inr (Or.inl ⟨w, o, ?_, rfl, e17.trans a4, a5⟩)))))))⟩
        unfold dTq; omega
    · rw [mean_k rec hx (e17.trans a6) (by omega), if_neg (by omega), if_neg (by omega), if_neg (by omega), if_neg (by omega), if_neg (by omega), if_neg (by omega), if_neg (by omega), if_neg (by omega), if_neg (by omega), if_neg (by omega), if_pos rfl, a5, a4]
      exact mn_33 hE a15 hhi (by omega) (by omega) a1 a2 a3 hk0 a8 a9 a10 (fun t t1 t2 => hCt t t1 (by omega)) hS a6 a7 a11 a12 a13 a14
