/-! what statements without blocks mean -/
variable {T N : Nat} {kd vl rv : Nat → Int} {pl : Nat → Nat}
theorem bad_251 {G : Nat → HS} {Θ Γs : HS} {i : Nat} (h : kd i = 251) : badB G Θ Γs kd vl i ↔ (G i 3).1 12 ≠ J 235 := by
  constructor
  · rintro (h' | h' | h')
    · omega
    · exact h'.2
    · omega
  · intro h'; exact Or.inr (Or.inl ⟨h, h'⟩)
theorem bad_252 {G : Nat → HS} {Θ Γs : HS} {i : Nat} (h : kd i = 252) : badB G Θ Γs kd vl i ↔ (G i 3).1 12 = J 235 := by
  constructor
  · rintro (h' | h' | h')
    · omega
    · omega
    · exact h'.2
  · intro h'; exact Or.inr (Or.inr ⟨h, h'⟩)
theorem rM_zero {lo hi : Nat} {τ : MS} {a : Int32 × Int32} : rM lo hi τ (noF τ a) := rM_noF
/-- remove -/
theorem mn_25 {G : Nat → HS} {Θ Γs : HS} {σs σK : MS} {DN : Nat → Nat → Nat → Prop} (hE : MEN T N kd vl rv pl G Θ Γs σs σK DN) {TX : Nat → Int → Int → Prop} {Dq : Prop} {hi x e i j p q : Nat} (h : EX kd vl rv pl σs Γs (x + 1) hi e (i + 1) j p q) (hhi : hi ≤ 39000) (hj : j ≤ T) (hki : kd i = 245) (hk61 : kd j = 59) {s m D : Nat} {ts sl : Nat → Nat} (hC : ∀ t, i ≤ t → t ≤ j → SC T kd vl (G t) s m D ts sl) {τ : MS} (hS : STM rv σs σK τ s m ts sl) (h17 : σs.2 17 x = J 25) (h19 : σs.2 19 x = J (e : Nat)) (ho : op1 Γs q 22) : Ok (MN25 (J (x : Nat)) τ) (mPl pl (badB G Θ Γs kd vl) σs (fun R => PSQ (op1 Γs) (lk3 G Θ Γs kd vl) R DN TX Dq hi x p (q + 1)) x hi i j τ) := by
  have r := EX_rng h
  refine Ok_mono (mn_one hE h hhi hj (show i < i + 1 by omega) (fun t t1 t2 => badB_eq (show t = i by omega) hki (by omega)) (by rw [show i + 1 - 1 = i by omega]; omega) (by omega) (by omega) (hC _ (by omega) (by omega)) hS h19) (fun u hu => ?_)
  obtain ⟨u1, u2, u3, u4⟩ := hu
  refine ⟨rM_wide u1 (by omega) (Nat.le_refl _), u2, u3, fun hn => Or.inr (Or.inr (Or.inr (Or.inr (Or.inr (Or.inl ⟨25, 22, e, q, Or.inl ⟨rfl, rfl⟩, rfl, ?_, ?_, ho, u4 hn⟩)))))⟩
  · show u.2.2 17 x = _; rw [ag_k u2 (by omega)]; exact h17
  · show u.2.2 19 x = _; rw [ag_k u2 (by omega)]; exact h19
/-- set and clear of an attribute -/
theorem mn_26 {G : Nat → HS} {Θ Γs : HS} {σs σK : MS} {DN : Nat → Nat → Nat → Prop} (hE : MEN T N kd vl rv pl G Θ Γs σs σK DN) {TX : Nat → Int → Int → Prop} {Dq : Prop} {hi x e i k p q : Nat} {d o : Int} (h : EX kd vl rv pl σs Γs (x + 1) hi e (i + 1) k p q) (hhi : hi ≤ 39000) (hj : k + 1 ≤ T) (hg : gTb (kd i) d o) (hkk : 206 ≤ kd k ∧ kd k ≤ 211) {s m D : Nat} {ts sl : Nat → Nat} (hC : ∀ t, i ≤ t → t ≤ k + 1 → SC T kd vl (G t) s m D ts sl) {τ : MS} (hS : STM rv σs σK τ s m ts sl) (h17 : σs.2 17 x = J 26) (h19 : σs.2 19 x = J (e : Nat)) (h20 : σs.2 20 x = J (kd k - 206)) (h21 : σs.2 21 x = J d) (ho : op3 Γs q o (kd k - 206)) : Ok (MN25 (J (x : Nat)) τ) (mPl pl (badB G Θ Γs kd vl) σs (fun R => PSQ (op1 Γs) (lk3 G Θ Γs kd vl) R DN TX Dq hi x p (q + 3)) x hi i (k + 1) τ) := by
  have hp := hE.2.2.1
  have r := EX_rng h
  have hg2 : gTq d o ∧ (kd i = 246 ∨ kd i = 247) := by unfold gTb at hg; unfold gTq; omega
  refine Ok_mono (mn_one hE h hhi (by omega) (show i < i + 1 by omega) (fun t t1 t2 => badB_no (by rw [show t = i by omega]; omega) (by rw [show t = i by omega]; omega) (by rw [show t = i by omega]; omega)) (by rw [show i + 1 - 1 = i by omega]; omega) (by omega) (by omega) (hC _ (by omega) (by omega)) hS h19) (fun u hu => ?_)
  obtain ⟨u1, u2, u3, u4⟩ := hu
  refine ⟨rM_wide u1 (by omega) (Nat.le_refl _), u2, NT_wide hp u3 (Nat.le_refl _) (by omega) (by omega) (fun w w1 w2 => by omega) (fun w w1 w2 => badB_no (by rw [show w = k by omega]; omega) (by rw [show w = k by omega]; omega) (by rw [show w = k by omega]; omega)), fun hn => Or.inr (Or.inr (Or.inr (Or.inr (Or.inr (Or.inr (Or.inl ⟨d, o, kd k - 206, e, q, hg2.1, by omega, by omega, rfl, ?_, ?_, ?_, ?_, lk3_op ho (by unfold isNO; unfold gTq at hg2; omega), u4 (fun w w1 w2 => hn w w1 (by omega))⟩))))))⟩
  · show u.2.2 17 x = _; rw [ag_k u2 (by omega)]; exact h17
  · show u.2.2 19 x = _; rw [ag_k u2 (by omega)]; exact h19
  · show u.2.2 20 x = _; rw [ag_20 u2 h17 (by omega)]; exact h20
  · show u.2.2 21 x = _; rw [ag_21 u2 h17 (by omega)]; exact h21
/-- return -/
theorem mn_29 {G : Nat → HS} {Θ Γs : HS} {σs σK : MS} {DN : Nat → Nat → Nat → Prop} (hE : MEN T N kd vl rv pl G Θ Γs σs σK DN) {TX : Nat → Int → Int → Prop} {Dq : Prop} {hi x e i j p q : Nat} (h : EX kd vl rv pl σs Γs (x + 1) hi e (i + 1) j p q) (hhi : hi ≤ 39000) (hj : j ≤ T) (hki : kd i = 251) (hk61 : kd j = 59) {s m D : Nat} {ts sl : Nat → Nat} (hC : ∀ t, i ≤ t → t ≤ j → SC T kd vl (G t) s m D ts sl) {τ : MS} (hS : STM rv σs σK τ s m ts sl) (h17 : σs.2 17 x = J 29) (h18 : σs.2 18 x = J (pl i : Nat)) (h19 : σs.2 19 x = J (e : Nat)) (ho : op1 Γs q 2) (hDq : (G i 3).1 12 = J 235 ↔ Dq) (h43 : τ.1 43 = 0 ↔ ¬ Dq) : Ok (MN29 (J (x : Nat)) τ) (mPl pl (badB G Θ Γs kd vl) σs (fun R => PSQ (op1 Γs) (lk3 G Θ Γs kd vl) R DN TX Dq hi x p (q + 1)) x hi i j τ) := by
  obtain ⟨hT, hN, hp, hpb, hX, hG⟩ := id hE
  have hT1 := hT.1
  have r := EX_rng h
  obtain ⟨en, en2⟩ := en_of (show x < 39990 by omega)
  have hb := bad_251 (vl := vl) (G := G) (Θ := Θ) (Γs := Γs) hki
  unfold MN29
  rw [bndE]
  rw [en2] at en ⊢
  have key : ∀ υ : MS, STM rv σs σK υ s m ts sl → rM x hi τ υ → NT pl (badB G Θ Γs kd vl) i (i + 1) (flt τ) (flt υ) → Ok (if J (x : Nat) < 0 ∨ 40000 ≤ x then none else (G_X12_meanExpression (υ.2 19 x) υ).bind fun u_217 => some ((0 : Int32), u_217.2)) (mPl pl (badB G Θ Γs kd vl) σs (fun R => PSQ (op1 Γs) (lk3 G Θ Γs kd vl) R DN TX Dq hi x p (q + 1)) x hi i j τ) := by
    intro υ hυ hr hn1
    rw [if_neg en, st_k hυ (by omega), h19]
    refine Ok_bind (Ok_mono (m_EX hE h hhi hj (by omega) (by rw [show i + 1 - 1 = i by omega]; omega) (by omega) (hC _ (by omega) (by omega)) hυ) (fun u hu => Ok_some ?_))
    obtain ⟨u1, u2, u3, u4⟩ := hu
    refine ⟨rM_trans hr (rM_wide u1 (by omega) (Nat.le_refl _)), u2, NT_lr hp hpb (k := i + 1) hn1 u3 (by omega) (by omega) (by omega), fun hn => Or.inr (Or.inr (Or.inr (Or.inr (Or.inr (Or.inl ⟨29, 2, e, q, Or.inr ⟨rfl, rfl, ?_⟩, rfl, ?_, ?_, ho, u4 (fun w w1 w2 => hn w (by omega) w2)⟩)))))⟩
    · have := hn i (Nat.le_refl _) (by omega)
      rw [hb] at this
      exact hDq.mp (Classical.byContradiction this)
    · show u.2.2 17 x = _; rw [ag_k u2 (by omega)]; exact h17
    · show u.2.2 19 x = _; rw [ag_k u2 (by omega)]; exact h19
  by_cases q0 : τ.1 43 = 0
  · rw [if_pos q0, if_neg en, st_k hS (by omega), h18, r_wrong, Option.bind_some]
    have hbad : badB G Θ Γs kd vl i := hb.mpr (fun h' => h43.mp q0 (hDq.mp h'))
    exact key _ (STM_rM hS (rM_noF (lo := 0) (hi := 0)) (AGM_noF hS.1)) rM_noF (NT_one hpb (by omega) (fun _ => rfl) (fun h => absurd hbad h))
  · rw [if_neg q0]
    have hbad : ¬ badB G Θ Γs kd vl i := fun h' => hb.mp h' (hDq.mpr (Classical.byContradiction (fun h => q0 (h43.mpr h))))
    exact key τ hS rM_rfl (NT_one hpb (by omega) (fun h => absurd h hbad) (fun _ => rfl))
/-- done, win, lose -/
theorem mn_30 {G : Nat → HS} {Θ Γs : HS} {σs σK : MS} {DN : Nat → Nat → Nat → Prop} (hE : MEN T N kd vl rv pl G Θ Γs σs σK DN) {TX : Nat → Int → Int → Prop} {Dq : Prop} {hi x i p : Nat} (hx : x < 39990) (hi2 : i + 1 ≤ T) (hki : kd i = 252) {s m : Nat} {ts sl : Nat → Nat} {τ : MS} (hS : STM rv σs σK τ s m ts sl) (h17 : σs.2 17 x = J 30) (h18 : σs.2 18 x = J (pl i : Nat)) (ho : op1 Γs p 4) (hDq : (G i 3).1 12 = J 235 ↔ Dq) (h43 : τ.1 43 = 0 ↔ ¬ Dq) : Ok (MN30 (J (x : Nat)) τ) (mPl pl (badB G Θ Γs kd vl) σs (fun R => PSQ (op1 Γs) (lk3 G Θ Γs kd vl) R DN TX Dq hi x p (p + 1)) x hi i (i + 1) τ) := by
  obtain ⟨hT, hN, hp, hpb, hX, hG⟩ := id hE
  obtain ⟨en, en2⟩ := en_of hx
  have hb := bad_252 (vl := vl) (G := G) (Θ := Θ) (Γs := Γs) hki
  unfold MN30
  rw [en2] at en ⊢
  by_cases q0 : τ.1 43 = 0
  · rw [if_pos q0]
    have hbad : ¬ badB G Θ Γs kd vl i := fun h' => h43.mp q0 (hDq.mp (hb.mp h'))
    refine Ok_some ⟨rM_rfl, hS.1, NT_one hpb (by omega) (fun h => absurd h hbad) (fun _ => rfl), fun _ => Or.inr (Or.inr (Or.inr (Or.inr (Or.inr (Or.inr (Or.inr (Or.inl ⟨30, 4, Or.inl ⟨rfl, rfl, h43.mp q0⟩, rfl, ?_, ho⟩)))))))⟩
    rw [st_k hS (by omega)]; exact h17
  · rw [if_neg q0, if_neg en, st_k hS (by omega), h18, r_wrong, Option.bind_some]
    have hbad : badB G Θ Γs kd vl i := hb.mpr (hDq.mpr (Classical.byContradiction (fun h => q0 (h43.mpr h))))
    exact Ok_some ⟨rM_noF, AGM_noF hS.1, NT_one hpb (by omega) (fun _ => rfl) (fun h => absurd hbad h), fun hn => absurd hbad (hn i (Nat.le_refl _) (by omega))⟩
/-- a var or a seen name is set -/
theorem mn_22 {G : Nat → HS} {Θ Γs : HS} {σs σK : MS} {DN : Nat → Nat → Nat → Prop} (hE : MEN T N kd vl rv pl G Θ Γs σs σK DN) {TX : Nat → Int → Int → Prop} {Dq : Prop} {hi x y e i j p q : Nat} (h : EX kd vl rv pl σs Γs (y + 1) hi e (i + 2) j p q) (hhi : hi ≤ 39000) (hj : j ≤ T) (hj2 : j < 4200) (hki : kd i = 2) (hk1 : kd (i + 1) = 61) (hk0 : kd (i - 1) ≠ 242) (hk61 : kd j = 59) (hy : NMN rv pl σs y i) (hxy : x < y) {s m D : Nat} {ts sl : Nat → Nat} (hC : ∀ t, i ≤ t → t ≤ j → SC T kd vl (G t) s m D ts sl) {τ : MS} (hS : STM rv σs σK τ s m ts sl) (h17 : σs.2 17 x = J 22) (h19 : σs.2 19 x = J (y : Nat)) (h20 : σs.2 20 x = J (e : Nat)) (ho : op3 Γs q 50 (i : Nat)) : Ok (MN22 (J (x : Nat)) τ) (mPl pl (badB G Θ Γs kd vl) σs (fun R => PSQ (op1 Γs) (lk3 G Θ Γs kd vl) R DN TX Dq hi x p (q + 3)) x hi i j τ) := by
  obtain ⟨hT, hN, hp, hpb, hX, hG⟩ := id hE
  obtain ⟨hX1, hX2, hX3, hX4⟩ := hX
  have r := EX_rng h
  obtain ⟨en, en2⟩ := en_of (show x < 39990 by omega)
  obtain ⟨gn, gn2⟩ := en_of (show y < 39990 by omega)
  have hiT : i ≤ T := by omega
  have hC0 := hC i (Nat.le_refl _) (by omega)
  have hKE := KE_K hX2 hS.2.1
  obtain ⟨c1, c2⟩ := srt_n (vl := vl) (G := G) (Θ := Θ) hk0
  obtain ⟨b1, b2, b3⟩ := hKE i hiT hki
  obtain ⟨z, e1, e2⟩ := r_means hT hN hC0 hS.2.2 hKE hiT hki (show y < 39990 by omega) (by rw [st_k hS (by omega)]; exact hy.2.2) (ob := 0) (Or.inl rfl)
  have hsn := snF_of hT hC0 hiT hki
  have hbi : badB G Θ Γs kd vl i ↔ ¬ (snF G vl i ≠ 0 ∨ ksF Θ vl i = 4) := by
    constructor
    · rintro (⟨-, -, h' | h' | h' | h'⟩ | h' | h')
      · omega
      · omega
      · rw [c1] at h'
        intro h2
        rcases h2 with h2 | h2
        · rw [if_neg h2] at h'; omega
        · split at h' <;> omega
      · omega
      · omega
      · omega
    · intro h'
      refine Or.inl ⟨hki, hk0, Or.inr (Or.inr (Or.inl ⟨hk1, ?_⟩))⟩
      rw [c1]
      split <;> omega
  have A2 := AGM_mnR (B := mnB G vl rv τ i) (D := mnD G vl rv τ i) hS.1 hy.1
  have R2 : rM x hi τ (mnR τ y (mnB G vl rv τ i) (mnD G vl rv τ i)) := rM_mnR (by omega) (by omega)
  unfold MN22
  rw [en2] at en ⊢
  rw [if_neg en, st_k hS (by omega), h19, show F_X12_means (J (y : Nat)) 0 τ = _ from e1, Option.bind_some, bndE]
  have key : ∀ υ : MS, AGM σs υ → rM x hi τ υ → υ.2 = (mnR τ y (mnB G vl rv τ i) (mnD G vl rv τ i)).2 → NT pl (badB G Θ Γs kd vl) i (i + 1) (flt τ) (flt υ) → Ok (if J (x : Nat) < 0 ∨ 40000 ≤ x then none else (G_X12_meanExpression (υ.2 20 x) υ).bind fun u_59 => some ((0 : Int32), u_59.2)) (mPl pl (badB G Θ Γs kd vl) σs (fun R => PSQ (op1 Γs) (lk3 G Θ Γs kd vl) R DN TX Dq hi x p (q + 3)) x hi i j τ) := by
    intro υ hA hr heq hn1
    rw [if_neg en, ag_20 hA h17 (by omega), h20]
    refine Ok_bind (Ok_mono (m_EX hE h hhi hj (by omega) (by rw [show i + 2 - 1 = i + 1 by omega]; omega) (by omega) (hC _ (by omega) (by omega)) (STM_rM hS hr hA)) (fun u hu => Ok_some ?_))
    obtain ⟨u1, u2, u3, u4⟩ := hu
    refine ⟨rM_trans hr (rM_wide u1 (by omega) (Nat.le_refl _)), u2, NT_lr hp hpb (k := i + 1) hn1 (NT_wide hp u3 (by omega) (Nat.le_refl _) (by omega) (fun w w1 w2 => badB_eq (show w = i + 1 by omega) hk1 (by omega)) (fun w w1 w2 => by omega)) (by omega) (by omega) (by omega), fun hn => ?_⟩
    have hg := hn i (Nat.le_refl _) (by omega)
    rw [hbi] at hg
    have hg : snF G vl i ≠ 0 ∨ ksF Θ vl i = 4 := Classical.byContradiction hg
    have e20 : u.2.2 20 y = mnB G vl rv τ i := by
      rw [u1.2.2 20 y (by omega), heq]; unfold mnR; rw [mA_2, if_neg (by omega), mA_2, if_pos rfl, upd_s, if_pos rfl]
    have e21 : u.2.2 21 y = mnD G vl rv τ i := by
      rw [u1.2.2 21 y (by omega), heq]; unfold mnR; rw [mA_2, if_pos rfl, upd_s, if_pos rfl]
    have fin : ∀ (b o : Int) (k : Nat), mnB G vl rv τ i = J b → mnD G vl rv τ i = J (k : Nat) → ((b = 9 ∧ k < 14 ∧ o = 38) ∨ (b = 4 ∧ k < 100 ∧ o = 37)) → o = lnkO 50 (srt G Θ kd vl i) → ((k : Nat) : Int) = (nmb G Θ kd vl i : Nat) → PSQ (op1 Γs) (lk3 G Θ Γs kd vl) u.2.2 DN TX Dq hi x p (q + 3) := by
      intro b o k hB hD hbo ho2 hk2
      refine Or.inr (Or.inr (Or.inl ⟨y, e, k, q, b, o, rfl, ?_, ?_, hxy, by omega, by rw [e20, hB], by rw [e21, hD], hbo, ?_, Or.inr ⟨50, i, by unfold isNO; omega, ho, by omega, ho2, hk2, fun h => by omega⟩, u4 (fun w w1 w2 => hn w (by omega) w2)⟩))
      · rw [ag_k u2 (by omega)]; exact h17
      · rw [ag_k u2 (by omega)]; exact h19
      · rw [ag_20 u2 h17 (by omega)]; exact h20
    rcases hsn with ⟨t', t1, t2, t3, t4⟩ | ⟨t1, t2⟩
    · have h0 : snF G vl i ≠ 0 := by omega
      refine fin 9 38 (sl t') ?_ ?_ (Or.inl ⟨rfl, t4, rfl⟩) ?_ ?_
      · unfold mnB; rw [if_neg h0]
      · unfold mnD; rw [if_neg h0, t3]; congr 1; omega
      · rw [c1, if_neg h0]; rfl
      · rw [c2, if_neg h0, t3]; omega
    · have h4 : ksF Θ vl i = 4 := by rcases hg with h' | h'; exact absurd t2 h'; exact h'
      refine fin 4 37 (nsF Θ vl i) ?_ ?_ (Or.inr ⟨rfl, (hX4 i hiT hki).1 h4, rfl⟩) ?_ ?_
      · unfold mnB; rw [if_pos t2, b1, h4]
      · unfold mnD; rw [if_pos t2]; exact b2 (by omega)
      · rw [c1, if_pos t2, h4]; rfl
      · rw [c2, if_pos t2]
  rcases e2 with ⟨z1, e2⟩ | ⟨z0, e2⟩
  · subst z1
    dsimp only
    rw [if_neg (show ¬ (1 : Int32) = 0 by decide)]
    have hbad : ¬ badB G Θ Γs kd vl i := fun h' => hbi.mp h' (by rcases e2 with h' | h' | h'; exact Or.inl h'; exact Or.inr h'; exact absurd h'.1 (by omega))
    exact key _ A2 R2 rfl (NT_one hpb (by omega) (fun h => absurd h hbad) (fun _ => rfl))
  · subst z0
    have hbad : badB G Θ Γs kd vl i := hbi.mpr (fun h' => e2 (by rcases h' with h' | h'; exact Or.inl h'; exact Or.inr (Or.inl h')))
    rw [en2] at *
    dsimp only
    rw [if_pos rfl, if_neg en, bndE]
    have e19 : (mnR τ y (mnB G vl rv τ i) (mnD G vl rv τ i)).2 19 x = J (y : Nat) := by rw [ag_k A2 (by omega)]; exact h19
    rw [e19, if_neg gn, gn2, show (mnR τ y (mnB G vl rv τ i) (mnD G vl rv τ i)).2 18 y = J (pl i : Nat) by rw [ag_k A2 (by omega)]; exact hy.2.1, r_wrong, Option.bind_some]
    exact key _ (AGM_noF A2) (rM_trans R2 rM_noF) rfl (NT_one hpb (by omega) (fun _ => rfl) (fun h => absurd hbad h))
