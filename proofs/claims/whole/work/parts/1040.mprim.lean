/-! what a statement means: frames, expressions -/
variable {T N : Nat} {kd vl rv : Nat → Int} {pl : Nat → Nat}
def rB (lo hi : Nat) (σ τ : MS) : Prop := (∀ k, k ≠ 14 → k ≠ 15 → k ≠ 33 → k ≠ 34 → τ.1 k = σ.1 k) ∧ (∀ k, k ≠ 20 → k ≠ 21 → k ≠ 31 → k ≠ 32 → τ.2 k = σ.2 k) ∧ ∀ k y, k ≠ 31 → k ≠ 32 → (y < lo ∨ hi ≤ y) → τ.2 k y = σ.2 k y
theorem rB_rfl {lo hi : Nat} {σ : MS} : rB lo hi σ σ := ⟨fun _ _ _ _ _ => rfl, fun _ _ _ _ _ => rfl, fun _ _ _ _ _ => rfl⟩
theorem rB_trans {lo hi : Nat} {σ τ υ : MS} (h : rB lo hi σ τ) (i : rB lo hi τ υ) : rB lo hi σ υ := ⟨fun k a b c d => by rw [i.1 k a b c d, h.1 k a b c d], fun k a b c d => by rw [i.2.1 k a b c d, h.2.1 k a b c d], fun k y a b c => by rw [i.2.2 k y a b c, h.2.2 k y a b c]⟩
theorem rB_wide {lo hi lo' hi' : Nat} {σ τ : MS} (h : rB lo' hi' σ τ) (h1 : lo ≤ lo') (h2 : hi' ≤ hi) : rB lo hi σ τ := ⟨h.1, h.2.1, fun k y a b c => h.2.2 k y a b (by omega)⟩
theorem rB_rM {lo hi : Nat} {σ τ : MS} (h : rM lo hi σ τ) : rB lo hi σ τ := ⟨fun k a b _ _ => h.1 k a b, fun k a b _ _ => h.2.1 k a b, fun k y _ _ c => h.2.2 k y c⟩
theorem rB_mI {lo hi k : Nat} {σ : MS} {v : Int32} (h : k = 33 ∨ k = 34) : rB lo hi σ (mI σ k v) := ⟨fun j a b c d => by rw [mI_1, if_neg (by omega)], fun _ _ _ _ _ => rfl, fun _ _ _ _ _ => rfl⟩
theorem K3_rB {lo hi : Nat} {σK τ υ : MS} (h : K3 σK τ) (i : rB lo hi τ υ) : K3 σK υ := ⟨by rw [i.2.1 28 (by omega) (by omega) (by omega) (by omega)]; exact h.1, by rw [i.2.1 29 (by omega) (by omega) (by omega) (by omega)]; exact h.2.1, by rw [i.2.1 30 (by omega) (by omega) (by omega) (by omega)]; exact h.2.2⟩
theorem WS3_rM {lo hi : Nat} {τ υ : MS} {s m : Nat} {ts sl : Nat → Nat} (h : WS3 rv τ s m ts sl) (i : rM lo hi τ υ) : WS3 rv υ s m ts sl := by
  unfold WS3
  rw [i.1 33 (by omega) (by omega), i.1 34 (by omega) (by omega), i.2.1 31 (by omega) (by omega), i.2.1 32 (by omega) (by omega)]
  exact h
/-- all that is known of the words, the names and the row -/
def MEN (T N : Nat) (kd vl rv : Nat → Int) (pl : Nat → Nat) (G : Nat → HS) (Θ Γs : HS) (σs σK : MS) (DN : Nat → Nat → Nat → Prop) : Prop := TKE T N kd vl rv pl ∧ NMI T kd vl rv ∧ plm T pl ∧ (∀ i, i ≤ T + 1 → pl i ≤ 5000) ∧ CTX T kd vl rv G Θ Γs σs σK DN ∧ GRW T N kd vl pl G
def mEq (pl : Nat → Nat) (bad : Nat → Prop) (σs : MS) (O1 : Nat → Int → Prop) (O3 : Nat → Int → Int → Prop) (DN : Nat → Nat → Nat → Prop) (lo hi x i j p q : Nat) (τ : MS) (u : Int32 × MS) : Prop := rM lo hi τ u.2 ∧ AGM σs u.2 ∧ NT pl bad i j (flt τ) (flt u.2) ∧ ((∀ w, i ≤ w → w < j → ¬ bad w) → EQx O1 O3 u.2.2 DN lo hi x p q)
theorem m_EX {G : Nat → HS} {Θ Γs : HS} {σs σK : MS} {DN : Nat → Nat → Nat → Prop} (hE : MEN T N kd vl rv pl G Θ Γs σs σK DN) {lo hi x i j p q : Nat} (h : EX kd vl rv pl σs Γs lo hi x i j p q) (hhi : hi ≤ 39000) (hj : j ≤ T) (hi1 : 1 ≤ i) (hk1 : kd (i - 1) ≠ 242) (hk61 : kd j ≠ 61) {s m D : Nat} {ts sl : Nat → Nat} (hC : SC T kd vl (G i) s m D ts sl) {τ : MS} (hS : STM rv σs σK τ s m ts sl) : Ok (G_X12_meanExpression (J (x : Nat)) τ) (mEq pl (badB G Θ Γs kd vl) σs (op1 Γs) (lk3 G Θ Γs kd vl) DN lo hi x i j p q τ) := by
  obtain ⟨hT, hN, hp, hpb, hX, hG⟩ := hE
  have hT1 := hT.1
  obtain ⟨n, h, hb⟩ := h
  have e : G_X12_meanExpression (J (x : Nat)) τ = loopF (Mx1 (gX 1399)) FU (J (x : Nat), τ) := gX_00 1399 _ _
  rw [e]
  exact Ok_mono (m_loop hT hN hp hpb hX n _ _ _ _ _ _ _ h hhi hj hi1 hk1 hk61 s m D ts sl hC 1399 FU τ (by omega) (FU_gt (by omega)) hS) (fun u hu => ⟨hu.1, hu.2.1, hu.2.2.1, fun hn => ⟨n, j - i, hb, by omega, hu.2.2.2 hn⟩⟩)
/-- what a statement without blocks and without let gives -/
def mPl (pl : Nat → Nat) (bad : Nat → Prop) (σs : MS) (P : (Nat → Nat → Int32) → Prop) (lo hi i j : Nat) (τ : MS) (u : Int32 × MS) : Prop := rM lo hi τ u.2 ∧ AGM σs u.2 ∧ NT pl bad i j (flt τ) (flt u.2) ∧ ((∀ w, i ≤ w → w < j → ¬ bad w) → P u.2.2)
theorem en_of {x : Nat} (hx : x < 39990) : ¬ (J (x : Nat) < 0 ∨ 40000 ≤ (J (x : Nat)).toNatClampNeg) ∧ (J (x : Nat)).toNatClampNeg = x := ⟨g_en (by omega), (ng (by omega)).2⟩
theorem J_n {u v : Int} (u1 : 0 ≤ u ∧ u < 1000) (v1 : 0 ≤ v ∧ v < 1000) (h : u ≠ v) : J u ≠ J v := J_ne u1.1 u1.2 v1.1 v1.2 h
theorem st_20 {σs σK τ : MS} {s m y : Nat} {ts sl : Nat → Nat} (h : STM rv σs σK τ s m ts sl) {w : Int} (h17 : σs.2 17 y = J w) (hw : 0 ≤ w ∧ w < 1000 ∧ w ≠ 41) : τ.2 20 y = σs.2 20 y := h.1.2.1 y (by rw [h17]; exact J_n (by omega) (by omega) (by omega))
theorem st_21 {σs σK τ : MS} {s m y : Nat} {ts sl : Nat → Nat} (h : STM rv σs σK τ s m ts sl) {w : Int} (h17 : σs.2 17 y = J w) (hw : 0 ≤ w ∧ w < 1000 ∧ w ≠ 41 ∧ w ≠ 42 ∧ w ≠ 43 ∧ w ≠ 33) : τ.2 21 y = σs.2 21 y := h.1.2.2 y (by rw [h17]; exact J_n (by omega) (by omega) (by omega)) (by rw [h17]; exact J_n (by omega) (by omega) (by omega)) (by rw [h17]; exact J_n (by omega) (by omega) (by omega)) (by rw [h17]; exact J_n (by omega) (by omega) (by omega))
theorem st_k {σs σK τ : MS} {s m k : Nat} {ts sl : Nat → Nat} (h : STM rv σs σK τ s m ts sl) (hk : k = 17 ∨ k = 18 ∨ k = 19 ∨ k = 22) (y : Nat) : τ.2 k y = σs.2 k y := congrFun (h.1.1 k hk) y
theorem ag_20 {σs υ : MS} (h : AGM σs υ) {y : Nat} {w : Int} (h17 : σs.2 17 y = J w) (hw : 0 ≤ w ∧ w < 1000 ∧ w ≠ 41) : υ.2 20 y = σs.2 20 y := h.2.1 y (by rw [h17]; exact J_n (by omega) (by omega) (by omega))
theorem ag_21 {σs υ : MS} (h : AGM σs υ) {y : Nat} {w : Int} (h17 : σs.2 17 y = J w) (hw : 0 ≤ w ∧ w < 1000 ∧ w ≠ 41 ∧ w ≠ 42 ∧ w ≠ 43 ∧ w ≠ 33) : υ.2 21 y = σs.2 21 y := h.2.2 y (by rw [h17]; exact J_n (by omega) (by omega) (by omega)) (by rw [h17]; exact J_n (by omega) (by omega) (by omega)) (by rw [h17]; exact J_n (by omega) (by omega) (by omega)) (by rw [h17]; exact J_n (by omega) (by omega) (by omega))
theorem ag_k {σs υ : MS} (h : AGM σs υ) {k : Nat} (hk : k = 17 ∨ k = 18 ∨ k = 19 ∨ k = 22) (y : Nat) : υ.2 k y = σs.2 k y := congrFun (h.1 k hk) y
/-- one expression -/
theorem mn_one {G : Nat → HS} {Θ Γs : HS} {σs σK : MS} {DN : Nat → Nat → Nat → Prop} (hE : MEN T N kd vl rv pl G Θ Γs σs σK DN) {lo hi x e i k j p q : Nat} (h : EX kd vl rv pl σs Γs lo hi e k j p q) (hhi : hi ≤ 39000) (hj : j ≤ T) (hik : i < k) (hq : ∀ t, i ≤ t → t < k → ¬ badB G Θ Γs kd vl t) (hk1 : kd (k - 1) ≠ 242) (hk61 : kd j ≠ 61) (hx : x < 39990) {s m D : Nat} {ts sl : Nat → Nat} (hC : SC T kd vl (G k) s m D ts sl) {τ : MS} (hS : STM rv σs σK τ s m ts sl) (h19 : σs.2 19 x = J (e : Nat)) : Ok (MN25 (J (x : Nat)) τ) (mEq pl (badB G Θ Γs kd vl) σs (op1 Γs) (lk3 G Θ Γs kd vl) DN lo hi e i j p q τ) := by
  have hp := hE.2.2.1
  obtain ⟨en, en2⟩ := en_of hx
  have r := EX_rng h
  unfold MN25
  rw [en2] at en ⊢
  rw [if_neg en, st_k hS (by omega), h19]
  refine Ok_bind (Ok_mono (m_EX hE h hhi hj (by omega) hk1 hk61 hC hS) (fun u hu => Ok_some ?_))
  obtain ⟨u1, u2, u3, u4⟩ := hu
  exact ⟨u1, u2, NT_wide hp u3 (by omega) (Nat.le_refl _) (by omega) (fun w w1 w2 => hq w w1 w2) (fun w w1 w2 => by omega), fun hn => u4 (fun w w1 w2 => hn w (by omega) w2)⟩
/-- two expressions -/
theorem mn_24 {G : Nat → HS} {Θ Γs : HS} {σs σK : MS} {DN : Nat → Nat → Nat → Prop} (hE : MEN T N kd vl rv pl G Θ Γs σs σK DN) {TX : Nat → Int → Int → Prop} {Dq : Prop} {hi x e e2 i k j mm p r q : Nat} (h1 : EX kd vl rv pl σs Γs (x + 1) mm e (i + 1) k p r) (h2 : EX kd vl rv pl σs Γs mm hi e2 (k + 1) j r q) (hhi : hi ≤ 39000) (hm : mm ≤ hi) (hj : j ≤ T) (hki : kd i = 243) (hkk : kd k = 244) (hk61 : kd j = 59) {s m D : Nat} {ts sl : Nat → Nat} (hC : ∀ t, i ≤ t → t ≤ j → SC T kd vl (G t) s m D ts sl) {τ : MS} (hS : STM rv σs σK τ s m ts sl) (h17 : σs.2 17 x = J 24) (h19 : σs.2 19 x = J (e : Nat)) (h20 : σs.2 20 x = J (e2 : Nat)) (h32 : op1 Γs q 32) : Ok (MN24 (J (x : Nat)) τ) (mPl pl (badB G Θ Γs kd vl) σs (fun R => PSQ (op1 Γs) (lk3 G Θ Γs kd vl) R DN TX Dq hi x p (q + 1)) x hi i j τ) := by
  obtain ⟨hT, hN, hp, hpb, hX, hG⟩ := id hE
  have r1 := EX_rng h1
  have r2 := EX_rng h2
  obtain ⟨en, en2⟩ := en_of (show x < 39990 by omega)
  unfold MN24
  rw [en2] at en ⊢
  rw [if_neg en, st_k hS (by omega), h19]
  refine Ok_bind (Ok_mono (m_EX hE h1 (by omega) (by omega) (by omega) (by rw [show i + 1 - 1 = i by omega]; omega) (by omega) (hC _ (by omega) (by omega)) hS) (fun u hu => Ok_neg en ?_))
  obtain ⟨u1, u2, u3, u4⟩ := hu
  have hS2 := STM_rM hS u1 u2
  rw [ag_20 u2 h17 (by omega), h20]
  refine Ok_bind (Ok_mono (m_EX hE h2 hhi hj (by omega) (by rw [show k + 1 - 1 = k by omega]; omega) (by omega) (hC _ (by omega) (by omega)) hS2) (fun v hv => Ok_some ?_))
  obtain ⟨v1, v2, v3, v4⟩ := hv
  refine ⟨rM_trans (rM_wide u1 (by omega) hm) (rM_wide v1 (by omega) (Nat.le_refl _)), v2, ?_, fun hn => ?_⟩
  · refine NT_lr hp hpb (k := k + 1) (NT_wide hp u3 (by omega) (by omega) (by omega) (fun w w1 w2 => badB_eq (show w = i by omega) hki (by omega)) (fun w w1 w2 => badB_eq (show w = k by omega) hkk (by omega))) v3 (by omega) (by omega) (by omega)
  · refine Or.inr (Or.inr (Or.inr (Or.inr (Or.inl ⟨e, e2, mm, r, q, rfl, ?_, ?_, ?_, h32, hm, ?_, ?_⟩))))
    · show v.2.2 17 x = _; rw [ag_k v2 (by omega)]; exact h17
    · show v.2.2 19 x = _; rw [ag_k v2 (by omega)]; exact h19
    · show v.2.2 20 x = _; rw [ag_20 v2 h17 (by omega)]; exact h20
    · exact EQx_R (u4 (fun w w1 w2 => hn w (by omega) (by omega))) (fun kk y _ y1 y2 => v1.2.2 kk y (by omega))
    · exact v4 (fun w w1 w2 => hn w (by omega) (by omega))
