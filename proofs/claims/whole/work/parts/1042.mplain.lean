/-! what statements without blocks mean: cells, says, calls -/
variable {T N : Nat} {kd vl rv : Nat → Int} {pl : Nat → Nat}
def C84 (p0 : Int32) (σ_83 : MS) : MR := if p0 < 0 ∨ 40000 ≤ p0.toNatClampNeg then none else if p0 < 0 ∨ 40000 ≤ p0.toNatClampNeg then none else bnd ((σ_83.2 19 p0.toNatClampNeg)) fun (x_91 : Int32) => if x_91 < 0 ∨ 40000 ≤ x_91.toNatClampNeg then none else bnd ((σ_83.2 19 x_91.toNatClampNeg)) fun (x_95 : Int32) => if x_95 < 0 ∨ 8000 ≤ x_95.toNatClampNeg then none else if (σ_83.2 19 p0.toNatClampNeg) < 0 ∨ 40000 ≤ (σ_83.2 19 p0.toNatClampNeg).toNatClampNeg then none else bnd (mA σ_83 21 (upd (σ_83.2 21) (σ_83.2 19 p0.toNatClampNeg).toNatClampNeg (σ_83.2 29 x_95.toNatClampNeg))) fun σ_101 => if p0 < 0 ∨ 40000 ≤ p0.toNatClampNeg then none else (G_X12_meanExpression (σ_101.2 20 p0.toNatClampNeg) σ_101).bind fun u_105 => if p0 < 0 ∨ 40000 ≤ p0.toNatClampNeg then none else (G_X12_meanExpression (u_105.2.2 21 p0.toNatClampNeg) u_105.2).bind fun u_109 => some (0, u_109.2)
def C112 (p0 : Int32) (σ_111 : MS) : MR := if p0 < 0 ∨ 40000 ≤ p0.toNatClampNeg then none else bnd ((σ_111.2 19 p0.toNatClampNeg)) fun (x_117 : Int32) => if x_117 < 0 ∨ 40000 ≤ x_117.toNatClampNeg then none else (F_X12_wrong (σ_111.2 18 x_117.toNatClampNeg) σ_111).bind fun u_121 => C84 p0 u_121.2
theorem MN23_eq (p0 : Int32) (σ : MS) : MN23 p0 σ = if p0 < 0 ∨ 40000 ≤ p0.toNatClampNeg then none else bnd ((σ.2 19 p0.toNatClampNeg)) fun (x_77 : Int32) => if x_77 < 0 ∨ 40000 ≤ x_77.toNatClampNeg then none else (F_X12_is (σ.2 19 x_77.toNatClampNeg) 5 σ).bind fun u_81 => if u_81.1 = 0 then C112 p0 u_81.2 else (if p0 < 0 ∨ 40000 ≤ p0.toNatClampNeg then none else bnd ((u_81.2.2 19 p0.toNatClampNeg)) fun (x_128 : Int32) => if x_128 < 0 ∨ 40000 ≤ x_128.toNatClampNeg then none else (F_X12_slotOf (u_81.2.2 19 x_128.toNatClampNeg) u_81.2).bind fun u_132 => if u_132.1 < 0 then C84 p0 u_132.2 else C112 p0 u_132.2) := rfl
/-- a cell is set -/
theorem mn_23 {G : Nat → HS} {Θ Γs : HS} {σs σK : MS} {DN : Nat → Nat → Nat → Prop} (hE : MEN T N kd vl rv pl G Θ Γs σs σK DN) {TX : Nat → Int → Int → Prop} {Dq : Prop} {hi x y e e2 i k j mm p r q : Nat} (h1 : EX kd vl rv pl σs Γs (y + 1) mm e (i + 2) k p r) (h2 : EX kd vl rv pl σs Γs mm hi e2 (k + 2) j r q) (hhi : hi ≤ 39000) (hm : mm ≤ hi) (hj : j ≤ T) (hj2 : j < 4200) (hki : kd i = 2) (hk1 : kd (i + 1) = 91) (hkk : kd k = 93) (hkk1 : kd (k + 1) = 61) (hk0 : kd (i - 1) ≠ 242) (hk61 : kd j = 59) (hy : NMN rv pl σs y i) (hxy : x < y) {s m D : Nat} {ts sl : Nat → Nat} (hC : ∀ t, i ≤ t → t ≤ j → SC T kd vl (G t) s m D ts sl) {τ : MS} (hS : STM rv σs σK τ s m ts sl) (h17 : σs.2 17 x = J 23) (h19 : σs.2 19 x = J (y : Nat)) (h20 : σs.2 20 x = J (e : Nat)) (h21 : σs.2 21 x = J (e2 : Nat)) (ho : op3 Γs q 39 (i : Nat)) : Ok (MN23 (J (x : Nat)) τ) (mPl pl (badB G Θ Γs kd vl) σs (fun R => PSQ (op1 Γs) (lk3 G Θ Γs kd vl) R DN TX Dq hi x p (q + 3)) x hi i j τ) := by
  obtain ⟨hT, hN, hp, hpb, hX, hG⟩ := id hE
  obtain ⟨hX1, hX2, hX3, hX4⟩ := hX
  have r1 := EX_rng h1
  have r2 := EX_rng h2
  obtain ⟨en, en2⟩ := en_of (show x < 39990 by omega)
  obtain ⟨gn, gn2⟩ := en_of (show y < 39990 by omega)
  have hiT : i ≤ T := by omega
  have hC0 := hC i (Nat.le_refl _) (by omega)
  have hKE := KE_K hX2 hS.2.1
  have g8 := rv_J hT hiT hki
  obtain ⟨c1, c2⟩ := srt_n (vl := vl) (G := G) (Θ := Θ) hk0
  obtain ⟨b1, b2, b3⟩ := hKE i hiT hki
  have hsn := snF_of hT hC0 hiT hki
  have hbi : badB G Θ Γs kd vl i ↔ ¬ (snF G vl i = 0 ∧ ksF Θ vl i = 5) := by
    constructor
    · rintro (⟨-, -, h' | h' | h' | h'⟩ | h' | h') h2
      · omega
      · rw [c1, if_pos h2.1] at h'; exact h'.2 h2.2
      · omega
      · omega
      · omega
      · omega
    · intro h'
      refine Or.inl ⟨hki, hk0, Or.inr (Or.inl ⟨hk1, ?_⟩)⟩
      rw [c1]
      split
      · intro e; exact h' ⟨by assumption, e⟩
      · omega
  -- what is behind the name
  have tail : ∀ υ : MS, AGM σs υ → rM x hi τ υ → NT pl (badB G Θ Γs kd vl) i (i + 1) (flt τ) (flt υ) → Ok (C84 (J (x : Nat)) υ) (mPl pl (badB G Θ Γs kd vl) σs (fun R => PSQ (op1 Γs) (lk3 G Θ Γs kd vl) R DN TX Dq hi x p (q + 3)) x hi i j τ) := by
    intro υ hA hr hn1
    have e19 : υ.2 19 x = J (y : Nat) := by rw [ag_k hA (by omega)]; exact h19
    have e19y : υ.2 19 y = J (rv i) := by rw [ag_k hA (by omega)]; exact hy.2.2
    have A3 : AGM σs (mA υ 21 (upd (υ.2 21) y (υ.2 29 (rv i).toNat))) := AGM_21 hA (Or.inl hy.1)
    have R3 : rM x hi υ (mA υ 21 (upd (υ.2 21) y (υ.2 29 (rv i).toNat))) := rM_21 (by omega) (by omega)
    unfold C84
    rw [if_neg en, if_neg en, bndE, en2, e19, if_neg gn, bndE, gn2, e19y, if_neg g8.1]
    rw [gn2] at gn
    rw [if_neg gn, g8.2, bndE]
    rw [en2] at en
    rw [if_neg en, ag_20 A3 h17 (by omega), h20]
    refine Ok_bind (Ok_mono (m_EX hE h1 (by omega) (by omega) (by omega) (by rw [show i + 2 - 1 = i + 1 by omega]; omega) (by omega) (hC _ (by omega) (by omega)) (STM_rM hS (rM_trans hr R3) A3)) (fun u hu => Ok_neg en ?_))
    obtain ⟨u1, u2, u3, u4⟩ := hu
    rw [ag_21 u2 h17 (by omega), h21]
    refine Ok_bind (Ok_mono (m_EX hE h2 hhi hj (by omega) (by rw [show k + 2 - 1 = k + 1 by omega]; omega) (by omega) (hC _ (by omega) (by omega)) (STM_rM (STM_rM hS (rM_trans hr R3) A3) u1 u2)) (fun v hv => Ok_some ?_))
    obtain ⟨v1, v2, v3, v4⟩ := hv
    refine ⟨rM_trans (rM_trans hr R3) (rM_trans (rM_wide u1 (by omega) hm) (rM_wide v1 (by omega) (Nat.le_refl _))), v2, ?_, fun hn => ?_⟩
    · refine NT_lr hp hpb (k := i + 1) hn1 (NT_lr hp hpb (k := k + 2) (NT_wide hp u3 (by omega) (by omega) (by omega) (fun w w1 w2 => badB_eq (show w = i + 1 by omega) hk1 (by omega)) (fun w w1 w2 => ?_)) v3 (by omega) (by omega) (by omega)) (by omega) (by omega) (by omega)
      by_cases e : w = k
      · exact badB_eq e hkk (by omega)
      · exact badB_eq (show w = k + 1 by omega) hkk1 (by omega)
    · have hg := hn i (Nat.le_refl _) (by omega)
      rw [hbi] at hg
      have hg : snF G vl i = 0 ∧ ksF Θ vl i = 5 := Classical.byContradiction hg
      refine Or.inr (Or.inr (Or.inr (Or.inl ⟨y, e, e2, nsF Θ vl i, mm, r, q, rfl, ?_, ?_, hxy, by omega, ?_, (hX4 i hiT hki).2.1 hg.2, ?_, ?_, Or.inr ⟨39, i, by unfold isNO; omega, ho, by omega, rfl, ?_, fun _ => by rw [c1, if_pos hg.1]; exact hg.2⟩, hm, ?_, v4 (fun w w1 w2 => hn w (by omega) w2)⟩)))
      · show v.2.2 17 x = _; rw [ag_k v2 (by omega)]; exact h17
      · show v.2.2 19 x = _; rw [ag_k v2 (by omega)]; exact h19
      · show v.2.2 21 y = _
        rw [v1.2.2 21 y (by omega), u1.2.2 21 y (by omega)]
        show upd _ _ _ _ = _
        rw [upd_s, if_pos rfl, hr.2.1 29 (by omega) (by omega)]
        exact b2 (by omega)
      · show v.2.2 20 x = _; rw [ag_20 v2 h17 (by omega)]; exact h20
      · show v.2.2 21 x = _; rw [ag_21 v2 h17 (by omega)]; exact h21
      · rw [c2, if_pos hg.1]
      · exact EQx_R (u4 (fun w w1 w2 => hn w (by omega) (by omega))) (fun kk y' _ y1 y2 => v1.2.2 kk y' (by omega))
  have eW : badB G Θ Γs kd vl i → Ok (C112 (J (x : Nat)) τ) (mPl pl (badB G Θ Γs kd vl) σs (fun R => PSQ (op1 Γs) (lk3 G Θ Γs kd vl) R DN TX Dq hi x p (q + 3)) x hi i j τ) := by
    intro hb
    unfold C112
    rw [if_neg en, bndE, en2, st_k hS (by omega), h19, if_neg gn, gn2, st_k hS (by omega), hy.2.1, r_wrong, Option.bind_some]
    exact tail _ (AGM_noF hS.1) rM_noF (NT_one hpb (by omega) (fun _ => rfl) (fun h => absurd hb h))
  rw [MN23_eq, if_neg en, bndE, en2, st_k hS (by omega), h19, if_neg gn, gn2, st_k hS (by omega), hy.2.2, show F_X12_is (J (rv i)) 5 τ = _ from r_is hT hKE hiT hki (c := 5) (by omega), Option.bind_some]
  by_cases q5 : ksF Θ vl i = 5
  · rw [if_pos q5, if_neg J1_ne]
    rw [en2] at en
    rw [if_neg en, bndE]
    dsimp only
    rw [st_k hS (by omega) x, h19, if_neg gn, gn2, st_k hS (by omega) y, hy.2.2, r_slotOf hT hN hC0 hS.2.2 hiT hki, Option.bind_some]
    rcases hsn with ⟨t', t1, t2, t3, t4⟩ | ⟨t1, t2⟩
    · rw [if_neg (show ¬ J (snF G vl i - 1) < 0 from J_nlt0 (by omega) (by omega))]
      exact eW (hbi.mpr (by omega))
    · rw [if_pos (show J (snF G vl i - 1) < 0 by rw [t2]; decide)]
      exact tail τ hS.1 rM_rfl (NT_none (fun w w1 w2 => by rw [show w = i by omega, hbi]; exact fun h => h ⟨t2, q5⟩))
  · rw [if_neg q5, if_pos J0_eq]
    exact eW (hbi.mpr (by omega))
/-- a list of what is said -/
theorem mn_say {G : Nat → HS} {Θ Γs : HS} {σs σK : MS} {DN : Nat → Nat → Nat → Prop} (hE : MEN T N kd vl rv pl G Θ Γs σs σK DN) {TX : Nat → Int → Int → Prop} (hTX : ∀ t, t ≤ T → kd t = 4 → TX (pl t) (rv t) (vl t)) {c i hi : Nat} {xs ls is js ps : Nat → Nat} (h22 : ∀ k, k < c → σs.2 22 (xs k) = J (if k + 1 < c then (xs (k + 1) : Int) else -1)) (b4 : ∀ k, k < c → ls k ≤ xs k ∧ xs k < ls (k + 1) ∧ TEL kd vl rv pl σs Γs (ls k) (ls (k + 1)) (xs k) (is k) (js k) (ps k) (ps (k + 1))) (hls : ∀ k d, k + d ≤ c → ls k ≤ ls (k + d)) (hl : ls c ≤ hi) (hhi : hi ≤ 39000) (hij : ∀ k, k < c → is k < js k ∧ is (k + 1) = if k + 1 < c then js k + 1 else js k) (hk44 : ∀ k, k + 1 < c → kd (js k) = 44) (hk59 : kd (is c) = 59) (hic : is c ≤ T) (hi0 : is 0 = i + 1) (hki : kd i = 241) {s m D : Nat} {ts sl : Nat → Nat} (hC : ∀ t, i ≤ t → t ≤ is c → SC T kd vl (G t) s m D ts sl) : ∀ (e k : Nat) (τ : MS) (N' : Nat), k + e = c → e < N' → STM rv σs σK τ s m ts sl → Ok (loopF Sy3 N' (J (if k < c then (xs k : Int) else -1), τ)) (fun u => rM (ls k) (ls c) τ u.2 ∧ AGM σs u.2 ∧ NT pl (badB G Θ Γs kd vl) (is k) (is c) (flt τ) (flt u.2) ∧ ((∀ w, is k ≤ w → w < is c → ¬ badB G Θ Γs kd vl w) → ∀ t, k ≤ t → t < c → TEQ (op1 Γs) (lk3 G Θ Γs kd vl) u.2.2 DN TX (ls t) (ls (t + 1)) (xs t) (ps t) (ps (t + 1)))) := by
  obtain ⟨hT, hN, hp, hpb, hX, hG⟩ := id hE
  have mono : ∀ e k, k + e ≤ c → is k + e ≤ is (k + e) := by
    intro e
    induction e with
    | zero => intro k _; exact Nat.le_refl _
    | succ e ih =>
      intro k hk
      have := ih k (by omega)
      have b := hij (k + e) (by omega)
      rw [show k + (e + 1) = k + e + 1 by omega, b.2]
      split <;> omega
  intro e
  induction e with
  | zero =>
    intro k τ N' hk hN' hS
    obtain rfl : k = c := by omega
    obtain ⟨N', rfl⟩ : ∃ z, N' = z + 1 := ⟨N' - 1, by omega⟩
    rw [if_neg (show ¬ k < k by omega), Sy3_s, if_pos (by decide)]
    exact Ok_some ⟨rM_rfl, hS.1, NT_none (fun w w1 w2 => by omega), fun _ t t1 t2 => by omega⟩
  | succ e ih =>
    intro k τ N' hk hN' hS
    have hkc : k < c := by omega
    obtain ⟨N', rfl⟩ : ∃ z, N' = z + 1 := ⟨N' - 1, by omega⟩
    obtain ⟨x1, x2, f1, f2, f3, f4, f⟩ := b4 k hkc
    have b := hij k hkc
    have l1 := hls (k + 1) (c - (k + 1)) (by omega)
    rw [show k + 1 + (c - (k + 1)) = c by omega] at l1
    have m1 := mono (c - (k + 1)) (k + 1) (by omega)
    rw [show k + 1 + (c - (k + 1)) = c by omega] at m1
    have m0 := mono (k - 0) 0 (by omega)
    rw [show 0 + (k - 0) = k by omega] at m0
    have hjk : js k ≤ is (k + 1) ∧ is (k + 1) ≤ js k + 1 ∧ (js k < is (k + 1) → k + 1 < c) := by
      rw [b.2]; split <;> omega
    have hkj : kd (js k) = 44 ∨ kd (js k) = 59 := by
      by_cases q : k + 1 < c
      · exact Or.inl (hk44 k q)
      · right
        have b2 := b.2
        rw [if_neg q, show k + 1 = c by omega] at b2
        rw [← b2]; exact hk59
    have hik : kd (is k - 1) = 241 ∨ kd (is k - 1) = 44 := by
      by_cases q : k = 0
      · left; rw [q, hi0, show i + 1 - 1 = i by omega]; exact hki
      · right
        have b2 := (hij (k - 1) (by omega)).2
        rw [if_pos (by omega), show k - 1 + 1 = k by omega] at b2
        rw [b2, show js (k - 1) + 1 - 1 = js (k - 1) by omega]
        exact hk44 (k - 1) (by omega)
    obtain ⟨en, en2⟩ := en_of (show xs k < 39990 by omega)
    -- what comes behind
    have rest : ∀ υ : MS, rM (ls k) (ls (k + 1)) τ υ → AGM σs υ → NT pl (badB G Θ Γs kd vl) (is k) (js k) (flt τ) (flt υ) → ((∀ w, is k ≤ w → w < js k → ¬ badB G Θ Γs kd vl w) → TEQ (op1 Γs) (lk3 G Θ Γs kd vl) υ.2 DN TX (ls k) (ls (k + 1)) (xs k) (ps k) (ps (k + 1))) → Ok (if J (xs k : Nat) < 0 ∨ 40000 ≤ xs k then none else bnd (υ.2 22 (xs k)) fun (x_26 : Int32) => loopF Sy3 N' (x_26, υ)) (fun u => rM (ls k) (ls c) τ u.2 ∧ AGM σs u.2 ∧ NT pl (badB G Θ Γs kd vl) (is k) (is c) (flt τ) (flt u.2) ∧ ((∀ w, is k ≤ w → w < is c → ¬ badB G Θ Γs kd vl w) → ∀ t, k ≤ t → t < c → TEQ (op1 Γs) (lk3 G Θ Γs kd vl) u.2.2 DN TX (ls t) (ls (t + 1)) (xs t) (ps t) (ps (t + 1)))) := by
      intro υ r1 r2 r3 r4
      rw [en2] at en
      rw [if_neg en, bndE, ag_k r2 (by omega), h22 k hkc]
      refine Ok_mono (ih (k + 1) υ N' (by omega) (by omega) (STM_rM hS r1 r2)) (fun v hv => ?_)
      obtain ⟨v1, v2, v3, v4⟩ := hv
      refine ⟨rM_trans (rM_wide r1 (Nat.le_refl _) l1) (rM_wide v1 (by omega) (Nat.le_refl _)), v2, ?_, fun hn t t1 t2 => ?_⟩
      · refine NT_lr hp hpb (k := is (k + 1)) (NT_wide hp r3 (Nat.le_refl _) (by omega) (by omega) (fun w w1 w2 => by omega) (fun w w1 w2 => ?_)) v3 (by omega) (by omega) (by omega)
        rw [show w = js k by omega]
        rcases hkj with h | h
        · exact badB_kd h (by omega)
        · exact badB_kd h (by omega)
      · by_cases q : t = k
        · subst q
          exact TEQ_R (r4 (fun w w1 w2 => hn w w1 (by omega))) (fun kk y _ y1 y2 => v1.2.2 kk y (by omega))
        · exact v4 (fun w w1 w2 => hn w (by omega) w2) t (by omega) t2
    rw [if_pos hkc, Sy3_s, if_neg (J_nlt0 (by omega) (by omega)), if_neg en, bndE, en2, st_k hS (by omega)]
    have ex : ∀ (w o : Int) (y i' q' : Nat), (w = 37 ∧ o = 21) ∨ (w = 36 ∧ o = 31) → σs.2 17 (xs k) = J w → σs.2 19 (xs k) = J (y : Nat) → ps (k + 1) = q' + 1 → op1 Γs q' o → is k ≤ i' → 1 ≤ i' → kd (i' - 1) ≠ 242 → (∀ t, is k ≤ t → t < i' → ¬ badB G Θ Γs kd vl t) → EX kd vl rv pl σs Γs (xs k + 1) (ls (k + 1)) y i' (js k) (ps k) q' → Ok (if J w = 35 then (if J (xs k : Nat) < 0 ∨ 40000 ≤ xs k then none else bnd (τ.2 22 (xs k)) fun (x_26 : Int32) => loopF Sy3 N' (x_26, τ)) else if J (xs k : Nat) < 0 ∨ 40000 ≤ xs k then none else (G_X12_meanExpression (τ.2 19 (xs k)) τ).bind fun u_33 => if J (xs k : Nat) < 0 ∨ 40000 ≤ xs k then none else bnd (u_33.2.2 22 (xs k)) fun (x_26 : Int32) => loopF Sy3 N' (x_26, u_33.2)) (fun u => rM (ls k) (ls c) τ u.2 ∧ AGM σs u.2 ∧ NT pl (badB G Θ Γs kd vl) (is k) (is c) (flt τ) (flt u.2) ∧ ((∀ w, is k ≤ w → w < is c → ¬ badB G Θ Γs kd vl w) → ∀ t, k ≤ t → t < c → TEQ (op1 Γs) (lk3 G Θ Γs kd vl) u.2.2 DN TX (ls t) (ls (t + 1)) (xs t) (ps t) (ps (t + 1)))) := by
      intro w o y i' q' hwo h17 h19 hq' ho hii hi1 hk2 hq hex
      have re := EX_rng hex
      rw [if_neg (show ¬ J w = 35 from J_n (v := 35) (by omega) (by omega) (by omega))]
      have en' := en
      rw [en2] at en'
      rw [if_neg en', st_k hS (by omega), h19]
      refine Ok_bind (Ok_mono (m_EX hE hex (by omega) (by omega) hi1 hk2 (by omega) (hC i' (by omega) (by omega)) hS) (fun u hu => ?_))
      obtain ⟨u1, u2, u3, u4⟩ := hu
      refine rest u.2 (rM_wide u1 (by omega) (Nat.le_refl _)) u2 (NT_wide hp u3 hii (Nat.le_refl _) (by omega) hq (fun w w1 w2 => by omega)) (fun hn => ⟨f1, f2, f4, ?_⟩)
      have e17 : u.2.2 17 (xs k) = J w := by rw [ag_k u2 (by omega)]; exact h17
      have e19 : u.2.2 19 (xs k) = J (y : Nat) := by rw [ag_k u2 (by omega)]; exact h19
      rcases hwo with ⟨rfl, rfl⟩ | ⟨rfl, rfl⟩
      · exact Or.inr (Or.inl ⟨y, q', hq', e17, e19, ho, u4 (fun w w1 w2 => hn w (by omega) w2)⟩)
      · exact Or.inr (Or.inr ⟨y, q', hq', e17, e19, ho, u4 (fun w w1 w2 => hn w (by omega) w2)⟩)
    rcases f with ⟨a1, a2, a3, a4, a5, a6, a7⟩ | ⟨y, q', a1, a2, a3, a4, a5, a6⟩ | ⟨y, q', a1, a2, a3, a4, a5, a6, a7⟩
    · rw [a4, if_pos (by rfl)]
      refine rest τ rM_rfl hS.1 (NT_none (fun w w1 w2 => badB_eq (show w = is k by omega) a1 (by omega))) (fun _ => ⟨f1, f2, f4, Or.inl ⟨rv (is k), vl (is k), pl (is k), a3, ⟨?_, ?_⟩, ?_, hTX _ (by omega) a1, lk3_op a7 (by unfold isNO; omega)⟩⟩)
      · rw [st_k hS (by omega)]; exact a4
      · rw [st_k hS (by omega)]; exact a5
      · rw [st_20 hS a4 (by omega)]; exact a6
    · rw [a3]
      exact ex 37 21 y (is k + 1) q' (Or.inl ⟨rfl, rfl⟩) a3 a4 a2 a5 (by omega) (by omega) (by rw [show is k + 1 - 1 = is k by omega]; omega) (fun t t1 t2 => badB_eq (show t = is k by omega) a1 (by omega)) a6
    · rw [a4]
      exact ex 36 31 y (is k) q' (Or.inr ⟨rfl, rfl⟩) a4 a5 a3 a6 (Nat.le_refl _) (by omega) (by omega) (fun t t1 t2 => by omega) a7
