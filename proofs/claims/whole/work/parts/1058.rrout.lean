/-! definitions, ons and eachs resolved; all items -/
variable {T N : Nat} {kd vl rv : Nat → Int} {pl : Nat → Nat}
theorem badA_none {Θ : HS} {a t : Nat} (h : kd a ≠ 230) (h1 : kd a ≠ 231) (h2 : kd a ≠ 236) : ¬ badA Θ kd vl a t := by
  rintro (h' | h' | h' | h' | h')
  · exact h h'.1
  · exact h1 h'.1
  · exact h2 h'.1
  · exact h2 h'.1
  · exact h2 h'.1
theorem ri_each {G : Nat → HS} {Θ Γs : HS} {σs σK : MS} {DN : Nat → Nat → Nat → Prop} (hE : MEN T N kd vl rv pl G Θ Γs σs σK DN) {TX : Nat → Int → Int → Prop} (hTX : ∀ t, t ≤ T → kd t = 4 → TX (pl t) (rv t) (vl t)) {c z ne : Nat} {ls is ps : Nat → Nat} (hm : ∀ z, z < c → is z < is (z + 1)) (hz : z < c) (hI : EAD kd vl rv pl σs Γs (ls z) (ls (z + 1)) (is z) (is (z + 1)) (ps z) (ps (z + 1)) ne) (hl : ls (z + 1) ≤ 39000) (hx : ls z < 39990) (hj : is (z + 1) ≤ T) {τ : MS} (hA : AGM σs τ) (hK : K3 σK τ) (hZ : GZ T kd vl (G (is z))) : ∃ υ, rRes T kd vl pl σs G Θ Γs DN TX c ls is ps z τ υ := by
  obtain ⟨hT, hN, hp, hpb, hX, hG⟩ := id hE
  obtain ⟨k0, k1, k2, k3, -⟩ := hI
  have hbj : is z + 1 < is (z + 1) := by
    obtain ⟨h, y, m, r, ⟨a1, a1'⟩, a2, a3, -⟩ := k3
    have := STX_rng a3; omega
  obtain ⟨g1, g2, g3, g4⟩ := g_rule hT hG (i := is z) (b := is z + 1) (Nat.le_refl _) (by omega) (Or.inr k0) (fun t t1 t2 => by omega) hZ
  have hM : MID T kd vl rv G σs σK (kd (is z) = 235) (is z + 1) 0 0 0 (fun _ => 0) (fun _ => 0) (rz τ 0) := ⟨g1, g2, ⟨hA, hK, rz_WS⟩, by rw [g3, k0]; exact ⟨fun h => by rw [J_eq (by omega) (by omega) (by omega) (by omega)] at h; omega, fun h => by omega⟩, ⟨fun _ h => by omega, fun _ => rfl⟩⟩
  obtain ⟨m, y, ω, a1, a2, a3, a4, a5, a6, a7, a8, a9, a10, a11, a12⟩ := r_blk hE hTX k3 k1 (by omega) (Nat.lt_succ_self _) hl hj (by omega) hM (fun h => absurd h (by omega))
  refine ⟨ω, ri_rout hE hm hz (Nat.le_refl _) hbj (by omega) a11 hj g4 g3 (fun n => ?_) (rz_rJ (t := 0)) a5 (by omega) a6 (NT_none (fun w w1 w2 => badA_none (by omega) (by omega) (by omega))) (badA_none (by omega) (by omega) (by omega)) a7 a8 a9 a12⟩
  rw [rs_step hx hA k1 (by omega), if_neg (by omega)]
  unfold Rj13
  rw [if_neg (show ¬ J 8 = 7 by decide), rj_rule hx a2 hA (Or.inr rfl) k1 a1 a3, a4, rnx_go hx a6]
theorem ri_on {G : Nat → HS} {Θ Γs : HS} {σs σK : MS} {DN : Nat → Nat → Nat → Prop} (hE : MEN T N kd vl rv pl G Θ Γs σs σK DN) {TX : Nat → Int → Int → Prop} (hTX : ∀ t, t ≤ T → kd t = 4 → TX (pl t) (rv t) (vl t)) (hV : VFE T kd vl rv Θ σs σK) {c z no : Nat} {ls is ps : Nat → Nat} (hm : ∀ z, z < c → is z < is (z + 1)) (hz : z < c) (hI : OND kd vl rv pl σs Γs (ls z) (ls (z + 1)) (is z) (is (z + 1)) (ps z) (ps (z + 1)) no) (hl : ls (z + 1) ≤ 39000) (hj : is (z + 1) ≤ T) {τ : MS} (hA : AGM σs τ) (hK : K3 σK τ) (hZ : GZ T kd vl (G (is z))) : ∃ υ, rRes T kd vl pl σs G Θ Γs DN TX c ls is ps z τ υ := by
  obtain ⟨hT, hN, hp, hpb, hX, hG⟩ := id hE
  obtain ⟨k0, k1, k2, k3, k4, k5, cc, k6, k7, k8, k9, -⟩ := hI
  have hbj : is z + 2 + cc < is (z + 1) ∧ ls z + 2 + cc < ls (z + 1) ∧ kd (is z + 2 + cc) = 123 := by
    obtain ⟨h, y, m, r, ⟨a1, a1'⟩, a2, a3, -⟩ := k9
    have := STX_rng a3
    exact ⟨by omega, by omega, STX_first _ _ _ _ _ _ _ _ _ a3 (Or.inl rfl)⟩
  have hx : ls z < 39990 := by omega
  have hwq := WHS_words k8
  have hb0 : ∀ k, k < cc → kd (is z + 2 + k) ≠ 123 := fun k hk h => by
    have := hwq (is z + 2 + k) (by omega) (by omega)
    rw [h] at this; unfold qp qf at this; omega
  obtain ⟨b, e1, e2⟩ := r_on hT hp hpb k0 k5 k1 k2 k4 k6 k7 k8 hbj.2.2 hb0 (by omega) (by omega) hA (KE_K hX.2.1 hK) (F := (frm Θ vl (is z + 1)).toNat) (fun h3 => by
    obtain ⟨F, f1, f2, f3, f4⟩ := hV (is z + 1) (by omega) k1 h3 τ hA hK
    have : (frm Θ vl (is z + 1)).toNat = F := by rw [f2]; rfl
    rw [this]; exact ⟨f1, f2, f3, f4⟩)
  obtain ⟨g1, g2, g3, g4⟩ := g_rule hT hG (i := is z) (b := is z + 2 + cc) (by omega) (by omega) (Or.inl k0) (fun t t1 t2 => by
    by_cases e : t = is z + 1
    · rw [e]; exact qh_k k1 (by omega)
    · exact qp_qh (hwq t (by omega) t2)) hZ
  have hA1 : AGM σs (noF τ b) := AGM_noF hA
  have hM : MID T kd vl rv G σs σK (kd (is z) = 235) (is z + 2 + cc) 0 0 0 (fun _ => 0) (fun _ => 0) (rz (noF τ b) 0) := ⟨g1, g2, ⟨hA1, hK, rz_WS⟩, by rw [g3, k0]; exact ⟨fun h => by rw [J_eq (by omega) (by omega) (by omega) (by omega)] at h; omega, fun h => by omega⟩, ⟨fun _ h => by omega, fun _ => rfl⟩⟩
  obtain ⟨m, y, ω, a1, a2, a3, a4, a5, a6, a7, a8, a9, a10, a11, a12⟩ := r_blk hE hTX k9 k2 (by omega) (by omega) hl hj (by omega) hM (fun h => absurd h (by omega))
  refine ⟨ω, ri_rout hE hm hz (by omega) hbj.1 (by omega) a11 hj g4 g3 (fun n => ?_) (rJ_trans rJ_noF (rz_rJ (t := 0))) a5 (by omega) a6 e2 ?_ a7 a8 a9 a12⟩
  · rw [rs_step hx hA k2 (by omega), if_neg (by omega)]
    unfold Rj13
    rw [if_pos (show J 7 = 7 from rfl), e1, Option.bind_some]
    dsimp only
    rw [rj_rule hx a2 hA1 (Or.inl rfl) k2 a1 a3, a4, rnx_go hx a6]
  · rintro (h | h | h | h | h)
    · omega
    · omega
    · omega
    · exact h.2.2.1 a11
    · exact h.2.2.2.1 a11
theorem ri_def {G : Nat → HS} {Θ Γs : HS} {σs σK : MS} {DN : Nat → Nat → Nat → Prop} (hE : MEN T N kd vl rv pl G Θ Γs σs σK DN) {TX : Nat → Int → Int → Prop} (hTX : ∀ t, t ≤ T → kd t = 4 → TX (pl t) (rv t) (vl t)) {c z nd : Nat} {ls is ps : Nat → Nat} (hm : ∀ z, z < c → is z < is (z + 1)) (hz : z < c) (hI : DFD kd vl rv pl σs Γs (ls z) (ls (z + 1)) (is z) (is (z + 1)) (ps z) (ps (z + 1)) nd) (hl : ls (z + 1) ≤ 39000) (hj : is (z + 1) ≤ T) {τ : MS} (hA : AGM σs τ) (hK : K3 σK τ) (hZ : GZ T kd vl (G (is z))) : ∃ υ, rRes T kd vl pl σs G Θ Γs DN TX c ls is ps z τ υ := by
  obtain ⟨hT, hN, hp, hpb, hX, hG⟩ := id hE
  obtain ⟨k0, k1, k2, k3, k4, k5, k6, cc, b, k7, k8, k9, -⟩ := hI
  have hbj : b < is (z + 1) ∧ ls z + 2 + cc < ls (z + 1) ∧ kd b = 123 := by
    obtain ⟨h, y, m, r, ⟨a1, a1'⟩, a2, a3, -⟩ := k9
    have := STX_rng a3
    exact ⟨by omega, by omega, STX_first _ _ _ _ _ _ _ _ _ a3 (Or.inl rfl)⟩
  have hx : ls z < 39990 := by omega
  have hNS : NMS kd rv pl σs (ls z + 2) cc (is z + 3) := by
    rcases k8 with ⟨c0, -⟩ | ⟨-, -, -, h⟩
    · intro k hk; omega
    · exact h
  have hb3 : is z + 3 + 2 * cc ≤ b ∧ b ≤ is z + 4 + 2 * cc ∧ kd (is z + 3 + 2 * cc) ≠ 2 := by
    rcases k8 with ⟨c0, h, -⟩ | ⟨c1, h, -⟩
    · refine ⟨by omega, by omega, ?_⟩
      rw [c0, show is z + 3 + 2 * 0 = b - 1 by omega, k7]; omega
    · refine ⟨by omega, by omega, ?_⟩
      rw [← h, hbj.2.2]; omega
  have e20 : σs.2 20 (ls z) = J (if 0 < cc then ((ls z + 2 + 0 : Nat) : Int) else -1) := by
    rcases k8 with ⟨c0, -, h⟩ | ⟨c1, -, h, -⟩
    · rw [if_neg (by omega)]; exact h
    · rw [if_pos (by omega)]; exact h
  have hqw : ∀ t, is z + 1 ≤ t → t < b → qh (kd t) := fun t t1 t2 => by
    by_cases e1 : t = is z + 1
    · rw [e1]; exact qh_k k1 (by omega)
    by_cases e2 : t = is z + 2
    · rw [e2]; exact qh_k k2 (by omega)
    by_cases e3 : t = b - 1
    · rw [e3]; exact qh_k k7 (by omega)
    rcases NMS_words hNS t (by omega) (by omega) with e | e
    · exact qh_k e (by omega)
    · exact qh_k e (by omega)
  obtain ⟨g0, g1, g2, g3, g4, -⟩ := g_def hT hG (i := is z) (b := b) (c := cc) hb3.1 (by omega) k0 (fun z' hz' => (hNS z' hz').2.1) hb3.2.2 hqw hZ
  obtain ⟨m, y, hm1, hm2, hm3⟩ : ∃ m y : Nat, σs.2 21 (ls z) = J (m : Nat) ∧ m < 39990 ∧ σs.2 19 m = J (y : Nat) := by
    obtain ⟨h, y, m, r, ⟨a1, a1'⟩, a2, a3, a4, a5, a6, a7, -⟩ := k9
    exact ⟨m, y, a4, by omega, a7⟩
  have hAz : AGM σs (rz τ 1) := hA
  obtain ⟨τ', d1, d2, d3, d4, d5, d6, -⟩ := r_dlist (kd := kd) (pl := pl) (rv := rv) (by omega) hm2 k3 hm1 hm3 g0 hNS cc 0 (rz τ 1) (by omega) hAz (rz_WS (ts := fun z' => is z + 3 + 2 * z') (sl := fun z' => z'))
  have hM : MID T kd vl rv G σs σK (kd (is z) = 235) b cc cc 0 (fun z' => is z + 3 + 2 * z') (fun z' => z') τ' := ⟨g1, g2, ⟨d3, K3_rB (τ := rz τ 1) hK d2, d4⟩, by rw [g3, k0]; exact ⟨fun _ => rfl, fun _ => rfl⟩, by
    rw [d2.1 43 (by omega) (by omega) (by omega) (by omega), show (rz τ 1).1 43 = 1 from rfl]
    exact ⟨fun h => absurd h (by decide), fun h => absurd k0 h⟩⟩
  have hPm : PRM τ'.2 (ls z) (ls z + 2 + cc) := by
    refine ⟨cc, g0, Nat.le_refl _, by rw [ag_20 d3 k3 (by omega)]; exact e20, fun t ht => ⟨d6 t (Nat.zero_le _) ht, ?_⟩⟩
    obtain ⟨-, -, s5, -⟩ := hNS t ht
    rw [ag_k d3 (by omega), s5]
    split <;> rfl
  obtain ⟨m', y', ω, a1, a2, a3, a4, a5, a6, a7, a8, a9, a10, a11, a12⟩ := r_blk hE hTX k9 k3 (by omega) (by omega) hl hj (by omega) hM (fun _ => hPm)
  have em : m' = m := by
    have := a1.symm.trans hm1
    rw [J_eq (by omega) (by omega) (by omega) (by omega)] at this; omega
  subst em
  rw [a3] at hm3
  refine ⟨ω, ri_rout hE hm hz (by omega) hbj.1 (by omega) a11 hj g4 g3 (fun n => ?_) (rJ_trans (rz_rJ (t := 1)) (rJ_wide (rJ_rB d2) (by omega) (by omega))) a5 (by omega) a6 (by rw [d5]; exact NT_none (fun w w1 w2 => badA_none (by omega) (by omega) (by omega))) (badA_none (by omega) (by omega) (by omega)) a7 a8 a9 a12⟩
  obtain ⟨en, en2⟩ := en_of hx
  rw [rs_step hx hA k3 (by omega), if_neg (by omega)]
  unfold Rj13 Rj17 R31
  rw [if_neg (show ¬ J 6 = 7 by decide), if_pos (show (6 : Int32) ≤ J 6 by decide), if_pos (show J 6 = 6 from rfl), if_neg (by decide), bndE, bndE, bndE, if_neg (show ¬ (mI (mI (mI τ 43 1) 33 0) 34 0).1 43 = 0 from (show ¬ (1 : Int32) = 0 by decide)), if_neg en, en2, show mI (mI (mI τ 43 1) 33 0) 34 0 = rz τ 1 from rfl, ag_20 hAz k3 (by omega), e20, d1 _ FU (FU_gt (by omega)), ← hm3]
  rw [a4, rnx_go hx a6]
/-- all items -/
theorem r_items {G : Nat → HS} {Θ Γs : HS} {σs σK : MS} {DN : Nat → Nat → Nat → Prop} (hE : MEN T N kd vl rv pl G Θ Γs σs σK DN) {TX : Nat → Int → Int → Prop} (hTX : ∀ t, t ≤ T → kd t = 4 → TX (pl t) (rv t) (vl t)) (hV : VFE T kd vl rv Θ σs σK) {c : Nat} {ls is ps ds os es : Nat → Nat} (hI : ITS kd vl rv pl σs Γs c ls is ps ds os es) (hl : ls c ≤ 39000) (hi : is c ≤ T) (hpre : ∀ z, z < c → is z ≠ 0 → kd (is z - 1) ≠ 239) : ∀ (d k : Nat) (τ : MS), k + d = c → AGM σs τ → K3 σK τ → GZ T kd vl (G (is k)) → ∃ υ, (∀ n, d < n → loopF Rs1 n (J (lsX ls c k), τ) = some ((0 : Int32), υ)) ∧ rJ (ls k) (ls c) τ υ ∧ AGM σs υ ∧ NT pl (badW G Θ Γs kd vl c is) (is k) (is c) (flt τ) (flt υ) ∧ (∀ z, k ≤ z → z ≤ c → GZ T kd vl (G (is z))) ∧ (∀ z, k ≤ z → z < c → ∃ b, HBZ T vl G kd is z b) ∧ ((∀ w, is k ≤ w → w < is c → ¬ badW G Θ Γs kd vl c is w) → ∀ z, k ≤ z → z < c → 235 ≤ kd (is z) → RTQ (op1 Γs) (lk3 G Θ Γs kd vl) υ.2 DN TX (kd (is z) = 235) (ls z) (ls z) (ls (z + 1)) (ps z) (ps (z + 1))) := by
  obtain ⟨hT, hN, hp, hpb, hX, hG⟩ := id hE
  have hm := ITS_lt hI
  intro d
  induction d with
  | zero =>
    intro k τ hk hA hK hZ
    obtain rfl : k = c := by omega
    refine ⟨τ, fun n hn => ?_, rJ_rfl, hA, NT_none (fun w w1 w2 => by omega), fun z z1 z2 => by rw [show z = k by omega]; exact hZ, fun z z1 z2 => by omega, fun _ z z1 z2 => by omega⟩
    obtain ⟨n, rfl⟩ : ∃ e, n = e + 1 := ⟨n - 1, by omega⟩
    rw [lsX_c, Rs1_s, if_pos (by decide)]
  | succ d ih =>
    intro k τ hk hA hK hZ
    have hkc : k < c := by omega
    have m1 := is_le hm.1 (a := k) (b := k + 1) (by omega) (by omega)
    have m2 := is_le hm.1 (a := k + 1) (b := c) (by omega) (by omega)
    have m3 := is_le hm.2 (a := k) (b := k + 1) (by omega) (by omega)
    have m4 := is_le hm.2 (a := k + 1) (b := c) (by omega) (by omega)
    have hlk := hm.2 k hkc
    have step : ∃ υ, rRes T kd vl pl σs G Θ Γs DN TX c ls is ps k τ υ := by
      rcases (hI k hkc).1 with ⟨a0, a1, a⟩ | ⟨a0, a1, a⟩ | ⟨a1, a⟩ | ⟨a1, a⟩ | ⟨a1, a⟩ | a | a | a
      · exact ri_place hE hm.1 hpre hkc (Or.inl ⟨rfl, a0⟩) a (by omega) (by omega) hA hK hZ
      · exact ri_place hE hm.1 hpre hkc (Or.inr ⟨rfl, a0⟩) a (by omega) (by omega) hA hK hZ
      · obtain ⟨b1, b2, b3, b4, b5, b6, b7, cc, b8, b9, b10, b11, b12, b13⟩ := a
        refine ri_none hE hm.1 hkc (w := 3) (by omega) (by omega) b4 (by omega) (by omega) (fun t t1 t2 => ?_) hA hZ
        by_cases e1 : t = is k
        · rw [e1]; exact qh_k b1 (by omega)
        by_cases e2 : t = is k + 1
        · rw [e2]; exact qh_k b2 (by omega)
        by_cases e3 : t = is (k + 1) - 1
        · rw [e3]; exact qh_k b3 (by omega)
        by_cases e4 : t < is k + 1 + 2 * cc
        · rcases NMS_words b10 t (by omega) (by omega) with e | e
          · exact qh_k e (by omega)
          · exact qh_k e (by omega)
        · rcases b13 with ⟨d1, d2, d3, -⟩ | ⟨d1, d2, d3, -⟩
          · rw [show t = is k + 1 + 2 * cc by omega]; exact qh_of (by omega) (by omega) (by omega) (by omega)
          · by_cases e5 : t = is k + 1 + 2 * cc
            · rw [e5]; exact qh_k d1 (by omega)
            · rw [show t = is k + 2 + 2 * cc by omega]; exact qh_k d2 (by omega)
      · obtain ⟨b1, b2, b3, b4, b5, b6, b7, b8, b9, b10⟩ := a
        refine ri_none hE hm.1 hkc (w := 4) (by omega) (by omega) b6 (by omega) (by omega) (fun t t1 t2 => ?_) hA hZ
        by_cases e1 : t = is k
        · rw [e1]; exact qh_k b1 (by omega)
        by_cases e2 : t = is k + 1
        · rw [e2]; exact qh_k b2 (by omega)
        by_cases e3 : t = is (k + 1) - 1
        · rw [e3]; exact qh_k b4 (by omega)
        by_cases e4 : t = is k + 2
        · rw [e4]; exact qh_k b3 (by omega)
        rcases b10 with ⟨d1, d2, d3, -⟩ | ⟨d1, d3, -⟩
        · by_cases e5 : t = is k + 3
          · rw [e5]; exact qh_k d1 (by omega)
          · rw [show t = is k + 4 by omega]; exact qh_k d2 (by omega)
        · rw [show t = is k + 3 by omega]; exact qh_k d1 (by omega)
      · obtain ⟨b1, b2, b3, b4, b5, b6, b7, b8, b9, -⟩ := a
        refine ri_none hE hm.1 hkc (w := 5) (by omega) (by omega) b9 (by omega) (by omega) (fun t t1 t2 => ?_) hA hZ
        rcases (show t = is k ∨ t = is k + 1 ∨ t = is k + 2 ∨ t = is k + 3 ∨ t = is k + 4 ∨ t = is k + 5 by omega) with h | h | h | h | h | h
        · rw [h]; exact qh_k b1 (by omega)
        · rw [h]; exact qh_k b2 (by omega)
        · rw [h]; exact qh_k b3 (by omega)
        · rw [h]; exact qh_k b4 (by omega)
        · rw [h]; exact qh_k b5 (by omega)
        · rw [h]; exact qh_k b6 (by omega)
      · exact ri_def hE hTX hm.1 hkc a (by omega) (by omega) hA hK hZ
      · exact ri_on hE hTX hV hm.1 hkc a (by omega) (by omega) hA hK hZ
      · exact ri_each hE hTX hm.1 hkc a (by omega) (by omega) (by omega) hA hK hZ
    obtain ⟨υ, s1, s2, s3, s4, s5, s6, s7⟩ := step
    obtain ⟨ω, t1, t2, t3, t4, t5, t6, t7⟩ := ih (k + 1) υ (by omega) s3 (K3_rJ hK s2) s5
    refine ⟨ω, fun n hn => ?_, rJ_trans (rJ_wide s2 (Nat.le_refl _) (by omega)) (rJ_wide t2 (by omega) (Nat.le_refl _)), t3, NT_lr hp hpb s4 t4 (by omega) (by omega) (by omega), fun z z1 z2 => ?_, fun z z1 z2 => ?_, fun hn z z1 z2 hz => ?_⟩
    · obtain ⟨n, rfl⟩ : ∃ e, n = e + 1 := ⟨n - 1, by omega⟩
      rw [lsX_lt hkc, s1, ITS_22 hI hkc]
      exact t1 n (by omega)
    · by_cases q : z = k
      · rw [q]; exact hZ
      · exact t5 z (by omega) z2
    · by_cases q : z = k
      · rw [q]; exact s6
      · exact t6 z (by omega) z2
    · by_cases q : z = k
      · subst q
        exact RTQ_R (s7 (fun w w1 w2 => hn w w1 (by omega)) hz) ⟨Nat.le_refl _, hlk⟩ (fun kk y h1 h2 h3 => t2.2.2 kk y (by omega) (by omega) (by omega))
      · exact t7 (fun w w1 w2 => hn w (by omega) w2) z (by omega) z2 hz
