/-! every item, by its kind -/
variable {T N : Nat} {kd vl rv : Nat → Int} {pl : Nat → Nat}
/-- the forms of verbs, as the reference finds them -/
def VFE (T : Nat) (kd vl rv : Nat → Int) (Θ : HS) (σs σK : MS) : Prop := ∀ u, u ≤ T → kd u = 2 → ksF Θ vl u = 3 → ∀ σ, AGM σs σ → K3 σK σ → ∃ F : Nat, F_X12_nounsOf (σ.2 29 (rv u).toNat) (σ.2 30 (rv u).toNat) σ = some (J (F : Nat), σ) ∧ frm Θ vl u = F ∧ F ≤ 2 ∧ nsF Θ vl u < 1000
theorem PRT_qh {g : Int} {σ : MS} {t hi i j : Nat} (h : PRT kd rv pl g σ t hi i j) : ∀ u, i ≤ u → u < j → qh (kd u) := by
  obtain ⟨h1, h2, h3⟩ := PRT_words h
  intro u u1 u2
  by_cases e : u = i
  · by_cases e2 : kd i = 240
    · rw [e, e2]; exact qh_of (by omega) (by omega) (by omega) (by omega)
    · rw [e]; exact qp_qh (h2 e2)
  · exact qp_qh (h1 u (by omega) u2)
theorem qh_k {t : Nat} {k : Int} (e : kd t = k) (h : ¬ (235 ≤ k ∧ k ≤ 237) ∧ k ≠ 242 ∧ k ≠ 123 ∧ k ≠ 125) : qh (kd t) := by rw [e]; exact qh_of h.1 h.2.1 h.2.2.1 h.2.2.2
theorem ri_place {G : Nat → HS} {Θ Γs : HS} {σs σK : MS} {DN : Nat → Nat → Nat → Prop} (hE : MEN T N kd vl rv pl G Θ Γs σs σK DN) {TX : Nat → Int → Int → Prop} {c z : Nat} {ls is ps : Nat → Nat} (hm : ∀ z, z < c → is z < is (z + 1)) (hpre : ∀ z, z < c → is z ≠ 0 → kd (is z - 1) ≠ 239) (hz : z < c) {w : Int} (hw : (w = 1 ∧ kd (is z) = 230) ∨ (w = 2 ∧ kd (is z) = 231)) (hI : PLC kd rv pl w σs (ls z) (ls (z + 1)) (is z) (is (z + 1))) (hl : ls (z + 1) ≤ 39000) (hj : is (z + 1) ≤ T) {τ : MS} (hA : AGM σs τ) (hK : K3 σK τ) (hZ : GZ T kd vl (G (is z))) : ∃ υ, rRes T kd vl pl σs G Θ Γs DN TX c ls is ps z τ υ := by
  obtain ⟨hT, hN, hp, hpb, hX, hG⟩ := id hE
  obtain ⟨n1, n2, n3, n4⟩ := TKE_N hT
  obtain ⟨k1, k2, k3, k4, k5, k6, k7, k8, k9, k10, k11, k12, k13, k14, f, cc, k15, k16⟩ := hI
  have hwords := LST_all (P := fun u => qh (kd u)) k16 (by omega) (fun lo hi x i j p q h u u1 u2 => PRT_qh h.2.2 u u1 u2) (fun t ht => qh_k ht (by omega))
  have hGZ := g_place hT hG (i := is z) (b := is z + 3) (j := is (z + 1)) (by omega) (by omega) hj (fun t t1 t2 => by
    by_cases e1 : t = is z
    · rw [e1]; exact qh_of (by omega) (by omega) (by omega) (by omega)
    by_cases e2 : t = is z + 1
    · rw [e2]; exact qh_k k3 (by omega)
    · rw [show t = is z + 2 by omega]; exact qh_k k4 (by omega)) k5 (fun t t1 t2 => hwords t (by omega) t2) k6 hZ
  obtain ⟨xs, lt, it, js, pt, ⟨c0, c1⟩, c2, c3, c4, c5, c6, c7, c8, c9, c10, c11⟩ := k16
  have hrng := LST_rng (fun k hk => ⟨(c4 k hk).1, (c4 k hk).2.1, (c4 k hk).2.2⟩) c9 c10
  have hlt : ∀ k, k ≤ cc → lt k ≤ ls (z + 1) ∧ it k ≤ is (z + 1) - 1 ∧ k ≤ it k := by
    intro k hk
    have a := hrng (cc - k) k (by omega)
    rw [show k + (cc - k) = cc by omega] at a
    have b : k ≤ it k := by
      have : ∀ e, e ≤ cc → e ≤ it e := by
        intro e
        induction e with
        | zero => intro _; omega
        | succ e ih => intro he; have := ih (by omega); have b := c9 e (by omega); rw [b.2]; split <;> omega
      exact this k hk
    exact ⟨by omega, by omega, b⟩
  have hx : ls z < 39990 := by have := hlt 0 (by omega); omega
  obtain ⟨b, e1, e2⟩ := r_parts (Θ := Θ) (a := is z) hT hp hpb c1 (fun k hk => (c4 k hk).2.2.2.2) (fun k hk => by rw [(c9 k hk).2]; split <;> omega) (fun k hk => (hlt k hk).1) hl hw (fun k hk => by have := hlt k hk; omega) cc 0 τ (by omega) hA (KE_K hX.2.1 hK)
  rw [c5, c6] at e2
  have hcc := hlt cc (Nat.le_refl _)
  have ef : (if 0 < cc then (xs 0 : Int) else -1) = f := by
    rw [c0]
    by_cases q0 : cc = 0
    · rw [if_neg (by omega), if_pos q0]
    · rw [if_pos (by omega), if_neg q0]
  obtain ⟨en, en2⟩ := en_of hx
  have ha : kd (is z) ≠ 236 := by omega
  refine ⟨noF τ b, r_flat hm hz hA (by omega) (fun n => ?_) (NT_wide hp e2 (by omega) (by omega) (by omega) (fun u u1 u2 => ?_) (fun u u1 u2 => by rw [show u = is (z + 1) - 1 by omega]; exact badA_k ha (by rw [k6]; omega))) hGZ⟩
  · rw [rs_step hx hA k7 (by omega), if_pos (by omega)]
    unfold Rj84
    rw [if_neg en, bndE, en2, ag_20 hA k7 (by omega), k15, ← ef, e1 _ FU (FU_gt (by omega)), rj_no (by omega), rnx_go hx (AGM_noF hA)]
  · by_cases e3 : u = is z + 1
    · rw [e3]
      rintro (h | h | h | h | h)
      · rw [show is z + 1 - 2 = is z - 1 by omega] at h
        by_cases e0 : is z = 0
        · rw [e0, show 0 - 1 = 0 by omega, ← e0] at h; omega
        · exact hpre z hz e0 h.2.1
      · rw [show is z + 1 - 1 = is z by omega] at h; omega
      · exact ha h.1
      · exact ha h.1
      · exact ha h.1
    · refine badA_k ha ?_
      by_cases e4 : u = is z
      · rw [e4]; omega
      by_cases e5 : u = is z + 2
      · rw [e5, k4]; omega
      · rw [show u = is z + 3 by omega, k5]; omega
theorem ri_none {G : Nat → HS} {Θ Γs : HS} {σs σK : MS} {DN : Nat → Nat → Nat → Prop} (hE : MEN T N kd vl rv pl G Θ Γs σs σK DN) {TX : Nat → Int → Int → Prop} {c z : Nat} {ls is ps : Nat → Nat} (hm : ∀ z, z < c → is z < is (z + 1)) (hz : z < c) {w : Int} (hw : 3 ≤ w ∧ w ≤ 5) (hk : 232 ≤ kd (is z) ∧ kd (is z) ≤ 234) (h17 : σs.2 17 (ls z) = J w) (hx : ls z < 39990) (hj : is (z + 1) ≤ T) (hq : ∀ t, is z ≤ t → t < is (z + 1) → qh (kd t)) {τ : MS} (hA : AGM σs τ) (hZ : GZ T kd vl (G (is z))) : ∃ υ, rRes T kd vl pl σs G Θ Γs DN TX c ls is ps z τ υ := by
  obtain ⟨hT, hN, hp, hpb, hX, hG⟩ := id hE
  have hGZ := q_g_flat hT hG (Nat.le_of_lt (hm z hz)) hj hq hZ
  refine ⟨noF τ (flt τ), r_flat hm hz hA (by omega) (fun n => ?_) (NT_none (fun u u1 u2 => ?_)) hGZ⟩
  · rw [rs_step hx hA h17 (by omega), if_neg (by omega), rj_no (by omega), rnx_go hx hA, noF_id]
  · rintro (h | h | h | h | h) <;> omega
/-- a routine's words, as bad ones -/
theorem ri_rout {G : Nat → HS} {Θ Γs : HS} {σs σK : MS} {DN : Nat → Nat → Nat → Prop} (hE : MEN T N kd vl rv pl G Θ Γs σs σK DN) {TX : Nat → Int → Int → Prop} {c z b : Nat} {ls is ps : Nat → Nat} (hm : ∀ z, z < c → is z < is (z + 1)) (hz : z < c) (hib : is z + 1 ≤ b) (hbj : b < is (z + 1)) (hk : 235 ≤ kd (is z) ∧ kd (is z) ≤ 237) (hk3 : kd b = 123) (hj : is (z + 1) ≤ T) (h11 : ∀ t, is z ≤ t → t ≤ b → (G t 3).1 11 = J 0) (h12 : (G b 3).1 12 = J (kd (is z))) {τ υ ω : MS} {lo : Nat} (e : ∀ n, loopF Rs1 (n + 1) (J (ls z : Nat), τ) = loopF Rs1 n (σs.2 22 (ls z), ω)) (hr : rJ (ls z) (ls (z + 1)) τ υ) (hB : rB lo (ls (z + 1)) υ ω) (hlo : ls z ≤ lo) (hA : AGM σs ω) (hN1 : NT pl (badA Θ kd vl (is z)) (is z) b (flt τ) (flt υ)) (hbA : ¬ badA Θ kd vl (is z) b) (hN2 : NT pl (badB G Θ Γs kd vl) b (is (z + 1)) (flt υ) (flt ω)) (hG : GZ T kd vl (G (is (z + 1)))) (hD : ∀ t, b < t → t < is (z + 1) → DPT T kd vl 1 (G t) ∧ (G t 3).1 12 = (G b 3).1 12) (hq : (∀ w, b ≤ w → w < is (z + 1) → ¬ badB G Θ Γs kd vl w) → RTQ (op1 Γs) (lk3 G Θ Γs kd vl) ω.2 DN TX (kd (is z) = 235) (ls z) lo (ls (z + 1)) (ps z) (ps (z + 1))) : rRes T kd vl pl σs G Θ Γs DN TX c ls is ps z τ ω := by
  obtain ⟨hT, hN, hp, hpb, hX, hGR⟩ := id hE
  have nb : ∀ t, is z ≤ t → t ≤ b → ¬ bodyW G t := fun t t1 t2 => nbody_11 (h11 t t1 t2)
  have yb : ∀ t, b < t → t < is (z + 1) → bodyW G t := fun t t1 t2 => body_of (hD t t1 t2).1 (hD t t1 t2).2 h12 hk
  have bB : ¬ badB G Θ Γs kd vl b := badB_kd hk3 (by omega)
  have hWb : ¬ badW G Θ Γs kd vl c is b := fun h => hbA ((badW_A hm hz (by omega) hbj (nb b (by omega) (Nat.le_refl _))).mp h)
  refine ⟨e, rJ_trans hr (rJ_wide (rJ_rB hB) hlo (Nat.le_refl _)), hA, ?_, hG, ⟨b, by omega, by omega, fun t t1 t2 _ => nb t t1 t2, fun t t1 t2 => ⟨yb t t1 t2, (hD t t1 t2).1⟩, fun h => by omega⟩, fun hn _ => ?_⟩
  · refine NT_lr hp hpb (k := b) (NT_congr hN1 (fun w w1 w2 => (badW_A hm hz w1 (by omega) (nb w w1 (by omega))).symm)) (NT_congr hN2 (fun w w1 w2 => ?_)) (by omega) (by omega) (by omega)
    by_cases q : w = b
    · rw [q]; exact ⟨fun h => absurd h bB, fun h => absurd h hWb⟩
    · exact (badW_B (yb w (by omega) w2)).symm
  · obtain ⟨hh, y, m, r, lo', a1, a2⟩ := hq (fun w w1 w2 hb => by
      by_cases q : w = b
      · rw [q] at hb; exact bB hb
      · exact hn w (by omega) w2 ((badW_B (yb w (by omega) w2)).mpr hb))
    exact ⟨hh, y, m, r, lo', by omega, a2⟩
