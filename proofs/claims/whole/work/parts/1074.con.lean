/-! the third going through an on, the class -/
variable {T N : Nat} {kd vl rv : Nat → Int} {pl : Nat → Nat}
theorem CT3_15 {G : Nat → HS} {Θ Γs Γ : HS} {t : Nat} {o v : Int32} (h : CT3 T N kd vl pl G Θ Γs t Γ) : CT3 T N kd vl pl G Θ Γs t (o15 Γ o v) := by
  obtain ⟨hc, h16, hA, h3, h4, h6, h54⟩ := h
  refine ⟨⟨hc.1, hc.2⟩, h16, ⟨fun k hk => ?_, hA.2⟩, h3, h4, h6, h54⟩
  rw [← hA.1 k hk]
  show upd _ _ _ _ = _
  unfold scI at hk
  rw [upd_s, if_neg (by omega)]; rfl
/-- where an item's block begins is known from the row -/
theorem hbz_eq (hT : TKE T N kd vl rv pl) {G : Nat → HS} (hG : GRW T N kd vl pl G) {z b b' s m : Nat} {ts sl : Nat → Nat} {is : Nat → Nat} (hj : is (z + 1) ≤ T) (hB : HBZ T vl G kd is z b') (hib : is z ≤ b) (hbj : b + 1 < is (z + 1)) (hk : kd b = 123) (nb : ∀ t, is z ≤ t → t ≤ b → ¬ bodyW G t) (g1 : SC T kd vl (G b) s m 0 ts sl) {k : Int} (g3 : (G b 3).1 12 = J k) (hk2 : 235 ≤ k ∧ k ≤ 237) : b' = b := by
  obtain ⟨y1, y2, y3, y4, -⟩ := hB
  rcases Nat.lt_trichotomy b' b with q | q | q
  · exact absurd (y4 b q (by omega)).1 (nb b hib (Nat.le_refl _))
  · exact q
  · exfalso
    have h1 := y3 (b + 1) (by omega) (by omega) hbj
    have e1 : G (b + 1) = opM (G b) s 0 := g_f hT hG (by omega) (by rw [hk]; unfold qt; omega) (fs_open hT (hG.1 b (by omega)).1 (show b < N by have := (TKE_N hT).1; omega) hk g1 (by omega))
    refine h1 ⟨?_, ?_⟩
    · rw [e1, show ((opM (G b) s 0) 3).1 12 = (G b 3).1 12 from rfl, g3, show (0 : Int32) = J 0 from rfl, Ne, J_eq (by omega) (by omega) (by omega) (by omega)]; omega
    · rw [e1, show ((opM (G b) s 0) 3).1 11 = J ((0 + 1 : Nat) : Int) from rfl]; decide
theorem c_on {G : Nat → HS} {Θ Γs : HS} {σs σK : MS} {DN : Nat → Nat → Nat → Prop} (hE : MEN T N kd vl rv pl G Θ Γs σs σK DN) (hTB : TB T kd vl rv σK Θ) {c z no : Nat} {ls is ps : Nat → Nat} (hm : ∀ z, z < c → is z < is (z + 1)) (hz : z < c) (hI : OND kd vl rv pl σs Γs (ls z) (ls (z + 1)) (is z) (is (z + 1)) (ps z) (ps (z + 1)) no) (hno : ∀ t, is z < t → t < is (z + 1) → noI (kd t)) (hj : is (z + 1) ≤ T) (hZ : GZ T kd vl (G (is z))) {Γ : HS} (h : CT3 T N kd vl pl G Θ Γs (is z) Γ) (hB : ∃ b, HBZ T vl G kd is z b) (hfr : ksF Θ vl (is z + 1) = 3 → (Γ 4).2.1 7 (nsF Θ vl (is z + 1)) = J (frm Θ vl (is z + 1)) ∧ 0 ≤ frm Θ vl (is z + 1) ∧ frm Θ vl (is z + 1) ≤ 2 ∧ nsF Θ vl (is z + 1) ≤ 60) : ∃ cc b, cc ≤ 2 ∧ b = is z + 2 + cc ∧ b < is (z + 1) ∧ (∀ t, is z ≤ t → t < b → kd t ≠ 123) ∧ HBZ T vl G kd is z b ∧ CST T N kd vl pl G Θ Γs (badW G Θ Γs kd vl c is) (fun Γ E => MV G Θ kd vl (b + 1) (is (z + 1)) (o15 (o14 (o13 Γ (J (nsF Θ vl (is z + 1) : Nat))) ((Γ 3).1 15) (if cc = 0 then -1 else J (whV Θ kd vl (is z + 2)))) ((Γ 3).1 15) (if cc ≤ 1 then -1 else J (whV Θ kd vl (is z + 3)))) E) (is z) (is (z + 1)) Γ := by
  obtain ⟨hT, hN, hp, hpb, hX, hG⟩ := id hE
  obtain ⟨n1, n2, n3, n4⟩ := TKE_N hT
  obtain ⟨k0, k1, k2, k3, k4, k5, cc, k6, k7, k8, k9, -⟩ := hI
  obtain ⟨b', hB⟩ := hB
  have hbj : is z + 2 + cc + 1 < is (z + 1) ∧ kd (is z + 2 + cc) = 123 := by
    obtain ⟨h, y, m, r, ⟨a1, a1'⟩, a2, a3, -⟩ := k9
    have hr := STX_rng a3
    have hl := STX_last _ _ _ _ _ _ _ _ _ a3
    have hf := STX_first _ _ _ _ _ _ _ _ _ a3 (Or.inl rfl)
    refine ⟨?_, hf⟩
    rcases Nat.lt_or_ge (is z + 2 + cc + 1) (is (z + 1)) with q | q
    · exact q
    · exfalso
      rw [show is (z + 1) - 1 = is z + 2 + cc by omega, hf] at hl; omega
  have hwk : ∀ k, k < cc → kd (is z + 2 + k) = 2 ∨ (200 ≤ kd (is z + 2 + k) ∧ kd (is z + 2 + k) ≤ 205) ∨ kd (is z + 2 + k) = 255 ∨ kd (is z + 2 + k) = 228 := fun k hk => by
    obtain ⟨-, -, w3⟩ := (k8 k hk).1
    rcases w3 with ⟨a, b, -⟩ | ⟨a, -⟩ | ⟨a, -⟩ | ⟨a, -⟩
    · exact Or.inr (Or.inl ⟨a, b⟩)
    · exact Or.inr (Or.inr (Or.inl a))
    · exact Or.inr (Or.inr (Or.inr a))
    · exact Or.inl a
  obtain ⟨g1, g2, g3, g4⟩ := g_rule hT hG (i := is z) (b := is z + 2 + cc) (by omega) (by omega) (Or.inl k0) (fun t t1 t2 => by
    by_cases e : t = is z + 1
    · rw [e]; exact qh_k k1 (by omega)
    · have := hwk (t - (is z + 2)) (by omega)
      rw [show is z + 2 + (t - (is z + 2)) = t by omega] at this
      exact qh_of (by omega) (by omega) (by omega) (by omega)) hZ
  have nb : ∀ t, is z ≤ t → t ≤ is z + 2 + cc → ¬ bodyW G t := fun t t1 t2 => nbody_11 (g4 t t1 t2)
  have eb := hbz_eq hT hG hj hB (by omega) hbj.1 hbj.2 nb g1 g3 (by omega)
  subst eb
  refine ⟨cc, is z + 2 + cc, k6, rfl, by omega, fun t t1 t2 => (by
    by_cases e0 : t = is z
    · rw [e0, k0]; omega
    by_cases e1 : t = is z + 1
    · rw [e1, k1]; omega
    · have := hwk (t - (is z + 2)) (by omega)
      rw [show is z + 2 + (t - (is z + 2)) = t by omega] at this
      omega), hB, ?_⟩
  have hs0 : ∀ u, u ≤ T → kd u = 2 → (G (is z) 3).2.1 5 (vl u).toNat = 0 := fun u hu hk => hZ.1.2.2.2.2.2.2.2.1 u hu hk (fun k hk' => by omega)
  have hks : ∀ u, u ≤ T → kd u = 2 → 0 ≤ ksF Θ vl u ∧ ksF Θ vl u ≤ 6 ∧ (ksF Θ vl u ≠ 0 → (Θ 3).2.1 4 (vl u).toNat = J (nsF Θ vl u : Nat)) := fun u hu hk => by
    obtain ⟨e1, e2, e3, e4⟩ := hX.2.1 u hu hk
    refine ⟨e3, e4, fun hne => ?_⟩
    have hne2 : σK.2 28 (rv u).toNat ≠ 0 := by
      rw [e1, show (0 : Int32) = J 0 from rfl, Ne, J_eq (by omega) (by omega) (by omega) (by omega)]; exact hne
    rw [← (hTB u hu hk).2 hne2]; exact e2 hne
  have hA' := fun t (t1 : is z ≤ t) (t2 : t < is z + 2 + cc + 1) => badW_A (Γs := Γs) (Θ := Θ) (kd := kd) (vl := vl) (G := G) hm hz t1 (show t < is (z + 1) by omega) (nb t t1 (by omega))
  rcases c_onHead hT h k0 k1 k6 (by omega) hbj.2 hwk hs0 hks hfr with ⟨w, w1, w2, w3, w4, X, x1, x2⟩ | ⟨w1, x1⟩
  · left
    obtain ⟨y, Γ', z1, z2, z3⟩ := g_next hT hG (t := is z) (by omega) (by omega) x2.1 (AGR_trans h.2.2.1 x2.2.2.2.1)
    refine ⟨w, w1, by omega, (hA' w w1 (by omega)).mpr w3, fun v v1 v2 hb => w4 v v1 v2 ((hA' v v1 (by omega)).mp hb), Γ', fun n hn => ?_, by rw [z3.2.1 17 (by omega) (by omega) (by omega) (by omega) (by omega)]; exact x2.2.2.1, fun r r1 r3 r4 r7 => by rw [z3.1 r r3]; exact x2.2.2.2.2 r r3 r4⟩
    have ei : F_X4_itemWord (J (is z : Nat)) Γ = some ((0 : Int32), X) := by
      rw [itemWord_eq, c_kindOf hT h.1 (show is z < N by omega), Option.bind_some, bndE, mrg1_id, bndE, k0]
      dsimp only
      rw [if_neg (show ¬ J 236 < 206 by decide), if_pos (show 212 < J 236 by decide), if_neg (show ¬ J 236 = 219 by decide), if_neg (show ¬ (J 236 = 230 ∨ J 236 = 231) by decide), if_neg (show ¬ J 236 = 232 by decide), if_neg (show ¬ J 236 = 233 by decide), if_neg (show ¬ J 236 = 235 by decide), if_pos (show J 236 = 236 from rfl), x1, Option.bind_some]
    rw [show n = (n - 2) + 1 + 1 by omega, W3_item hT h.1 (show is z < N by omega) h.2.1 h.2.2.1 (nb _ (Nat.le_refl _) (by omega)), ei, Option.bind_some, z1, Option.bind_some]
    exact W3_fault (by rw [m3_16 z3]; exact x2.2.1) (by omega) _ _
  · have ei : F_X4_itemWord (J (is z : Nat)) Γ = some ((0 : Int32), o15 (o14 (o13 Γ (J (nsF Θ vl (is z + 1) : Nat))) ((Γ 3).1 15) (if cc = 0 then -1 else J (whV Θ kd vl (is z + 2)))) ((Γ 3).1 15) (if cc ≤ 1 then -1 else J (whV Θ kd vl (is z + 3)))) := by
      rw [itemWord_eq, c_kindOf hT h.1 (show is z < N by omega), Option.bind_some, bndE, mrg1_id, bndE, k0]
      dsimp only
      rw [if_neg (show ¬ J 236 < 206 by decide), if_pos (show 212 < J 236 by decide), if_neg (show ¬ J 236 = 219 by decide), if_neg (show ¬ (J 236 = 230 ∨ J 236 = 231) by decide), if_neg (show ¬ J 236 = 232 by decide), if_neg (show ¬ J 236 = 233 by decide), if_neg (show ¬ J 236 = 235 by decide), if_pos (show J 236 = 236 from rfl), x1, Option.bind_some]
    have h15 := CT3_15 (o := (Γ 3).1 15) (v := (if cc ≤ 1 then -1 else J (whV Θ kd vl (is z + 3)))) (CT3_14 (o := (Γ 3).1 15) (v := (if cc = 0 then -1 else J (whV Θ kd vl (is z + 2)))) (CT3_13 (v := J (nsF Θ vl (is z + 1) : Nat)) h))
    generalize hΓ1 : o15 (o14 (o13 Γ (J (nsF Θ vl (is z + 1) : Nat))) ((Γ 3).1 15) (if cc = 0 then -1 else J (whV Θ kd vl (is z + 2)))) ((Γ 3).1 15) (if cc ≤ 1 then -1 else J (whV Θ kd vl (is z + 3))) = Γ1 at ei h15
    have hrr : ∀ r, r ≠ 3 → r ≠ 4 → Γ1 r = Γ r := fun r r3 r4 => by
      rw [← hΓ1]; unfold o15 o14 o13; rw [cI_r, if_neg r3, cA_r, if_neg r4, cA_r, if_neg r4, cA_r, if_neg r4]
    obtain ⟨Γ2, d1, d2, d3⟩ := c_istep hT hG h (by omega) (by omega) (nb _ (Nat.le_refl _) (by omega)) ei h15.1 (AGR_trans (AGR_symm h.2.2.1) h15.2.2.1)
    have hq : ∀ t, is z + 1 ≤ t → t < is z + 2 + cc + 1 → ¬ bodyW G t ∧ ¬ (206 ≤ kd t ∧ kd t ≤ 212) ∧ kd t ≠ 219 ∧ ¬ (230 ≤ kd t ∧ kd t ≤ 233) ∧ kd t ≠ 235 ∧ kd t ≠ 236 ∧ ¬ (238 ≤ kd t ∧ kd t ≤ 240) := fun t t1 t2 => by
      refine ⟨nb t (by omega) (by omega), ?_⟩
      by_cases e : t = is z + 1
      · rw [e, k1]; omega
      by_cases e2 : t = is z + 2 + cc
      · rw [e2, hbj.2]; omega
      · have := hwk (t - (is z + 2)) (by omega)
        rw [show is z + 2 + (t - (is z + 2)) = t by omega] at this
        omega
    obtain ⟨Δ, e1, e2, e3⟩ := c_iflat hT hG (Θ := Θ) (Γs := Γs) (i := is z + 1) (j := is z + 2 + cc + 1) (by omega) hq (is z + 2 + cc + 1 - (is z + 1)) (is z + 1) Γ2 (by omega) (Nat.le_refl _) (CT3_m3 h15 d3 d2)
    have m := m3_trans d3 e3
    refine CST_pre (k := is z + 2 + cc + 1) (by omega) (by omega) (fun n => ?_) (fun r _ r3 r4 _ => by rw [m.1 r r3]; exact hrr r r3 r4) (fun t t1 t2 hb => ?_) (c_rtail hE hTB hB (by omega) hno hj e2) (fun E hE' => by rw [hΓ1]; exact MV_of_m3 m hE')
    · rw [show n + (is z + 2 + cc + 1 - is z) = (n + (is z + 2 + cc + 1 - (is z + 1))) + 1 by omega, d1]
      exact e1 n
    · by_cases e : t = is z + 2 + cc
      · have := (hA' t t1 t2).mp hb
        rw [e] at this
        rcases this with hh | hh | hh | hh | hh
        · omega
        · omega
        · omega
        · exact hh.2.2.1 hbj.2
        · exact hh.2.2.2.1 hbj.2
      · exact w1 t t1 (by omega) ((hA' t t1 t2).mp hb)
