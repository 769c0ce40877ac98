/-! laying's join: an on, from what is known of a built text -/
variable {T N : Nat} {kd vl rv : Nat → Int} {pl : Nat → Nat}
/-- where an on's block begins, and its words ahead of it -/
theorem on_begin (hT : TKE T N kd vl rv pl) {G : Nat → HS} (hG : GRW T N kd vl pl G) {Γs : HS} {σs : MS} {z no : Nat} {ls is ps : Nat → Nat} (hI : OND kd vl rv pl σs Γs (ls z) (ls (z + 1)) (is z) (is (z + 1)) (ps z) (ps (z + 1)) no) (hj : is (z + 1) ≤ T) (hZ : GZ T kd vl (G (is z))) : ∃ cc y m : Nat, cc ≤ 2 ∧ σs.2 20 (ls z) = (if cc = 0 then J (-1) else J (ls z + 2 : Nat)) ∧ WHS kd rv pl σs (ls z + 2) cc (is z + 2) ∧ (is z + 2 + cc + 1 < is (z + 1) ∧ kd (is z + 2 + cc) = 123) ∧ (∀ t, is z ≤ t → t ≤ is z + 2 + cc → ¬ bodyW G t) ∧ (∀ b', HBZ T vl G kd is z b' → b' = is z + 2 + cc) ∧ (∀ k, k < cc → kd (is z + 2 + k) ≠ 123) ∧ ls (z + 1) = m + 1 ∧ ls z + 2 + cc ≤ m ∧ σs.2 21 (ls z) = J (m : Nat) ∧ σs.2 19 m = J (y : Nat) := by
  obtain ⟨k0, k1, k2, k3, k4, k5, cc, k6, k7, k8, k9, -⟩ := hI
  obtain ⟨h, y, m, r, ⟨a1, a1'⟩, a2, a3, a4, a5, a6, a7, -⟩ := k9
  have hr := STX_rng a3
  have hl := STX_last _ _ _ _ _ _ _ _ _ a3
  have hf := STX_first _ _ _ _ _ _ _ _ _ a3 (Or.inl rfl)
  have hbj : is z + 2 + cc + 1 < is (z + 1) ∧ kd (is z + 2 + cc) = 123 := by
    refine ⟨?_, hf⟩
    rcases Nat.lt_or_ge (is z + 2 + cc + 1) (is (z + 1)) with q | q
    · exact q
    · exfalso
      rw [show is (z + 1) - 1 = is z + 2 + cc by omega, hf] at hl; omega
  have hwk : ∀ k, k < cc → kd (is z + 2 + k) = 2 ∨ (200 ≤ kd (is z + 2 + k) ∧ kd (is z + 2 + k) ≤ 205) ∨ kd (is z + 2 + k) = 255 ∨ kd (is z + 2 + k) = 228 := fun k hk => by
    obtain ⟨-, -, w3⟩ := (k8 k hk).1
    rcases w3 with ⟨a, b, -⟩ | ⟨a, -⟩ | ⟨a, -⟩ | ⟨a, -⟩
    · exact Or.inr (Or.inl ⟨a, b⟩)
    · exact Or.inr (Or.inr (Or.inl a))
    · exact Or.inr (Or.inr (Or.inr a))
    · exact Or.inl a
  obtain ⟨g1, g2, g3, g4⟩ := g_rule hT hG (i := is z) (b := is z + 2 + cc) (by omega) (by omega) (Or.inl k0) (fun t t1 t2 => by
    by_cases e : t = is z + 1
    · rw [e]; exact qh_k k1 (by omega)
    · have := hwk (t - (is z + 2)) (by omega)
      rw [show is z + 2 + (t - (is z + 2)) = t by omega] at this
      exact qh_of (by omega) (by omega) (by omega) (by omega)) hZ
  have nb : ∀ t, is z ≤ t → t ≤ is z + 2 + cc → ¬ bodyW G t := fun t t1 t2 => nbody_11 (g4 t t1 t2)
  exact ⟨cc, y, m, k6, k7, k8, hbj, nb, fun b' hB => hbz_eq hT hG hj hB (by omega) hbj.1 hbj.2 nb g1 g3 (by omega), fun k hk => by
    have := hwk k hk
    omega, by omega, by omega, a4, a7⟩
theorem ly_on (hT : TKE T N kd vl rv pl) {m : Nat} {nm : Nat → List Int} {cl : List Int} {G : Nat → HS} {Θ Γs : HS} {σs ρ : MS} {c z o : Nat} {ls is ps ds os es : Nat → Nat} {K : Nat → HS} (hG : GRW T N kd vl pl G) (hI : ITS kd vl rv pl σs Γs c ls is ps ds os es) (hZ : ∀ z, z ≤ c → GZ T kd vl (G (is z))) (hbad : ∀ t, t < T → ¬ badW G Θ Γs kd vl c is t) (hK : CIT T G Θ kd vl cl is z (K z) (K (z + 1))) (hz : z < c) (hlz : ls (z + 1) ≤ 39000) (hj : is (z + 1) ≤ T) (hk : kd (is z) = 236) (hA : AGM σs ρ) (hKE : KE T kd vl rv Θ ρ) (ho : o < 200) (h83 : ρ.1 83 = J (o : Nat)) : ∃ (cc y : Nat) (ρ' : MS), cc ≤ 2 ∧ is z + 2 + cc + 1 < is (z + 1) ∧ F_X12_layOne (J (ls z : Nat)) ρ = some ((0 : Int32), ρ') ∧ ONF o (nsF Θ vl (is z + 1)) cc (J (whR Θ kd vl (is z + 2))) (J (whR Θ kd vl (is z + 3))) (J (y : Nat)) ρ ρ' ∧ MV G Θ kd vl (is z + 2 + cc + 1) (is (z + 1)) (onE Θ kd vl (is z) cc (K z)) (K (z + 1)) ∧ ksF Θ vl (is z + 1) = 3 ∧ (∃ mm, mm < ls (z + 1) ∧ σs.2 21 (ls z) = J (mm : Nat) ∧ σs.2 19 mm = J (y : Nat)) ∧ ∀ k, k < cc → kd (is z + 2 + k) ≠ 123 ∧ (k : Int) + 1 ≤ frm Θ vl (is z + 1) ∧ goodWh Θ kd vl (is z + 1) (is z + 2 + k) := by
  obtain ⟨hIt, -, -, hlt, -⟩ := hI z hz
  obtain ⟨hd1, hd2, -⟩ := ITM_hd hIt
  have hV : OND kd vl rv pl σs Γs (ls z) (ls (z + 1)) (is z) (is (z + 1)) (ps z) (ps (z + 1)) (os z) := by
    rcases hIt with ⟨a0, a1, a2⟩ | ⟨a0, a1, a2⟩ | ⟨a1, b1, -⟩ | ⟨a1, b1, -⟩ | ⟨a1, b1, -⟩ | ⟨k0, -⟩ | hO | ⟨k0, -⟩
    · omega
    · omega
    · omega
    · omega
    · omega
    · omega
    · exact hO
    · omega
  obtain ⟨cc, y, mm, b1, b2, b3, ⟨b4, b5⟩, b6, b7, b8, b9, b10, b11, b12⟩ := on_begin hT hG hV hj (hZ z (by omega))
  have k1 : kd (is z + 1) = 2 := hV.2.1
  have good : ∀ t, is z ≤ t → t ≤ is z + 2 + cc → ¬ badA Θ kd vl (is z) t := fun t t1 t2 hb' => hbad t (by omega) (Or.inr ⟨b6 t t1 t2, z, hz, t1, by omega, hb'⟩)
  have e3 : ksF Θ vl (is z + 1) = 3 := by
    by_cases q : ksF Θ vl (is z + 1) = 3
    · exact q
    · exact absurd (Or.inr (Or.inr (Or.inl ⟨hk, rfl, q⟩))) (good (is z + 1) (by omega) (by omega))
  have gw : ∀ k, k < cc → (k : Int) + 1 ≤ frm Θ vl (is z + 1) ∧ goodWh Θ kd vl (is z + 1) (is z + 2 + k) := fun k hk2 => by
    have n1 := b8 k hk2
    obtain rfl | rfl : k = 0 ∨ k = 1 := by omega
    · have g := good (is z + 2) (by omega) (by omega)
      refine Classical.byContradiction (fun q => g (Or.inr (Or.inr (Or.inr (Or.inl ⟨hk, rfl, n1, e3, fun w => q ⟨by have := w.1; omega, w.2⟩⟩)))))
    · have g := good (is z + 3) (by omega) (by omega)
      have n0 := b8 0 (by omega)
      refine Classical.byContradiction (fun q => g (Or.inr (Or.inr (Or.inr (Or.inr ⟨hk, rfl, n0, n1, e3, fun w => q ⟨by have := w.1; omega, w.2⟩⟩)))))
  have hks : ∀ k, k < cc → kd (is z + 2 + k) = 2 → ksF Θ vl (is z + 2 + k) ≠ 0 := fun k hk2 hk3 => by
    rcases (gw k hk2).2 with g | ⟨-, g1, -⟩ | ⟨-, g | ⟨-, g⟩⟩
    · omega
    · omega
    · omega
    · omega
  have hrv : ∀ u, u ≤ T → kd u = 2 → 0 ≤ rv u ∧ rv u < 8000 := fun u hu hk2 => by
    have := (hT.2.2.2 u (by omega)).2.1 hk2; omega
  have h17 : σs.2 17 (ls z) = J 7 := hV.2.2.1
  have h21 : ρ.2 21 (ls z) = J (mm : Nat) := by
    rw [hA.2.2 (ls z) (by rw [h17]; exact J_ne (by omega) (by omega) (by omega) (by omega) (by omega)) (by rw [h17]; exact J_ne (by omega) (by omega) (by omega) (by omega) (by omega)) (by rw [h17]; exact J_ne (by omega) (by omega) (by omega) (by omega) (by omega)) (by rw [h17]; exact J_ne (by omega) (by omega) (by omega) (by omega) (by omega))]; exact b11
  obtain ⟨ρ', l1, l2⟩ := lp_on (x := ls z) (y := mm) (n := nsF Θ vl (is z + 1)) (o := o) (c := cc) (v := J (y : Nat)) (by omega) (by omega) ho b1 h17 b2 b3 hA hKE (by omega) hrv hks h83 h21 (by rw [hA.1 19 (by omega)]; exact b12)
  refine ⟨cc, y, ρ', b1, b4, ?_, l2, ?_, e3, ⟨mm, by omega, b11, b12⟩, fun k hk2 => ⟨b8 k hk2, gw k hk2⟩⟩
  · have hd := hd2 (by omega)
    rw [lo_head (u := is z + 1) (by omega) hT (by omega) k1 hd.1 hd.2 hA hKE (by omega)]
    exact l1
  · obtain ⟨b, x1, x2, x3, x4, x5, x6⟩ := hK.2 (by omega)
    obtain ⟨c2, y1, y2, y3⟩ := x6 hk
    have e := b7 b x4
    have ec : c2 = cc := by omega
    rw [ec] at y3
    rw [e] at y3
    exact y3
