/-! a play kept and taken up again, in both -/
variable {nO nV nC : Nat} {room : Nat → Bool}
/-- what a play of the class is, as far as it counts -/
def CPE (P Q : CS) : Prop := (∀ k, 7 ≤ k → k ≤ 11 → P.1 k = Q.1 k) ∧ (∀ k, k < 4 → ∀ i, i ≤ 120 → P.2.1 k i = Q.2.1 k i) ∧ (∀ i, i < 100 → P.2.1 4 i = Q.2.1 4 i) ∧ (∀ i, i < 1000 → P.2.1 5 i = Q.2.1 5 i) ∧ ∀ i, i < 120 → P.2.1 6 i = Q.2.1 6 i
theorem CPE_rfl (P : CS) : CPE P P := ⟨fun _ _ _ => rfl, fun _ _ _ _ => rfl, fun _ _ => rfl, fun _ _ => rfl, fun _ _ => rfl⟩
theorem CPE_trans {P Q R : CS} (h : CPE P Q) (g : CPE Q R) : CPE P R := ⟨fun k a b => (h.1 k a b).trans (g.1 k a b), fun k a i b => (h.2.1 k a i b).trans (g.2.1 k a i b), fun i a => (h.2.2.1 i a).trans (g.2.2.1 i a), fun i a => (h.2.2.2.1 i a).trans (g.2.2.2.1 i a), fun i a => (h.2.2.2.2 i a).trans (g.2.2.2.2 i a)⟩
theorem CPE_symm {P Q : CS} (h : CPE P Q) : CPE Q P := ⟨fun k a b => (h.1 k a b).symm, fun k a i b => (h.2.1 k a i b).symm, fun i a => (h.2.2.1 i a).symm, fun i a => (h.2.2.2.1 i a).symm, fun i a => (h.2.2.2.2 i a).symm⟩
theorem va_cpy0 {f g : Nat → Int32} {n i : Nat} (h : i < n) : va_cpy f g 0 0 n i = f i := by
  unfold va_cpy
  rw [if_pos (by omega), show 0 + (i - 0) = i by omega]
/-- the class's copy -/
theorem c_copy (Γ : HS) : ∃ Δ, F_X6_copy Γ = some ((0 : Int32), Δ) ∧ (∀ r, r ≠ 9 → Δ r = Γ r) ∧ CPE (Δ 9) (Γ 12) := by
  unfold F_X6_copy
  rw [if_neg (by decide), bndE, if_neg (by decide), bndE, if_neg (by decide), bndE, if_neg (by decide), bndE, if_neg (by decide), bndE, if_neg (by decide), bndE, if_neg (by decide), bndE, bndE, bndE, bndE, bndE, bndE]
  refine ⟨_, rfl, fun r hr => ?_, fun k k1 k2 => ?_, fun k k1 i hi => ?_, fun i hi => ?_, fun i hi => ?_, fun i hi => ?_⟩
  · rw [cI_r, if_neg hr, cI_r, if_neg hr, cI_r, if_neg hr, cI_r, if_neg hr, cI_r, if_neg hr, cA_r, if_neg hr, cA_r, if_neg hr, cA_r, if_neg hr, cA_r, if_neg hr, cA_r, if_neg hr, cA_r, if_neg hr, cA_r, if_neg hr]
  · obtain rfl | rfl | rfl | rfl | rfl : k = 7 ∨ k = 8 ∨ k = 9 ∨ k = 10 ∨ k = 11 := by omega
    all_goals rfl
  · obtain rfl | rfl | rfl | rfl : k = 0 ∨ k = 1 ∨ k = 2 ∨ k = 3 := by omega
    all_goals exact va_cpy0 (by show i < 121; omega)
  · exact va_cpy0 hi
  · exact va_cpy0 hi
  · exact va_cpy0 hi
/-- both worlds read only where it counts -/
theorem PLT_ext {σ τ : MS} {Γ Δ : HS} {pa fi nx : Nat → Nat} {ch : Nat → List Nat} {tr : Nat → Nat} (hV : nV ≤ 100) (hC : nC ≤ 1000) (h : PLT nO room nV nC σ Γ pa fi nx ch tr) (hc : CPE (Δ 9) (Γ 9)) (hT : ∀ y, y ≤ 120 → τ.2 87 y = σ.2 87 y ∧ τ.2 88 y = σ.2 88 y ∧ τ.2 89 y = σ.2 89 y ∧ ∀ c, c < 7 → τ.2 90 (7 * y + c) = σ.2 90 (7 * y + c)) (h91 : ∀ j, j < nV → τ.2 91 j = σ.2 91 j) (h92 : ∀ j, j < nC → τ.2 92 j = σ.2 92 j) (hi : τ.1 93 = σ.1 93 ∧ τ.1 94 = σ.1 94 ∧ τ.1 95 = σ.1 95 ∧ τ.1 96 = σ.1 96 ∧ τ.1 98 = σ.1 98) {l : Int} (hl : σ.1 98 = J l ∧ -1 ≤ l ∧ l ≤ 120) (h97 : ∀ j : Nat, (j : Int) < l → τ.2 97 j = σ.2 97 j) : PLT nO room nV nC τ Δ pa fi nx ch tr := by
  obtain ⟨a1, a2, a3, a4, a5, a6, a7, a8, a9, a10, a11, a12, a13⟩ := h
  obtain ⟨c1, c2, c3, c4, c5⟩ := hc
  obtain ⟨i1, i2, i3, i4, i5⟩ := hi
  refine ⟨a1, fun i hi => ?_, fun i hi => ?_, fun x hx => ?_, fun k hk => ?_, fun k hk => ?_, ?_, ?_, ?_, a10, a11, ?_, a13⟩
  · rw [(hT i hi).1, (hT i hi).2.1, (hT i hi).2.2.1]; exact a2 i hi
  · rw [c2 0 (by omega) i hi, c2 1 (by omega) i hi, c2 2 (by omega) i hi]; exact a3 i hi
  · obtain ⟨t1, t2, t3⟩ := a4 x hx
    exact ⟨t1, by rw [c2 3 (by omega) x hx]; exact t2, fun a ha => by rw [(hT x hx).2.2.2 a ha]; exact t3 a ha⟩
  · rw [h91 k hk, c3 k (by omega)]; exact a5 k hk
  · rw [h92 k hk, c4 k (by omega)]; exact a6 k hk
  · rw [c1 8 (by omega) (by omega), c1 9 (by omega) (by omega), c1 10 (by omega) (by omega), c1 11 (by omega) (by omega), i1, i2, i3, i4]; exact a7
  · rw [i3]; exact a8
  · rw [i4]; exact a9
  · unfold LAT
    rw [i5, c1 7 (by omega) (by omega)]
    rcases a12 with h | ⟨n, n1, n2, n3, n4, n5, i0, m1, c0, m2, m3⟩
    · exact Or.inl h
    · have e : l = (n : Nat) := by
        have e := congrArg Int32.toInt (hl.1.symm.trans n3)
        rwa [J_toInt (by omega) (by omega), J_toInt (by omega) (by omega)] at e
      refine Or.inr ⟨n, n1, n2, n3, n4, fun i hi => ?_, i0, m1, c0, by rw [h97 i0 (by omega)]; exact m2, m3⟩
      rw [h97 i (by omega), c5 i (by omega)]; exact n5 i hi
/-- how long the line kept for `again` is -/
theorem LAT_l {σ : MS} {Γ : HS} (h : LAT σ Γ) : ∃ l : Int, σ.1 98 = J l ∧ -1 ≤ l ∧ l ≤ 120 ∧ ∀ j : Nat, (j : Int) < l → ∃ c : Int, σ.2 97 j = J c ∧ -128 ≤ c ∧ c < 128 := by
  rcases h with ⟨h, -⟩ | ⟨n, n1, n2, n3, n4, n5, -⟩
  · exact ⟨-1, h, by omega, by omega, fun j hj => by omega⟩
  · refine ⟨(n : Nat), n3, by omega, by omega, fun j hj => ?_⟩
    obtain ⟨c, c1, c2, c3, c4, c5⟩ := n5 j (by omega)
    exact ⟨c, c1, by omega, by omega⟩
/-- a slot of the reference holds what a play of the class holds -/
def SLOT (nO : Nat) (room : Nat → Bool) (nV nC : Nat) (f : Nat → Int32) (b : Nat) (P : CS) : Prop := ∃ (σ0 : MS) (Γ0 : HS) (pa fi nx : Nat → Nat) (ch : Nat → List Nat) (tr : Nat → Nat) (l : Int), PLT nO room nV nC σ0 Γ0 pa fi nx ch tr ∧ CPE (Γ0 9) P ∧ KPT σ0 f b nO tr nV nC l ∧ σ0.1 98 = J l ∧ (-1 ≤ l ∧ l ≤ 120) ∧ ∀ j : Nat, (j : Int) < l → ∃ c : Int, σ0.2 97 j = J c ∧ -128 ≤ c ∧ c < 128
theorem SLOT_cpe {f : Nat → Int32} {b : Nat} {P Q : CS} (h : SLOT nO room nV nC f b P) (e : CPE P Q) : SLOT nO room nV nC f b Q := by
  obtain ⟨σ0, Γ0, pa, fi, nx, ch, tr, l, h1, h2, h3⟩ := h
  exact ⟨σ0, Γ0, pa, fi, nx, ch, tr, l, h1, CPE_trans h2 e, h3⟩
theorem KPT_shift {σ : MS} {f g : Nat → Int32} {b b' : Nat} {tr : Nat → Nat} {l : Int} (hl : l ≤ 120) (hn : 4 * nO + nV + nC + 125 ≤ 2600) (h : KPT σ f b nO tr nV nC l) (e : ∀ i, i < 2600 → g (b' + i) = f (b + i)) : KPT σ g b' nO tr nV nC l := by
  obtain ⟨k1, k2, k3, k4, k5, k6, k7, k8, k9⟩ := h
  have e' : ∀ x i y, i < 2600 → b' + i = x → b + i = y → g x = f y := fun x i y h1 h2 h3 => by rw [← h2, ← h3]; exact e i h1
  refine ⟨fun i hi => ?_, fun j hj => ?_, fun j hj => ?_, ?_, ?_, ?_, ?_, ?_, fun j hj => ?_⟩
  · obtain ⟨o1, o2, o3, o4⟩ := k1 i hi
    refine ⟨?_, ?_, ?_, ?_⟩
    · rw [e' (b' + 4 * i) (4 * i) (b + 4 * i) (by omega) (by omega) (by omega)]; exact o1
    · rw [e' (b' + 4 * i + 1) (4 * i + 1) (b + 4 * i + 1) (by omega) (by omega) (by omega)]; exact o2
    · rw [e' (b' + 4 * i + 2) (4 * i + 2) (b + 4 * i + 2) (by omega) (by omega) (by omega)]; exact o3
    · rw [e' (b' + 4 * i + 3) (4 * i + 3) (b + 4 * i + 3) (by omega) (by omega) (by omega)]; exact o4
  · rw [e' (b' + 4 * nO + j) (4 * nO + j) (b + 4 * nO + j) (by omega) (by omega) (by omega)]; exact k2 j hj
  · rw [e' (b' + 4 * nO + nV + j) (4 * nO + nV + j) (b + 4 * nO + nV + j) (by omega) (by omega) (by omega)]; exact k3 j hj
  · rw [e' (b' + 4 * nO + nV + nC) (4 * nO + nV + nC) (b + 4 * nO + nV + nC) (by omega) (by omega) (by omega)]; exact k4
  · rw [e' (b' + 4 * nO + nV + nC + 1) (4 * nO + nV + nC + 1) (b + 4 * nO + nV + nC + 1) (by omega) (by omega) (by omega)]; exact k5
  · rw [e' (b' + 4 * nO + nV + nC + 2) (4 * nO + nV + nC + 2) (b + 4 * nO + nV + nC + 2) (by omega) (by omega) (by omega)]; exact k6
  · rw [e' (b' + 4 * nO + nV + nC + 3) (4 * nO + nV + nC + 3) (b + 4 * nO + nV + nC + 3) (by omega) (by omega) (by omega)]; exact k7
  · rw [e' (b' + 4 * nO + nV + nC + 4) (4 * nO + nV + nC + 4) (b + 4 * nO + nV + nC + 4) (by omega) (by omega) (by omega)]; exact k8
  · rw [e' (b' + 4 * nO + nV + nC + 5 + j) (4 * nO + nV + nC + 5 + j) (b + 4 * nO + nV + nC + 5 + j) (by omega) (by omega) (by omega)]; exact k9 j hj
theorem SLOT_shift {f g : Nat → Int32} {b b' : Nat} {P : CS} (hO : nO ≤ 120) (hV : nV ≤ 100) (hC : nC ≤ 1000) (h : SLOT nO room nV nC f b P) (e : ∀ i, i < 2600 → g (b' + i) = f (b + i)) : SLOT nO room nV nC g b' P := by
  obtain ⟨σ0, Γ0, pa, fi, nx, ch, tr, l, h1, h2, h3, h4, h5, h6⟩ := h
  exact ⟨σ0, Γ0, pa, fi, nx, ch, tr, l, h1, h2, KPT_shift h5.2 (by omega) h3 e, h4, h5, h6⟩
/-- a play is kept in a slot -/
theorem W_keep {σ : MS} {Γ : HS} {p : Nat} (h : PL nO room nV nC σ Γ) (hc : CNT3 σ nO nV nC) (hp : p ≤ 9) : ∃ τ, F_X12_keep (J (p : Nat)) σ = some (0, τ) ∧ r99 σ τ (2600 * p) (2600 * p + 2600) ∧ SLOT nO room nV nC (τ.2 99) (2600 * p) (Γ 9) := by
  obtain ⟨pa, fi, nx, ch, tr, P⟩ := h
  obtain ⟨l, l1, l2, l3, l4⟩ := LAT_l P.2.2.2.2.2.2.2.2.2.2.2.1
  obtain ⟨c1, c2, c3, c4, c5, c6⟩ := hc
  obtain ⟨τ, e1, e2, e3⟩ := r_keep (σ := σ) (nO := nO) (nV := nV) (nC := nC) (p := p) (tr := tr) (l := l) ⟨c1, c2, c3, ⟨l2, l3⟩, l1, c4, c5, c6, fun x hx => ⟨(P.2.2.2.1 x hx).1, (P.2.2.2.1 x hx).2.2⟩⟩ hp
  exact ⟨τ, e1, e2, σ, Γ, pa, fi, nx, ch, tr, l, P, CPE_rfl _, e3, l1, ⟨l2, l3⟩, l4⟩
/-- a play is taken up again out of a slot -/
theorem W_take {σ : MS} {Γ Δ : HS} {p : Nat} {P : CS} (h : PL nO room nV nC σ Γ) (hc : CNT3 σ nO nV nC) (hp : p ≤ 9) (hs : SLOT nO room nV nC (σ.2 99) (2600 * p) P) (he : CPE (Δ 9) P) : ∃ τ, F_X12_take (J (p : Nat)) σ = some (0, τ) ∧ rTak σ τ ∧ PL nO room nV nC τ Δ := by
  obtain ⟨pa, fi, nx, ch, tr, Q⟩ := h
  obtain ⟨σ0, Γ0, pa', fi', nx', ch', tr', l, h1, h2, h3, h4, h5, h6⟩ := hs
  have hn : nO ≤ 120 := hc.1
  obtain ⟨τ, e1, e2, e3, e4, e5, e6, e7, e8, e9, e10, e11⟩ := r_take (tr := tr') hc hp h3 (fun x _ x2 => (h1.2.2.2.1 x (by omega)).1) h4 h5 h6
  have h1' := h1
  obtain ⟨a1, a2, a3, a4, a5, a6, a7, a8, a9, a10, a11, a12, a13⟩ := h1
  obtain ⟨b1, b2, b3, b4, b5, b6, b7, b8, b9, b10, b11, b12, b13⟩ := Q
  refine ⟨τ, e1, e2, pa', fi', nx', ch', tr', PLT_ext (l := l) hc.2.1 hc.2.2.1 h1' (CPE_trans he (CPE_symm h2)) (fun y hy => ?_) e5 e7 e9 ⟨h4, h5⟩ e10⟩
  by_cases q : y = 0 ∨ nO < y
  · obtain ⟨f1, f2, f3, f4⟩ := e4 y q
    obtain ⟨g1, g2, g3⟩ := a2 y hy
    obtain ⟨k1, k2, k3⟩ := b2 y hy
    have z' : pa y = 0 ∧ fi y = 0 ∧ nx y = 0 := by
      rcases q with rfl | q
      · exact b1.2.2.2.2.1
      · exact b1.2.2.2.2.2.1 y q
    have z : pa' y = 0 ∧ fi' y = 0 ∧ nx' y = 0 := by
      rcases q with rfl | q
      · exact a1.2.2.2.2.1
      · exact a1.2.2.2.2.2.1 y q
    refine ⟨?_, ?_, ?_, fun c hc => ?_⟩
    · rw [f1, k1, g1, z'.1, z.1]
    · rw [f2, k2, g2, z'.2.1, z.2.1]
    · rw [f3, k3, g3, z'.2.2, z.2.2]
    · rw [f4 c hc, (b4 y hy).2.2 c hc, (a4 y hy).2.2 c hc, a13 y q, b13 y q]
  · obtain ⟨f1, f2, f3, f4⟩ := e3 y (by omega) (by omega)
    exact ⟨f1, f2, f3, fun c hc => by rw [f4 c hc, (a4 y hy).2.2 c hc]⟩
