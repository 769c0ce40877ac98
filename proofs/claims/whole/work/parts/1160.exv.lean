/-! one side: how each node closes -/
theorem STA_R {R : Nat → Nat → Int32} {nO nV nC nA ln : Nat} {room : Nat → Bool} {en : Nat → Nat} {TX : Nat → Int → Int → Prop} {σ : MS} {Γ : HS} (h : STA R nO nV nC nA room en ln TX σ Γ) {k x : Nat} (h1 : 17 ≤ k) (h2 : k ≤ 22) : NR σ k x = R k x := congrFun (h.1 k h1 h2) x
theorem STA_17 {R : Nat → Nat → Int32} {nO nV nC nA ln : Nat} {room : Nat → Bool} {en : Nat → Nat} {TX : Nat → Int → Int → Prop} {σ : MS} {Γ : HS} (h : STA R nO nV nC nA room en ln TX σ Γ) {x : Nat} : σ.2 64 x = R 17 x := congrFun (h.1 17 (by omega) (by omega)) x
theorem STA_MC {R : Nat → Nat → Int32} {nO nV nC nA ln : Nat} {room : Nat → Bool} {en : Nat → Nat} {TX : Nat → Int → Int → Prop} {σ : MS} {Γ : HS} (h : STA R nO nV nC nA room en ln TX σ Γ) {dep bC t p pw : Nat} (g : CVw Γ dep bC t p pw) : MC0 ln Γ p t := CVw_MC g h.2.2.2.2.2.1.1 h.2.2.2.2.2.1.2
theorem cls_cell {R : Nat → Nat → Int32} {nO nV nC nA ln : Nat} {room : Nat → Bool} {en : Nat → Nat} {TX : Nat → Int → Int → Prop} {X : MS} {Γ : HS} {dep bC top w wk pw r x k : Nat} {v : Int32} (hS : STA R nO nV nC nA room en ln TX X Γ) (hR : RRl nO room nV nC X Γ) (hX : RVw X dep w wk pw) (hΓ : CVw Γ dep bC (top + 1) r pw) (ht : top < 8990) (hx : x < 39990) (hrl : r + 2 < ln) (hv : (Γ 10).2.1 6 top = v) (hvl : VL v) (h17 : R 17 x = J 43) (h21 : R 21 x = J (k : Nat)) (ho : op3 Γ r 36 (k : Nat)) (hk : k < nA) : CLO nO nV nC room dep bC top w wk pw (r + 3) X Γ (F_X12_unary (J (x : Nat)) v X) := by
  obtain ⟨z, rfl, z1, z2⟩ := hvl
  obtain ⟨e1, e2, e3, e4, e5, e6⟩ := hS.2.2.2.1
  obtain ⟨e7, e8⟩ := e4 k hk
  have hu := un_cell (σ := X) (z := z) hx (by rw [STA_17 hS]; exact h17) (by rw [STA_R hS (by omega) (by omega)]; exact h21) hX.1 e1 hk e7 (by omega) ⟨z1, z2⟩
  obtain ⟨Δ, c1, c2⟩ := m_cell (STA_MC hS hΓ) hrl ht ho e2 hk e3 e7 (by omega) hv ⟨z1, z2⟩
  rcases c2 with ⟨n1, b⟩ | ⟨n1, g⟩
  · rw [if_neg n1] at hu
    exact CLO_brk hR hX hu (by omega) c1 b
  · rw [if_pos n1] at hu
    have hR2 := hR
    obtain ⟨⟨pa, fi, nx, ch, tr, P⟩, -⟩ := hR2
    have hc := P.2.2.2.2.2.1 (en k + z).toNat (by omega)
    rw [hc.1] at g
    exact CLO_ok hR hX hΓ hu hc.2 c1 g
/-- what holds an object, what it holds first, what is next: numbers both know -/
theorem PLT_t {nO nV nC : Nat} {room : Nat → Bool} {σ : MS} {Γ : HS} (h : PL nO room nV nC σ Γ) {z : Nat} (hz : z ≤ nO) {j : Nat} (hj : j < 3) : (Γ 9).2.1 j z = σ.2 (87 + j) z ∧ VL (σ.2 (87 + j) z) := by
  obtain ⟨pa, fi, nx, ch, tr, t, r, c, -⟩ := h
  have h1 := r z (by have := t.1; omega)
  have h2 := c z (by have := t.1; omega)
  have tn := t.1
  have f := TR_fi t z
  have n := t.2.2.2.2.2.2.2 z
  have p := t.2.2.2.1 z
  by_cases j0 : j = 0
  · rw [j0, h2.1, h1.1]; exact ⟨rfl, VL_J (by omega) (by omega)⟩
  by_cases j1 : j = 1
  · rw [j1, h2.2.1, h1.2.1]; exact ⟨rfl, VL_J (by omega) (by omega)⟩
  · rw [show j = 2 by omega, h2.2.2, h1.2.2]; exact ⟨rfl, VL_J (by omega) (by omega)⟩
theorem cls_hfn {R : Nat → Nat → Int32} {nO nV nC nA ln : Nat} {room : Nat → Bool} {en : Nat → Nat} {TX : Nat → Int → Int → Prop} {X : MS} {Γ : HS} {dep bC top w wk pw r x : Nat} {v : Int32} (hS : STA R nO nV nC nA room en ln TX X Γ) (hR : RRl nO room nV nC X Γ) (hX : RVw X dep w wk pw) (hΓ : CVw Γ dep bC (top + 1) r pw) (ht : top < 8990) (hx : x < 39990) (hrl : r < ln) (hv : (Γ 10).2.1 6 top = v) (hvl : VL v) {kd o : Int} (h17 : R 17 x = J kd) (ho : op1 Γ r o) (hk : 48 ≤ kd ∧ kd ≤ 50) (hko : o = kd - 24) : CLO nO nV nC room dep bC top w wk pw (r + 1) X Γ (F_X12_unary (J (x : Nat)) v X) := by
  obtain ⟨z, rfl, z1, z2⟩ := hvl
  obtain ⟨n1, n2, n3, n4⟩ := hS.2.1
  have hu := un_hfn (σ := X) (z := z) hx (by rw [STA_17 hS]; exact h17) hk hX.1 n1 n4 ⟨z1, z2⟩
  obtain ⟨Δ, c1, c2⟩ := m_hfn (STA_MC hS hΓ) hrl ht ho (by omega) hv ⟨z1, z2⟩ n2 n4
  rcases c2 with ⟨q, b⟩ | ⟨q, g⟩
  · rw [if_neg q] at hu
    exact CLO_brk hR hX hu (by omega) c1 b
  · rw [if_pos q] at hu
    obtain ⟨e1, e2⟩ := PLT_t hR.1 (z := z.toNat) (by omega) (j := (o - 24).toNat) (by omega)
    rw [show 87 + (o - 24).toNat = (kd + 39).toNat by omega] at e1 e2
    rw [e1] at g
    exact CLO_ok hR hX hΓ hu e2 c1 g
theorem cls_neg {R : Nat → Nat → Int32} {nO nV nC nA ln : Nat} {room : Nat → Bool} {en : Nat → Nat} {TX : Nat → Int → Int → Prop} {X : MS} {Γ : HS} {dep bC top w wk pw r x : Nat} {v : Int32} (hS : STA R nO nV nC nA room en ln TX X Γ) (hR : RRl nO room nV nC X Γ) (hX : RVw X dep w wk pw) (hΓ : CVw Γ dep bC (top + 1) r pw) (ht : top < 8990) (hx : x < 39990) (hrl : r < ln) (hv : (Γ 10).2.1 6 top = v) {kd o : Int} (h17 : R 17 x = J kd) (ho : op1 Γ r o) (hk : (kd = 52 ∧ o = 9) ∨ (kd = 53 ∧ o = 8)) : CLO nO nV nC room dep bC top w wk pw (r + 1) X Γ (F_X12_unary (J (x : Nat)) v X) := by
  rcases hk with ⟨rfl, rfl⟩ | ⟨rfl, rfl⟩
  · have hu := un_neg (σ := X) (v := v) hx (by rw [STA_17 hS]; exact h17)
    obtain ⟨Δ, c1, g⟩ := m_neg (STA_MC hS hΓ) hrl ht ho
    rw [hv] at g
    exact CLO_ok hR hX hΓ hu (VL_16 _) c1 g
  · have hu := un_not (σ := X) (v := v) hx (by rw [STA_17 hS]; exact h17)
    obtain ⟨Δ, c1, g⟩ := m_not (STA_MC hS hΓ) hrl ht ho
    rw [hv] at g
    exact CLO_ok hR hX hΓ hu VL_b c1 g
theorem cls_has {R : Nat → Nat → Int32} {nO nV nC nA ln : Nat} {room : Nat → Bool} {en : Nat → Nat} {TX : Nat → Int → Int → Prop} {X : MS} {Γ : HS} {dep bC top w wk pw r x a : Nat} {v : Int32} (hS : STA R nO nV nC nA room en ln TX X Γ) (hR : RRl nO room nV nC X Γ) (hX : RVw X dep w wk pw) (hΓ : CVw Γ dep bC (top + 1) r pw) (ht : top < 8990) (hx : x < 39990) (hrl : r + 2 < ln) (hv : (Γ 10).2.1 6 top = v) (hvl : VL v) (h17 : R 17 x = J 58) (h21 : R 21 x = J (a : Nat)) (ho : op3 Γ r 46 (a : Nat)) (ha : a < 7) : CLO nO nV nC room dep bC top w wk pw (r + 3) X Γ (F_X12_unary (J (x : Nat)) v X) := by
  obtain ⟨z, rfl, z1, z2⟩ := hvl
  obtain ⟨n1, n2, n3, n4⟩ := hS.2.1
  have hu := un_has (σ := X) (z := z) hx (by rw [STA_17 hS]; exact h17) (by rw [STA_R hS (by omega) (by omega)]; exact h21) ha hX.1 n1 n4 ⟨z1, z2⟩
  obtain ⟨Δ, c1, c2⟩ := m_has (STA_MC hS hΓ) hrl ht ho ha hv ⟨z1, z2⟩ n2 n4
  rcases c2 with ⟨q, b⟩ | ⟨q, g⟩
  · rw [if_neg q] at hu
    exact CLO_brk hR hX hu (by omega) c1 b
  · rw [if_pos q] at hu
    have hR2 := hR
    obtain ⟨⟨pa, fi, nx, ch, tr, P⟩, -⟩ := hR2
    obtain ⟨t1, t2, t3⟩ := P.2.2.2.1 z.toNat (by omega)
    have e : (if (((Γ 9).2.1 3 z.toNat) >>> (J (a : Nat) &&& 31)) &&& 1 = 0 then (0 : Int32) else 1) = if X.2 90 (7 * z.toNat + a) = 0 then 0 else 1 := by
      rw [t2, t3 a ha]
      by_cases b : (tr z.toNat).testBit a = true
      · rw [if_pos b, if_neg (by rw [J_has ha t1, b]; decide), if_neg (by decide)]
      · rw [if_neg b, if_pos ((J_has ha t1).mpr (by simpa using b)), if_pos rfl]
    rw [e] at g
    exact CLO_ok hR hX hΓ hu VL_b' c1 g
theorem cls_rand {R : Nat → Nat → Int32} {nO nV nC nA ln : Nat} {room : Nat → Bool} {en : Nat → Nat} {TX : Nat → Int → Int → Prop} {X : MS} {Γ : HS} {dep bC top w wk pw r x : Nat} {v : Int32} (hS : STA R nO nV nC nA room en ln TX X Γ) (hR : RRl nO room nV nC X Γ) (hX : RVw X dep w wk pw) (hΓ : CVw Γ dep bC (top + 1) r pw) (ht : top < 8990) (hx : x < 39990) (hrl : r < ln) (hv : (Γ 10).2.1 6 top = v) (hvl : VL v) (h17 : R 17 x = J 51) (ho : op1 Γ r 27) : CLO nO nV nC room dep bC top w wk pw (r + 1) X Γ (F_X12_unary (J (x : Nat)) v X) := by
  obtain ⟨z, rfl, z1, z2⟩ := hvl
  have hu := un_rand (σ := X) (z := z) hx (by rw [STA_17 hS]; exact h17) ⟨z1, z2⟩
  obtain ⟨Δ, c1, c2⟩ := m_random (STA_MC hS hΓ) hrl ht ho hv ⟨z1, z2⟩
  rcases c2 with ⟨q, g⟩ | ⟨q, g⟩
  · rw [if_neg q] at hu
    exact CLO_ok hR hX hΓ hu (VL_J (z := 0) (by omega) (by omega)) c1 g
  · rw [if_pos q] at hu
    obtain ⟨s1, s2, s3, s4⟩ := g
    have hR2 := hR
    obtain ⟨⟨pa, fi, nx, ch, tr, P⟩, -⟩ := hR2
    have es : (Γ 9).1 8 = X.1 93 := P.2.2.2.2.2.2.1.1
    rw [es] at s1 s4
    obtain ⟨y, y1, y2, y3⟩ := drV_ok (s := drS (X.1 93)) q z2
    have hp := PL_seed hR.1 (drS (X.1 93))
    have h9 : Δ 9 = (cI' Γ 9 8 (drS (X.1 93))) 9 := s1.1 9 (by omega)
    have R2 : RRl nO room nV nC (mI X 93 (drS (X.1 93))) (cI' Γ 9 8 (drS (X.1 93))) := ⟨hp, hR.2.1, hR.2.2⟩
    refine Or.inl ⟨_, _, Δ, hu, RR_M R2 rMk_rfl (s1.1 8 (by omega)) h9 (s1.2.1 3 (by omega) (by omega)) (s1.2.1 4 (by omega) (by omega)) (NBK_e (s1.2.1 5 (by omega) (by omega)) (s1.2.1 14 (by omega) (by omega))), hX, ⟨⟨fun k k1 k2 k3 k4 k5 => by rw [mI_1, if_neg (by omega)], fun _ _ _ _ _ _ => rfl⟩, fun _ _ => rfl, fun _ _ => rfl, fun _ _ => rfl⟩, ?_, s4, by rw [y1]; exact VL_J (by omega) (by omega), ?_, c1⟩
    · exact CVw_MK (Γ := cI' Γ 9 8 (drS (X.1 93))) hΓ s1 s2 s3
    · exact ⟨fun r r8 r9 r10 => by rw [s1.1 r r10, cI_r, if_neg r9], fun j hj => s1.2.2.2 j hj, fun j hj => by rw [s1.2.2.1 10 (by omega), s1.2.2.1 11 (by omega)]; exact ⟨rfl, rfl⟩⟩
