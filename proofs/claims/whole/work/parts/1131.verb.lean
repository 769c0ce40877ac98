/-! the reference lays a verb -/
variable {T N : Nat} {kd vl rv : Nat → Int} {pl : Nat → Nat}
/-- what stands behind a verb's words -/
def VEF (n : Nat) (f : Int) (jw : List Int) (σ τ : MS) : Prop := τ.1 = σ.1 ∧ (∀ k, k ≠ 60 → k ≠ 61 → k ≠ 62 → τ.2 k = σ.2 k) ∧ τ.2 60 = upd (σ.2 60) n (J f) ∧ τ.2 62 = upd (σ.2 62) n (J (wsz jw)) ∧ (∀ k, k < wmn jw → τ.2 61 (9 * n + k) = J (jw.getD k 0)) ∧ ∀ y, ¬ (9 * n ≤ y ∧ y < 9 * n + 9) → τ.2 61 y = σ.2 61 y
theorem r_LoVE {σ : MS} {x y n : Nat} {f : Int} {jw : List Int} (hx : x < 39990) (hy : y < 39990) (hn : n ≤ 60) (h21 : σ.2 21 x = J (y : Nat)) (h19 : σ.2 19 y = J f) (hj : (jw = [] ∧ σ.2 20 y = J (-1)) ∨ ∃ z r : Nat, z < 39990 ∧ σ.2 20 y = J (z : Nat) ∧ σ.2 19 z = J (r : Nat) ∧ r < 8000 ∧ isNm σ r jw ∧ nmW jw) : ∃ τ, LoVE (J (x : Nat)) (J (n : Nat)) σ = some ((0 : Int32), τ) ∧ VEF n f jw σ τ := by
  have gx := gNn (k := x) (n := 40000) (by omega) (by omega)
  have gx' := g40 hx
  have gy := gNn (k := y) (n := 40000) (by omega) (by omega)
  have gy' := g40 hy
  have gn := gNn (k := n) (n := 61) (by omega) (by omega)
  have gn' := gKn (k := 61) (x := n) (by omega) (by omega)
  generalize hσ1 : mA σ 60 (upd (σ.2 60) n (J f)) = σ1
  have o : ∀ k, k ≠ 60 → σ1.2 k = σ.2 k := fun k hk => by rw [← hσ1, mA_2, if_neg hk]
  have o60 : σ1.2 60 = upd (σ.2 60) n (J f) := by rw [← hσ1, mA_2, if_pos rfl]
  unfold LoVE
  rw [if_neg gx, bndE, J_natN (by omega), h21, if_neg gy, bndE, J_natN (by omega), J_natN (by omega), h19, if_neg gn', bndE, hσ1, if_neg gx', bndE, o 21 (by omega), h21, if_neg gy, bndE, J_natN (by omega), o 20 (by omega)]
  rcases hj with ⟨rfl, hj⟩ | ⟨z, r, hz, h20, h19', hr, hnm, hw⟩
  · rw [hj, if_neg (show ¬ (0 : Int32) ≤ J (-1) by decide)]
    dsimp only
    rw [if_neg gn', bndE]
    refine ⟨_, rfl, by rw [← hσ1]; rfl, fun k k0 k1 k2 => by rw [mA_2, if_neg k2, o k k0], by rw [mA_2, if_neg (by omega), o60], by rw [mA_2, if_pos rfl, o 62 (by omega)]; rfl, fun k hk => absurd hk (Nat.not_lt_zero _), fun y _ => by rw [mA_2, if_neg (by omega), o 61 (by omega)]⟩
  · rw [h20, if_pos (show (0 : Int32) ≤ J (z : Nat) by rw [show (0 : Int32) = J 0 from rfl, J_le (by omega) (by omega) (by omega) (by omega)]; omega), if_neg gx', bndE, if_neg gy, bndE, J_natN (by omega), h20, if_neg (gNn (k := z) (n := 40000) (by omega) (by omega)), J_natN (by omega), o 19 (by omega), h19', show 9 * J (n : Nat) = J (9 * n : Nat) by rw [show (9 : Int32) = J 9 from rfl, J_mul]; congr 1]
    obtain ⟨τ, t1, t2, t3, t4⟩ := r_wt_between (r := r) (p := 9 * n) (σ := σ1) hr (by omega) ⟨by rw [o 12 (by omega)]; exact hnm.1, fun k hk => by rw [o 11 (by omega)]; exact hnm.2 k hk⟩ hw
    rw [t1, Option.bind_some]
    dsimp only
    rw [if_neg gn', bndE]
    refine ⟨_, rfl, by show τ.1 = _; rw [t2.1, ← hσ1]; rfl, fun k k0 k1 k2 => by rw [mA_2, if_neg k2, t2.2 k k1, o k k0], by rw [mA_2, if_neg (by omega), t2.2 60 (by omega), o60], by rw [mA_2, if_pos rfl, t2.2 62 (by omega), o 62 (by omega)], fun k hk => by rw [mA_2, if_neg (by omega)]; exact t3 k hk, fun y hy => by rw [mA_2, if_neg (by omega), t4 y hy, o 61 (by omega)]⟩
/-- what the reference knows of verb v -/
def VBF (ρ : MS) (v : Nat) (ws : List (List Int)) (f : Int) (jw : List Int) : Prop := ρ.2 59 v = J (ws.length : Nat) ∧ (∀ e, e < ws.length → RW 57 58 ρ (10 * v + e) (ws.getD e [])) ∧ ρ.2 60 v = J f ∧ ρ.2 62 v = J (wsz jw) ∧ ∀ k, k < wmn jw → ρ.2 61 (9 * v + k) = J (jw.getD k 0)
theorem VBF_keep {v v' : Nat} {σ τ : MS} {ws : List (List Int)} {f : Int} {jw : List Int} (h : VBF σ v' ws f jw) (i : vfrm v σ τ) (hv : v' ≠ v) (hl : ws.length ≤ 10) : VBF τ v' ws f jw := by
  obtain ⟨a, b, c, d, e⟩ := h
  obtain ⟨-, -, i1, i2, i3, i4⟩ := i
  obtain ⟨x, y, z⟩ := i1 v' hv
  have hj := wmn_le jw
  refine ⟨by rw [x]; exact a, fun k hk => ⟨?_, fun q hq => ?_⟩, by rw [y]; exact c, by rw [z]; exact d, fun k hk => ?_⟩
  · rw [i2 _ (by omega)]; exact (b k hk).1
  · have := wmn_le (ws.getD k [])
    rw [i3 _ (by omega)]; exact (b k hk).2 q hq
  · rw [i4 _ (by omega)]; exact e k hk
theorem VBF_of {ρ : MS} {v : Nat} {ws : List (List Int)} {f : Int} {jw : List Int} (h : VBR ρ v ws f jw) (hl : jw.length ≤ 9) (hw : ∀ k, k < jw.length → lowB (jw.getD k 0) = true) : VBF ρ v ws f jw := by
  obtain ⟨a, b, c, d, e⟩ := h
  have hm : wmn jw = jw.length := by unfold wmn; split <;> omega
  refine ⟨a, b, c, ?_, fun k hk => e k (by omega)⟩
  rw [d]
  unfold wsz
  rw [if_pos (fun k hk => hw k (by omega)), hm]
/-- a verb, whole, in the reference -/
theorem lp_verb {b : Nat → Int} {L m : Nat} {nm : Nat → List Int} {cl : List Int} (hF : NMF b L T m nm cl kd vl rv pl) {σs ρ : MS} {x hi i j n d : Nat} (hI : VRB kd rv pl σs x hi i j) (hd : 1 ≤ d ∧ NMS kd rv pl σs (x + 2) d (i + 2) ∧ 213 ≤ kd (i + 1 + 2 * d) ∧ kd (i + 1 + 2 * d) ≤ 215) (hd10 : d ≤ 10) (hA : AGM σs ρ) (hrn : rnam m nm ρ) (hm : m < 7000) (hrv : ∀ u, u ≤ T → kd u = 2 → 0 ≤ rv u ∧ rv u < 8000) (hj : j ≤ T) (hx : hi ≤ 39000) (hn : n ≤ 60) : ∃ ρ', LoB (J (x : Nat)) (J (n : Nat)) ρ = some ((0 : Int32), ρ') ∧ vfrm n ρ ρ' ∧ VBF ρ' n (wdsF nm rv (i + 2) d) (if kd (i + 1 + 2 * d) = 215 then 2 else kd (i + 1 + 2 * d) - 213) (if kd (i + 1 + 2 * d) = 215 then nm (rv (i + 2 + 2 * d)).toNat else []) := by
  obtain ⟨k1, k2, k3, k4, k5, k6, k7, c, c1, c2, c3, c4, c5, c6⟩ := hI
  have hcd : c = d := by
    have e1 : NML kd (i + 2) c := NMS_NML c3 c1 (by
      rw [show i + 2 + 2 * c - 1 = i + 1 + 2 * c by omega]
      rcases c6 with ⟨a, -⟩ | ⟨a, -⟩ <;> omega)
    have e2 : NML kd (i + 2) d := NMS_NML hd.2.1 hd.1 (by
      rw [show i + 2 + 2 * d - 1 = i + 1 + 2 * d by omega]; omega)
    exact NML_u e1 e2 c1 hd.1
  subst hcd
  have gx := gNn (k := x) (n := 40000) (by omega) (by omega)
  have gx' := g40 (show x < 39990 by rcases c6 with ⟨-, -, -, a, -⟩ | ⟨-, -, -, a, -⟩ <;> omega)
  have gn := gNn (k := n) (n := 61) (by omega) (by omega)
  have nw : ∀ v : Int, (v = 41 ∨ v = 42 ∨ v = 43 ∨ v = 33) → σs.2 17 x ≠ J v := fun v hv => by
    rw [k4, Ne, J_eq (by omega) (by omega) (by omega) (by omega)]; omega
  have a20 : ρ.2 20 x = J (x + 2 : Nat) := by rw [hA.2.1 x (nw 41 (by omega))]; exact c2
  have a21 : ρ.2 21 x = J (x + 2 + c : Nat) := by rw [hA.2.2 x (nw 41 (by omega)) (nw 42 (by omega)) (nw 43 (by omega)) (nw 33 (by omega))]; exact c4
  have n14 : σs.2 17 (x + 2 + c) ≠ J 41 := by rw [c5]; decide
  generalize hρ1 : mA ρ 59 (upd (ρ.2 59) n 0) = ρ1
  have o1 : ∀ k, k ≠ 59 → ρ1.2 k = ρ.2 k := fun k hk => by rw [← hρ1, mA_2, if_neg hk]
  have hxc : x + 2 + c < 39000 := by rcases c6 with ⟨-, -, -, a, -⟩ | ⟨-, -, -, a, -⟩ <;> omega
  have hic : i + 2 * c + 2 ≤ T := by rcases c6 with ⟨-, -, a, -⟩ | ⟨-, -, a, -⟩ <;> omega
  have hk2 : ∀ e, e < c → kd (i + 2 + 2 * e) = 2 := fun e he => (c3 e he).2.1
  obtain ⟨τ, t1, t2⟩ := r_vwords (nm := nm) (m := m) (n := n) (b := 0) (c := c) (y0 := x + 2) (r := fun e => rv (i + 2 + 2 * e)) (x := x) (ρ0 := ρ1) hn (by omega) (by omega) (by omega) (fun e he => ⟨(hrv _ (by omega) (hk2 e he)).1, (hF _ (by omega) (hk2 e he)).1, (hrv _ (by omega) (hk2 e he)).2⟩) c 0 ρ1 (by omega) (rnam_congr hrn (by rw [← hρ1]; rfl) (o1 11 (by omega)) (o1 12 (by omega))) (fun e he => ⟨by rw [o1 19 (by omega), hA.1 19 (by omega)]; exact (c3 e he).1.2.2, by
    rw [o1 22 (by omega), hA.1 22 (by omega), (c3 e he).2.2.1]
    split <;> rfl⟩) ⟨rfl, fun _ _ _ _ => rfl, by rw [← hρ1, mA_2, if_pos rfl, upd_s, if_pos rfl]; rfl, fun _ _ => rfl, fun e he => absurd he (by omega), fun _ _ => rfl, fun _ _ => rfl⟩ FU (FU_gt (by omega))
  obtain ⟨l1, l2, l3, l4, l5, l6, l7⟩ := t2
  have oτ : ∀ k, k ≠ 57 → k ≠ 58 → k ≠ 59 → τ.2 k = ρ.2 k := fun k a b c => by rw [l2 k a b c, o1 k c]
  have hrn2 : rnam m nm τ := rnam_congr hrn (by rw [l1, ← hρ1]; rfl) (oτ 11 (by omega) (by omega) (by omega)) (oτ 12 (by omega) (by omega) (by omega))
  obtain ⟨υ, u1, v1, v2, v3, v4, v5, v6⟩ := r_LoVE (σ := τ) (x := x) (y := x + 2 + c) (n := n) (f := if kd (i + 1 + 2 * c) = 215 then 2 else kd (i + 1 + 2 * c) - 213) (jw := if kd (i + 1 + 2 * c) = 215 then nm (rv (i + 2 + 2 * c)).toNat else []) (by omega) (by omega) hn (by rw [oτ 21 (by omega) (by omega) (by omega)]; exact a21) (by
    rw [oτ 19 (by omega) (by omega) (by omega), hA.1 19 (by omega)]
    rcases c6 with ⟨a, a', -, -, a2, -⟩ | ⟨a, -, -, -, a2, -⟩
    · rw [if_neg (by omega)]; exact a2
    · rw [if_pos a]; exact a2) (by
    rw [oτ 20 (by omega) (by omega) (by omega), hA.2.1 _ n14]
    rcases c6 with ⟨a, a', -, -, -, a2⟩ | ⟨a, a', a'', a3, -, a2, n1, n2, n3⟩
    · left; rw [if_neg (by omega)]; exact ⟨rfl, a2⟩
    · right
      have hr := hrv (i + 2 + 2 * c) (by omega) a'
      obtain ⟨g1, g2⟩ := hrn2.2.1 (rv (i + 2 + 2 * c)).toNat (hF _ (by omega) a').1
      rw [if_pos a]
      exact ⟨x + 3 + c, (rv (i + 2 + 2 * c)).toNat, by omega, a2, by rw [oτ 19 (by omega) (by omega) (by omega), hA.1 19 (by omega), n3, Int.toNat_of_nonneg hr.1], by omega, g1, g2⟩)
  have hl := map_rng (f := fun e => nm (rv (i + 2 + 2 * e)).toNat) (n := c)
  refine ⟨υ, ?_, ⟨by rw [v1, l1, ← hρ1]; rfl, fun k hk => by rw [v2 k (by omega) (by omega) (by omega), oτ k (by omega) (by omega) (by omega)], fun y hy => ⟨?_, by rw [v3, upd_s, if_neg hy, oτ 60 (by omega) (by omega) (by omega)], by rw [v4, upd_s, if_neg hy, oτ 62 (by omega) (by omega) (by omega)]⟩, fun y hy => ?_, fun y hy => ?_, fun y hy => by rw [v6 y hy, oτ 61 (by omega) (by omega) (by omega)]⟩, ?_, fun e he => ?_, by rw [v3, upd_s, if_pos rfl], by rw [v4, upd_s, if_pos rfl], v5⟩
  · unfold LoB
    rw [if_neg gx, bndE, J_natN (by omega), hA.1 17 (by omega), k4, if_neg (by decide), if_pos (show J 3 = 3 from rfl), if_neg gn, bndE, J_natN (by omega), if_neg gx', bndE, hρ1, o1 20 (by omega), a20]
    rw [if_pos (show 0 < c by omega)] at t1
    exact t1.trans u1
  · rw [v2 59 (by omega) (by omega) (by omega), l4 y hy, ← hρ1, mA_2, if_pos rfl, upd_s, if_neg hy]
  · rw [v2 58 (by omega) (by omega) (by omega), l6 y (by omega), o1 58 (by omega)]
  · rw [v2 57 (by omega) (by omega) (by omega), l7 y (by omega), o1 57 (by omega)]
  · rw [v2 59 (by omega) (by omega) (by omega), l3]
    unfold wdsF
    rw [hl.1, Nat.zero_add]
  · unfold wdsF at he ⊢
    rw [hl.1] at he
    rw [hl.2 e he]
    obtain ⟨a, b⟩ := l5 e he
    rw [Nat.zero_add] at a b
    exact ⟨by rw [v2 58 (by omega) (by omega) (by omega)]; exact a, fun k hk => by rw [v2 57 (by omega) (by omega) (by omega)]; exact b k hk⟩
