/-! the reference lays a thing's words -/
variable {T N : Nat} {kd vl rv : Nat → Int} {pl : Nat → Nat}
theorem dgF_div {d : Nat → Int} (h : ∀ k, 0 ≤ d k ∧ d k < 37) (n : Nat) : dgF d (n + 1) / 37 = dgF d n := by
  have e : dgF d (n + 1) = dgF d n * 37 + d n := rfl
  have := h n
  omega
theorem pk_tm9 {w : List Int} (h : nmW w) : pk w / 50653 = tm9 w := by
  have hd := dgw_rng h
  have a : dgF (dgw w) 12 / 37 = dgF (dgw w) 11 := dgF_div hd 11
  have b : dgF (dgw w) 11 / 37 = dgF (dgw w) 10 := dgF_div hd 10
  have c : dgF (dgw w) 10 / 37 = dgF (dgw w) 9 := dgF_div hd 9
  unfold pk tm9
  omega
theorem trm_tm9 {b : Nat → Int} {L m : Nat} {nm : Nat → List Int} {cl : List Int} (hF : NMF b L T m nm cl kd vl rv pl) {u : Nat} (hu : u ≤ T) (hk : kd u = 2) : trm cl vl u = tm9 (nm (rv u).toNat) ∧ nmW (nm (rv u).toNat) := by
  obtain ⟨h1, h2, h3, h4, h5, -⟩ := hF u hu hk
  unfold trm
  rw [h3, h4]
  exact ⟨pk_tm9 h5, h5⟩
theorem tm9_inj {w v : List Int} (hw : nmW w) (hv : nmW v) (h : tm9 w = tm9 v) : ∀ k, k < 9 → dgw w k = dgw v k := dgF_inj 9 (fun k _ => ⟨(dgw_rng hw k).1, (dgw_rng hw k).2, (dgw_rng hv k).1, (dgw_rng hv k).2⟩) h
def LpW (again_51 : (Int32 × MS) → MR) (p1 : Int32) (s_50 : Int32 × MS) : ((Int32 × MS) → MR) → Int32 × MS → MR := (fun (again_89 : (Int32 × MS) → MR) (s_88 : Int32 × MS) => ( if s_88.1 < 0 then ( if s_50.1 < 0 ∨ 40000 ≤ s_50.1.toNatClampNeg then none else bnd ((s_88.2.2 22 s_50.1.toNatClampNeg)) fun (x_96 : Int32) => again_51 (x_96, s_88.2) ) else ( if p1 < 0 ∨ 121 ≤ p1.toNatClampNeg then none else bnd (((s_88.2.2 56 p1.toNatClampNeg) + 1)) fun (x_101 : Int32) => if p1 < 0 ∨ 121 ≤ p1.toNatClampNeg then none else bnd (mA s_88.2 56 (upd (s_88.2.2 56) p1.toNatClampNeg x_101)) fun σ_105 => bnd (((10 * p1) + (s_88.2.2 56 p1.toNatClampNeg))) fun (x_107 : Int32) => if s_88.1 < 0 ∨ 40000 ≤ s_88.1.toNatClampNeg then none else (F_X12_wordTo_wordBytes (9 * x_107) (σ_105.2 19 s_88.1.toNatClampNeg) σ_105).bind fun u_111 => if x_107 < 0 ∨ 1210 ≤ x_107.toNatClampNeg then none else bnd (mA u_111.2 55 (upd (u_111.2.2 55) x_107.toNatClampNeg u_111.1)) fun σ_115 => if s_88.1 < 0 ∨ 40000 ≤ s_88.1.toNatClampNeg then none else bnd ((σ_115.2 22 s_88.1.toNatClampNeg)) fun (x_119 : Int32) => again_89 (x_119, σ_115) ) ))
/-- what stands when words were laid for object n -/
def LWR (n b c : Nat) (ws : Nat → List Int) (σ τ : MS) : Prop := τ.1 = σ.1 ∧ (∀ k, k ≠ 54 → k ≠ 55 → k ≠ 56 → τ.2 k = σ.2 k) ∧ τ.2 56 n = J (b + c : Nat) ∧ (∀ x, x ≠ n → τ.2 56 x = σ.2 56 x) ∧ (∀ e, e < c → RW 54 55 τ (10 * n + (b + e)) (ws e)) ∧ (∀ x, ¬ (10 * n + b ≤ x ∧ x < 10 * n + (b + c)) → τ.2 55 x = σ.2 55 x) ∧ ∀ y, ¬ (9 * (10 * n + b) ≤ y ∧ y < 9 * (10 * n + (b + c))) → τ.2 54 y = σ.2 54 y
theorem r_words {m : Nat} {nm : Nat → List Int} {n b c y0 : Nat} {r : Nat → Int} {again : Int32 × MS → MR} {x : Nat} {ρ0 : MS} (hn : n ≤ 120) (hbc : b + c ≤ 10) (hy : y0 + c < 39990) (hx : x < 39990) (hr : ∀ e, e < c → 0 ≤ r e ∧ (r e).toNat < m ∧ r e < 8000) : ∀ (d e : Nat) (ρ : MS), e + d = c → rnam m nm ρ → (∀ e, e < c → ρ.2 19 (y0 + e) = J (r e) ∧ ρ.2 22 (y0 + e) = J (if e + 1 < c then ((y0 + e + 1 : Nat) : Int) else -1)) → LWR n b e (fun e => nm (r e).toNat) ρ0 ρ → ∀ k, d < k → ∃ τ, loopF (LpW again (J (n : Nat)) (J (x : Nat), ρ0)) k (J (if e < c then ((y0 + e : Nat) : Int) else -1), ρ) = again (τ.2 22 x, τ) ∧ LWR n b c (fun e => nm (r e).toNat) ρ0 τ := by
  intro d
  induction d with
  | zero =>
    intro e ρ he hrn h19 hL k hk
    obtain ⟨k, rfl⟩ : ∃ k', k = k' + 1 := ⟨k - 1, by omega⟩
    obtain rfl : e = c := by omega
    refine ⟨ρ, ?_, hL⟩
    show LpW again (J (n : Nat)) (J (x : Nat), ρ0) (loopF (LpW again (J (n : Nat)) (J (x : Nat), ρ0)) k) _ = _
    generalize loopF (LpW again (J (n : Nat)) (J (x : Nat), ρ0)) k = lp
    unfold LpW
    simp only [bndE]
    rw [if_neg (Nat.lt_irrefl _), if_pos (show J (-1) < 0 by decide), if_neg (gNn (k := x) (n := 40000) (by omega) (by omega)), J_natN (by omega)]
  | succ d ih =>
    intro e ρ he hrn h19 hL k hk
    obtain ⟨k, rfl⟩ : ∃ k', k = k' + 1 := ⟨k - 1, by omega⟩
    obtain ⟨l1, l2, l3, l4, l5, l6, l7⟩ := hL
    obtain ⟨e19, e22⟩ := h19 e (by omega)
    obtain ⟨r1, r2, r3⟩ := hr e (by omega)
    obtain ⟨nw1, nw2⟩ := hrn.2.1 (r e).toNat r2
    generalize hρ1 : mA ρ 56 (upd (ρ.2 56) n (J (b + e + 1 : Nat))) = ρ1
    have hnm1 : isNm ρ1 (r e).toNat (nm (r e).toNat) := by
      rw [← hρ1]; exact nw1
    obtain ⟨ρ2, f1, f2, f3, f4⟩ := r_wt_wordBytes (r := (r e).toNat) (p := 9 * (10 * n + (b + e))) (σ := ρ1) (by omega) (by omega) hnm1 nw2
    have o2 : ∀ k, k ≠ 54 → k ≠ 56 → ρ2.2 k = ρ.2 k := fun k a c => by rw [f2.2 k a, ← hρ1, mA_2, if_neg c]
    generalize hρ3 : mA ρ2 55 (upd (ρ2.2 55) (10 * n + (b + e)) (J (wsz (nm (r e).toNat)))) = ρ3
    have o3 : ∀ k, k ≠ 54 → k ≠ 55 → k ≠ 56 → ρ3.2 k = ρ.2 k := fun k a b c => by rw [← hρ3, mA_2, if_neg b, o2 k a c]
    have e354 : ρ3.2 54 = ρ2.2 54 := by rw [← hρ3]; rfl
    have e356 : ρ3.2 56 = upd (ρ.2 56) n (J (b + e + 1 : Nat)) := by rw [← hρ3, mA_2, if_neg (by omega), f2.2 56 (by omega), ← hρ1, mA_2, if_pos rfl]
    have e355 : ρ3.2 55 = upd (ρ.2 55) (10 * n + (b + e)) (J (wsz (nm (r e).toNat))) := by rw [← hρ3, mA_2, if_pos rfl, o2 55 (by omega) (by omega)]
    have e154 : ρ1.2 54 = ρ.2 54 := by rw [← hρ1]; rfl
    have hL3 : LWR n b (e + 1) (fun e => nm (r e).toNat) ρ0 ρ3 := by
      refine ⟨by rw [← hρ3]; show ρ2.1 = _; rw [f2.1, ← hρ1]; exact l1, fun k a b c => by rw [o3 k a b c, l2 k a b c], by rw [e356, upd_s, if_pos rfl]; rfl, fun x hx => by rw [e356, upd_s, if_neg hx, l4 x hx], fun e' he' => ?_, fun x hx => by rw [e355, upd_s, if_neg (by omega), l6 x (by omega)], fun y hy => by rw [e354, f4 y (by omega), e154, l7 y (by omega)]⟩
      by_cases q : e' = e
      · subst q
        exact ⟨by rw [e355, upd_s, if_pos rfl], fun k hk => by rw [e354]; exact f3 k hk⟩
      · obtain ⟨a1, a2⟩ := l5 e' (by omega)
        exact ⟨by rw [e355, upd_s, if_neg (by omega)]; exact a1, fun k hk => by
          have := wmn_le (nm (r e').toNat)
          have hk' : k < wmn (nm (r e').toNat) := hk
          rw [e354, f4 _ (by omega), e154]; exact a2 k hk⟩
    obtain ⟨τ, t1, t2⟩ := ih (e + 1) ρ3 (by omega) (rnam_congr hrn (by rw [← hρ3]; show ρ2.1 13 = _; rw [f2.1, ← hρ1]; rfl) (o3 11 (by omega) (by omega) (by omega)) (o3 12 (by omega) (by omega) (by omega))) (fun e' he' => by rw [o3 19 (by omega) (by omega) (by omega), o3 22 (by omega) (by omega) (by omega)]; exact h19 e' he') hL3 k (by omega)
    refine ⟨τ, ?_, t2⟩
    rw [← t1]
    show LpW again (J (n : Nat)) (J (x : Nat), ρ0) (loopF (LpW again (J (n : Nat)) (J (x : Nat), ρ0)) k) _ = _
    generalize loopF (LpW again (J (n : Nat)) (J (x : Nat), ρ0)) k = lp
    have g121 := gNn (k := n) (n := 121) (by omega) (by omega)
    have gy := gNn (k := y0 + e) (n := 40000) (by omega) (by omega)
    have er : J (r e) = J ((r e).toNat : Nat) := by rw [Int.toNat_of_nonneg r1]
    unfold LpW
    simp only [bndE]
    rw [if_pos (show e < c by omega), if_neg (J_nlt0 (by omega) (by omega)), if_neg g121, if_neg g121, if_neg gy, J_natN (by omega), J_natN (by omega), l3, J_suc, show 10 * J (n : Nat) + J (b + e : Nat) = J (10 * n + (b + e) : Nat) by rw [show (10 : Int32) = J 10 from rfl, J_mul, J_add]; congr 1, show 9 * J (10 * n + (b + e) : Nat) = J (9 * (10 * n + (b + e)) : Nat) by rw [show (9 : Int32) = J 9 from rfl, J_mul]; congr 1, hρ1, show ρ1.2 19 (y0 + e) = J ((r e).toNat : Nat) by rw [← hρ1, mA_2, if_neg (by omega), e19, er], f1, Option.bind_some]
    dsimp only
    rw [if_neg (gNn (k := 10 * n + (b + e)) (n := 1210) (by omega) (by omega)), if_neg (show ¬ (J (y0 + e : Nat) < 0 ∨ 40000 ≤ y0 + e) by rintro (c | c); exact J_nlt0 (by omega) (by omega) c; omega), J_natN (by omega), hρ3, o3 22 (by omega) (by omega) (by omega), e22]
    rfl
