/-! the texts are faithful -/
variable {T N : Nat} {kd vl rv : Nat → Int} {pl : Nat → Nat}
theorem strK_at {kd : Nat → Int} {v : Nat} : ∀ n, v < strK kd n → ∃ t, t < n ∧ kd t = 4 ∧ strK kd t = v := by
  intro n
  induction n with
  | zero => intro h; exact absurd h (by show ¬ v < 0; omega)
  | succ n ih =>
    intro h
    by_cases q : v < strK kd n
    · obtain ⟨t, h1, h2⟩ := ih q
      exact ⟨t, by omega, h2⟩
    · by_cases q4 : kd n = 4
      · rw [strK_yes q4] at h
        exact ⟨n, by omega, q4, by omega⟩
      · rw [strK_no q4] at h
        exact absurd h q
theorem TXD_keep {Γ Δ : HS} {v m0 : Nat} {by_ : Nat → Nat} (h : TXD Γ v m0 by_) (hi : (Δ 6).1 = (Γ 6).1) (h0 : (Δ 6).2.1 0 = (Γ 6).2.1 0) (h4 : (Δ 6).2.1 4 = (Γ 6).2.1 4) : TXD Δ v m0 by_ := by
  obtain ⟨a0, cnt, u0, nu, tot, cd, a1, a2, a3, a4, a5, a6, a7, a8, a9⟩ := h
  exact ⟨a0, cnt, u0, nu, tot, cd, a1, a2, by rw [hi]; exact a3, by rw [h4]; exact a4, by rw [hi]; exact a5, a6, a7, fun j hj => by rw [h0]; exact a8 j hj, a9⟩
/-- each STRING is a text of its bytes -/
def TXS (b : Nat → Int) (T : Nat) (kd vl rv : Nat → Int) (pl : Nat → Nat) (Γ : HS) : Prop := (∃ cnt : Nat, (Γ 6).1 6 = J (cnt : Nat) ∧ cnt ≤ 4200 ∧ ∀ v, v < cnt → ∃ t, t < T ∧ kd t = 4 ∧ vl t = v) ∧ ∀ t, t < T → kd t = 4 → 0 ≤ vl t ∧ TXD Γ (vl t).toNat (rv t).toNat (tby (sbW b pl t)) ∧ (Γ 6).2.1 5 (vl t).toNat = J (pl t + 1 : Nat) ∧ pl t + 1 + (rv t).toNat < 4100 ∧ rv t ≤ 200 ∧ (∀ k, k < (rv t).toNat → (Γ 6).2.1 7 (pl t + 1 + k) = J (sbW b pl t k) ∧ 32 ≤ sbW b pl t k ∧ sbW b pl t k ≤ 126 ∧ sbW b pl t k ≠ 34) ∧ (Γ 6).2.1 7 (pl t + 1 + (rv t).toNat) = J 34
theorem TXS_of {Γ0 Γ : HS} {b : Nat → Int} {L : Nat} (hT : TKE T N kd vl rv pl) (hp : plm T pl) (hL : pl T ≤ L) (hw : SWD b T kd vl rv pl) (hN : N = T + 1) (hP : PAJ b kd rv pl Γ0 N Γ) (h7 : ∀ i, i < L → (Γ 6).2.1 7 i = J (b i)) : TXS b T kd vl rv pl Γ := by
  obtain ⟨p1, p2, p3, u, p4, p5, p6⟩ := hP
  have hT1 := hT.1
  have p5 := p5 T hp (by omega)
  have hpT := (hT.2.2.2 (T + 1) (Nat.le_refl _)).1
  have hpT0 := (hT.2.2.2 T (by omega)).1
  have hs := strK_le (kd := kd) N
  have hkT : kd T ≠ 4 := by
    rcases hT.2.2.1 with ⟨a, -⟩ | ⟨a, -⟩ <;> omega
  rw [hN] at p3 p5 hs
  rw [strK_no hkT] at p3
  have hs' := strK_le (kd := kd) T
  refine ⟨⟨strK kd T, p3, by omega, fun v hv => ?_⟩, fun t ht hk => ?_⟩
  · obtain ⟨t, t1, t2, t3⟩ := strK_at T hv
    obtain ⟨-, -, -, -, -, -, w7⟩ := hw t t1 t2
    exact ⟨t, t1, t2, by rw [w7, t3]⟩
  · obtain ⟨w1, w2, w3, w4, w5, w6, w7⟩ := hw t ht hk
    obtain ⟨u0, nu, g1, g2, g3, g4, g5, g6, g7⟩ := p6 t (by omega) hk
    have hlt : strK kd t < strK kd T := by
      have := strK_mono (kd := kd) (show t + 1 ≤ T by omega)
      rw [strK_yes hk] at this; omega
    have hpl : pl (t + 1) ≤ pl T := by
      rcases Nat.lt_or_ge (t + 1) T with h | h
      · exact Nat.le_of_lt (hp _ _ h (by omega))
      · rw [show t + 1 = T by omega]; exact Nat.le_refl _
    rw [w7, Int.toNat_natCast]
    have hok : ∀ k, k < (rv t).toNat → okS (tby (sbW b pl t) k) := fun k hk => tby_ok (w5 k hk)
    exact ⟨by omega, ⟨by omega, strK kd T, u0, nu, u, cdF (tby (sbW b pl t)) (rv t).toNat, hlt, by omega, p3, g2, p4, g1, by omega, g4, cdF_CDE hok, fun i => cdF_lt _ i hok, fun i hi => cdF_end _ i hi, g5, g6, g7⟩, g3, by omega, w3, fun k hk => ⟨h7 _ (by omega), w5 k hk⟩, by rw [h7 _ (by omega), w6]⟩
/-- the loop over a text's bytes -/
def Fa2 (again_2 : (Int32 × HS) → HR) (s_1 : Int32 × HS) (u_8 : Int32 × HS) (x_10 : Int32) : ((Int32 × HS) → HR) → Int32 × HS → HR := (fun (again_13 : (Int32 × HS) → HR) (s_12 : Int32 × HS) => ( bnd (fun  (σ_16 : HS) => ( (F_X9_signOf (x_10 + u_8.1) σ_16).bind fun u_20 => if u_20.1 = 34 then ( bnd (s_1.1 + 1) fun (x_24 : Int32) => again_2 (x_24, u_20.2) ) else ( some (0, u_20.2) ) ) : HS → HR) fun j_17 => if u_8.1 ≤ s_12.1 then ( j_17  s_12.2 ) else ( if 200 ≤ s_12.1 then ( j_17  s_12.2 ) else ( if s_12.1 < 0 ∨ 200 ≤ s_12.1.toNatClampNeg then none else (F_X9_signOf (x_10 + s_12.1) s_12.2).bind fun u_35 => if ((s_12.2 6).2.1 8 s_12.1.toNatClampNeg) = u_35.1 then ( bnd (s_12.1 + 1) fun (x_39 : Int32) => again_13 (x_39, u_35.2) ) else ( some (0, u_35.2) ) ) ) ))
def Fa1 : ((Int32 × HS) → HR) → Int32 × HS → HR := (fun (again_2 : (Int32 × HS) → HR) (s_1 : Int32 × HS) => ( if ((s_1.2 6).1 6) ≤ s_1.1 then ( some (1, s_1.2) ) else ( (F_X9_unpack_t s_1.1 s_1.2).bind fun u_8 => bnd ((g_at 8000 ((u_8.2 6).2.1 5) s_1.1)) fun (x_10 : Int32) => loopF (Fa2 again_2 s_1 u_8 x_10) FU (0, u_8.2) ) ))
theorem isFaithful_eq (Γ : HS) : F_X9_isFaithful Γ = loopF Fa1 FU (0, Γ) := rfl
theorem UFt_trans {Γ Δ Θ : HS} (h : UFt Γ Δ) (i : UFt Δ Θ) : UFt Γ Θ := ⟨fun r hr => by rw [i.1 r hr, h.1 r hr], by rw [i.2.1, h.2.1], fun k hk => by rw [i.2.2.1 k hk, h.2.2.1 k hk], by rw [i.2.2.2, h.2.2.2]⟩
theorem c_isFaithful {Γ : HS} {b : Nat → Int} (h : TXS b T kd vl rv pl Γ) : ∃ Γ', F_X9_isFaithful Γ = some ((1 : Int32), Γ') ∧ UFt Γ Γ' := by
  obtain ⟨⟨cnt, h6, hc, hv⟩, hs⟩ := h
  have key : Ok (F_X9_isFaithful Γ) (fun u => u.1 = 1 ∧ UFt Γ u.2) := by
    rw [isFaithful_eq]
    refine Ok_loop (P := fun t z => ∃ (j : Nat) (Δ : HS), j ≤ cnt ∧ t = (J (j : Nat), Δ) ∧ UFt Γ Δ ∧ z = cnt - j) ?_ FU _ cnt (FU_gt (by omega)) ⟨0, Γ, by omega, rfl, ⟨fun _ _ => rfl, rfl, fun _ _ => rfl, rfl⟩, by omega⟩
    rintro again t z ⟨j, Δ, hj, rfl, hU, rfl⟩ ih
    unfold Fa1
    simp only [bndE]
    rw [hU.2.1, h6]
    by_cases q : j = cnt
    · rw [if_pos (by rw [q]; exact Int32.le_refl _)]
      exact Ok_some ⟨rfl, hU⟩
    · rw [if_neg (show ¬ J (cnt : Nat) ≤ J (j : Nat) by rw [J_le (by omega) (by omega) (by omega) (by omega)]; omega)]
      obtain ⟨t, t1, t2, t3⟩ := hv j (by omega)
      obtain ⟨a1, a2, a3, a4, a5, a6, a7⟩ := hs t t1 t2
      rw [t3, Int.toNat_natCast] at a2 a3
      obtain ⟨Δ1, e1, e2, e3⟩ := c_unpack_t (TXD_keep a2 hU.2.1 (hU.2.2.1 0 (by omega)) (hU.2.2.1 4 (by omega)))
      have hU1 := UFt_trans hU e2
      rw [e1, Option.bind_some]
      dsimp only
      rw [q_g_at_in (by omega) (by omega) (by omega), Int.toNat_natCast, hU1.2.2.1 5 (by omega), a3]
      refine Ok_loop (P := fun t' z => ∃ (k : Nat), k ≤ (rv t).toNat ∧ t' = (J (k : Nat), Δ1) ∧ z = (rv t).toNat - k) ?_ FU _ (rv t).toNat (FU_gt (by omega)) ⟨0, by omega, rfl, by omega⟩
      rintro again2 t' z ⟨k, hk, rfl, rfl⟩ ih2
      unfold Fa2
      simp only [bndE]
      have e7 : (Δ1 6).2.1 7 = (Γ 6).2.1 7 := hU1.2.2.1 7 (by omega)
      by_cases qk : k = (rv t).toNat
      · rw [if_pos (by rw [qk]; exact Int32.le_refl _), show J (pl t + 1 : Nat) + J ((rv t).toNat : Nat) = J (pl t + 1 + (rv t).toNat : Nat) by rw [J_add]; rfl, c_signOf (c := 34) (by rw [e7]; exact a7) (by omega) (by omega), Option.bind_some]
        dsimp only
        rw [if_pos (show J (toldB 34 : Nat) = 34 from rfl), show J (j : Nat) + 1 = J (j + 1 : Nat) by rw [J_lit, J_add]; rfl]
        exact ih _ (cnt - (j + 1)) (by omega) ⟨j + 1, Δ1, by omega, rfl, hU1, rfl⟩
      · obtain ⟨b1, b2, b3, b4⟩ := a6 k (by omega)
        rw [if_neg (show ¬ J ((rv t).toNat : Nat) ≤ J (k : Nat) by rw [J_le (by omega) (by omega) (by omega) (by omega)]; omega), if_neg (show ¬ (200 : Int32) ≤ J (k : Nat) by rw [show (200 : Int32) = J 200 from rfl, J_le (by omega) (by omega) (by omega) (by omega)]; omega), if_neg (show ¬ (J (k : Nat) < 0 ∨ 200 ≤ (J (k : Nat)).toNatClampNeg) by rintro (c | c); exact J_nlt0 (by omega) (by omega) c; rw [J_natN (by omega)] at c; omega), show J (pl t + 1 : Nat) + J (k : Nat) = J (pl t + 1 + k : Nat) by rw [J_add]; rfl, c_signOf (c := sbW b pl t k) (by rw [e7]; exact b1) (by omega) (by omega), Option.bind_some]
        dsimp only
        rw [J_natN (by omega), e3 k (by omega), if_pos (show J (tby (sbW b pl t) k : Nat) = J (toldB (sbW b pl t k) : Nat) from rfl), show J (k : Nat) + 1 = J (k + 1 : Nat) by rw [J_lit, J_add]; rfl]
        exact ih2 _ ((rv t).toNat - (k + 1)) (by omega) ⟨k + 1, by omega, rfl, rfl⟩
  obtain ⟨⟨x, Γ'⟩, e, h0, hP⟩ := key
  dsimp only at h0 hP
  subst h0
  exact ⟨Γ', e, hP⟩
