/-! the third going, a word outside of blocks: the step; a def's list -/
variable {T N : Nat} {kd vl rv : Nat → Int} {pl : Nat → Nat}
theorem W3_item (hT : TKE T N kd vl rv pl) {G : Nat → HS} {Γ : HS} {t : Nat} (hc : TKc N kd vl pl Γ) (ht : t < N) (h16 : (Γ 3).1 16 = J 0) (hA : AGR T kd vl (G t) Γ) (hb : ¬ bodyW G t) (n : Nat) : loopF W3 (n + 1) (J (t : Nat), Γ) = (F_X4_itemWord (J (t : Nat)) Γ).bind fun u => (F_X4_followScope (J (t : Nat)) u.2).bind fun v => loopF W3 n (J (t + 1 : Nat), v.2) := by
  rw [W3_go hT hc ht h16]
  by_cases q1 : (Γ 3).1 12 = 0
  · rw [if_pos q1]
  · rw [if_neg q1]
    by_cases q2 : (Γ 3).1 11 ≤ 0
    · rw [if_pos q2]
    · exact absurd ⟨by rw [← AGR_i hA 12 (by omega)]; exact q1, by rw [← AGR_i hA 11 (by omega)]; exact q2⟩ hb
theorem c_istep (hT : TKE T N kd vl rv pl) {G : Nat → HS} (hG : GRW T N kd vl pl G) {Θ Γs Γ Γ1 : HS} {t : Nat} {x : Int32} (h : CT3 T N kd vl pl G Θ Γs t Γ) (ht : t < T) (hk : kd t ≠ 235) (hb : ¬ bodyW G t) (hi : F_X4_itemWord (J (t : Nat)) Γ = some (x, Γ1)) (h1 : TKc N kd vl pl Γ1) (hA : AGR T kd vl Γ Γ1) : ∃ Γ', (∀ n, loopF W3 (n + 1) (J (t : Nat), Γ) = loopF W3 n (J (t + 1 : Nat), Γ')) ∧ AGR T kd vl (G (t + 1)) Γ' ∧ m3 Γ1 Γ' := by
  obtain ⟨n1, n2, n3, n4⟩ := TKE_N hT
  obtain ⟨x', Γ', z1, z2, z3⟩ := g_next hT hG ht hk h1 (AGR_trans h.2.2.1 hA)
  exact ⟨Γ', fun n => by rw [W3_item hT h.1 (show t < N by omega) h.2.1 h.2.2.1 hb, hi, Option.bind_some, z1, Option.bind_some], z2, z3⟩
/-- words at which nothing is told -/
theorem c_iflat (hT : TKE T N kd vl rv pl) {G : Nat → HS} (hG : GRW T N kd vl pl G) {Θ Γs : HS} {i j : Nat} (hj : j ≤ T) (hq : ∀ t, i ≤ t → t < j → ¬ bodyW G t ∧ ¬ (206 ≤ kd t ∧ kd t ≤ 212) ∧ kd t ≠ 219 ∧ ¬ (230 ≤ kd t ∧ kd t ≤ 233) ∧ kd t ≠ 235 ∧ kd t ≠ 236 ∧ ¬ (238 ≤ kd t ∧ kd t ≤ 240)) : ∀ (d t : Nat) (Γ : HS), t + d = j → i ≤ t → CT3 T N kd vl pl G Θ Γs t Γ → ∃ Δ, (∀ n, loopF W3 (n + d) (J (t : Nat), Γ) = loopF W3 n (J (j : Nat), Δ)) ∧ CT3 T N kd vl pl G Θ Γs j Δ ∧ m3 Γ Δ := by
  obtain ⟨n1, n2, n3, n4⟩ := TKE_N hT
  intro d
  induction d with
  | zero =>
    intro t Γ ht hit h
    obtain rfl : t = j := by omega
    exact ⟨Γ, fun n => rfl, h, m3_rfl⟩
  | succ d ih =>
    intro t Γ ht hit h
    obtain ⟨q1, q2⟩ := hq t hit (by omega)
    obtain ⟨Γ', z1, z2, z3⟩ := c_istep hT hG h (by omega) q2.2.2.2.1 q1 (ci_no hT h.1 (show t < N by omega) q2) h.1 AGR_rfl
    obtain ⟨Δ, y1, y2, y3⟩ := ih (t + 1) Γ' (by omega) (by omega) (CT3_m3 h z3 z2)
    exact ⟨Δ, fun n => by rw [show n + (d + 1) = (n + d) + 1 by omega, z1]; exact y1 n, y2, m3_trans z3 y3⟩
theorem Di1_s (n : Nat) (l : Int32) (Γ : HS) : loopF Di1 (n + 1) (l, Γ) = if ((Γ 1).1 2) ≤ l then some ((0 : Int32), Γ) else (F_X10_kindOf l Γ).bind fun u_56 => bnd (mrg (fun j => j == 1) Γ u_56.2) fun σ_58 => if u_56.1 = 2 then ( (F_X10_worthOf l σ_58).bind fun u_62 => bnd (mrg (fun j => j == 1) σ_58 u_62.2) fun σ_64 => (F_X4_see u_62.1 σ_64).bind fun u_66 => bnd (l + 2) fun (x_68 : Int32) => loopF Di1 n (x_68, u_66.2) ) else ( some (0, σ_58) ) := rfl
theorem di_loop (hT : TKE T N kd vl rv pl) {c i : Nat} (hk2 : ∀ z, z < c → kd (i + 2 * z) = 2) (hend : kd (i + 2 * c) ≠ 2) (hic : i + 2 * c ≤ T) {H : Nat → HS} (hH : ∀ z, z < c → F_X4_see (J (vl (i + 2 * z))) (H z) = some ((0 : Int32), H (z + 1))) : ∀ (d k : Nat) (Γ : HS), k + d = c → TKc N kd vl pl Γ → AGR T kd vl (H k) Γ → ∃ Δ, (∀ n, d < n → loopF Di1 n (J (i + 2 * k : Nat), Γ) = some ((0 : Int32), Δ)) ∧ AGR T kd vl (H c) Δ ∧ m3 Γ Δ := by
  obtain ⟨n1, n2, n3, n4⟩ := TKE_N hT
  have stp : ∀ (n t : Nat) (Γ : HS), TKc N kd vl pl Γ → t ≤ T → loopF Di1 (n + 1) (J (t : Nat), Γ) = if kd t = 2 then (F_X4_see (J (vl t)) Γ).bind fun u_66 => loopF Di1 n (J (t + 2 : Nat), u_66.2) else some ((0 : Int32), Γ) := by
    intro n t Γ hc ht
    have hkr := kd_le hT (show t < N by omega)
    rw [Di1_s, if_neg (show ¬ (Γ 1).1 2 ≤ J (t : Nat) by rw [hc.1, J_le (by omega) (by omega) (by omega) (by omega)]; omega), c_kindOf hT hc (show t < N by omega), Option.bind_some, bndE, mrg1_id]
    by_cases q : kd t = 2
    · rw [if_pos q, if_pos (show J (kd t) = 2 by rw [q]; rfl), c_worthOf hT hc (show t < N by omega), Option.bind_some, bndE, mrg1_id]
      simp only [bndE]
      rw [show J (t : Nat) + 2 = J (t + 2 : Nat) by rw [J_lit, J_add]; rfl]
    · rw [if_neg q, if_neg (show ¬ J (kd t) = 2 by rw [show (2 : Int32) = J 2 from rfl, J255 2 hkr (by omega)]; exact q)]
  intro d
  induction d with
  | zero =>
    intro k Γ hk hc hA
    obtain rfl : k = c := by omega
    refine ⟨Γ, fun n hn => ?_, hA, m3_rfl⟩
    obtain ⟨n, rfl⟩ : ∃ e, n = e + 1 := ⟨n - 1, by omega⟩
    rw [stp n _ Γ hc (by omega), if_neg hend]
  | succ d ih =>
    intro k Γ hk hc hA
    have hkc : k < c := by omega
    obtain ⟨Γ', Δ', e1, e2, e3, e4⟩ := sm_see (E := Γ) hA m3_rfl (J (vl (i + 2 * k)))
    rw [hH k hkc] at e1
    have e5 := some2 e1
    rw [← e5] at e3
    obtain ⟨Δ, y1, y2, y3⟩ := ih (k + 1) Δ' (by omega) (m3_TKc e4 hc) e3
    refine ⟨Δ, fun n hn => ?_, y2, m3_trans e4 y3⟩
    obtain ⟨n, rfl⟩ : ∃ e, n = e + 1 := ⟨n - 1, by omega⟩
    rw [stp n _ Γ hc (by omega), if_pos (hk2 k hkc), e2, Option.bind_some, show i + 2 * k + 2 = i + 2 * (k + 1) by omega]
    exact y1 n (by omega)
/-- a def's word -/
theorem c_defw (hT : TKE T N kd vl rv pl) {G : Nat → HS} {Θ Γs Γ : HS} {i c : Nat} {H : Nat → HS} (h : CT3 T N kd vl pl G Θ Γs i Γ) (hk : kd i = 235) (hb : ¬ bodyW G i) (hk2 : ∀ z, z < c → kd (i + 3 + 2 * z) = 2) (hend : kd (i + 3 + 2 * c) ≠ 2) (hic : i + 3 + 2 * c ≤ T) (hH0 : AGR T kd vl (G i) (H 0)) (hH : ∀ z, z < c → F_X4_see (J (vl (i + 3 + 2 * z))) (H z) = some ((0 : Int32), H (z + 1))) (hHc : AGR T kd vl (cI' (H c) 3 12 (J (kd i))) (G (i + 1))) : ∃ Γ', (∀ n, loopF W3 (n + 1) (J (i : Nat), Γ) = loopF W3 n (J (i + 1 : Nat), Γ')) ∧ CT3 T N kd vl pl G Θ Γs (i + 1) Γ' ∧ m3 Γ Γ' := by
  obtain ⟨n1, n2, n3, n4⟩ := TKE_N hT
  obtain ⟨Δ, d1, d2, d3⟩ := di_loop hT hk2 hend hic hH c 0 Γ (by omega) h.1 (AGR_trans (AGR_symm hH0) h.2.2.1)
  have ei : F_X4_itemWord (J (i : Nat)) Γ = some ((0 : Int32), Δ) := by
    rw [itemWord_eq, c_kindOf hT h.1 (show i < N by omega), Option.bind_some, bndE, mrg1_id, bndE, hk]
    dsimp only
    rw [if_neg (show ¬ J 235 < 206 by decide), if_pos (show 212 < J 235 by decide), if_neg (show ¬ J 235 = 219 by decide), if_neg (show ¬ (J 235 = 230 ∨ J 235 = 231) by decide), if_neg (show ¬ J 235 = 232 by decide), if_neg (show ¬ J 235 = 233 by decide), if_pos (show J 235 = 235 from rfl)]
    rw [show J (i : Nat) + 3 = J (i + 3 + 2 * 0 : Nat) by rw [show (3 : Int32) = J 3 from rfl, J_add]; rfl]
    exact d1 FU (FU_gt (by omega))
  have m12 : m3 Δ (cI' Δ 3 12 (J (kd i))) := m3_I (by omega)
  refine ⟨cI' Δ 3 12 (J (kd i)), fun n => ?_, CT3_m3 h (m3_trans d3 m12) (AGR_trans (AGR_symm hHc) (AGR_cI d2)), m3_trans d3 m12⟩
  rw [W3_item hT h.1 (show i < N by omega) h.2.1 h.2.2.1 hb, ei, Option.bind_some, fs_rt hT (m3_TKc d3 h.1) (show i < N by omega) (by omega), Option.bind_some]
