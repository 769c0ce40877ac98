/-! the class tells verbs, arrays, rules -/
variable {T N : Nat} {kd vl rv : Nat → Int} {pl : Nat → Nat}
theorem ow_names (hT : TKE T N kd vl rv pl) {Γ : HS} {i c : Nat} (hc : TKc N kd vl pl Γ) (h16 : (Γ 3).1 16 = J 0) (hN : i + 2 * c ≤ N) (hk2 : ∀ k, k < c → kd (i + 2 * k) = 2) (hk44 : ∀ k, k + 1 < c → kd (i + 2 * k + 1) = 44) (hke : kd (i + 2 * c - 1) ≠ 2 ∧ kd (i + 2 * c - 1) ≠ 44) : ∀ (d k b n : Nat), k + d = c → 1 ≤ d → b ≤ 10 → 2 * d < n → loopF Ow1 n (J (i + 2 * k : Nat), cI' Γ 3 14 (J (b : Nat))) = some (if b + d ≤ 10 then (J (i + 2 * c - 1 : Nat), cI' Γ 3 14 (J (b + d : Nat))) else (J (i + 2 * k + 2 * (10 - b) : Nat), failS (cI' Γ 3 14 (J (11 : Nat))) pl 5 (i + 2 * k + 2 * (10 - b)))) := by
  intro d
  induction d with
  | zero => intro k b n _ h; omega
  | succ d ih =>
    intro k b n hk _ hb hn
    obtain ⟨n, rfl⟩ : ∃ z, n = z + 2 := ⟨n - 2, by omega⟩
    rw [show n + 2 = n + 1 + 1 by omega, ow_step hT hc h16 (show i + 2 * k < N by omega) hb, if_pos (hk2 k (by omega))]
    by_cases q : b + 1 ≤ 10
    · rw [if_pos q, ow_step hT hc h16 (show i + 2 * k + 1 < N by omega) q]
      by_cases q0 : d = 0
      · subst q0
        have e : i + 2 * c - 1 = i + 2 * k + 1 := by omega
        rw [e] at hke
        rw [if_neg hke.1, if_neg hke.2, if_pos (by omega), e]
      · rw [if_neg (by rw [hk44 k (by omega)]; omega), if_pos (hk44 k (by omega)), show i + 2 * k + 1 + 1 = i + 2 * (k + 1) by omega, ih (k + 1) (b + 1) n (by omega) (by omega) q (by omega)]
        by_cases q2 : b + (d + 1) ≤ 10
        · rw [if_pos (by omega), if_pos q2, show b + 1 + d = b + (d + 1) by omega]
        · rw [if_neg (by omega), if_neg q2, show i + 2 * (k + 1) + 2 * (10 - (b + 1)) = i + 2 * k + 2 * (10 - b) by omega]
    · obtain rfl : b = 10 := by omega
      rw [if_neg q, if_neg (by omega)]; rfl
theorem c_count (hT : TKE T N kd vl rv pl) {Γ : HS} {i c b : Nat} (hc : TKc N kd vl pl Γ) (h16 : (Γ 3).1 16 = J 0) (hN : i + 2 * c ≤ N) (hk2 : ∀ k, k < c → kd (i + 2 * k) = 2) (hk44 : ∀ k, k + 1 < c → kd (i + 2 * k + 1) = 44) (hke : kd (i + 2 * c - 1) ≠ 2 ∧ kd (i + 2 * c - 1) ≠ 44) (h1 : 1 ≤ c) (hb : b ≤ 10) (h14 : (Γ 3).1 14 = J (b : Nat)) : F_X4_countOwned (J (i : Nat)) Γ = some (if b + c ≤ 10 then (J (i + 2 * c - 1 : Nat), cI' Γ 3 14 (J (b + c : Nat))) else (J (i + 2 * (10 - b) : Nat), failS (cI' Γ 3 14 (J (11 : Nat))) pl 5 (i + 2 * (10 - b)))) := by
  have := ow_names hT hc h16 hN hk2 hk44 hke c 0 b FU (by omega) h1 hb (FU_gt (by have := TKE_N hT; omega))
  rw [cI_self h14] at this
  exact this
theorem c_long (hT : TKE T N kd vl rv pl) {Γ : HS} {a e : Nat} (hc : TKc N kd vl pl Γ) (ha : a < N) (he : e < N) (h6 : (Γ 1).2.1 6 a = J (e : Nat)) (hpb : pl a ≤ 5000 ∧ pl e ≤ 5000) : F_X4_isTooLong (J (a : Nat)) Γ = some (if ((pl e + 1 : Nat) : Int) - (pl a : Nat) ≤ 4000 then J 0 else J 1, Γ) := by
  obtain ⟨n1, n2, n3, n4⟩ := TKE_N hT
  unfold F_X4_isTooLong
  rw [bndE, q_g_at_in (n := 16001) (i := (a : Nat)) (by omega) (by omega) (by omega), Int.toNat_natCast, h6, c_placeOf hT hc he, Option.bind_some]
  simp only [bndE, mrg1_id]
  rw [c_placeOf hT hc ha, Option.bind_some, mrg1_id, show J (pl e : Nat) + 1 - J (pl a : Nat) = J (((pl e + 1 : Nat) : Int) - (pl a : Nat)) by rw [J_lit, J_add, J_sub]; exact congrArg J (by omega)]
  by_cases q : ((pl e + 1 : Nat) : Int) - (pl a : Nat) ≤ 4000
  · rw [if_pos (by rw [show (4000 : Int32) = J 4000 from rfl, J_le (by omega) (by omega) (by omega) (by omega)]; exact q), if_pos q]; rfl
  · rw [if_neg (by rw [show (4000 : Int32) = J 4000 from rfl, J_le (by omega) (by omega) (by omega) (by omega)]; exact q), if_neg q]; rfl
def cnS (Γ : HS) (q c : Nat) : HS := cA' Γ 4 0 (upd ((Γ 4).2.1 0) q (J (c + 1 : Nat)))
theorem c_rule (hT : TKE T N kd vl rv pl) {Γ : HS} {a e q c lim : Nat} (hc : TKc N kd vl pl Γ) (h16 : (Γ 3).1 16 = J 0) (ha : a < N) (he : e < N) (h6 : (Γ 1).2.1 6 a = J (e : Nat)) (hpb : pl a ≤ 5000 ∧ pl e ≤ 5000) (hq : q < 7) (hcc : (Γ 4).2.1 0 q = J (c : Nat)) (hc5 : c ≤ 5000) (hl : lim ≤ 5000) : F_X4_tellRule (J (a : Nat)) (J (q : Nat)) (J (lim : Nat)) Γ = some (J 0, if lim ≤ c ∨ 4000 < ((pl e + 1 : Nat) : Int) - (pl a : Nat) then cnS (failS Γ pl 5 a) q c else cnS Γ q c) := by
  have e5 : F_X4_fail 5 (J (a : Nat)) Γ = some (J 0, failS Γ pl 5 a) := c_fail4 hT (f := 5) hc h16 ha
  have hf : ((failS Γ pl 5 a) 4).2.1 0 q = J (c : Nat) := hcc
  have fin : ∀ Θ : HS, (Θ 4).2.1 0 q = J (c : Nat) → cA' Θ 4 0 (g_put 7 ((Θ 4).2.1 0) (J (q : Nat)) (g_at 7 ((Θ 4).2.1 0) (J (q : Nat)) + 1)) = cnS Θ q c := by
    intro Θ h
    rw [q_g_at_in (n := 7) (i := (q : Nat)) (by omega) (by omega) (by omega), q_g_put_in (n := 7) (i := (q : Nat)) (by omega) (by omega) (by omega), Int.toNat_natCast, h, show J (c : Nat) + 1 = J (c + 1 : Nat) by rw [J_lit, J_add]; rfl]
    rfl
  unfold F_X4_tellRule
  simp only [bndE]
  rw [c_long hT hc ha he h6 hpb]
  simp only [Option.bind_some]
  rw [e5]
  simp only [Option.bind_some]
  rw [fin Γ hcc, fin _ hf, q_g_at_in (n := 7) (i := (q : Nat)) (by omega) (by omega) (by omega), Int.toNat_natCast, hcc]
  by_cases q1 : lim ≤ c
  · rw [if_pos (by rw [J_le (by omega) (by omega) (by omega) (by omega)]; omega), if_pos (Or.inl q1)]; rfl
  · rw [if_neg (by rw [J_le (by omega) (by omega) (by omega) (by omega)]; omega)]
    by_cases q2 : ((pl e + 1 : Nat) : Int) - (pl a : Nat) ≤ 4000
    · rw [if_pos q2, if_pos (show J 0 = 0 from rfl), if_neg (by omega)]; rfl
    · rw [if_neg q2, if_neg J1_ne, if_pos (by omega)]; rfl
