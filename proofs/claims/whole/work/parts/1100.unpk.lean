/-! a text is packed, whole; it is unpacked -/
variable {T N : Nat} {kd vl rv : Nat → Int} {pl : Nat → Nat}
theorem J_div {a b : Nat} (ha : a < 2147483648) (hb : b < 2147483648) (hb0 : 0 < b) : J (a : Int) / J (b : Int) = J ((a / b : Nat) : Int) := by
  apply Int32.toInt_inj.1
  have h := Nat.div_le_self a b
  have h2 : (a : Int) / (b : Int) = ((a / b : Nat) : Int) := (Int.natCast_ediv a b).symm
  rw [Int32.toInt_div, J_toInt (by omega) (by omega), J_toInt (by omega) (by omega), Int.tdiv_eq_ediv_of_nonneg (by omega), h2]
  generalize a / b = q at *
  clear h2
  rw [J_toInt (by omega) (by omega)]
  exact Int.bmod_eq_of_le (by omega) (by omega)
/-- a byte of the source as it is told -/
def toldB (c : Int) : Nat := if c = 94 then 10 else c.toNat
theorem c_signOf {Γ : HS} {i : Nat} {c : Int} (h : (Γ 6).2.1 7 i = J c) (hi : i < 16000) (hc : 0 ≤ c ∧ c < 127) : F_X9_signOf (J (i : Nat)) Γ = some (J (toldB c : Nat), Γ) := by
  unfold F_X9_signOf
  simp only [bndE]
  rw [if_neg (J_nlt0 (by omega) (by omega)), if_neg (show ¬ (16000 : Int32) ≤ J (i : Nat) by rw [show (16000 : Int32) = J 16000 from rfl, J_le (by omega) (by omega) (by omega) (by omega)]; omega), if_neg (show ¬ (J (i : Nat) < 0 ∨ 16000 ≤ (J (i : Nat)).toNatClampNeg) by rintro (c | c); exact J_nlt0 (by omega) (by omega) c; rw [J_natN (by omega)] at c; omega), J_natN (by omega), h]
  unfold toldB
  by_cases q : c = 94
  · rw [if_pos (show J c = 94 by rw [q]; rfl), if_pos q]; rfl
  · rw [if_neg (show ¬ J c = 94 by rw [show (94 : Int32) = J 94 from rfl, J_eq (by omega) (by omega) (by omega) (by omega)]; exact q), if_neg q]
    congr 3; omega
/-- a STRING's bytes in the texts' copy of the source -/
def STB (Γ : HS) (fr m : Nat) (sb : Nat → Int) : Prop := fr + m < 16000 ∧ m ≤ 200 ∧ (∀ k, k < m → (Γ 6).2.1 7 (fr + k) = J (sb k) ∧ 32 ≤ sb k ∧ sb k ≤ 126 ∧ sb k ≠ 34) ∧ (Γ 6).2.1 7 (fr + m) = J 34
def tby (sb : Nat → Int) (k : Nat) : Nat := toldB (sb k)
theorem tby_ok {c : Int} (h : 32 ≤ c ∧ c ≤ 126 ∧ c ≠ 34) : okS (toldB c) := by
  unfold toldB okS
  split <;> omega
/-- what packing leaves -/
def PKR (Γ Γ' : HS) (cnt u0 nu fr m : Nat) (sb : Nat → Int) : Prop := (∀ r, r ≠ 6 → Γ' r = Γ r) ∧ (∀ k, k ≠ 0 → k ≠ 4 → k ≠ 5 → (Γ' 6).2.1 k = (Γ 6).2.1 k) ∧ (Γ' 6).1 1 = J (u0 + nu : Nat) ∧ (Γ' 6).1 6 = J (cnt + 1 : Nat) ∧ (Γ' 6).2.1 4 = upd ((Γ 6).2.1 4) cnt (J (u0 : Nat)) ∧ (Γ' 6).2.1 5 = upd ((Γ 6).2.1 5) cnt (J (fr : Nat)) ∧ (∀ x, x < u0 → (Γ' 6).2.1 0 x = (Γ 6).2.1 0 x) ∧ UNT Γ' (cdF (tby sb) m) u0 nu ∧ 1 ≤ nu ∧ cpz (tby sb) m ≤ 3 * nu ∧ 3 * nu ≤ cpz (tby sb) m + 3 ∧ nu ≤ m + 1
def Pk1  : ((Int32 × HS) → HR) → Int32 × HS → HR := (fun (again_14 : (Int32 × HS) → HR) (s_13 : Int32 × HS) => ( bnd (fun  (σ_17 : HS) => ( (F_X9_shutText σ_17).bind fun u_21 => some (0, u_21.2) ) : HS → HR) fun j_18 => if 16000 ≤ s_13.1 then ( j_18  s_13.2 ) else ( if s_13.1 < 0 ∨ 16000 ≤ s_13.1.toNatClampNeg then none else if ((s_13.2 6).2.1 7 s_13.1.toNatClampNeg) = 34 then ( j_18  s_13.2 ) else ( (F_X9_signOf s_13.1 s_13.2).bind fun u_32 => bnd ((u_32.1.toUInt32 % 65536).toInt32) fun (x_34 : Int32) => bnd ((tx_ixOf ([32, 10, 97, 98, 99, 100, 101, 102, 103, 104, 105, 106, 107, 108, 109, 110, 111, 112, 113, 114, 115, 116, 117, 118, 119, 120, 121, 122, 46, 33, 35, 36, 37, 38, 39, 40, 41, 42, 43, 44, 45, 47, 48, 49, 50, 51, 52, 53, 54, 55, 56, 57, 58, 59, 60, 61, 62, 63, 64, 65, 66, 67, 68, 69, 70, 71, 72, 73, 74, 75, 76, 77, 78, 79, 80, 81, 82, 83, 84, 85, 86, 87, 88, 89, 90, 91, 92, 93, 95, 96, 123, 124, 125, 126] : List Int32) x_34)) fun (x_36 : Int32) => bnd (fun  (σ_38 : HS) => ( bnd (s_13.1 + 1) fun (x_42 : Int32) => again_14 (x_42, σ_38) ) : HS → HR) fun j_39 => if x_36 < 29 then ( (F_X9_gather x_36 u_32.2).bind fun u_46 => j_39  u_46.2 ) else ( bnd (((x_36 - 29) / 32)) fun (x_49 : Int32) => (F_X9_gather (29 + x_49) u_32.2).bind fun u_51 => bnd (((x_36 - 29) - (x_36 - 29) / 32 * 32)) fun (x_53 : Int32) => (F_X9_gather x_53 u_51.2).bind fun u_55 => j_39  u_55.2 ) ) ) ))
theorem pack_eq (p0 : Int32) (Γ : HS) : F_X9_pack p0 Γ = bnd (((Γ 6).1 1)) fun (x_1 : Int32) => bnd (cA' Γ 6 4 (g_put 8000 ((Γ 6).2.1 4) ((Γ 6).1 6) x_1)) fun σ_3 => bnd (cA' σ_3 6 5 (g_put 8000 ((σ_3 6).2.1 5) ((σ_3 6).1 6) p0)) fun σ_5 => bnd (cI' σ_5 6 6 (((σ_5 6).1 6) + 1)) fun σ_7 => bnd (cI' σ_7 6 2 0) fun σ_9 => bnd (cI' σ_9 6 3 0) fun σ_11 => loopF Pk1 FU (p0, σ_11) := rfl
theorem cA60 {Γ : HS} {k j : Nat} {g : Nat → Int32} : ((cA' Γ 6 k g) 6).2.1 j = if j = k then g else (Γ 6).2.1 j := updA_s _ _ _ _
theorem c_pack {Γ : HS} {fr m cnt u0 : Nat} {sb : Nat → Int} (hS : STB Γ fr m sb) (h6 : (Γ 6).1 6 = J (cnt : Nat)) (hc : cnt < 8000) (h1 : (Γ 6).1 1 = J (u0 : Nat)) (hu : u0 + 2 * m < 14000) : ∃ (Γ' : HS) (nu : Nat), F_X9_pack (J (fr : Nat)) Γ = some ((0 : Int32), Γ') ∧ PKR Γ Γ' cnt u0 nu fr m sb := by
  obtain ⟨s1, s2, s3, s4⟩ := hS
  have hok : ∀ k, k < m → okS (tby sb k) := fun k hk => tby_ok ⟨(s3 k hk).2.1, (s3 k hk).2.2.1, (s3 k hk).2.2.2⟩
  have hcd := cdF_CDE hok
  have hlt : ∀ i, cdF (tby sb) m i < 32 := fun i => cdF_lt m i hok
  have hpm := (cpz_le (by_ := tby sb) m).2
  rw [pack_eq, bndE, bndE, bndE, bndE, bndE, bndE, h1, h6]
  generalize hΓ0 : cA' Γ 6 4 (g_put 8000 ((Γ 6).2.1 4) (J (cnt : Nat)) (J (u0 : Nat))) = Γ0
  have h60 : (Γ0 6).1 6 = J (cnt : Nat) := by rw [← hΓ0]; exact h6
  rw [h60]
  generalize hΓ00 : cA' Γ0 6 5 (g_put 8000 ((Γ0 6).2.1 5) (J (cnt : Nat)) (J (fr : Nat))) = Γ00
  have h600 : (Γ00 6).1 6 = J (cnt : Nat) := by rw [← hΓ00]; exact h60
  rw [h600]
  generalize hΓ1 : cI' (cI' (cI' Γ00 6 6 (J (cnt : Nat) + 1)) 6 2 0) 6 3 0 = Γ1
  have gA : (Γ1 6).2.1 = (Γ00 6).2.1 := by rw [← hΓ1]; rfl
  have g4 : (Γ1 6).2.1 4 = upd ((Γ 6).2.1 4) cnt (J (u0 : Nat)) := by
    rw [gA, ← hΓ00, cA60, if_neg (by omega), ← hΓ0, cA60, if_pos rfl, q_g_put_in (n := 8000) (i := (cnt : Nat)) (by omega) (by omega) (by omega), Int.toNat_natCast]
  have g5 : (Γ1 6).2.1 5 = upd ((Γ 6).2.1 5) cnt (J (fr : Nat)) := by
    rw [gA, ← hΓ00, cA60, if_pos rfl, q_g_put_in (n := 8000) (i := (cnt : Nat)) (by omega) (by omega) (by omega), Int.toNat_natCast, ← hΓ0, cA60, if_neg (by omega)]
  have gk : ∀ k, k ≠ 4 → k ≠ 5 → (Γ1 6).2.1 k = (Γ 6).2.1 k := fun k k4 k5 => by
    rw [gA, ← hΓ00, cA60, if_neg k5, ← hΓ0, cA60, if_neg k4]
  have gr : ∀ r, r ≠ 6 → Γ1 r = Γ r := fun r hr => by rw [← hΓ1, cI_r, if_neg hr, cI_r, if_neg hr, cI_r, if_neg hr, ← hΓ00, cA_r, if_neg hr, ← hΓ0, cA_r, if_neg hr]
  have gi : ∀ k, (Γ1 6).1 k = if k = 3 then 0 else if k = 2 then 0 else if k = 6 then J (cnt : Nat) + 1 else (Γ 6).1 k := fun k => by rw [← hΓ1, ← hΓ00, ← hΓ0]; rfl
  have key : Ok (loopF Pk1 FU (J (fr : Nat), Γ1)) (fun u => u.1 = 0 ∧ ∃ nu : Nat, fr6 Γ1 u.2 ∧ (∀ x, x < u0 → (u.2 6).2.1 0 x = (Γ1 6).2.1 0 x) ∧ (u.2 6).1 1 = J (u0 + nu : Nat) ∧ UNT u.2 (cdF (tby sb) m) u0 nu ∧ 1 ≤ nu ∧ cpz (tby sb) m ≤ 3 * nu ∧ 3 * nu ≤ cpz (tby sb) m + 3 ∧ nu ≤ m + 1) := by
    refine Ok_loop (P := fun t z => ∃ (k : Nat) (Δ : HS), k ≤ m ∧ t = (J (fr + k : Nat), Δ) ∧ GAT (cdF (tby sb) m) u0 (cpz (tby sb) k) Γ1 Δ ∧ z = m - k) ?_ FU _ m (FU_gt (by omega)) ⟨0, Γ1, by omega, rfl, ⟨⟨fun _ _ => rfl, fun _ _ _ _ => rfl, fun _ _ => rfl⟩, fun _ _ => rfl, 0, 0, rfl, by omega, fun _ => rfl, by rw [gi, if_neg (by omega), if_neg (by omega), if_neg (by omega)]; exact h1, by rw [gi, if_neg (by omega), if_pos rfl]; rfl, by rw [gi, if_pos rfl]; rfl, fun j hj => by omega⟩, rfl⟩
    rintro again t z ⟨k, Δ, hk, rfl, hG, rfl⟩ ih
    have f7 : (Δ 6).2.1 7 = (Γ 6).2.1 7 := by rw [hG.1.2.2 7 (by omega), gk 7 (by omega) (by omega)]
    unfold Pk1
    simp only [bndE]
    rw [if_neg (show ¬ (16000 : Int32) ≤ J (fr + k : Nat) by rw [show (16000 : Int32) = J 16000 from rfl, J_le (by omega) (by omega) (by omega) (by omega)]; omega), if_neg (show ¬ (J (fr + k : Nat) < 0 ∨ 16000 ≤ (J (fr + k : Nat)).toNatClampNeg) by rintro (c | c); exact J_nlt0 (by omega) (by omega) c; rw [J_natN (by omega)] at c; omega), J_natN (by omega), f7]
    have hpk := (cpz_le (by_ := tby sb) k).2
    by_cases q : k < m
    · obtain ⟨a1, a2, a3, a4⟩ := s3 k q
      obtain ⟨c0, c1, c2⟩ := hcd k q
      obtain ⟨o1, o2, o3, o4⟩ := sg_ok c0
      unfold SGL at o2
      have hs : F_X9_signOf (J (fr + k : Nat)) Δ = some (J (tby sb k : Nat), Δ) := c_signOf (by rw [f7]; exact a1) (by omega) (by omega)
      rw [a1, if_neg (show ¬ J (sb k) = 34 by rw [show (34 : Int32) = J 34 from rfl, J_eq (by omega) (by omega) (by omega) (by omega)]; exact a4), hs, Option.bind_some]
      dsimp only
      rw [o4, o2]
      have ek : J (fr + k : Nat) + 1 = J (fr + (k + 1) : Nat) := by rw [J_lit, J_add]; rfl
      by_cases q2 : sgN (tby sb k) < 29
      · rw [if_pos (show J (sgN (tby sb k) : Nat) < 29 by rw [show (29 : Int32) = J 29 from rfl, J_lt (by omega) (by omega) (by omega) (by omega)]; omega)]
        obtain ⟨Δ1, d1, d2⟩ := c_gath hlt hG (by omega)
        rw [c1 q2] at d1
        rw [d1, Option.bind_some, ek]
        refine ih _ (m - (k + 1)) (by omega) ⟨k + 1, Δ1, by omega, rfl, ?_, rfl⟩
        have e : cpz (tby sb) (k + 1) = cpz (tby sb) k + 1 := by
          show cpz (tby sb) k + (if _ then 1 else 2) = _
          rw [if_pos q2]
        rw [e]; exact d2
      · rw [if_neg (show ¬ J (sgN (tby sb k) : Nat) < 29 by rw [show (29 : Int32) = J 29 from rfl, J_lt (by omega) (by omega) (by omega) (by omega)]; omega)]
        obtain ⟨c3, c4⟩ := c2 (by omega)
        have ex : J (sgN (tby sb k) : Nat) - 29 = J (sgN (tby sb k) - 29 : Nat) := by rw [show (29 : Int32) = J 29 from rfl, J_sub]; congr 1; omega
        have ed : J (sgN (tby sb k) - 29 : Nat) / 32 = J ((sgN (tby sb k) - 29) / 32 : Nat) := by
          rw [show (32 : Int32) = J ((32 : Nat) : Int) from rfl, J_div (by omega) (by omega) (by omega)]
        obtain ⟨Δ1, d1, d2⟩ := c_gath hlt hG (by omega)
        obtain ⟨Δ2, d3, d4⟩ := c_gath hlt d2 (by omega)
        rw [c3] at d1
        rw [c4] at d3
        rw [ex, ed, show (29 : Int32) + J ((sgN (tby sb k) - 29) / 32 : Nat) = J (29 + (sgN (tby sb k) - 29) / 32 : Nat) by rw [show (29 : Int32) = J 29 from rfl, J_add]; rfl, d1, Option.bind_some]
        dsimp only
        rw [show J (sgN (tby sb k) - 29 : Nat) - J ((sgN (tby sb k) - 29) / 32 : Nat) * 32 = J ((sgN (tby sb k) - 29) % 32 : Nat) by rw [show (32 : Int32) = J 32 from rfl, J_mul, J_sub]; congr 1; omega, d3, Option.bind_some, ek]
        refine ih _ (m - (k + 1)) (by omega) ⟨k + 1, Δ2, by omega, rfl, ?_, rfl⟩
        have e : cpz (tby sb) (k + 1) = cpz (tby sb) k + 1 + 1 := by
          show cpz (tby sb) k + (if _ then 1 else 2) = _
          rw [if_neg q2]
        rw [e]; exact d4
    · obtain rfl : k = m := by omega
      rw [s4, if_pos (show J 34 = 34 from rfl)]
      obtain ⟨Γ', nu, e1, e2, e3, e4, e5, e6, e7, e8, e9⟩ := c_shutT hlt hG (by omega) (fun i hi => cdF_end k i hi)
      rw [e1, Option.bind_some]
      refine Ok_some ⟨rfl, nu, e2, e3, e4, e5, e6, e7, e8, ?_⟩
      omega
  obtain ⟨⟨x, Γ'⟩, e, h0, nu, f1, f2, f3, f4, f5, f6, f7, f8⟩ := key
  dsimp only at h0 f1 f2 f3 f4
  subst h0
  exact ⟨Γ', nu, e, fun r hr => by rw [f1.1 r hr, gr r hr], fun k k0 k4 k5 => by rw [f1.2.2 k k0, gk k k4 k5], f3, by rw [f1.2.1 6 (by omega) (by omega) (by omega), gi, if_neg (by omega), if_neg (by omega), if_pos rfl, J_lit, J_add]; rfl, by rw [f1.2.2 4 (by omega), g4], by rw [f1.2.2 5 (by omega), g5], fun x hx => by rw [f2 x hx, gk 0 (by omega) (by omega)], f4, f5, f6, f7, f8⟩
