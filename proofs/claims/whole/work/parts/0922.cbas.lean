/-! the class's reading: single words, and code -/
variable {T N : Nat} {kd vl rv : Nat → Int} {pl : Nat → Nat}
variable {Γ : HS} {a dp ln : Nat}
theorem mrgE {b : Nat → Bool} {Γ Δ : HS} (h : ∀ r, b r = false → Δ r = Γ r) : mrg b Γ Δ = Δ := by
  funext r
  rw [mrg_r]
  cases q : b r with
  | true => rfl
  | false => rw [cond_false, h r q]
/-- of the code nothing changes but its bytes and how many there are -/
def fr5 (Γ Δ : HS) : Prop := (∀ k, k ≠ 1 → (Δ 5).1 k = (Γ 5).1 k) ∧ (∀ k, k ≠ 0 → (Δ 5).2.1 k = (Γ 5).2.1 k) ∧ (Δ 5).2.2 = (Γ 5).2.2
def oth5 (Γ Δ : HS) : Prop := (∀ r, r ≠ 5 → Δ r = Γ r) ∧ fr5 Γ Δ
theorem fr5_rfl {Γ : HS} : fr5 Γ Γ := ⟨fun _ _ => rfl, fun _ _ => rfl, rfl⟩
theorem fr5_trans {Γ Δ Θ : HS} (h : fr5 Γ Δ) (i : fr5 Δ Θ) : fr5 Γ Θ := ⟨fun k hk => by rw [i.1 k hk, h.1 k hk], fun k hk => by rw [i.2.1 k hk, h.2.1 k hk], by rw [i.2.2, h.2.2]⟩
theorem oth5_rfl {Γ : HS} : oth5 Γ Γ := ⟨fun _ _ => rfl, fr5_rfl⟩
theorem oth5_I {Γ : HS} {v : Int32} : oth5 Γ (cI' Γ 5 1 v) := ⟨fun r hr => by simp only [cI_r, if_neg hr], fun k hk => by simp only [cI_r, if_true, upd_s, if_neg hk], fun _ _ => rfl, rfl⟩
theorem oth5_A {Γ : HS} {g : Nat → Int32} : oth5 Γ (cA' Γ 5 0 g) := ⟨fun r hr => by simp only [cA_r, if_neg hr], fun _ _ => rfl, fun k hk => by simp only [cA_r, if_true, updA_s, if_neg hk], rfl⟩
theorem oth5_trans {Γ Δ Θ : HS} (h : oth5 Γ Δ) (i : oth5 Δ Θ) : oth5 Γ Θ := ⟨fun r hr => by rw [i.1 r hr, h.1 r hr], fr5_trans h.2 i.2⟩
theorem mrg5 {Γ Δ : HS} (h : oth5 Γ Δ) : mrg (fun j => j == 5) Γ Δ = Δ := mrgE (fun r hr => h.1 r (by rintro rfl; exact absurd hr (by decide)))
theorem mrg1' {Γ Δ : HS} (h : oth1 Γ Δ) : mrg (fun j => j == 1) Γ Δ = Δ := mrgE (fun r hr => h r (by rintro rfl; exact absurd hr (by decide)))
/-- what the class's reading leaves alone -/
def cfP (Γ Δ : HS) : Prop := (∀ r, r ≠ 1 → r ≠ 2 → r ≠ 5 → Δ r = Γ r) ∧ (Δ 1).1 = (Γ 1).1 ∧ (∀ k, k ≠ 6 → (Δ 1).2.1 k = (Γ 1).2.1 k) ∧ (Δ 1).2.2 = (Γ 1).2.2 ∧ fr5 Γ Δ
theorem cfP_rfl : cfP Γ Γ := ⟨fun _ _ _ _ => rfl, rfl, fun _ _ => rfl, rfl, fr5_rfl⟩
theorem cfP_trans {Γ Δ Θ : HS} (h : cfP Γ Δ) (i : cfP Δ Θ) : cfP Γ Θ := ⟨fun r a b c => by rw [i.1 r a b c, h.1 r a b c], by rw [i.2.1, h.2.1], fun k hk => by rw [i.2.2.1 k hk, h.2.2.1 k hk], by rw [i.2.2.2.1, h.2.2.2.1], fr5_trans h.2.2.2.2 i.2.2.2.2⟩
theorem cfP_I2 {k : Nat} {v : Int32} : cfP Γ (cI' Γ 2 k v) := ⟨fun r _ h _ => by simp only [cI_r, if_neg h], rfl, fun _ _ => rfl, rfl, fr5_rfl⟩
theorem cfP_5 {Δ : HS} (h : oth5 Γ Δ) : cfP Γ Δ := ⟨fun r _ _ h5 => h.1 r h5, by rw [h.1 1 (by omega)], fun k _ => by rw [h.1 1 (by omega)], by rw [h.1 1 (by omega)], h.2⟩
theorem cfP_TKc {Δ : HS} (h : cfP Γ Δ) (ht : TKc N kd vl pl Γ) : TKc N kd vl pl Δ := ⟨by rw [h.2.1]; exact ht.1, fun i hi => by rw [h.2.2.1 3 (by omega), h.2.2.1 4 (by omega), h.2.2.1 5 (by omega)]; exact ht.2 i hi⟩
/-- the class reads on: at word a, so many stand open, so long a code -/
def CN (T N : Nat) (kd vl : Nat → Int) (pl : Nat → Nat) (Γ : HS) (a dp ln : Nat) : Prop := TKc N kd vl pl Γ ∧ (Γ 2).1 2 = J a ∧ (Γ 2).1 3 = J (kd a) ∧ (Γ 2).1 4 = J dp ∧ (Γ 2).1 5 = J 0 ∧ (Γ 5).1 1 = J ln ∧ a ≤ T ∧ dp ≤ 31 ∧ ln ≤ 40000
/-- the class has met a fault -/
def CX (N : Nat) (kd vl : Nat → Int) (pl : Nat → Nat) (Γ : HS) (f : Int) (w : Nat) : Prop := TKc N kd vl pl Γ ∧ (Γ 2).1 2 = J (N - 1 : Nat) ∧ (Γ 2).1 3 = J 0 ∧ (f = 2 ∨ f = 5) ∧ (Γ 2).1 5 = J f ∧ (Γ 2).1 6 = J w ∧ ∃ l : Nat, l ≤ 40000 ∧ (Γ 5).1 1 = J l
theorem TKE_N (h : TKE T N kd vl rv pl) : T + 1 ≤ N ∧ N ≤ T + 2 ∧ T ≤ 4096 ∧ kd (N - 1) = 0 := by
  rcases h.2.2.1 with ⟨h1, h2⟩ | ⟨h1, h2, h3⟩
  · refine ⟨by omega, by omega, h.1, by rw [h2]; exact h1⟩
  · refine ⟨by omega, by omega, h.1, by rw [h3]; exact h2⟩
/-- a word is passed -/
def cps (kd : Nat → Int) (Γ : HS) (a : Nat) : HS := cI' (cI' Γ 2 2 (J (a + 1 : Nat))) 2 3 (J (kd (a + 1)))
theorem c_pass (hT : TKE T N kd vl rv pl) (h : CN T N kd vl pl Γ a dp ln) (ha : a < T) : F_X2_pass Γ = some (J 0, cps kd Γ a) := by
  obtain ⟨⟨hN, htk⟩, h2, h3, h4, h5, hl, -, -⟩ := h
  obtain ⟨n1, n2, n3, n4⟩ := TKE_N hT
  have k3 := (htk (a + 1) (by omega)).1
  unfold F_X2_pass
  have e1 : J (a : Nat) + 1 = J (a + 1 : Nat) := by rw [J_lit, J_add]; rfl
  have e2 : ∀ v : Int32, (cI' Γ 2 2 v) 2 = (upd (Γ 2).1 2 v, (Γ 2).2) := fun v => rfl
  have e3 : ∀ v : Int32, (cI' Γ 2 2 v) 1 = Γ 1 := fun v => rfl
  simp only [bnd, h2, hN, e1, e2, e3, upd_s, if_true]
  have g1 : ¬ (J ((a + 1 : Nat) : Int) < 0 ∨ 16001 ≤ (J ((a + 1 : Nat) : Int)).toNatClampNeg) := by
    rw [J_natN (by omega)]; rintro (h | h); exact J_nlt0 (by omega) (by omega) h; omega
  rw [if_neg (J_nlt0 (by omega) (by omega)), if_neg (by simp (disch := omega) only [J_lit, J_add, J_sub, J_mul, J_neg, J_lt, J_le, J_eq, J_natN, J_nat, Int.toNat_natCast, tnl, tnc] <;> omega), if_neg (by rw [show (16001 : Int32) = J 16001 from rfl, J_le (by omega) (by omega) (by omega) (by omega)]; omega), if_neg g1, J_natN (by omega), k3]
  rfl
/-- a fault is met -/
def cfl (N : Nat) (Γ : HS) (f : Int) (a : Nat) : HS := cI' (cI' (cI' (cI' Γ 2 5 (J f)) 2 6 (J a)) 2 2 (J (N - 1 : Nat))) 2 3 (J 0)
theorem c_fail (hT : TKE T N kd vl rv pl) (h : CN T N kd vl pl Γ a dp ln) (f : Int) : F_X2_fail (J f) Γ = some (J 0, cfl N Γ f a) := by
  obtain ⟨⟨hN, htk⟩, h2, h3, h4, h5, hl, -, -⟩ := h
  obtain ⟨n1, n2, n3, n4⟩ := TKE_N hT
  unfold F_X2_fail
  simp only [bnd]
  rw [h5, if_pos J0_eq]
  have e1 : ((cI' Γ 2 5 (J f)) 2).1 2 = J a := h2
  have e2 : ((cI' (cI' Γ 2 5 (J f)) 2 6 (J a)) 1).1 2 = J N := hN
  rw [e1, e2, show J (N : Int) - 1 = J ((N - 1 : Nat) : Int) by rw [J_lit, J_sub]; exact congrArg J (by show (N : Int) - 1 = _; omega)]
  rfl
theorem CN_cps (hT : TKE T N kd vl rv pl) (h : CN T N kd vl pl Γ a dp ln) (ha : a < T) : CN T N kd vl pl (cps kd Γ a) (a + 1) dp ln := ⟨h.1, rfl, rfl, h.2.2.2.1, h.2.2.2.2.1, h.2.2.2.2.2.1, ha, h.2.2.2.2.2.2.2⟩
theorem CX_cfl (h : CN T N kd vl pl Γ a dp ln) {f : Int} (hf : f = 2 ∨ f = 5) : CX N kd vl pl (cfl N Γ f a) f a := ⟨h.1, rfl, rfl, hf, rfl, rfl, ln, h.2.2.2.2.2.2.2.2, h.2.2.2.2.2.1⟩
theorem cfP_cps : cfP Γ (cps kd Γ a) := cfP_trans cfP_I2 cfP_I2
theorem cfP_cfl {f : Int} : cfP Γ (cfl N Γ f a) := cfP_trans (cfP_trans (cfP_trans cfP_I2 cfP_I2) cfP_I2) cfP_I2
theorem c_need (hT : TKE T N kd vl rv pl) (h : CN T N kd vl pl Γ a dp ln) {c : Int} (hc : c ≠ 0 ∧ c ≠ 1 ∧ 0 ≤ c ∧ c < 1000) : F_X2_need (J c) Γ = some (J 0, if kd a = c then cps kd Γ a else cfl N Γ 2 a) := by
  have hk := kdOk_rng (TKE_ok hT h.2.2.2.2.2.2.1)
  unfold F_X2_need
  rw [h.2.2.1]
  by_cases q : kd a = c
  · rw [if_pos (by rw [q]), if_pos q, c_pass hT h (TKE_lt hT h.2.2.2.2.2.2.1 (by omega) (by omega))]; rfl
  · rw [if_neg (by rw [J_eq (by omega) (by omega) (by omega) (by omega)]; exact q), if_neg q, show (2 : Int32) = J 2 from rfl, c_fail hT h]; rfl
theorem c_accept (hT : TKE T N kd vl rv pl) (h : CN T N kd vl pl Γ a dp ln) {c : Int} (hc : c ≠ 0 ∧ c ≠ 1 ∧ 0 ≤ c ∧ c < 1000) : F_X2_accept (J c) Γ = some (if kd a = c then (J 1, cps kd Γ a) else (J 0, Γ)) := by
  have hk := kdOk_rng (TKE_ok hT h.2.2.2.2.2.2.1)
  unfold F_X2_accept
  rw [h.2.2.1]
  by_cases q : kd a = c
  · rw [if_pos (by rw [q]), if_pos q, c_pass hT h (TKE_lt hT h.2.2.2.2.2.2.1 (by omega) (by omega))]; rfl
  · rw [if_neg (by rw [J_eq (by omega) (by omega) (by omega) (by omega)]; exact q), if_neg q]; rfl
def cop (Γ : HS) (d : Int) : HS := cI' Γ 2 4 (J d)
theorem CN_cop {d : Nat} (h : CN T N kd vl pl Γ a dp ln) (hd : d ≤ 31) : CN T N kd vl pl (cop Γ d) a d ln := ⟨h.1, h.2.1, h.2.2.1, rfl, h.2.2.2.2.1, h.2.2.2.2.2.1, h.2.2.2.2.2.2.1, hd, h.2.2.2.2.2.2.2.2⟩
theorem CX_cop {f : Int} {w : Nat} {d : Int32} (h : CX N kd vl pl Γ f w) : CX N kd vl pl (cI' Γ 2 4 d) f w := ⟨h.1, h.2.1, h.2.2.1, h.2.2.2.1, h.2.2.2.2.1, h.2.2.2.2.2⟩
theorem c_deepen (hT : TKE T N kd vl rv pl) (h : CN T N kd vl pl Γ a dp ln) (ha : a < T) : F_X2_deepen Γ = some (J 0, if dp < 30 then cps kd (cop Γ (dp + 1 : Nat)) a else cfl N (cop Γ (dp + 1 : Nat)) 5 a) := by
  have hdp := h.2.2.2.2.2.2.2.1
  unfold F_X2_deepen
  simp only [bnd]
  rw [h.2.2.2.1, show J (dp : Nat) + 1 = J (dp + 1 : Nat) by rw [J_lit, J_add]; rfl]
  have e0 : ((cI' Γ 2 4 (J (dp + 1 : Nat))) 2).1 4 = J (dp + 1 : Nat) := rfl
  rw [e0]
  have h' : ∀ d : Nat, d ≤ 31 → CN T N kd vl pl (cI' Γ 2 4 (J d)) a d ln := fun d hd => CN_cop h hd
  by_cases q : dp < 30
  · rw [if_pos (by rw [show (30 : Int32) = J 30 from rfl, J_le (by omega) (by omega) (by omega) (by omega)]; omega), if_pos q, c_pass hT (h' (dp + 1) (by omega)) ha]; rfl
  · rw [if_neg (by rw [show (30 : Int32) = J 30 from rfl, J_le (by omega) (by omega) (by omega) (by omega)]; omega), if_neg q, show (5 : Int32) = J 5 from rfl]
    have hf : F_X2_fail (J 5) (cI' Γ 2 4 (J (dp + 1 : Nat))) = some (J 0, cfl N (cI' Γ 2 4 (J (dp + 1 : Nat))) 5 a) := by
      obtain ⟨⟨hN, htk⟩, h2, h3, h4, h5, hl, -, -⟩ := h
      unfold F_X2_fail
      simp only [bnd]
      have e1 : ((cI' Γ 2 4 (J (dp + 1 : Nat))) 2).1 5 = J 0 := h5
      have e2 : ((cI' (cI' Γ 2 4 (J (dp + 1 : Nat))) 2 5 (J 5)) 2).1 2 = J a := h2
      have e3 : ((cI' (cI' (cI' Γ 2 4 (J (dp + 1 : Nat))) 2 5 (J 5)) 2 6 (J a)) 1).1 2 = J N := hN
      obtain ⟨n1, n2, n3, n4⟩ := TKE_N hT
      rw [e1, if_pos J0_eq, e2, e3, show J (N : Int) - 1 = J ((N - 1 : Nat) : Int) by rw [J_lit, J_sub]; exact congrArg J (by show (N : Int) - 1 = _; omega)]
      rfl
    rw [hf]; rfl
theorem c_worthOf (hT : TKE T N kd vl rv pl) (h : TKc N kd vl pl Γ) {i : Nat} (hi : i < N) : F_X10_worthOf (J i) Γ = some (J (vl i), Γ) := by
  obtain ⟨n1, n2, n3, n4⟩ := TKE_N hT
  unfold F_X10_worthOf
  rw [h.1, if_neg (J_nlt0 (by omega) (by omega)), if_neg (by rw [J_le (by omega) (by omega) (by omega) (by omega)]; omega)]
  simp only [bnd]
  rw [q_g_at_in (by omega) (by omega) (by omega), Int.toNat_natCast, (h.2 i hi).2.2]
theorem c_placeOf (hT : TKE T N kd vl rv pl) (h : TKc N kd vl pl Γ) {i : Nat} (hi : i < N) : F_X10_placeOf (J i) Γ = some (J (pl i), Γ) := by
  obtain ⟨n1, n2, n3, n4⟩ := TKE_N hT
  unfold F_X10_placeOf
  rw [h.1, if_neg (J_nlt0 (by omega) (by omega)), if_neg (by rw [J_le (by omega) (by omega) (by omega) (by omega)]; omega)]
  simp only [bnd]
  rw [q_g_at_in (by omega) (by omega) (by omega), Int.toNat_natCast, (h.2 i hi).2.1]
theorem c_kindOf (hT : TKE T N kd vl rv pl) (h : TKc N kd vl pl Γ) {i : Nat} (hi : i < N) : F_X10_kindOf (J i) Γ = some (J (kd i), Γ) := by
  obtain ⟨n1, n2, n3, n4⟩ := TKE_N hT
  unfold F_X10_kindOf
  have g1 : ¬ (J (i : Int) < 0 ∨ 16001 ≤ (J (i : Int)).toNatClampNeg) := by
    rw [J_natN (by omega)]; rintro (h | h); exact J_nlt0 (by omega) (by omega) h; omega
  rw [h.1, if_neg (J_nlt0 (by omega) (by omega)), if_neg (by rw [J_le (by omega) (by omega) (by omega) (by omega)]; omega), if_neg (by rw [show (16001 : Int32) = J 16001 from rfl, J_le (by omega) (by omega) (by omega) (by omega)]; omega), if_neg g1, J_natN (by omega), (h.2 i hi).1]
/-! code -/
def cb1 (v : Int) : Int32 := ((J v) >>> (8 &&& 31)).toInt8.toInt32
def cb2 (v : Int) : Int32 := (J v).toInt8.toInt32
theorem i8i8 (x : Int32) : vp_nar .byte (x.toInt8.toInt32) = x.toInt8.toInt32 := by
  show (x.toInt8.toInt32).toInt8.toInt32 = _
  rw [Int8.toInt8_toInt32]
/-- an instruction of a byte -/
def ca1 (Γ : HS) (ln : Nat) (o : Int) : HS := cI' (cA' Γ 5 0 (upd ((Γ 5).2.1 0) ln (J o))) 5 1 (J (ln + 1 : Nat))
/-- an instruction with two bytes behind -/
def ca3 (Γ : HS) (ln : Nat) (o v : Int) : HS := cI' (cA' Γ 5 0 (upd (upd (upd ((Γ 5).2.1 0) ln (J o)) (ln + 1) (cb1 v)) (ln + 2) (cb2 v))) 5 1 (J (ln + 3 : Nat))
theorem c_add1 (hl : (Γ 5).1 1 = J ln) (hln : ln < 40000) {o : Int} (ho : 0 ≤ o) (ho2 : o < 128) : F_X0_add (J o) Γ = some (J 0, ca1 Γ ln o) := by
  unfold F_X0_add
  have g1 : ¬ (J (ln : Int) < 0 ∨ 40000 ≤ (J (ln : Int)).toNatClampNeg) := by
    rw [J_natN (by omega)]; rintro (h | h); exact J_nlt0 (by omega) (by omega) h; omega
  rw [hl, if_neg (J_nlt0 (by omega) (by omega)), if_neg (by rw [show (40000 : Int32) = J 40000 from rfl, J_le (by omega) (by omega) (by omega) (by omega)]; omega)]
  simp only [bnd]
  rw [if_neg g1, J_natN (by omega), i8i8, J_i8 (by omega) (by omega)]
  have e1 : ((cA' Γ 5 0 (upd ((Γ 5).2.1 0) ln (J o))) 5).1 1 = J ln := hl
  rw [e1, show J (ln : Nat) + 1 = J (ln + 1 : Nat) by rw [J_lit, J_add]; rfl]
  rfl
theorem c_add3 (hl : (Γ 5).1 1 = J ln) (hln : ln < 39990) {o v : Int} (ho : 0 ≤ o) (ho2 : o < 128) : F_X0_add_ (J o) (J v) Γ = some (J (ln + 1 : Nat), ca3 Γ ln o v) := by
  unfold F_X0_add_
  have g1 : ¬ (J (ln : Int) < 0 ∨ 40000 ≤ (J (ln : Int)).toNatClampNeg) := by
    rw [J_natN (by omega)]; rintro (h | h); exact J_nlt0 (by omega) (by omega) h; omega
  have g2 : ¬ (J ((ln + 1 : Nat) : Int) < 0 ∨ 40000 ≤ (J ((ln + 1 : Nat) : Int)).toNatClampNeg) := by
    rw [J_natN (by omega)]; rintro (h | h); exact J_nlt0 (by omega) (by omega) h; omega
  have g3 : ¬ (J ((ln + 2 : Nat) : Int) < 0 ∨ 40000 ≤ (J ((ln + 2 : Nat) : Int)).toNatClampNeg) := by
    rw [J_natN (by omega)]; rintro (h | h); exact J_nlt0 (by omega) (by omega) h; omega
  rw [hl, if_neg (J_nlt0 (by omega) (by omega)), if_neg (by rw [show (40000 : Int32) = J 40000 from rfl, J_lit, J_add, J_le (by omega) (by omega) (by omega) (by omega)]; show ¬ ((40000 : Int) ≤ (ln : Int) + 2); omega)]
  simp only [bnd]
  have e1 : ∀ x : Nat → Int32, ((cA' Γ 5 0 x) 5).1 1 = J ln := fun x => hl
  have e2 : ∀ x y : Nat → Int32, ((cA' (cA' Γ 5 0 x) 5 0 y) 5).1 1 = J ln := fun x y => hl
  have e3 : ∀ x y z : Nat → Int32, ((cA' (cA' (cA' Γ 5 0 x) 5 0 y) 5 0 z) 5).1 1 = J ln := fun x y z => hl
  rw [if_neg g1, e1, show J (ln : Nat) + 1 = J (ln + 1 : Nat) by rw [J_lit, J_add]; rfl, if_neg g2, e2, show J (ln : Nat) + 2 = J (ln + 2 : Nat) by rw [J_lit, J_add]; rfl, if_neg g3, J_natN (by omega), J_natN (by omega), J_natN (by omega), e3, i8i8, i8i8, i8i8, J_i8 (by omega) (by omega), show J (ln : Nat) + 3 = J (ln + 3 : Nat) by rw [J_lit, J_add]; rfl]
  have e4 : ∀ Δ : HS, ((cI' Δ 5 1 (J (ln + 3 : Nat))) 5).1 1 = J (ln + 3 : Nat) := fun Δ => rfl
  rw [e4, show J ((ln + 3 : Nat) : Int) - 2 = J ((ln + 1 : Nat) : Int) by rw [J_lit, J_sub]; exact congrArg J (by show ((ln + 3 : Nat) : Int) - 2 = _; omega)]
  unfold ca3 cb1 cb2
  rw [show ∀ (x y z : Nat → Int32), cA' (cA' (cA' Γ 5 0 x) 5 0 y) 5 0 z = cA' Γ 5 0 z from fun x y z => by
    funext r; simp only [cA_r]
    by_cases q : r = 5
    · subst q; simp only [if_true, updA_s]
      refine Prod.ext rfl (Prod.ext (funext fun j => ?_) rfl)
      simp only [updA_s]; split <;> rfl
    · simp only [if_neg q]]
  rfl
/-- the operand of a jump is put -/
def csp (Γ : HS) (p : Nat) (v : Int) : HS := cA' Γ 5 0 (upd (upd ((Γ 5).2.1 0) p (cb1 v)) (p + 1) (cb2 v))
theorem c_aim (hl : (Γ 5).1 1 = J ln) {p : Nat} (hp : p < 39990) : F_X0_aim (J p) Γ = some (J 0, csp Γ p ln) := by
  unfold F_X0_aim F_X0_setPair
  have g1 : ¬ (J (p : Int) < 0 ∨ 40000 ≤ (J (p : Int)).toNatClampNeg) := by
    rw [J_natN (by omega)]; rintro (h | h); exact J_nlt0 (by omega) (by omega) h; omega
  have g2 : ¬ (J ((p + 1 : Nat) : Int) < 0 ∨ 40000 ≤ (J ((p + 1 : Nat) : Int)).toNatClampNeg) := by
    rw [J_natN (by omega)]; rintro (h | h); exact J_nlt0 (by omega) (by omega) h; omega
  simp only [bnd]
  rw [hl, if_neg (J_nlt0 (by omega) (by omega)), show J (p : Nat) + 1 = J (p + 1 : Nat) by rw [J_lit, J_add]; rfl, if_neg (by rw [show (40000 : Int32) = J 40000 from rfl, J_le (by omega) (by omega) (by omega) (by omega)]; omega), if_neg g1, if_neg g2, J_natN (by omega), J_natN (by omega), i8i8, i8i8, Option.bind_some]
  unfold csp cb1 cb2
  rw [show ∀ (x y : Nat → Int32), cA' (cA' Γ 5 0 x) 5 0 y = cA' Γ 5 0 y from fun x y => by
    funext r; simp only [cA_r]
    by_cases q : r = 5
    · subst q; simp only [if_true]
      refine Prod.ext rfl (Prod.ext (funext fun j => ?_) rfl)
      simp only [updA_s]; split <;> rfl
    · simp only [if_neg q]]
  rfl
theorem oth5_ca1 {o : Int} : oth5 Γ (ca1 Γ ln o) := oth5_trans oth5_A oth5_I
theorem oth5_ca3 {o v : Int} : oth5 Γ (ca3 Γ ln o v) := oth5_trans oth5_A oth5_I
theorem oth5_csp {v : Int} {p : Nat} : oth5 Γ (csp Γ p v) := oth5_A
theorem CN_5 {Δ : HS} {l : Nat} (h : CN T N kd vl pl Γ a dp ln) (h5 : oth5 Γ Δ) (hl : (Δ 5).1 1 = J l) (hl2 : l ≤ 40000) : CN T N kd vl pl Δ a dp l := by
  obtain ⟨a1, a2, a3, a4, a5, a6, a7, a8, a9⟩ := h
  refine ⟨?_, by rw [h5.1 2 (by omega)]; exact a2, by rw [h5.1 2 (by omega)]; exact a3, by rw [h5.1 2 (by omega)]; exact a4, by rw [h5.1 2 (by omega)]; exact a5, hl, a7, a8, hl2⟩
  exact cfP_TKc (cfP_5 h5) a1
theorem CX_5 {Δ : HS} {f : Int} {w : Nat} (h : CX N kd vl pl Γ f w) (h5 : oth5 Γ Δ) (hl : ∃ l : Nat, l ≤ 40000 ∧ (Δ 5).1 1 = J l) : CX N kd vl pl Δ f w := by
  obtain ⟨a1, a2, a3, a4, a5, a6, -⟩ := h
  exact ⟨cfP_TKc (cfP_5 h5) a1, by rw [h5.1 2 (by omega)]; exact a2, by rw [h5.1 2 (by omega)]; exact a3, a4, by rw [h5.1 2 (by omega)]; exact a5, by rw [h5.1 2 (by omega)]; exact a6, hl⟩
