/-! bytes of the code, put in and read -/
variable {T N : Nat} {kd vl rv : Nat → Int} {pl : Nat → Nat}
theorem J_t8 (x : Nat) : (J (x : Int)).toInt8.toBitVec = BitVec.ofNat 8 x := by
  show ((J (x : Int)).toBitVec).signExtend 8 = _
  rw [BitVec.signExtend_eq_setWidth_of_le _ (by omega), J_bv]
  apply BitVec.eq_of_toNat_eq
  rw [BitVec.toNat_setWidth, BitVec.toNat_ofNat, BitVec.toNat_ofNat]
  omega
theorem t8_eq {x y : Nat} (h : x % 256 = y % 256) : (J (x : Int)).toInt8 = (J (y : Int)).toInt8 := by
  apply Int8.toBitVec_inj.mp
  rw [J_t8, J_t8]
  apply BitVec.eq_of_toNat_eq
  rw [BitVec.toNat_ofNat, BitVec.toNat_ofNat]
  omega
theorem shr_nat {v k : Nat} {s : Int32} (hv : v < 2147483648) (hk : (s &&& 31).toBitVec.smod 32 = BitVec.ofNat 32 k) (hk2 : k < 32) : J (v : Int) >>> (s &&& 31) = J ((v / 2 ^ k : Nat) : Int) := by
  apply Int32.toBitVec_inj.mp
  rw [J_bv]
  show (J (v : Int)).toBitVec.sshiftRight' ((s &&& 31).toBitVec.smod 32) = _
  rw [hk, J_bv]
  show (BitVec.ofNat 32 v).sshiftRight (BitVec.ofNat 32 k).toNat = _
  rw [BitVec.sshiftRight_eq_of_msb_false (by rw [BitVec.msb_eq_decide]; simp; omega)]
  apply BitVec.eq_of_toNat_eq
  rw [BitVec.toNat_ushiftRight, BitVec.toNat_ofNat, BitVec.toNat_ofNat, BitVec.toNat_ofNat, Nat.shiftRight_eq_div_pow, Nat.mod_eq_of_lt (show v < 2 ^ 32 by omega), Nat.mod_eq_of_lt (show k < 2 ^ 32 by omega)]
  have := Nat.div_le_self v (2 ^ k)
  rw [Nat.mod_eq_of_lt (by omega)]
theorem shr8 {v : Nat} (hv : v < 2147483648) : J (v : Int) >>> (8 &&& 31) = J ((v / 256 : Nat) : Int) := shr_nat (k := 8) hv (by decide) (by omega)
theorem shr16 {v : Nat} (hv : v < 2147483648) : J (v : Int) >>> (16 &&& 31) = J ((v / 65536 : Nat) : Int) := shr_nat (k := 16) hv (by decide) (by omega)
theorem cb_mod {m v : Nat} (hm : m < 2147483648) (hv : v < 2147483648) (h : m % 65536 = v % 65536) : cb1 (m : Nat) = cb1 (v : Nat) ∧ cb2 (m : Nat) = cb2 (v : Nat) := by
  unfold cb1 cb2
  rw [shr8 hm, shr8 hv]
  exact ⟨by rw [t8_eq (x := m / 256) (y := v / 256) (by omega)], by rw [t8_eq (x := m) (y := v) (by omega)]⟩
theorem and255 (x : Int32) : x.toInt8.toInt32 &&& 255 = x &&& 255 := by
  apply Int32.toBitVec_inj.mp
  rw [Int32.toBitVec_and, Int32.toBitVec_and]
  show ((x.toBitVec.signExtend 8).signExtend 32) &&& 255#32 = x.toBitVec &&& 255#32
  rw [BitVec.signExtend_eq_setWidth_of_le (v := 8) x.toBitVec (by omega)]
  apply BitVec.eq_of_getLsbD_eq
  intro i hi
  rw [BitVec.getLsbD_and, BitVec.getLsbD_and]
  by_cases q : i < 8
  · rw [BitVec.getLsbD_signExtend, BitVec.getLsbD_setWidth]
    simp [q, hi]
  · have : (255#32).getLsbD i = false := by
      rw [BitVec.getLsbD_ofNat]
      have : (255 : Nat).testBit i = false := Nat.testBit_lt_two_pow (by
        have : 2 ^ 8 ≤ 2 ^ i := Nat.pow_le_pow_right (by omega) (by omega)
        omega)
      rw [this]; simp
    rw [this]; simp
theorem J_255 {a : Nat} (h : a < 2147483648) : J (a : Int) &&& 255 = J ((a % 256 : Nat) : Int) := by
  rw [show (255 : Int32) = J ((255 : Nat) : Int) from rfl, J_and h (by omega), show (255 : Nat) = 2 ^ 8 - 1 from rfl, Nat.and_two_pow_sub_one_eq_mod]
theorem cb1_255 {v : Nat} (h : v < 2147483648) : cb1 (v : Nat) &&& 255 = J ((v / 256 % 256 : Nat) : Int) := by
  unfold cb1
  rw [and255, shr8 h, J_255 (by omega)]
theorem cb2_255 {v : Nat} (h : v < 2147483648) : cb2 (v : Nat) &&& 255 = J ((v % 256 : Nat) : Int) := by
  unfold cb2
  rw [and255, J_255 h]
theorem pair_nat {a b : Nat} (ha : a < 256) (hb : b < 256) : (J (a : Int) <<< ((8 : Int32) &&& 31)) ||| J (b : Int) = J ((a * 256 + b : Nat) : Int) := by
  apply Int32.toBitVec_inj.mp
  rw [J_bv, show ((8 : Int32) &&& 31) = 8 by decide]
  show ((J (a : Int)).toBitVec <<< ((8 : Int32).toBitVec.smod 32)) ||| (J (b : Int)).toBitVec = _
  rw [J_bv, J_bv, show ((8 : Int32).toBitVec.smod 32) = 8#32 by decide]
  apply BitVec.eq_of_toNat_eq
  rw [BitVec.toNat_or, BitVec.toNat_ofNat, BitVec.toNat_ofNat]
  have e : ((BitVec.ofNat 32 a) <<< (8#32)).toNat = a * 256 := by
    show ((BitVec.ofNat 32 a) <<< (8#32).toNat).toNat = _
    rw [BitVec.toNat_shiftLeft, BitVec.toNat_ofNat, show (8#32).toNat = 8 from rfl, Nat.shiftLeft_eq, Nat.mod_eq_of_lt (show a < 2 ^ 32 by omega), Nat.mod_eq_of_lt (show a * 2 ^ 8 < 2 ^ 32 by omega)]
  rw [e, Nat.mod_eq_of_lt (show b < 2 ^ 32 by omega), Nat.mod_eq_of_lt (show a * 256 + b < 2 ^ 32 by omega)]
  have h := Nat.shiftLeft_add_eq_or_of_lt (show b < 2 ^ 8 by omega) a
  rw [Nat.shiftLeft_eq] at h
  exact h.symm
/-- reading the code -/
theorem c_byteAt {Γ : HS} {p ln : Nat} (hl : (Γ 5).1 1 = J (ln : Nat)) (hp : p < ln) (hln : ln ≤ 40000) : F_X0_byteAt (J (p : Nat)) Γ = some ((Γ 5).2.1 0 p &&& 255, Γ) := by
  unfold F_X0_byteAt
  rw [if_neg (J_nlt0 (by omega) (by omega)), hl, if_neg (show ¬ J (ln : Nat) ≤ J (p : Nat) by rw [J_le (by omega) (by omega) (by omega) (by omega)]; omega), if_neg (show ¬ (40000 : Int32) ≤ J (p : Nat) by rw [show (40000 : Int32) = J 40000 from rfl, J_le (by omega) (by omega) (by omega) (by omega)]; omega), if_neg (show ¬ (J (p : Nat) < 0 ∨ 40000 ≤ (J (p : Nat)).toNatClampNeg) by rintro (c | c); exact J_nlt0 (by omega) (by omega) c; rw [J_natN (by omega)] at c; omega), J_natN (by omega)]
theorem c_op1 {Γ : HS} {p ln : Nat} {o : Int} (hl : (Γ 5).1 1 = J (ln : Nat)) (hp : p < ln) (hln : ln ≤ 40000) (h : op1 Γ p o) (ho : 0 ≤ o ∧ o < 128) : F_X0_byteAt (J (p : Nat)) Γ = some (J o, Γ) := by
  unfold op1 at h
  rw [c_byteAt hl hp hln, h, show J o = J ((o.toNat : Nat) : Int) by congr 1; omega, J_255 (by omega), Nat.mod_eq_of_lt (by omega)]
theorem c_pair {Γ : HS} {p ln : Nat} {o : Int} {v : Nat} (hl : (Γ 5).1 1 = J (ln : Nat)) (hp : p + 2 < ln) (hln : ln ≤ 40000) (h : op3 Γ p o (v : Nat)) (hv : v < 65536) : F_X0_pairAt (J (p + 1 : Nat)) Γ = some (J (v : Nat), Γ) := by
  obtain ⟨h1, h2, h3⟩ := h
  unfold F_X0_pairAt
  rw [c_byteAt hl (by omega) hln, Option.bind_some]
  dsimp only
  rw [show J (p + 1 : Nat) + 1 = J (p + 2 : Nat) by rw [J_lit, J_add]; rfl, c_byteAt hl (by omega) hln, Option.bind_some]
  dsimp only
  rw [h2, h3, cb1_255 (by omega), cb2_255 (by omega), pair_nat (by omega) (by omega)]
  congr 3
  omega
theorem c_width {Γ : HS} {o : Int} (ho : 0 ≤ o ∧ o < 128) : F_X0_widthOf (J o) Γ = some ((if o < 33 then 1 else 3), Γ) := by
  unfold F_X0_widthOf
  by_cases q : o < 33
  · rw [if_pos q, if_pos (show J o < 33 by rw [show (33 : Int32) = J 33 from rfl, J_lt (by omega) (by omega) (by omega) (by omega)]; exact q)]
  · rw [if_neg q, if_neg (show ¬ J o < 33 by rw [show (33 : Int32) = J 33 from rfl, J_lt (by omega) (by omega) (by omega) (by omega)]; exact q)]
/-- a name's instruction with its meaning -/
def lkS (Γ : HS) (p : Nat) (o : Int) (m : Nat) : HS := cA' (cA' (cA' Γ 5 0 (upd ((Γ 5).2.1 0) p (J o))) 5 0 (upd (upd ((Γ 5).2.1 0) p (J o)) (p + 1) (cb1 (m : Nat)))) 5 0 (upd (upd (upd ((Γ 5).2.1 0) p (J o)) (p + 1) (cb1 (m : Nat))) (p + 2) (cb2 (m : Nat)))
theorem lkS_r {Γ : HS} {p m r : Nat} {o : Int} (h : r ≠ 5) : lkS Γ p o m r = Γ r := by unfold lkS; rw [cA_r, if_neg h, cA_r, if_neg h, cA_r, if_neg h]
theorem cA50 {Γ : HS} {k j : Nat} {g : Nat → Int32} : ((cA' Γ 5 k g) 5).2.1 j = if j = k then g else (Γ 5).2.1 j := updA_s _ _ _ _
theorem lkS_A {Γ : HS} {p m k : Nat} {o : Int} : ((lkS Γ p o m) 5).2.1 k = if k = 0 then upd (upd (upd ((Γ 5).2.1 0) p (J o)) (p + 1) (cb1 (m : Nat))) (p + 2) (cb2 (m : Nat)) else (Γ 5).2.1 k := by
  unfold lkS
  rw [cA50, cA50, cA50]
  by_cases q : k = 0
  · rw [if_pos q, if_pos q]
  · rw [if_neg q, if_neg q, if_neg q, if_neg q]
theorem c_setB {Γ : HS} {p : Nat} {o : Int} (hp : p < 40000) (ho : 0 ≤ o ∧ o < 128) : F_X0_setByte (J (p : Nat)) (J o) Γ = some ((0 : Int32), cA' Γ 5 0 (upd ((Γ 5).2.1 0) p (J o))) := by
  unfold F_X0_setByte
  rw [if_neg (J_nlt0 (by omega) (by omega)), if_neg (show ¬ (40000 : Int32) ≤ J (p : Nat) by rw [show (40000 : Int32) = J 40000 from rfl, J_le (by omega) (by omega) (by omega) (by omega)]; omega)]
  simp only [bndE]
  rw [if_neg (show ¬ (J (p : Nat) < 0 ∨ 40000 ≤ (J (p : Nat)).toNatClampNeg) by rintro (c | c); exact J_nlt0 (by omega) (by omega) c; rw [J_natN (by omega)] at c; omega), J_natN (by omega), i8i8, show (J o).toInt8.toInt32 = J o from J_byte (by omega) (by omega)]
theorem c_setP {Γ : HS} {p m : Nat} (hp : p + 1 < 40000) : F_X0_setPair (J (p : Nat)) (J (m : Nat)) Γ = some ((0 : Int32), cA' (cA' Γ 5 0 (upd ((Γ 5).2.1 0) p (cb1 (m : Nat)))) 5 0 (upd (upd ((Γ 5).2.1 0) p (cb1 (m : Nat))) (p + 1) (cb2 (m : Nat)))) := by
  have e1 : J (p : Nat) + 1 = J (p + 1 : Nat) := by rw [J_lit, J_add]; rfl
  unfold F_X0_setPair
  rw [if_neg (J_nlt0 (by omega) (by omega)), e1, if_neg (show ¬ (40000 : Int32) ≤ J (p + 1 : Nat) by rw [show (40000 : Int32) = J 40000 from rfl, J_le (by omega) (by omega) (by omega) (by omega)]; omega)]
  simp only [bndE]
  rw [if_neg (show ¬ (J (p : Nat) < 0 ∨ 40000 ≤ (J (p : Nat)).toNatClampNeg) by rintro (c | c); exact J_nlt0 (by omega) (by omega) c; rw [J_natN (by omega)] at c; omega), if_neg (show ¬ (J (p + 1 : Nat) < 0 ∨ 40000 ≤ (J (p + 1 : Nat)).toNatClampNeg) by rintro (c | c); exact J_nlt0 (by omega) (by omega) c; rw [J_natN (by omega)] at c; omega), J_natN (by omega), J_natN (by omega), i8i8, i8i8]
  rw [cA50, if_pos rfl]
  rfl
