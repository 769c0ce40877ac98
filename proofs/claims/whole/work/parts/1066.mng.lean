/-! a meaning is a sort and a number -/
theorem J_bv (n : Nat) : (J (n : Int)).toBitVec = BitVec.ofNat 32 n := by
  unfold J
  show BitVec.ofInt 32 (n : Int) = _
  exact BitVec.ofInt_natCast 32 n
theorem or_nat {a b : Nat} (ha : a < 32768) (hb : b < 65536) : BitVec.ofNat 32 (a * 65536) ||| BitVec.ofNat 32 b = BitVec.ofNat 32 (a * 65536 + b) := by
  apply BitVec.eq_of_toNat_eq
  rw [BitVec.toNat_or, BitVec.toNat_ofNat, BitVec.toNat_ofNat, BitVec.toNat_ofNat, Nat.mod_eq_of_lt (show a * 65536 < 2 ^ 32 by omega), Nat.mod_eq_of_lt (show b < 2 ^ 32 by omega), Nat.mod_eq_of_lt (show a * 65536 + b < 2 ^ 32 by omega)]
  have h := Nat.shiftLeft_add_eq_or_of_lt (show b < 2 ^ 16 by omega) a
  rw [Nat.shiftLeft_eq] at h
  exact h.symm
theorem shl_nat {a : Nat} (ha : a < 32768) : J (a : Int) <<< ((16 : Int32) &&& 31) = J ((a * 65536 : Nat) : Int) := by
  apply Int32.toBitVec_inj.mp
  rw [J_bv]
  rw [show ((16 : Int32) &&& 31) = 16 by decide]
  show (J (a : Int)).toBitVec <<< ((16 : Int32).toBitVec.smod 32) = _
  rw [J_bv, show ((16 : Int32).toBitVec.smod 32) = 16#32 by decide]
  apply BitVec.eq_of_toNat_eq
  rw [BitVec.toNat_ofNat]
  show ((BitVec.ofNat 32 a) <<< (16#32).toNat).toNat = _
  rw [BitVec.toNat_shiftLeft, BitVec.toNat_ofNat, show (16#32).toNat = 16 from rfl, Nat.shiftLeft_eq, Nat.mod_eq_of_lt (show a < 2 ^ 32 by omega)]
theorem mng_J {a b : Nat} (ha : a < 32768) (hb : b < 65536) : mng (J (a : Int)) (J (b : Int)) = J ((a * 65536 + b : Nat) : Int) := by
  unfold mng
  rw [shl_nat ha]
  apply Int32.toBitVec_inj.mp
  rw [J_bv]
  show (J ((a * 65536 : Nat) : Int)).toBitVec ||| (J (b : Int)).toBitVec = _
  rw [J_bv, J_bv]
  exact or_nat ha hb
theorem mng_let {m : Nat} (hm : m < 65536) : (458752 : Int32) ||| J (m : Int) = J ((7 * 65536 + m : Nat) : Int) := by
  have h := mng_J (a := 7) (b := m) (by omega) hm
  unfold mng at h
  rw [shl_nat (by omega)] at h
  exact h
