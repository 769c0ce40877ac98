/-! the signs of texts and their codes -/
variable {T N : Nat} {kd vl rv : Nat → Int} {pl : Nat → Nat}
def SGL : List Int32 := [32, 10, 97, 98, 99, 100, 101, 102, 103, 104, 105, 106, 107, 108, 109, 110, 111, 112, 113, 114, 115, 116, 117, 118, 119, 120, 121, 122, 46, 33, 35, 36, 37, 38, 39, 40, 41, 42, 43, 44, 45, 47, 48, 49, 50, 51, 52, 53, 54, 55, 56, 57, 58, 59, 60, 61, 62, 63, 64, 65, 66, 67, 68, 69, 70, 71, 72, 73, 74, 75, 76, 77, 78, 79, 80, 81, 82, 83, 84, 85, 86, 87, 88, 89, 90, 91, 92, 93, 95, 96, 123, 124, 125, 126]
def SGI : List Nat := [32, 10, 97, 98, 99, 100, 101, 102, 103, 104, 105, 106, 107, 108, 109, 110, 111, 112, 113, 114, 115, 116, 117, 118, 119, 120, 121, 122, 46, 33, 35, 36, 37, 38, 39, 40, 41, 42, 43, 44, 45, 47, 48, 49, 50, 51, 52, 53, 54, 55, 56, 57, 58, 59, 60, 61, 62, 63, 64, 65, 66, 67, 68, 69, 70, 71, 72, 73, 74, 75, 76, 77, 78, 79, 80, 81, 82, 83, 84, 85, 86, 87, 88, 89, 90, 91, 92, 93, 95, 96, 123, 124, 125, 126]
/-- where a sign stands -/
def sgN (s : Nat) : Nat := SGI.idxOf s
def okS (s : Nat) : Prop := s = 10 ∨ (32 ≤ s ∧ s ≤ 126 ∧ s ≠ 34 ∧ s ≠ 94)
theorem sg_tab : ∀ s, s < 127 → (s = 10 ∨ (32 ≤ s ∧ s ≤ 126 ∧ s ≠ 34 ∧ s ≠ 94)) → sgN s < 94 ∧ tx_ixOf SGL (Int32.ofNat s) = Int32.ofNat (sgN s) ∧ vp_nar .byte ((g_chr (SGL.getD (sgN s) 0)).toInt8.toInt32) = Int32.ofNat s ∧ ((Int32.ofNat s).toUInt32 % 65536).toInt32 = Int32.ofNat s := by decide +kernel
theorem sg_ok {s : Nat} (h : okS s) : sgN s < 94 ∧ tx_ixOf SGL (J (s : Nat)) = J (sgN s : Nat) ∧ vp_nar .byte ((g_chr (SGL.getD (sgN s) 0)).toInt8.toInt32) = J (s : Nat) ∧ ((J (s : Nat)).toUInt32 % 65536).toInt32 = J (s : Nat) := by
  have := sg_tab s (by unfold okS at h; omega) h
  rw [← J_ofNat, ← J_ofNat]; exact this
theorem SGL_len : SGL.length = 94 := by decide
theorem shl5 {a c : Nat} (ha : a < 1048576) (hc : c < 32) : (J (a : Int) <<< ((5 : Int32) &&& 31)) ||| J (c : Int) = J ((a * 32 + c : Nat) : Int) := by
  apply Int32.toBitVec_inj.mp
  rw [J_bv, show ((5 : Int32) &&& 31) = 5 by decide]
  show ((J (a : Int)).toBitVec <<< ((5 : Int32).toBitVec.smod 32)) ||| (J (c : Int)).toBitVec = _
  rw [J_bv, J_bv, show ((5 : Int32).toBitVec.smod 32) = 5#32 by decide]
  apply BitVec.eq_of_toNat_eq
  rw [BitVec.toNat_or, BitVec.toNat_ofNat, BitVec.toNat_ofNat]
  have e : ((BitVec.ofNat 32 a) <<< (5#32)).toNat = a * 32 := by
    show ((BitVec.ofNat 32 a) <<< (5#32).toNat).toNat = _
    rw [BitVec.toNat_shiftLeft, BitVec.toNat_ofNat, show (5#32).toNat = 5 from rfl, Nat.shiftLeft_eq, Nat.mod_eq_of_lt (show a < 2 ^ 32 by omega), Nat.mod_eq_of_lt (show a * 2 ^ 5 < 2 ^ 32 by omega)]
  rw [e, Nat.mod_eq_of_lt (show c < 2 ^ 32 by omega), Nat.mod_eq_of_lt (show a * 32 + c < 2 ^ 32 by omega)]
  have h := Nat.shiftLeft_add_eq_or_of_lt (show c < 2 ^ 5 by omega) a
  rw [Nat.shiftLeft_eq] at h
  exact h.symm
theorem or15 {a : Nat} (ha : a < 32768) : J (a : Int) ||| 32768 = J ((a + 32768 : Nat) : Int) := by
  apply Int32.toBitVec_inj.mp
  rw [J_bv]
  show (J (a : Int)).toBitVec ||| (J ((32768 : Nat) : Int)).toBitVec = _
  rw [J_bv, J_bv]
  apply BitVec.eq_of_toNat_eq
  rw [BitVec.toNat_or, BitVec.toNat_ofNat, BitVec.toNat_ofNat, BitVec.toNat_ofNat, Nat.mod_eq_of_lt (show a < 2 ^ 32 by omega), Nat.mod_eq_of_lt (show 32768 < 2 ^ 32 by omega), Nat.mod_eq_of_lt (show a + 32768 < 2 ^ 32 by omega)]
  have h := Nat.shiftLeft_add_eq_or_of_lt (show a < 2 ^ 15 by omega) 1
  rw [Nat.shiftLeft_eq, Nat.or_comm] at h
  have h' : 1 * 2 ^ 15 + a = a ||| 32768 := h
  omega
theorem char16 {u : Nat} (h : u < 65536) : ((J (u : Int)).toUInt32 % 65536).toInt32 = J (u : Int) := by
  apply Int32.toBitVec_inj.mp
  rw [J_bv]
  show (J (u : Int)).toBitVec % 65536#32 = _
  rw [J_bv]
  apply BitVec.eq_of_toNat_eq
  rw [BitVec.toNat_umod, BitVec.toNat_ofNat, BitVec.toNat_ofNat, Nat.mod_eq_of_lt (show u < 2 ^ 32 by omega), show 65536 % 2 ^ 32 = 65536 from rfl, Nat.mod_eq_of_lt h]
theorem nar16 {u : Nat} (h : u < 65536) : vp_nar .char (J (u : Int)) = J (u : Int) := by
  rw [vp_nar_char]
  apply Int32.toBitVec_inj.mp
  rw [J_bv]
  show (((J (u : Int)).toBitVec.setWidth 16).setWidth 32) = _
  rw [J_bv]
  apply BitVec.eq_of_toNat_eq
  rw [BitVec.toNat_setWidth, BitVec.toNat_setWidth, BitVec.toNat_ofNat]
  omega
theorem and31 {a : Nat} (h : a < 2147483648) : J (a : Int) &&& 31 = J ((a % 32 : Nat) : Int) := by
  rw [show (31 : Int32) = J ((31 : Nat) : Int) from rfl, J_and h (by omega), show (31 : Nat) = 2 ^ 5 - 1 from rfl, Nat.and_two_pow_sub_one_eq_mod]
theorem and15n {u : Nat} (h : u < 65536) : (u &&& 2 ^ 15 = 0) = (u < 32768) := by
  by_cases q : u < 32768
  · simp only [q]
    refine eq_true ?_
    apply Nat.eq_of_testBit_eq
    intro i
    rw [Nat.testBit_and, Nat.zero_testBit]
    by_cases e : i = 15
    · rw [e, Nat.testBit_lt_two_pow (show u < 2 ^ 15 by omega)]; rfl
    · rw [Nat.testBit_two_pow_of_ne (Ne.symm e)]; simp
  · simp only [q]
    refine eq_false fun e => ?_
    have : (u &&& 2 ^ 15).testBit 15 = false := by rw [e]; exact Nat.zero_testBit 15
    rw [Nat.testBit_and, Nat.testBit_two_pow_self] at this
    have t : u.testBit 15 = true := by
      rw [Nat.testBit_eq_decide_div_mod_eq]
      simp; omega
    rw [t] at this; cases this
theorem and15 {u : Nat} (h : u < 65536) : (J (u : Int) &&& 32768 = 0) = (u < 32768) := by
  rw [show (32768 : Int32) = J ((32768 : Nat) : Int) from rfl, J_and (by omega) (by omega), show (0 : Int32) = J ((0 : Nat) : Int) from rfl]
  have hle : u &&& 32768 ≤ 32768 := Nat.and_le_right
  rw [J_eq (by omega) (by omega) (by omega) (by omega), ← and15n h]
  have e : (32768 : Nat) = 2 ^ 15 := rfl
  rw [e]
  apply propext
  constructor
  · intro h; exact Int.ofNat.inj h
  · intro h; rw [h]
theorem shr10 {v : Nat} (hv : v < 2147483648) : J (v : Int) >>> (10 &&& 31) = J ((v / 1024 : Nat) : Int) := shr_nat (k := 10) hv (by decide) (by omega)
theorem shr5 {v : Nat} (hv : v < 2147483648) : J (v : Int) >>> (5 &&& 31) = J ((v / 32 : Nat) : Int) := shr_nat (k := 5) hv (by decide) (by omega)
theorem shr0 {v : Nat} (hv : v < 2147483648) : J (v : Int) >>> (0 &&& 31) = J (v : Int) := by
  have := shr_nat (k := 0) (s := 0) hv (by decide) (by omega)
  rw [Nat.pow_zero, Nat.div_one] at this
  exact this
/-- a text's codes: of which signs they are -/
def cpz (by_ : Nat → Nat) : Nat → Nat
  | 0 => 0
  | k + 1 => cpz by_ k + (if sgN (by_ k) < 29 then 1 else 2)
def CDE (by_ : Nat → Nat) (m : Nat) (cd : Nat → Nat) : Prop := (∀ k, k < m → okS (by_ k) ∧ (sgN (by_ k) < 29 → cd (cpz by_ k) = sgN (by_ k)) ∧ (29 ≤ sgN (by_ k) → cd (cpz by_ k) = 29 + (sgN (by_ k) - 29) / 32 ∧ cd (cpz by_ k + 1) = (sgN (by_ k) - 29) % 32))
theorem cpz_le {by_ : Nat → Nat} : ∀ k, k ≤ cpz by_ k ∧ cpz by_ k ≤ 2 * k := by
  intro k
  induction k with
  | zero => exact ⟨Nat.le_refl _, Nat.le_refl _⟩
  | succ k ih => unfold cpz; split <;> omega
theorem cpz_mono {by_ : Nat → Nat} {k j : Nat} (h : k ≤ j) : cpz by_ k ≤ cpz by_ j := by
  induction j with
  | zero => rw [show k = 0 by omega]; exact Nat.le_refl _
  | succ j ih =>
    by_cases q : k = j + 1
    · rw [q]; exact Nat.le_refl _
    · have := ih (by omega)
      have e : cpz by_ (j + 1) = cpz by_ j + (if sgN (by_ j) < 29 then 1 else 2) := rfl
      rw [e]; split <;> omega
