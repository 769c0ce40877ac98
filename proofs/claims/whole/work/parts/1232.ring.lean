/-! the plays put down move up and down -/
/-- i of a block's numbers are copied -/
def blkP (f : Nat → Int32) (dst src i : Nat) : Nat → Int32 := fun y => if dst ≤ y ∧ y < dst + i then f (src + (y - dst)) else f y
theorem blkP_0 (f : Nat → Int32) (dst src : Nat) : blkP f dst src 0 = f := by
  funext y
  unfold blkP
  rw [if_neg (by omega)]
theorem blkP_s {f : Nat → Int32} {dst src i : Nat} (h : src + 2600 ≤ dst ∨ dst + 2600 ≤ src) (hi : i < 2600) : upd (blkP f dst src i) (dst + i) (blkP f dst src i (src + i)) = blkP f dst src (i + 1) := by
  funext y
  rw [upd_s]
  unfold blkP
  by_cases q : y = dst + i
  · rw [if_pos q, if_neg (by omega), if_pos (by omega), q, show dst + i - dst = i by omega]
  · rw [if_neg q]
    by_cases q2 : dst ≤ y ∧ y < dst + i
    · rw [if_pos q2, if_pos (by omega)]
    · rw [if_neg q2, if_neg (by omega)]
theorem blkP_in {f : Nat → Int32} {dst src i : Nat} (h : i < 2600) : blkP f dst src 2600 (dst + i) = f (src + i) := by
  unfold blkP
  rw [if_pos (by omega), show dst + i - dst = i by omega]
theorem blkP_out {f : Nat → Int32} {dst src y : Nat} (h : y < dst ∨ dst + 2600 ≤ y) : blkP f dst src 2600 y = f y := by
  unfold blkP
  rw [if_neg (by omega)]
theorem mA99 (σ : MS) (f g : Nat → Int32) : mA (mA σ 99 f) 99 g = mA σ 99 g := mA_mA σ 99 f g
theorem EnC_go {k : Nat} (hk : k ≤ 8) (K : MS → MR) (σ : MS) : ∀ (d i m : Nat), i + d = 2600 → d < m → loopF (EnC (J (k : Nat)) K) m (J (i : Nat), mA σ 99 (blkP (σ.2 99) (2600 * (k + 1)) (2600 * k) i)) = K (mA σ 99 (blkP (σ.2 99) (2600 * (k + 1)) (2600 * k) 2600)) := by
  intro d
  induction d with
  | zero =>
    intro i m hi hm
    obtain ⟨m, rfl⟩ : ∃ j, m = j + 1 := ⟨m - 1, by omega⟩
    rw [EnC_s, if_pos (by rw [show (2600 : Int32) = J ((2600 : Nat) : Int) from rfl, J_le (by omega) (by omega) (by omega) (by omega)]; omega), show i = 2600 by omega]
  | succ d ih =>
    intro i m hi hm
    obtain ⟨m, rfl⟩ : ∃ j, m = j + 1 := ⟨m - 1, by omega⟩
    have e1 : 2600 * J (k : Nat) + J (i : Nat) = J (2600 * k + i : Nat) := by rw [show (2600 : Int32) = J ((2600 : Nat) : Int) from rfl, J_mul, J_add]; congr 1
    have e2 : 2600 * (J (k : Nat) + 1) + J (i : Nat) = J (2600 * (k + 1) + i : Nat) := by rw [J_suc, show (2600 : Int32) = J ((2600 : Nat) : Int) from rfl, J_mul, J_add]; congr 1
    rw [EnC_s, if_neg (by rw [show (2600 : Int32) = J ((2600 : Nat) : Int) from rfl, J_le (by omega) (by omega) (by omega) (by omega)]; omega), e1, bndE, if_neg (g26 (by omega)), bndE, e2, if_neg (g26 (by omega)), bndE, bndE, J_suc, J_natN (by omega), J_natN (by omega), mA99, show (mA σ 99 (blkP (σ.2 99) (2600 * (k + 1)) (2600 * k) i)).2 99 = blkP (σ.2 99) (2600 * (k + 1)) (2600 * k) i from rfl, blkP_s (by omega) (by omega)]
    exact ih (i + 1) m (by omega) (by omega)
theorem UdC_go {k : Nat} (hk : k ≤ 8) (K : MS → MR) (σ : MS) : ∀ (d i m : Nat), i + d = 2600 → d < m → loopF (UdC (J (k : Nat)) K) m (J (i : Nat), mA σ 99 (blkP (σ.2 99) (2600 * k) (2600 * (k + 1)) i)) = K (mA σ 99 (blkP (σ.2 99) (2600 * k) (2600 * (k + 1)) 2600)) := by
  intro d
  induction d with
  | zero =>
    intro i m hi hm
    obtain ⟨m, rfl⟩ : ∃ j, m = j + 1 := ⟨m - 1, by omega⟩
    rw [UdC_s, if_pos (by rw [show (2600 : Int32) = J ((2600 : Nat) : Int) from rfl, J_le (by omega) (by omega) (by omega) (by omega)]; omega), show i = 2600 by omega]
  | succ d ih =>
    intro i m hi hm
    obtain ⟨m, rfl⟩ : ∃ j, m = j + 1 := ⟨m - 1, by omega⟩
    have e1 : 2600 * J (k : Nat) + J (i : Nat) = J (2600 * k + i : Nat) := by rw [show (2600 : Int32) = J ((2600 : Nat) : Int) from rfl, J_mul, J_add]; congr 1
    have e2 : 2600 * (J (k : Nat) + 1) + J (i : Nat) = J (2600 * (k + 1) + i : Nat) := by rw [J_suc, show (2600 : Int32) = J ((2600 : Nat) : Int) from rfl, J_mul, J_add]; congr 1
    rw [UdC_s, if_neg (by rw [show (2600 : Int32) = J ((2600 : Nat) : Int) from rfl, J_le (by omega) (by omega) (by omega) (by omega)]; omega), e2, bndE, if_neg (g26 (by omega)), bndE, e1, if_neg (g26 (by omega)), bndE, bndE, J_suc, J_natN (by omega), J_natN (by omega), mA99, show (mA σ 99 (blkP (σ.2 99) (2600 * k) (2600 * (k + 1)) i)).2 99 = blkP (σ.2 99) (2600 * k) (2600 * (k + 1)) i from rfl, blkP_s (by omega) (by omega)]
    exact ih (i + 1) m (by omega) (by omega)
theorem EnA_go (σ : MS) : ∀ (d i m : Nat), i + d = 2600 → d < m → loopF EnA m (J (i : Nat), mA σ 99 (blkP (σ.2 99) 10400 23400 i)) = (bnd ((if ((σ.1 101) + 1) < 5 then ((σ.1 101) + 1) else 5)) fun (x_32 : Int32) => bnd (mI (mA σ 99 (blkP (σ.2 99) 10400 23400 2600)) 101 x_32) fun σ_34 => if (σ_34.1 95) ≤ 0 then ( some (1, σ_34) ) else ( some (3, σ_34) )) := by
  intro d
  induction d with
  | zero =>
    intro i m hi hm
    obtain ⟨m, rfl⟩ : ∃ j, m = j + 1 := ⟨m - 1, by omega⟩
    rw [EnA_s, if_pos (by rw [show (2600 : Int32) = J ((2600 : Nat) : Int) from rfl, J_le (by omega) (by omega) (by omega) (by omega)]; omega), show i = 2600 by omega]; rfl
  | succ d ih =>
    intro i m hi hm
    obtain ⟨m, rfl⟩ : ∃ j, m = j + 1 := ⟨m - 1, by omega⟩
    have e1 : 23400 + J (i : Nat) = J (23400 + i : Nat) := by rw [show (23400 : Int32) = J ((23400 : Nat) : Int) from rfl, J_add]; congr 1
    have e2 : 10400 + J (i : Nat) = J (10400 + i : Nat) := by rw [show (10400 : Int32) = J ((10400 : Nat) : Int) from rfl, J_add]; congr 1
    rw [EnA_s, if_neg (by rw [show (2600 : Int32) = J ((2600 : Nat) : Int) from rfl, J_le (by omega) (by omega) (by omega) (by omega)]; omega), e1, bndE, if_neg (g26 (by omega)), bndE, e2, if_neg (g26 (by omega)), bndE, bndE, J_suc, J_natN (by omega), J_natN (by omega), mA99, show (mA σ 99 (blkP (σ.2 99) 10400 23400 i)).2 99 = blkP (σ.2 99) 10400 23400 i from rfl, blkP_s (by omega) (by omega)]
    exact ih (i + 1) m (by omega) (by omega)
/-- the row of slots behind a command that stands -/
def upR (f : Nat → Int32) : Nat → Int32 := blkP (blkP (blkP (blkP (blkP f 20800 18200 2600) 18200 15600 2600) 15600 13000 2600) 13000 10400 2600) 10400 23400 2600
theorem upR_ok (f : Nat → Int32) : (∀ y, y < 10400 → upR f y = f y) ∧ (∀ i, i < 2600 → upR f (10400 + i) = f (23400 + i)) ∧ ∀ j i, j < 4 → i < 2600 → upR f (2600 * (4 + j + 1) + i) = f (2600 * (4 + j) + i) := by
  unfold upR
  refine ⟨fun y hy => ?_, fun i hi => ?_, fun j i hj hi => ?_⟩
  · rw [blkP_out (by omega), blkP_out (by omega), blkP_out (by omega), blkP_out (by omega), blkP_out (by omega)]
  · rw [blkP_in hi, blkP_out (by omega), blkP_out (by omega), blkP_out (by omega), blkP_out (by omega)]
  · obtain rfl | rfl | rfl | rfl : j = 0 ∨ j = 1 ∨ j = 2 ∨ j = 3 := by omega
    · rw [blkP_out (by omega), blkP_in hi, blkP_out (by omega), blkP_out (by omega), blkP_out (by omega)]
    · rw [blkP_out (by omega), blkP_out (by omega), blkP_in hi, blkP_out (by omega), blkP_out (by omega)]
    · rw [blkP_out (by omega), blkP_out (by omega), blkP_out (by omega), blkP_in hi, blkP_out (by omega)]
    · rw [blkP_out (by omega), blkP_out (by omega), blkP_out (by omega), blkP_out (by omega), blkP_in hi]
/-- and when one is taken back -/
def dnR (f : Nat → Int32) : Nat → Int32 := blkP (blkP (blkP (blkP f 10400 13000 2600) 13000 15600 2600) 15600 18200 2600) 18200 20800 2600
theorem dnR_ok (f : Nat → Int32) : (∀ y, y < 10400 → dnR f y = f y) ∧ ∀ j i, j < 4 → i < 2600 → dnR f (2600 * (4 + j) + i) = f (2600 * (4 + j + 1) + i) := by
  unfold dnR
  refine ⟨fun y hy => ?_, fun j i hj hi => ?_⟩
  · rw [blkP_out (by omega), blkP_out (by omega), blkP_out (by omega), blkP_out (by omega)]
  · obtain rfl | rfl | rfl | rfl : j = 0 ∨ j = 1 ∨ j = 2 ∨ j = 3 := by omega
    · rw [blkP_out (by omega), blkP_out (by omega), blkP_out (by omega), blkP_in hi]
    · rw [blkP_out (by omega), blkP_out (by omega), blkP_in hi, blkP_out (by omega)]
    · rw [blkP_out (by omega), blkP_in hi, blkP_out (by omega), blkP_out (by omega)]
    · rw [blkP_in hi, blkP_out (by omega), blkP_out (by omega), blkP_out (by omega)]
/-- a command that stands: its play ahead is put down, and how many can be undone -/
theorem r_upk {σ : MS} {u : Nat} (hu : u ≤ 5) (h101 : σ.1 101 = J (u : Nat)) {e : Nat} (he : e ≤ 2) (h95 : σ.1 95 = J (e : Nat)) : loopF EnB FU (7, σ) = some (if e = 0 then 1 else 3, mI (mA σ 99 (upR (σ.2 99))) 101 (J ((if u + 1 < 5 then u + 1 else 5 : Nat) : Int))) := by
  obtain ⟨n, hn⟩ : ∃ n, FU = n + 5 := ⟨FU - 5, by have := FU_gt (k := 10) (by omega); omega⟩
  have st : ∀ (k m : Nat) (σ : MS), 4 ≤ k → k ≤ 7 → loopF EnB (m + 1) (J (k : Nat), σ) = loopF EnB m (J (k - 1 : Nat), mA σ 99 (blkP (σ.2 99) (2600 * (k + 1)) (2600 * k) 2600)) := fun k m σ h1 h2 => by
    have g := EnC_go (k := k) (by omega) (fun (σ_z : MS) => bnd (J (k : Nat) + (-1)) fun (x_59 : Int32) => loopF EnB m (x_59, σ_z)) σ 2600 0 FU rfl (FU_gt (by omega))
    rw [blkP_0, mA_id] at g
    rw [EnB_s, if_neg (by rw [show (4 : Int32) = J ((4 : Nat) : Int) from rfl, J_lt (by omega) (by omega) (by omega) (by omega)]; omega)]
    refine g.trans ?_
    rw [show (-1 : Int32) = J (-1) from rfl, J_add, show ((k : Nat) : Int) + (-1) = ((k - 1 : Nat) : Int) by omega, bndE]
  have a := EnA_go (mA (mA (mA (mA σ 99 (blkP (σ.2 99) 20800 18200 2600)) 99 (blkP (blkP (σ.2 99) 20800 18200 2600) 18200 15600 2600)) 99 (blkP (blkP (blkP (σ.2 99) 20800 18200 2600) 18200 15600 2600) 15600 13000 2600)) 99 (blkP (blkP (blkP (blkP (σ.2 99) 20800 18200 2600) 18200 15600 2600) 15600 13000 2600) 13000 10400 2600)) 2600 0 FU rfl (FU_gt (by omega))
  rw [blkP_0, mA_id] at a
  have e7 := st 7 (n + 4) σ (by omega) (by omega)
  have e6 := st 6 (n + 3) (mA σ 99 (blkP (σ.2 99) 20800 18200 2600)) (by omega) (by omega)
  have e5 := st 5 (n + 2) (mA (mA σ 99 (blkP (σ.2 99) 20800 18200 2600)) 99 (blkP (blkP (σ.2 99) 20800 18200 2600) 18200 15600 2600)) (by omega) (by omega)
  have e4 := st 4 (n + 1) (mA (mA (mA σ 99 (blkP (σ.2 99) 20800 18200 2600)) 99 (blkP (blkP (σ.2 99) 20800 18200 2600) 18200 15600 2600)) 99 (blkP (blkP (blkP (σ.2 99) 20800 18200 2600) 18200 15600 2600) 15600 13000 2600)) (by omega) (by omega)
  have eF : loopF EnB FU (7, σ) = loopF EnA FU (0, mA (mA (mA (mA σ 99 (blkP (σ.2 99) 20800 18200 2600)) 99 (blkP (blkP (σ.2 99) 20800 18200 2600) 18200 15600 2600)) 99 (blkP (blkP (blkP (σ.2 99) 20800 18200 2600) 18200 15600 2600) 15600 13000 2600)) 99 (blkP (blkP (blkP (blkP (σ.2 99) 20800 18200 2600) 18200 15600 2600) 15600 13000 2600) 13000 10400 2600)) := by
    conv => lhs; rw [hn]
    refine e7.trans (e6.trans (e5.trans (e4.trans ?_)))
    rw [EnB_s, if_pos (by decide)]; rfl
  rw [eF]
  refine a.trans ?_
  have e101 : (if ((σ.1 101) + 1) < 5 then ((σ.1 101) + 1) else (5 : Int32)) = J ((if u + 1 < 5 then u + 1 else 5 : Nat) : Int) := by
    rw [h101, J_suc]
    exact J_min (a := J (u + 1 : Nat)) (n := 5) rfl (by omega) (by omega)
  have e101' : (if (((mA (mA (mA (mA σ 99 (blkP (σ.2 99) 20800 18200 2600)) 99 (blkP (blkP (σ.2 99) 20800 18200 2600) 18200 15600 2600)) 99 (blkP (blkP (blkP (σ.2 99) 20800 18200 2600) 18200 15600 2600) 15600 13000 2600)) 99 (blkP (blkP (blkP (blkP (σ.2 99) 20800 18200 2600) 18200 15600 2600) 15600 13000 2600) 13000 10400 2600)).1 101) + 1) < 5 then (((mA (mA (mA (mA σ 99 (blkP (σ.2 99) 20800 18200 2600)) 99 (blkP (blkP (σ.2 99) 20800 18200 2600) 18200 15600 2600)) 99 (blkP (blkP (blkP (σ.2 99) 20800 18200 2600) 18200 15600 2600) 15600 13000 2600)) 99 (blkP (blkP (blkP (blkP (σ.2 99) 20800 18200 2600) 18200 15600 2600) 15600 13000 2600) 13000 10400 2600)).1 101) + 1) else (5 : Int32)) = _ := e101
  rw [e101', bndE, bndE, mA99, mA99, mA99, mA99]
  have e95 : (mI (mA σ 99 (upR (σ.2 99))) 101 (J ((if u + 1 < 5 then u + 1 else 5 : Nat) : Int))).1 95 = J (e : Nat) := h95
  show (if (mI (mA σ 99 (upR (σ.2 99))) 101 (J ((if u + 1 < 5 then u + 1 else 5 : Nat) : Int))).1 95 ≤ 0 then _ else _) = _
  rw [e95]
  by_cases q : e = 0
  · rw [if_pos (by rw [q]; decide), if_pos q]; rfl
  · rw [if_neg (by rw [show (0 : Int32) = J ((0 : Nat) : Int) from rfl, J_le (by omega) (by omega) (by omega) (by omega)]; omega), if_neg q]; rfl
/-- one taken back -/
theorem r_dnk (σ : MS) : loopF UdB FU (4, σ) = some (1, mA σ 99 (dnR (σ.2 99))) := by
  obtain ⟨n, hn⟩ : ∃ n, FU = n + 5 := ⟨FU - 5, by have := FU_gt (k := 10) (by omega); omega⟩
  have st : ∀ (k m : Nat) (σ : MS), 4 ≤ k → k ≤ 7 → loopF UdB (m + 1) (J (k : Nat), σ) = loopF UdB m (J (k + 1 : Nat), mA σ 99 (blkP (σ.2 99) (2600 * k) (2600 * (k + 1)) 2600)) := fun k m σ h1 h2 => by
    have g := UdC_go (k := k) (by omega) (fun (σ_z : MS) => bnd (J (k : Nat) + 1) fun (x_32 : Int32) => loopF UdB m (x_32, σ_z)) σ 2600 0 FU rfl (FU_gt (by omega))
    rw [blkP_0, mA_id] at g
    rw [UdB_s, if_neg (by rw [show (8 : Int32) = J ((8 : Nat) : Int) from rfl, J_le (by omega) (by omega) (by omega) (by omega)]; omega)]
    refine g.trans ?_
    rw [J_suc, bndE]
  have e4 := st 4 (n + 4) σ (by omega) (by omega)
  have e5 := st 5 (n + 3) (mA σ 99 (blkP (σ.2 99) 10400 13000 2600)) (by omega) (by omega)
  have e6 := st 6 (n + 2) (mA (mA σ 99 (blkP (σ.2 99) 10400 13000 2600)) 99 (blkP (blkP (σ.2 99) 10400 13000 2600) 13000 15600 2600)) (by omega) (by omega)
  have e7 := st 7 (n + 1) (mA (mA (mA σ 99 (blkP (σ.2 99) 10400 13000 2600)) 99 (blkP (blkP (σ.2 99) 10400 13000 2600) 13000 15600 2600)) 99 (blkP (blkP (blkP (σ.2 99) 10400 13000 2600) 13000 15600 2600) 15600 18200 2600)) (by omega) (by omega)
  conv => lhs; rw [hn]
  refine e4.trans (e5.trans (e6.trans (e7.trans ?_)))
  rw [UdB_s, if_pos (by decide), mA99, mA99, mA99]; rfl
