/-! the reference works an expression out: its rows of work -/
def EvB (rec : GF) (bt lw p1 : Int32) : (MS → MR) → MS → MR := (fun (again_4 : (MS) → MR) (s_3 : MS) => ( bnd (fun  (σ_7 : MS) => ( bnd (mI σ_7 113 bt) fun σ_11 => bnd (mI σ_11 115 lw) fun σ_13 => if (σ_13.1 104) = 0 then ( bnd (lw) fun (x_17 : Int32) => if x_17 < 0 ∨ 9000 ≤ x_17.toNatClampNeg then none else some ((σ_13.2 114 x_17.toNatClampNeg), σ_13) ) else ( some (0, σ_13) ) ) : MS → MR) fun j_8 => if (s_3.1 113) ≤ bt then ( j_8  s_3 ) else ( if (s_3.1 104) = 0 then ( bnd (mI s_3 113 ((s_3.1 113) - 1)) fun σ_27 => bnd (((s_3.1 113) - 1)) fun (x_29 : Int32) => if x_29 < 0 ∨ 130000 ≤ x_29.toNatClampNeg then none else bnd ((σ_27.2 112 x_29.toNatClampNeg)) fun (x_33 : Int32) => bnd (fun  (σ_35 : MS) => ( again_4 σ_35 ) : MS → MR) fun j_36 => if (x_33 &&& 3) = 0 then ( (F_X12_opens_ (x_33 >>> (2 &&& 31)) p1 σ_27).bind fun u_41 => j_36  u_41.2 ) else ( bnd ((x_33 >>> (2 &&& 31))) fun (x_44 : Int32) => if x_44 < 0 ∨ 40000 ≤ x_44.toNatClampNeg then none else if (σ_27.2 64 x_44.toNatClampNeg) = 42 then ( (rec 1 (x_33 >>> (2 &&& 31)) p1 0 σ_27).bind fun u_50 => j_36  u_50.2 ) else ( (F_X12_closes (x_33 >>> (2 &&& 31)) (x_33 &&& 3) σ_27).bind fun u_53 => j_36  u_53.2 ) ) ) else ( j_8  s_3 ) ) ))
theorem eval_eq (rec : GF) (p0 p1 : Int32) (σ : MS) : F_X12_eval rec p0 p1 σ = (F_X12_toDo p0 0 σ).bind fun u_1 => loopF (EvB rec (σ.1 113) (σ.1 115) p1) FU u_1.2 := rfl
theorem EvB_s (rec : GF) (bt lw p1 : Int32) (n : Nat) (X : MS) : loopF (EvB rec bt lw p1) (n + 1) X = ( bnd (fun  (σ_7 : MS) => ( bnd (mI σ_7 113 bt) fun σ_11 => bnd (mI σ_11 115 lw) fun σ_13 => if (σ_13.1 104) = 0 then ( bnd (lw) fun (x_17 : Int32) => if x_17 < 0 ∨ 9000 ≤ x_17.toNatClampNeg then none else some ((σ_13.2 114 x_17.toNatClampNeg), σ_13) ) else ( some (0, σ_13) ) ) : MS → MR) fun j_8 => if (X.1 113) ≤ bt then ( j_8  X ) else ( if (X.1 104) = 0 then ( bnd (mI X 113 ((X.1 113) - 1)) fun σ_27 => bnd (((X.1 113) - 1)) fun (x_29 : Int32) => if x_29 < 0 ∨ 130000 ≤ x_29.toNatClampNeg then none else bnd ((σ_27.2 112 x_29.toNatClampNeg)) fun (x_33 : Int32) => bnd (fun  (σ_35 : MS) => ( loopF (EvB rec bt lw p1) n σ_35 ) : MS → MR) fun j_36 => if (x_33 &&& 3) = 0 then ( (F_X12_opens_ (x_33 >>> (2 &&& 31)) p1 σ_27).bind fun u_41 => j_36  u_41.2 ) else ( bnd ((x_33 >>> (2 &&& 31))) fun (x_44 : Int32) => if x_44 < 0 ∨ 40000 ≤ x_44.toNatClampNeg then none else if (σ_27.2 64 x_44.toNatClampNeg) = 42 then ( (rec 1 (x_33 >>> (2 &&& 31)) p1 0 σ_27).bind fun u_50 => j_36  u_50.2 ) else ( (F_X12_closes (x_33 >>> (2 &&& 31)) (x_33 &&& 3) σ_27).bind fun u_53 => j_36  u_53.2 ) ) ) else ( j_8  X ) ) ) := rfl
def Ov2 : ((Int32 × Int32 × MS) → MR) → Int32 × Int32 × MS → MR := (fun (again_24 : (Int32 × Int32 × MS) → MR) (s_23 : Int32 × Int32 × MS) => ( if s_23.2.1 ≤ s_23.1 then ( some (0, s_23.2.2) ) else ( if s_23.2.1 < 0 ∨ 130000 ≤ s_23.2.1.toNatClampNeg then none else bnd ((s_23.2.2.2 112 s_23.2.1.toNatClampNeg)) fun (x_32 : Int32) => if s_23.1 < 0 ∨ 130000 ≤ s_23.1.toNatClampNeg then none else bnd ((s_23.2.2.2 112 s_23.1.toNatClampNeg)) fun (x_36 : Int32) => if s_23.2.1 < 0 ∨ 130000 ≤ s_23.2.1.toNatClampNeg then none else bnd (mA s_23.2.2 112 (upd (s_23.2.2.2 112) s_23.2.1.toNatClampNeg x_36)) fun σ_40 => bnd (s_23.1 + 1) fun (x_42 : Int32) => if s_23.1 < 0 ∨ 130000 ≤ s_23.1.toNatClampNeg then none else bnd (mA σ_40 112 (upd (σ_40.2 112) s_23.1.toNatClampNeg x_32)) fun σ_46 => bnd (s_23.2.1 + (-1)) fun (x_48 : Int32) => again_24 (x_42, x_48, σ_46) ) ))
def Ov1 (x_9 : Int32) : ((Int32 × MS) → MR) → Int32 × MS → MR := (fun (again_16 : (Int32 × MS) → MR) (s_15 : Int32 × MS) => ( if s_15.1 < 0 then ( bnd (((s_15.2.1 113) - 1)) fun (x_21 : Int32) => loopF Ov2 FU (x_9, x_21, s_15.2) ) else ( (F_X12_toDo s_15.1 0 s_15.2).bind fun u_51 => if s_15.1 < 0 ∨ 40000 ≤ s_15.1.toNatClampNeg then none else bnd ((u_51.2.2 69 s_15.1.toNatClampNeg)) fun (x_55 : Int32) => again_16 (x_55, u_51.2) ) ))
theorem opensv_eq (p0 p1 : Int32) (σ : MS) : F_X12_opens_ p0 p1 σ = if p0 < 0 ∨ 40000 ≤ p0.toNatClampNeg then none else bnd ((σ.2 64 p0.toNatClampNeg)) fun (x_3 : Int32) => if x_3 = 42 then ( (F_X12_toDo p0 1 σ).bind fun u_7 => bnd ((u_7.2.1 113)) fun (x_9 : Int32) => if p0 < 0 ∨ 40000 ≤ p0.toNatClampNeg then none else bnd ((u_7.2.2 67 p0.toNatClampNeg)) fun (x_13 : Int32) => loopF (Ov1 x_9) FU (x_13, u_7.2) ) else if x_3 = 43 then ( (F_X12_toDo p0 1 σ).bind fun u_60 => if p0 < 0 ∨ 40000 ≤ p0.toNatClampNeg then none else (F_X12_toDo (u_60.2.2 67 p0.toNatClampNeg) 0 u_60.2).bind fun u_64 => some (0, u_64.2) ) else if x_3 = 48 ∨ x_3 = 49 ∨ x_3 = 50 ∨ x_3 = 51 ∨ x_3 = 52 ∨ x_3 = 53 ∨ x_3 = 54 ∨ x_3 = 55 ∨ x_3 = 58 then ( (F_X12_toDo p0 1 σ).bind fun u_69 => if p0 < 0 ∨ 40000 ≤ p0.toNatClampNeg then none else (F_X12_toDo (u_69.2.2 66 p0.toNatClampNeg) 0 u_69.2).bind fun u_73 => some (0, u_73.2) ) else if x_3 = 56 ∨ x_3 = 57 then ( (F_X12_toDo p0 1 σ).bind fun u_78 => if p0 < 0 ∨ 40000 ≤ p0.toNatClampNeg then none else (F_X12_toDo (u_78.2.2 67 p0.toNatClampNeg) 0 u_78.2).bind fun u_82 => if p0 < 0 ∨ 40000 ≤ p0.toNatClampNeg then none else (F_X12_toDo (u_82.2.2 66 p0.toNatClampNeg) 0 u_82.2).bind fun u_86 => some (0, u_86.2) ) else ( bnd (mI σ 115 ((σ.1 115) + 1)) fun σ_89 => (F_X12_leaf p0 p1 σ_89).bind fun u_91 => if (σ.1 115) < 0 ∨ 9000 ≤ (σ.1 115).toNatClampNeg then none else bnd (mA u_91.2 114 (upd (u_91.2.2 114) (σ.1 115).toNatClampNeg u_91.1)) fun σ_95 => some (0, σ_95) ) := rfl
theorem Ov1_s (x_9 : Int32) (n : Nat) (a : Int32) (X : MS) : loopF (Ov1 x_9) (n + 1) (a, X) = ( if a < 0 then ( bnd (((X.1 113) - 1)) fun (x_21 : Int32) => loopF Ov2 FU (x_9, x_21, X) ) else ( (F_X12_toDo a 0 X).bind fun u_51 => if a < 0 ∨ 40000 ≤ a.toNatClampNeg then none else bnd ((u_51.2.2 69 a.toNatClampNeg)) fun (x_55 : Int32) => loopF (Ov1 x_9) n (x_55, u_51.2) ) ) := rfl
theorem Ov2_s (n : Nat) (a b : Int32) (X : MS) : loopF Ov2 (n + 1) (a, b, X) = ( if b ≤ a then ( some (0, X) ) else ( if b < 0 ∨ 130000 ≤ b.toNatClampNeg then none else bnd ((X.2 112 b.toNatClampNeg)) fun (x_32 : Int32) => if a < 0 ∨ 130000 ≤ a.toNatClampNeg then none else bnd ((X.2 112 a.toNatClampNeg)) fun (x_36 : Int32) => if b < 0 ∨ 130000 ≤ b.toNatClampNeg then none else bnd (mA X 112 (upd (X.2 112) b.toNatClampNeg x_36)) fun σ_40 => bnd (a + 1) fun (x_42 : Int32) => if a < 0 ∨ 130000 ≤ a.toNatClampNeg then none else bnd (mA σ_40 112 (upd (σ_40.2 112) a.toNatClampNeg x_32)) fun σ_46 => bnd (b + (-1)) fun (x_48 : Int32) => loopF Ov2 n (x_42, x_48, σ_46) ) ) := rfl
def Cv1 (rec : GF) (p0 p1 : Int32) : ((Int32 × Int32 × MS) → MR) → Int32 × Int32 × MS → MR := (fun (again_6 : (Int32 × Int32 × MS) → MR) (s_5 : Int32 × Int32 × MS) => ( if s_5.2.1 < 0 then ( if p0 < 0 ∨ 40000 ≤ p0.toNatClampNeg then none else (rec 2 (s_5.2.2.2 68 p0.toNatClampNeg) ((s_5.2.2.1 115) - s_5.1) p1 s_5.2.2).bind fun u_13 => bnd (mI u_13.2 115 ((u_13.2.1 115) - s_5.1)) fun σ_15 => bnd (mI σ_15 115 ((σ_15.1 115) + 1)) fun σ_17 => if (σ_15.1 115) < 0 ∨ 9000 ≤ (σ_15.1 115).toNatClampNeg then none else bnd (mA σ_17 114 (upd (σ_17.2 114) (σ_15.1 115).toNatClampNeg u_13.1)) fun σ_21 => some (0, σ_21) ) else ( bnd (s_5.1 + 1) fun (x_24 : Int32) => if s_5.2.1 < 0 ∨ 40000 ≤ s_5.2.1.toNatClampNeg then none else bnd ((s_5.2.2.2 69 s_5.2.1.toNatClampNeg)) fun (x_28 : Int32) => again_6 (x_24, x_28, s_5.2.2) ) ))
theorem calls_eq (rec : GF) (p0 p1 : Int32) (σ : MS) : F_X12_calls rec p0 p1 σ = if p0 < 0 ∨ 40000 ≤ p0.toNatClampNeg then none else bnd ((σ.2 67 p0.toNatClampNeg)) fun (x_3 : Int32) => loopF (Cv1 rec p0 p1) FU (0, x_3, σ) := rfl
theorem Cv1_s (rec : GF) (p0 p1 : Int32) (n : Nat) (a b : Int32) (X : MS) : loopF (Cv1 rec p0 p1) (n + 1) (a, b, X) = ( if b < 0 then ( if p0 < 0 ∨ 40000 ≤ p0.toNatClampNeg then none else (rec 2 (X.2 68 p0.toNatClampNeg) ((X.1 115) - a) p1 X).bind fun u_13 => bnd (mI u_13.2 115 ((u_13.2.1 115) - a)) fun σ_15 => bnd (mI σ_15 115 ((σ_15.1 115) + 1)) fun σ_17 => if (σ_15.1 115) < 0 ∨ 9000 ≤ (σ_15.1 115).toNatClampNeg then none else bnd (mA σ_17 114 (upd (σ_17.2 114) (σ_15.1 115).toNatClampNeg u_13.1)) fun σ_21 => some (0, σ_21) ) else ( bnd (a + 1) fun (x_24 : Int32) => if b < 0 ∨ 40000 ≤ b.toNatClampNeg then none else bnd ((X.2 69 b.toNatClampNeg)) fun (x_28 : Int32) => loopF (Cv1 rec p0 p1) n (x_24, x_28, X) ) ) := rfl
/-- so many steps -/
def RSP (rec : GF) (bt lw p1 : Int32) (k : Nat) (σ τ : MS) : Prop := ∀ n : Nat, loopF (EvB rec bt lw p1) (n + k) σ = loopF (EvB rec bt lw p1) n τ
theorem RSP_trans {rec : GF} {bt lw p1 : Int32} {k l : Nat} {σ τ υ : MS} (h : RSP rec bt lw p1 k σ τ) (g : RSP rec bt lw p1 l τ υ) : RSP rec bt lw p1 (k + l) σ υ := fun n => by rw [show n + (k + l) = (n + l) + k by omega, h, g]
/-- what is to be done is put down -/
def tdS (σ : MS) (wk : Nat) (v : Nat) : MS := mA (mI σ 113 (J (wk + 1 : Nat))) 112 (upd (σ.2 112) wk (J (v : Nat)))
theorem g13k {x : Nat} (h : x < 130000) : ¬ (J (x : Nat) < 0 ∨ 130000 ≤ (J (x : Nat)).toNatClampNeg) := by
  rw [J_natN (by omega)]; rintro (q | q); exact J_nlt0 (by omega) (by omega) q; omega
theorem g9k {x : Nat} (h : x < 9000) : ¬ (J (x : Nat) < 0 ∨ 9000 ≤ (J (x : Nat)).toNatClampNeg) := by
  rw [J_natN (by omega)]; rintro (q | q); exact J_nlt0 (by omega) (by omega) q; omega
theorem r_toDo {σ : MS} {x how wk : Nat} (h : σ.1 113 = J (wk : Nat)) (hw : wk < 130000) (hx : x < 40000) (hh : how < 4) : F_X12_toDo (J (x : Nat)) (J (how : Nat)) σ = some ((0 : Int32), tdS σ wk (4 * x + how)) := by
  unfold F_X12_toDo
  rw [h, bndE, if_neg (g13k hw), bndE, J_natN (by omega), J_suc, show (4 : Int32) = J 4 from rfl, J_mul, J_add, show (4 : Int) * (x : Nat) + (how : Nat) = ((4 * x + how : Nat) : Int) by omega]; rfl
theorem shr2 {v : Nat} (hv : v < 2147483648) : J (v : Int) >>> (2 &&& 31) = J ((v / 4 : Nat) : Int) := shr_nat (k := 2) hv (by decide) (by omega)
theorem and3 {a : Nat} (h : a < 2147483648) : J (a : Int) &&& 3 = J ((a % 4 : Nat) : Int) := by
  rw [show (3 : Int32) = J ((3 : Nat) : Int) from rfl, J_and h (by omega), show (3 : Nat) = 2 ^ 2 - 1 from rfl, Nat.and_two_pow_sub_one_eq_mod]
def wkP (σ : MS) (wk : Nat) : MS := mI σ 113 (J (wk : Nat))
/-- the topmost is taken up -/
theorem ev_pop {rec : GF} {bt lw p1 : Int32} {n b wk e : Nat} {σ : MS} (hb : bt = J (b : Nat)) (hbw : b ≤ wk) (hw : wk < 130000) (h113 : σ.1 113 = J (wk + 1 : Nat)) (h104 : σ.1 104 = J 0) (h112 : σ.2 112 wk = J (e : Nat)) (he : e < 160000) : loopF (EvB rec bt lw p1) (n + 1) σ = if e % 4 = 0 then (F_X12_opens_ (J (e / 4 : Nat)) p1 (wkP σ wk)).bind fun u => loopF (EvB rec bt lw p1) n u.2 else (if J (e / 4 : Nat) < 0 ∨ 40000 ≤ (J (e / 4 : Nat)).toNatClampNeg then none else if σ.2 64 (J (e / 4 : Nat)).toNatClampNeg = 42 then (rec 1 (J (e / 4 : Nat)) p1 0 (wkP σ wk)).bind fun u => loopF (EvB rec bt lw p1) n u.2 else (F_X12_closes (J (e / 4 : Nat)) (J (e % 4 : Nat)) (wkP σ wk)).bind fun u => loopF (EvB rec bt lw p1) n u.2) := by
  rw [EvB_s, bndE, h113, hb, if_neg (by rw [J_le (by omega) (by omega) (by omega) (by omega)]; omega), if_pos (show σ.1 104 = 0 from h104), show J (wk + 1 : Nat) - 1 = J (wk : Nat) by rw [show (1 : Int32) = J 1 from rfl, J_sub]; congr 1; omega, bndE, bndE, if_neg (g13k hw), J_natN (by omega), mI_2, h112, bndE, bndE, and3 (by omega), shr2 (by omega)]
  by_cases q : e % 4 = 0
  · rw [if_pos q, if_pos (by rw [q]; rfl)]; rfl
  · rw [if_neg q, if_neg (by rw [J_z0 (by omega)]; exact q), bndE]; rfl
/-- a value is left waiting -/
def wpS (σ : MS) (w : Nat) (v : Int32) : MS := mA (mI σ 115 (J (w + 1 : Nat))) 114 (upd (σ.2 114) w v)
/-- nodes of a text -/
def NR (σ : MS) (k x : Nat) : Int32 := σ.2 (k + 47) x
theorem ev_open {rec : GF} {bt lw p1 : Int32} {n b wk x : Nat} {σ : MS} (hb : bt = J (b : Nat)) (hbw : b ≤ wk) (hw : wk < 130000) (h113 : σ.1 113 = J (wk + 1 : Nat)) (h104 : σ.1 104 = J 0) (h112 : σ.2 112 wk = J (4 * x : Nat)) (hx : x < 39990) : loopF (EvB rec bt lw p1) (n + 1) σ = (F_X12_opens_ (J (x : Nat)) p1 (wkP σ wk)).bind fun u => loopF (EvB rec bt lw p1) n u.2 := by
  rw [ev_pop hb hbw hw h113 h104 h112 (by omega), if_pos (by omega), show 4 * x / 4 = x by omega]
theorem ev_close {rec : GF} {bt lw p1 : Int32} {n b wk x how : Nat} {w : Int} {σ : MS} (hb : bt = J (b : Nat)) (hbw : b ≤ wk) (hw : wk < 130000) (h113 : σ.1 113 = J (wk + 1 : Nat)) (h104 : σ.1 104 = J 0) (h112 : σ.2 112 wk = J (4 * x + how : Nat)) (hh : how = 1 ∨ how = 2) (hx : x < 39990) (h17 : σ.2 64 x = J w) (hw2 : 0 ≤ w ∧ w < 1000 ∧ w ≠ 42) : loopF (EvB rec bt lw p1) (n + 1) σ = (F_X12_closes (J (x : Nat)) (J (how : Nat)) (wkP σ wk)).bind fun u => loopF (EvB rec bt lw p1) n u.2 := by
  rw [ev_pop hb hbw hw h113 h104 h112 (by omega), if_neg (by omega), show (4 * x + how) / 4 = x by omega, show (4 * x + how) % 4 = how by omega, if_neg (g_en (by omega)), J_natN (by omega), h17, if_neg (by rw [show (42 : Int32) = J 42 from rfl, J_eq (by omega) (by omega) (by omega) (by omega)]; omega)]
theorem ev_call {rec : GF} {bt lw p1 : Int32} {n b wk x : Nat} {σ : MS} (hb : bt = J (b : Nat)) (hbw : b ≤ wk) (hw : wk < 130000) (h113 : σ.1 113 = J (wk + 1 : Nat)) (h104 : σ.1 104 = J 0) (h112 : σ.2 112 wk = J (4 * x + 1 : Nat)) (hx : x < 39990) (h17 : σ.2 64 x = J 42) : loopF (EvB rec bt lw p1) (n + 1) σ = (rec 1 (J (x : Nat)) p1 0 (wkP σ wk)).bind fun u => loopF (EvB rec bt lw p1) n u.2 := by
  rw [ev_pop hb hbw hw h113 h104 h112 (by omega), if_neg (by omega), show (4 * x + 1) / 4 = x by omega, if_neg (g_en (by omega)), J_natN (by omega), h17, if_pos (by decide)]
/-- leaves -/
def lfF (σ : MS) (x bR : Nat) (w : Int) : Int32 := if w = 40 then NR σ 19 x else if w = 41 then (if NR σ 20 x = 9 then σ.2 111 (J (bR : Nat) + NR σ 21 x).toNatClampNeg else if NR σ 20 x = 4 then σ.2 91 (NR σ 21 x).toNatClampNeg else NR σ 21 x) else if w = 44 then σ.2 87 1 else if w = 45 then σ.1 108 else if w = 46 then σ.1 109 else 1
theorem op_leaf {σ : MS} {x bR w0 : Nat} {w : Int} (hx : x < 39990) (h17 : σ.2 64 x = J w) (hw : w = 40 ∨ w = 41 ∨ (44 ≤ w ∧ w ≤ 47)) (h115 : σ.1 115 = J (w0 : Nat)) (hw0 : w0 < 9000) (h41 : w = 41 → (NR σ 20 x = 9 ∧ ∃ k : Nat, NR σ 21 x = J (k : Nat) ∧ bR + k < 700) ∨ (NR σ 20 x = 4 ∧ ∃ k : Nat, NR σ 21 x = J (k : Nat) ∧ k < 100) ∨ (NR σ 20 x ≠ 9 ∧ NR σ 20 x ≠ 4)) : F_X12_opens_ (J (x : Nat)) (J (bR : Nat)) σ = some ((0 : Int32), wpS σ w0 (lfF σ x bR w)) := by
  have en := g_en (n := x) (by omega)
  have e : ∀ c : Int, 0 ≤ c → c < 1000 → (J w = J c) = (w = c) := fun c h1 h2 => J_eq (by omega) (by omega) (by omega) (by omega)
  have ne : ∀ c : Int, 0 ≤ c → c < 1000 → w ≠ c → ¬ J w = J c := fun c h1 h2 h3 => by rw [e c h1 h2]; exact h3
  have leaf : F_X12_leaf (J (x : Nat)) (J (bR : Nat)) (mI σ 115 (J (w0 + 1 : Nat))) = some (lfF σ x bR w, mI σ 115 (J (w0 + 1 : Nat))) := by
    unfold F_X12_leaf lfF
    rw [if_neg en, J_natN (by omega), mI_2, h17, bndE]
    rw [J_natN (by omega)] at en
    by_cases q40 : w = 40
    · rw [if_pos (by rw [q40]; rfl), if_neg en, if_pos q40]; rfl
    rw [if_neg (show ¬ J w = 40 from ne 40 (by omega) (by omega) q40), if_neg q40]
    by_cases q41 : w = 41
    · rw [if_pos (by rw [q41]; rfl), if_neg en, if_pos q41]
      rcases h41 q41 with ⟨h9, k, k1, k2⟩ | ⟨h4, k, k1, k2⟩ | ⟨h9, h4⟩
      · have h9' : σ.2 67 x = 9 := h9
        have k1' : σ.2 68 x = J (k : Nat) := k1
        rw [if_pos h9', if_neg en, k1', J_add, show ((bR : Nat) : Int) + (k : Nat) = ((bR + k : Nat) : Int) by omega, bndE, if_neg (by rw [J_natN (by omega)]; rintro (a | a); exact J_nlt0 (by omega) (by omega) a; omega), if_pos h9, k1, J_add, show ((bR : Nat) : Int) + (k : Nat) = ((bR + k : Nat) : Int) by omega]
      · have h4' : σ.2 67 x = 4 := h4
        have k1' : σ.2 68 x = J (k : Nat) := k1
        have n9 : ¬ σ.2 67 x = 9 := by rw [h4']; decide
        have n9' : ¬ NR σ 20 x = 9 := n9
        rw [if_neg n9, if_neg en, if_pos h4', if_neg en, k1', bndE, if_neg (by rw [J_natN (by omega)]; rintro (a | a); exact J_nlt0 (by omega) (by omega) a; omega), if_neg n9', if_pos h4, k1]
      · have h9' : ¬ σ.2 67 x = 9 := h9
        have h4' : ¬ σ.2 67 x = 4 := h4
        rw [if_neg h9', if_neg en, if_neg h4', if_neg en, if_neg h9, if_neg h4]; rfl
    rw [if_neg (show ¬ J w = 41 from ne 41 (by omega) (by omega) q41), if_neg q41]
    by_cases q44 : w = 44
    · rw [if_pos (by rw [q44]; rfl), if_pos q44]; rfl
    rw [if_neg (show ¬ J w = 44 from ne 44 (by omega) (by omega) q44), if_neg q44]
    by_cases q45 : w = 45
    · rw [if_pos (by rw [q45]; rfl), if_pos q45, mI_1, if_neg (by omega)]
    rw [if_neg (show ¬ J w = 45 from ne 45 (by omega) (by omega) q45), if_neg q45]
    by_cases q46 : w = 46
    · rw [if_pos (by rw [q46]; rfl), if_pos q46, mI_1, if_neg (by omega)]
    rw [if_neg (show ¬ J w = 46 from ne 46 (by omega) (by omega) q46), if_neg q46]
  rw [opensv_eq, if_neg en, J_natN (by omega), h17, bndE]
  rw [if_neg (show ¬ J w = 42 from ne 42 (by omega) (by omega) (by omega)), if_neg (show ¬ J w = 43 from ne 43 (by omega) (by omega) (by omega)), if_neg (by
    rintro (a | a | a | a | a | a | a | a | a)
    · exact ne 48 (by omega) (by omega) (by omega) a
    · exact ne 49 (by omega) (by omega) (by omega) a
    · exact ne 50 (by omega) (by omega) (by omega) a
    · exact ne 51 (by omega) (by omega) (by omega) a
    · exact ne 52 (by omega) (by omega) (by omega) a
    · exact ne 53 (by omega) (by omega) (by omega) a
    · exact ne 54 (by omega) (by omega) (by omega) a
    · exact ne 55 (by omega) (by omega) (by omega) a
    · exact ne 58 (by omega) (by omega) (by omega) a), if_neg (by
    rintro (a | a)
    · exact ne 56 (by omega) (by omega) (by omega) a
    · exact ne 57 (by omega) (by omega) (by omega) a), h115, J_suc, bndE, leaf, Option.bind_some, if_neg (g9k hw0), bndE, J_natN (by omega)]; rfl
theorem jnE {w c : Int} (hw : 0 ≤ w ∧ w < 1000) (hc : 0 ≤ c ∧ c < 1000) (h : w ≠ c) : ¬ J w = J c := by rw [J_eq (by omega) (by omega) (by omega) (by omega)]; exact h
/-- nodes with one side (k: where it stands) -/
theorem op_one {σ : MS} {x y wk : Nat} {p1 : Int32} {w : Int} (hx : x < 39990) (hy : y < 39990) (h17 : σ.2 64 x = J w) (hw : (w = 43 ∧ NR σ 20 x = J (y : Nat)) ∨ (((48 ≤ w ∧ w ≤ 55) ∨ w = 58) ∧ NR σ 19 x = J (y : Nat))) (h113 : σ.1 113 = J (wk : Nat)) (hwk : wk + 1 < 130000) : F_X12_opens_ (J (x : Nat)) p1 σ = some ((0 : Int32), tdS (tdS σ wk (4 * x + 1)) (wk + 1) (4 * y)) := by
  have en := g_en (n := x) (by omega)
  have t1 := r_toDo (how := 1) h113 (by omega) (show x < 40000 by omega) (by omega)
  have t2 := r_toDo (σ := tdS σ wk (4 * x + 1)) (how := 0) (wk := wk + 1) rfl (by omega) (show y < 40000 by omega) (by omega)
  rw [opensv_eq, if_neg en, J_natN (by omega), h17, bndE]
  rw [J_natN (by omega)] at en
  rcases hw with ⟨rfl, hy2⟩ | ⟨hw, hy2⟩
  · have hy3 : (tdS σ wk (4 * x + 1)).2 67 x = J (y : Nat) := hy2
    rw [if_neg (show ¬ J 43 = 42 by decide), if_pos (show J 43 = 43 from rfl), show F_X12_toDo (J (x : Nat)) 1 σ = _ from t1, Option.bind_some]
    dsimp only
    rw [if_neg en, hy3, show F_X12_toDo (J (y : Nat)) 0 _ = _ from t2]; rfl
  · have hy3 : (tdS σ wk (4 * x + 1)).2 66 x = J (y : Nat) := hy2
    have hd : J w = 48 ∨ J w = 49 ∨ J w = 50 ∨ J w = 51 ∨ J w = 52 ∨ J w = 53 ∨ J w = 54 ∨ J w = 55 ∨ J w = 58 := by
      have : w = 48 ∨ w = 49 ∨ w = 50 ∨ w = 51 ∨ w = 52 ∨ w = 53 ∨ w = 54 ∨ w = 55 ∨ w = 58 := by omega
      rcases this with rfl | rfl | rfl | rfl | rfl | rfl | rfl | rfl | rfl
      · exact Or.inl rfl
      · exact Or.inr (Or.inl rfl)
      · exact Or.inr (Or.inr (Or.inl rfl))
      · exact Or.inr (Or.inr (Or.inr (Or.inl rfl)))
      · exact Or.inr (Or.inr (Or.inr (Or.inr (Or.inl rfl))))
      · exact Or.inr (Or.inr (Or.inr (Or.inr (Or.inr (Or.inl rfl)))))
      · exact Or.inr (Or.inr (Or.inr (Or.inr (Or.inr (Or.inr (Or.inl rfl))))))
      · exact Or.inr (Or.inr (Or.inr (Or.inr (Or.inr (Or.inr (Or.inr (Or.inl rfl)))))))
      · exact Or.inr (Or.inr (Or.inr (Or.inr (Or.inr (Or.inr (Or.inr (Or.inr rfl)))))))
    rw [if_neg (show ¬ J w = 42 from jnE (c := 42) (by omega) (by omega) (by omega)), if_neg (show ¬ J w = 43 from jnE (c := 43) (by omega) (by omega) (by omega)), if_pos hd, show F_X12_toDo (J (x : Nat)) 1 σ = _ from t1, Option.bind_some]
    dsimp only
    rw [if_neg en, hy3, show F_X12_toDo (J (y : Nat)) 0 _ = _ from t2]; rfl
theorem op_two {σ : MS} {x y z wk : Nat} {p1 : Int32} {w : Int} (hx : x < 39990) (hy : y < 39990) (hz : z < 39990) (h17 : σ.2 64 x = J w) (hw : w = 56 ∨ w = 57) (h19 : NR σ 19 x = J (y : Nat)) (h20 : NR σ 20 x = J (z : Nat)) (h113 : σ.1 113 = J (wk : Nat)) (hwk : wk + 2 < 130000) : F_X12_opens_ (J (x : Nat)) p1 σ = some ((0 : Int32), tdS (tdS (tdS σ wk (4 * x + 1)) (wk + 1) (4 * z)) (wk + 2) (4 * y)) := by
  have en := g_en (n := x) (by omega)
  have t1 := r_toDo (how := 1) h113 (by omega) (show x < 40000 by omega) (by omega)
  have t2 := r_toDo (σ := tdS σ wk (4 * x + 1)) (how := 0) (wk := wk + 1) rfl (by omega) (show z < 40000 by omega) (by omega)
  have t3 := r_toDo (σ := tdS (tdS σ wk (4 * x + 1)) (wk + 1) (4 * z)) (how := 0) (wk := wk + 2) rfl (by omega) (show y < 40000 by omega) (by omega)
  rw [show 4 * z + 0 = 4 * z from rfl] at t2
  rw [show 4 * y + 0 = 4 * y from rfl] at t3
  have h20' : (tdS σ wk (4 * x + 1)).2 67 x = J (z : Nat) := h20
  have h19' : (tdS (tdS σ wk (4 * x + 1)) (wk + 1) (4 * z)).2 66 x = J (y : Nat) := h19
  rw [opensv_eq, if_neg en, J_natN (by omega), h17, bndE]
  rw [J_natN (by omega)] at en
  have hd : J w = 56 ∨ J w = 57 := by
    rcases hw with rfl | rfl
    · exact Or.inl rfl
    · exact Or.inr rfl
  rw [if_neg (show ¬ J w = 42 from jnE (c := 42) (by omega) (by omega) (by omega)), if_neg (show ¬ J w = 43 from jnE (c := 43) (by omega) (by omega) (by omega)), if_neg (by
    rintro (a | a | a | a | a | a | a | a | a)
    · exact jnE (c := 48) (by omega) (by omega) (by omega) a
    · exact jnE (c := 49) (by omega) (by omega) (by omega) a
    · exact jnE (c := 50) (by omega) (by omega) (by omega) a
    · exact jnE (c := 51) (by omega) (by omega) (by omega) a
    · exact jnE (c := 52) (by omega) (by omega) (by omega) a
    · exact jnE (c := 53) (by omega) (by omega) (by omega) a
    · exact jnE (c := 54) (by omega) (by omega) (by omega) a
    · exact jnE (c := 55) (by omega) (by omega) (by omega) a
    · exact jnE (c := 58) (by omega) (by omega) (by omega) a), if_pos hd, show F_X12_toDo (J (x : Nat)) 1 σ = _ from t1, Option.bind_some]
  dsimp only
  rw [if_neg en, h20', show F_X12_toDo (J (z : Nat)) 0 _ = _ from t2, Option.bind_some]
  dsimp only
  rw [if_neg en, h19', show F_X12_toDo (J (y : Nat)) 0 _ = _ from t3]; rfl
