/-! the reference lays a part of a room or thing -/
variable {T N : Nat} {kd vl rv : Nat → Int} {pl : Nat → Nat}
def LpT14 (again_51 : (Int32 × MS) → MR) (p1 : Int32) (s_50 : Int32 × MS) (σ_77 : MS) : MR := if s_50.1 < 0 ∨ 40000 ≤ s_50.1.toNatClampNeg then none else bnd (fun (t_83 : Int32) (σ_84 : MS) => (loopF (LpW again_51 p1 s_50) FU (t_83, σ_84) : MR)) fun j_85 => if (σ_77.2 17 s_50.1.toNatClampNeg) = 14 then (if s_50.1 < 0 ∨ 40000 ≤ s_50.1.toNatClampNeg then none else j_85 (σ_77.2 19 s_50.1.toNatClampNeg) σ_77) else (j_85 (-1) σ_77)
def LpT15 (again_51 : (Int32 × MS) → MR) (p1 : Int32) (s_50 : Int32 × MS) (σ_71 : MS) : MR := if s_50.1 < 0 ∨ 40000 ≤ s_50.1.toNatClampNeg then none else bnd (LpT14 again_51 p1 s_50) fun j_78 => if (σ_71.2 17 s_50.1.toNatClampNeg) = 15 then (if s_50.1 < 0 ∨ 40000 ≤ s_50.1.toNatClampNeg then none else bnd (((7 * p1) + (σ_71.2 20 s_50.1.toNatClampNeg))) fun (x_130 : Int32) => if x_130 < 0 ∨ 847 ≤ x_130.toNatClampNeg then none else bnd (mA σ_71 53 (upd (σ_71.2 53) x_130.toNatClampNeg (vp_nar .boolean 1))) fun σ_134 => j_78 σ_134) else (j_78 σ_71)
def LpT12 (again_51 : (Int32 × MS) → MR) (p1 : Int32) (s_50 : Int32 × MS) (σ_65 : MS) : MR := if s_50.1 < 0 ∨ 40000 ≤ s_50.1.toNatClampNeg then none else bnd (LpT15 again_51 p1 s_50) fun j_72 => if (σ_65.2 17 s_50.1.toNatClampNeg) = 12 then (if s_50.1 < 0 ∨ 40000 ≤ s_50.1.toNatClampNeg then none else bnd (((7 * p1) + (σ_65.2 20 s_50.1.toNatClampNeg))) fun (x_141 : Int32) => if s_50.1 < 0 ∨ 40000 ≤ s_50.1.toNatClampNeg then none else bnd ((σ_65.2 19 s_50.1.toNatClampNeg)) fun (x_145 : Int32) => if x_145 < 0 ∨ 40000 ≤ x_145.toNatClampNeg then none else bnd ((σ_65.2 19 x_145.toNatClampNeg)) fun (x_149 : Int32) => if x_149 < 0 ∨ 8000 ≤ x_149.toNatClampNeg then none else bnd ((σ_65.2 29 x_149.toNatClampNeg)) fun (x_153 : Int32) => if x_141 < 0 ∨ 847 ≤ x_141.toNatClampNeg then none else bnd (mA σ_65 51 (upd (σ_65.2 51) x_141.toNatClampNeg x_153)) fun σ_157 => j_72 σ_157) else (j_72 σ_65)
def LpT11 (again_51 : (Int32 × MS) → MR) (p1 : Int32) (s_50 : Int32 × MS) (σ_59 : MS) : MR := if s_50.1 < 0 ∨ 40000 ≤ s_50.1.toNatClampNeg then none else bnd (LpT12 again_51 p1 s_50) fun j_66 => if (σ_59.2 17 s_50.1.toNatClampNeg) = 11 then (if ((7 * p1) + 6) < 0 ∨ 847 ≤ ((7 * p1) + 6).toNatClampNeg then none else bnd (mA σ_59 53 (upd (σ_59.2 53) ((7 * p1) + 6).toNatClampNeg (vp_nar .boolean 1))) fun σ_164 => j_66 σ_164) else (j_66 σ_59)
def LpO (p1 : Int32) : ((Int32 × MS) → MR) → Int32 × MS → MR := fun again_51 s_50 => if s_50.1 < 0 then (some (0, s_50.2)) else (if s_50.1 < 0 ∨ 40000 ≤ s_50.1.toNatClampNeg then none else bnd (LpT11 again_51 p1 s_50) fun j_60 => if (s_50.2.2 17 s_50.1.toNatClampNeg) = 10 then (if s_50.1 < 0 ∨ 40000 ≤ s_50.1.toNatClampNeg then none else bnd (((s_50.2.2 18 s_50.1.toNatClampNeg) + 1)) fun (x_171 : Int32) => if p1 < 0 ∨ 121 ≤ p1.toNatClampNeg then none else bnd (mA s_50.2 48 (upd (s_50.2.2 48) p1.toNatClampNeg x_171)) fun σ_175 => if s_50.1 < 0 ∨ 40000 ≤ s_50.1.toNatClampNeg then none else bnd ((σ_175.2 20 s_50.1.toNatClampNeg)) fun (x_179 : Int32) => if p1 < 0 ∨ 121 ≤ p1.toNatClampNeg then none else bnd (mA σ_175 49 (upd (σ_175.2 49) p1.toNatClampNeg x_179)) fun σ_183 => if p1 < 0 ∨ 121 ≤ p1.toNatClampNeg then none else bnd (mA σ_183 122 (upd (σ_183.2 122) p1.toNatClampNeg (vp_nar .boolean 1))) fun σ_187 => j_60 σ_187) else (j_60 s_50.2))
theorem layPlace_eq (p0 p1 : Int32) (σ : MS) : F_X12_layPlace p0 p1 σ = if p0 < 0 ∨ 40000 ≤ p0.toNatClampNeg then none else bnd ((σ.2 21 p0.toNatClampNeg)) fun (x_3 : Int32) => if x_3 < 0 ∨ 40000 ≤ x_3.toNatClampNeg then none else bnd (((σ.2 18 x_3.toNatClampNeg) + 1)) fun (x_7 : Int32) => if p1 < 0 ∨ 121 ≤ p1.toNatClampNeg then none else bnd (mA σ 46 (upd (σ.2 46) p1.toNatClampNeg x_7)) fun σ_11 => if p0 < 0 ∨ 40000 ≤ p0.toNatClampNeg then none else bnd ((σ_11.2 21 p0.toNatClampNeg)) fun (x_15 : Int32) => if x_15 < 0 ∨ 40000 ≤ x_15.toNatClampNeg then none else if p1 < 0 ∨ 121 ≤ p1.toNatClampNeg then none else bnd (mA σ_11 47 (upd (σ_11.2 47) p1.toNatClampNeg (σ_11.2 20 x_15.toNatClampNeg))) fun σ_21 => if p0 < 0 ∨ 40000 ≤ p0.toNatClampNeg then none else bnd (fun (t_25 : Int32) (σ_26 : MS) => ( if p1 < 0 ∨ 121 ≤ p1.toNatClampNeg then none else bnd (mA σ_26 50 (upd (σ_26.2 50) p1.toNatClampNeg (vp_nar .boolean t_25))) fun σ_32 => if p1 < 0 ∨ 121 ≤ p1.toNatClampNeg then none else bnd (fun  (σ_36 : MS) => ( if p1 < 0 ∨ 121 ≤ p1.toNatClampNeg then none else bnd (fun  (σ_42 : MS) => ( if p0 < 0 ∨ 40000 ≤ p0.toNatClampNeg then none else bnd ((σ_42.2 20 p0.toNatClampNeg)) fun (x_48 : Int32) => loopF (LpO p1) FU (x_48, σ_42) ) : MS → MR) fun j_43 => if (σ_36.2 50 p1.toNatClampNeg) = 0 then ( (F_X12_toldPlace p0 σ_36).bind fun u_192 => if p1 < 0 ∨ 121 ≤ p1.toNatClampNeg then none else bnd (mA u_192.2 52 (upd (u_192.2.2 52) p1.toNatClampNeg u_192.1)) fun σ_196 => j_43  σ_196 ) else ( j_43  σ_36 ) ) : MS → MR) fun j_37 => if (σ_32.2 50 p1.toNatClampNeg) = 0 then ( j_37  σ_32 ) else ( if (σ_32.1 63) = 0 then ( bnd (mI σ_32 63 p1) fun σ_204 => j_37  σ_204 ) else ( j_37  σ_32 ) ) ) : Int32 → MS → MR) fun j_27 => if (σ_21.2 17 p0.toNatClampNeg) = 1 then ( j_27 1 σ_21 ) else ( j_27 0 σ_21 ) := rfl
theorem lpw_end {again : Int32 × MS → MR} {n x : Nat} {ρ0 ρ : MS} (hx : x < 39990) : loopF (LpW again (J (n : Nat)) (J (x : Nat), ρ0)) FU (-1, ρ) = again (ρ.2 22 x, ρ) := by
  obtain ⟨F, hF⟩ : ∃ F, FU = F + 1 := ⟨FU - 1, by have := FU_gt (k := 1) (by omega); omega⟩
  rw [hF]
  show LpW again (J (n : Nat)) (J (x : Nat), ρ0) (loopF (LpW again (J (n : Nat)) (J (x : Nat), ρ0)) F) (-1, ρ) = _
  generalize loopF (LpW again (J (n : Nat)) (J (x : Nat), ρ0)) F = lp
  unfold LpW
  simp only [bndE]
  rw [if_pos (show (-1 : Int32) < 0 by decide), if_neg (gNn (k := x) (n := 40000) (by omega) (by omega)), J_natN (by omega)]
theorem g40 {x : Nat} (hx : x < 39990) : ¬ (J (x : Nat) < 0 ∨ 40000 ≤ x) := by
  rintro (c | c)
  · exact J_nlt0 (by omega) (by omega) c
  · omega
theorem gKn {k x : Nat} (hx : x < k) (hk : k < 100000) : ¬ (J (x : Nat) < 0 ∨ k ≤ x) := by
  rintro (c | c)
  · exact J_nlt0 (by omega) (by omega) c
  · omega
theorem lpT14_no {again : Int32 × MS → MR} {n x : Nat} {w : Int} {ρ0 ρ : MS} (hx : x < 39990) (h17 : ρ.2 17 x = J w) (hw : 0 ≤ w ∧ w < 100 ∧ w ≠ 14) : LpT14 again (J (n : Nat)) (J (x : Nat), ρ0) ρ = again (ρ.2 22 x, ρ) := by
  have hx' := g40 hx
  unfold LpT14
  dsimp only
  rw [J_natN (by omega), if_neg hx', bndE, h17, if_neg (show ¬ J w = 14 by rw [show (14 : Int32) = J 14 from rfl, J_eq (by omega) (by omega) (by omega) (by omega)]; exact hw.2.2)]
  exact lpw_end hx
theorem lpT14_yes {again : Int32 × MS → MR} {n x : Nat} {ρ0 ρ : MS} (hx : x < 39990) (h17 : ρ.2 17 x = J 14) : LpT14 again (J (n : Nat)) (J (x : Nat), ρ0) ρ = loopF (LpW again (J (n : Nat)) (J (x : Nat), ρ0)) FU (ρ.2 19 x, ρ) := by
  have hx' := g40 hx
  unfold LpT14
  dsimp only
  rw [J_natN (by omega), if_neg hx', bndE, h17, if_pos (show J 14 = 14 from rfl), if_neg hx']
theorem lpT15_no {again : Int32 × MS → MR} {n x : Nat} {w : Int} {ρ0 ρ : MS} (hx : x < 39990) (h17 : ρ.2 17 x = J w) (hw : 0 ≤ w ∧ w < 100 ∧ w ≠ 15) : LpT15 again (J (n : Nat)) (J (x : Nat), ρ0) ρ = LpT14 again (J (n : Nat)) (J (x : Nat), ρ0) ρ := by
  have hx' := g40 hx
  unfold LpT15
  dsimp only
  rw [J_natN (by omega), if_neg hx', bndE, h17, if_neg (show ¬ J w = 15 by rw [show (15 : Int32) = J 15 from rfl, J_eq (by omega) (by omega) (by omega) (by omega)]; exact hw.2.2)]
theorem lpT15_yes {again : Int32 × MS → MR} {n x a : Nat} {ρ0 ρ : MS} (hx : x < 39990) (hn : n ≤ 120) (ha : a < 7) (h17 : ρ.2 17 x = J 15) (h20 : ρ.2 20 x = J (a : Nat)) : LpT15 again (J (n : Nat)) (J (x : Nat), ρ0) ρ = LpT14 again (J (n : Nat)) (J (x : Nat), ρ0) (mA ρ 53 (upd (ρ.2 53) (7 * n + a) 1)) := by
  have hx' := g40 hx
  unfold LpT15
  dsimp only
  rw [J_natN (by omega), if_neg hx', bndE, h17, if_pos (show J 15 = 15 from rfl), if_neg hx', h20, bndE, show 7 * J (n : Nat) + J (a : Nat) = J (7 * n + a : Nat) by rw [show (7 : Int32) = J 7 from rfl, J_mul, J_add]; congr 1, if_neg (gNn (k := 7 * n + a) (n := 847) (by omega) (by omega)), bndE, J_natN (by omega)]
  rfl
theorem lpT12_no {again : Int32 × MS → MR} {n x : Nat} {w : Int} {ρ0 ρ : MS} (hx : x < 39990) (h17 : ρ.2 17 x = J w) (hw : 0 ≤ w ∧ w < 100 ∧ w ≠ 12) : LpT12 again (J (n : Nat)) (J (x : Nat), ρ0) ρ = LpT15 again (J (n : Nat)) (J (x : Nat), ρ0) ρ := by
  have hx' := g40 hx
  unfold LpT12
  dsimp only
  rw [J_natN (by omega), if_neg hx', bndE, h17, if_neg (show ¬ J w = 12 by rw [show (12 : Int32) = J 12 from rfl, J_eq (by omega) (by omega) (by omega) (by omega)]; exact hw.2.2)]
theorem lpT12_yes {again : Int32 × MS → MR} {n x y d r : Nat} {ρ0 ρ : MS} (hx : x < 39990) (hn : n ≤ 120) (hd : d < 7) (hy : y < 39990) (hr : r < 8000) (h17 : ρ.2 17 x = J 12) (h20 : ρ.2 20 x = J (d : Nat)) (h19 : ρ.2 19 x = J (y : Nat)) (h19' : ρ.2 19 y = J (r : Nat)) : LpT12 again (J (n : Nat)) (J (x : Nat), ρ0) ρ = LpT15 again (J (n : Nat)) (J (x : Nat), ρ0) (mA ρ 51 (upd (ρ.2 51) (7 * n + d) (ρ.2 29 r))) := by
  have hx' := g40 hx
  unfold LpT12
  dsimp only
  rw [J_natN (by omega), if_neg hx', bndE, h17, if_pos (show J 12 = 12 from rfl), if_neg hx', h20, bndE, if_neg hx', h19, bndE, J_natN (by omega), if_neg (g40 hy), h19', bndE, J_natN (by omega), if_neg (gKn (k := 8000) hr (by omega)), bndE, show 7 * J (n : Nat) + J (d : Nat) = J (7 * n + d : Nat) by rw [show (7 : Int32) = J 7 from rfl, J_mul, J_add]; congr 1, if_neg (gNn (k := 7 * n + d) (n := 847) (by omega) (by omega)), bndE, J_natN (by omega)]
theorem lpT11_no {again : Int32 × MS → MR} {n x : Nat} {w : Int} {ρ0 ρ : MS} (hx : x < 39990) (h17 : ρ.2 17 x = J w) (hw : 0 ≤ w ∧ w < 100 ∧ w ≠ 11) : LpT11 again (J (n : Nat)) (J (x : Nat), ρ0) ρ = LpT12 again (J (n : Nat)) (J (x : Nat), ρ0) ρ := by
  have hx' := g40 hx
  unfold LpT11
  dsimp only
  rw [J_natN (by omega), if_neg hx', bndE, h17, if_neg (show ¬ J w = 11 by rw [show (11 : Int32) = J 11 from rfl, J_eq (by omega) (by omega) (by omega) (by omega)]; exact hw.2.2)]
theorem lpT11_yes {again : Int32 × MS → MR} {n x : Nat} {ρ0 ρ : MS} (hx : x < 39990) (hn : n ≤ 120) (h17 : ρ.2 17 x = J 11) : LpT11 again (J (n : Nat)) (J (x : Nat), ρ0) ρ = LpT12 again (J (n : Nat)) (J (x : Nat), ρ0) (mA ρ 53 (upd (ρ.2 53) (7 * n + 6) 1)) := by
  have hx' := g40 hx
  unfold LpT11
  dsimp only
  rw [J_natN (by omega), if_neg hx', bndE, h17, if_pos (show J 11 = 11 from rfl), show 7 * J (n : Nat) + 6 = J (7 * n + 6 : Nat) by rw [show (7 : Int32) = J 7 from rfl, show (6 : Int32) = J 6 from rfl, J_mul, J_add]; congr 1, if_neg (gNn (k := 7 * n + 6) (n := 847) (by omega) (by omega)), bndE, J_natN (by omega)]
  rfl
theorem lpO_no {again : Int32 × MS → MR} {n x : Nat} {w : Int} {ρ : MS} (hx : x < 39990) (h17 : ρ.2 17 x = J w) (hw : 0 ≤ w ∧ w < 100 ∧ w ≠ 10) : LpO (J (n : Nat)) again (J (x : Nat), ρ) = LpT11 again (J (n : Nat)) (J (x : Nat), ρ) ρ := by
  have hx' := g40 hx
  unfold LpO
  dsimp only
  rw [if_neg (J_nlt0 (by omega) (by omega)), J_natN (by omega), if_neg hx', bndE, h17, if_neg (show ¬ J w = 10 by rw [show (10 : Int32) = J 10 from rfl, J_eq (by omega) (by omega) (by omega) (by omega)]; exact hw.2.2)]
theorem lpO_yes {again : Int32 × MS → MR} {n x : Nat} {ρ : MS} (hx : x < 39990) (hn : n ≤ 120) (h17 : ρ.2 17 x = J 10) : LpO (J (n : Nat)) again (J (x : Nat), ρ) = LpT11 again (J (n : Nat)) (J (x : Nat), ρ) (mA (mA (mA ρ 48 (upd (ρ.2 48) n (ρ.2 18 x + 1))) 49 (upd (ρ.2 49) n (ρ.2 20 x))) 122 (upd (ρ.2 122) n 1)) := by
  have hx' := g40 hx
  have hn' := gKn (k := 121) (x := n) (by omega) (by omega)
  unfold LpO
  dsimp only
  rw [if_neg (J_nlt0 (by omega) (by omega)), J_natN (by omega), if_neg hx', bndE, h17, if_pos (show J 10 = 10 from rfl), if_neg hx', bndE, J_natN (by omega), if_neg hn', bndE, if_neg hx', bndE, if_neg hn', bndE, if_neg hn', bndE]
  rfl
