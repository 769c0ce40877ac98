/-! the reference lays defs, eachs and ons -/
variable {T N : Nat} {kd vl rv : Nat → Int} {pl : Nat → Nat}
theorem loB_def {σ : MS} {x : Nat} {t : Int32} (hx : x < 39990) (h17 : σ.2 17 x = J 6) : LoB (J (x : Nat)) t σ = some ((0 : Int32), σ) := by
  have gx := gNn (k := x) (n := 40000) (by omega) (by omega)
  unfold LoB
  rw [if_neg gx, bndE, J_natN (by omega), h17, if_neg (by decide), if_neg (by decide), if_neg (by decide), if_neg (by decide), if_neg (by decide), if_neg (by decide)]
theorem loB_each {σ : MS} {x y e : Nat} {t v : Int32} (hx : x < 39990) (hy : y < 39990) (he : e < 20) (h17 : σ.2 17 x = J 8) (h84 : σ.1 84 = J (e : Nat)) (h21 : σ.2 21 x = J (y : Nat)) (h19 : σ.2 19 y = v) : LoB (J (x : Nat)) t σ = some ((0 : Int32), mA (mI σ 84 (J (e + 1 : Nat))) 75 (upd (σ.2 75) e v)) := by
  have gx := gNn (k := x) (n := 40000) (by omega) (by omega)
  have gx' := g40 hx
  unfold LoB
  rw [if_neg gx, bndE, J_natN (by omega), h17, if_neg (by decide), if_neg (by decide), if_neg (by decide), if_neg (by decide), if_neg (by decide), if_pos (show J 8 = 8 from rfl), h84, J_suc, bndE, if_neg gx', bndE, show (mI σ 84 (J (e + 1 : Nat))).2 21 x = J (y : Nat) from h21, if_neg (gNn (k := y) (n := 40000) (by omega) (by omega)), J_natN (by omega), bndE, show (mI σ 84 (J (e + 1 : Nat))).2 19 y = v from h19, if_neg (gNn (k := e) (n := 20) (by omega) (by omega)), J_natN (by omega), bndE]
  rfl
/-- one more of an on's nouns -/
def LoNt (p0 : Int32) (again_149 : Int32 × MS → MR) (s_148 : Int32 × MS) (t_171 : Int32) (σ_172 : MS) : MR := bnd ((σ_172.1 83)) fun (x_176 : Int32) => if x_176 < 0 ∨ 200 ≤ x_176.toNatClampNeg then none else bnd (((σ_172.2 71 x_176.toNatClampNeg) + 1)) fun (x_180 : Int32) => if (σ_172.1 83) < 0 ∨ 200 ≤ (σ_172.1 83).toNatClampNeg then none else bnd (mA σ_172 71 (upd (σ_172.2 71) (σ_172.1 83).toNatClampNeg x_180)) fun σ_184 => bnd (fun (σ_186 : MS) => (if s_148.1 < 0 ∨ 40000 ≤ s_148.1.toNatClampNeg then none else bnd ((σ_186.2 22 s_148.1.toNatClampNeg)) fun (x_192 : Int32) => again_149 (x_192, σ_186) : MR)) fun j_187 => if (σ_172.2 71 x_176.toNatClampNeg) = 0 then (if (σ_184.1 83) < 0 ∨ 200 ≤ (σ_184.1 83).toNatClampNeg then none else bnd (mA σ_184 72 (upd (σ_184.2 72) (σ_184.1 83).toNatClampNeg t_171)) fun σ_198 => j_187 σ_198) else (if (σ_184.1 83) < 0 ∨ 200 ≤ (σ_184.1 83).toNatClampNeg then none else bnd (mA σ_184 73 (upd (σ_184.2 73) (σ_184.1 83).toNatClampNeg t_171)) fun σ_203 => j_187 σ_203)
theorem LoN_s (p0 t_8 : Int32) (σ0 : MS) (again : Int32 × MS → MR) (l : Int32) (τ : MS) : LoN p0 t_8 σ0 again (l, τ) = if l < 0 then (bnd (mI τ 83 ((τ.1 83) + 1)) fun σ_154 => if p0 < 0 ∨ 40000 ≤ p0.toNatClampNeg then none else bnd ((σ_154.2 21 p0.toNatClampNeg)) fun (x_158 : Int32) => if x_158 < 0 ∨ 40000 ≤ x_158.toNatClampNeg then none else bnd ((σ_154.2 19 x_158.toNatClampNeg)) fun (x_162 : Int32) => if (τ.1 83) < 0 ∨ 200 ≤ (τ.1 83).toNatClampNeg then none else bnd (mA σ_154 74 (upd (σ_154.2 74) (τ.1 83).toNatClampNeg x_162)) fun σ_166 => some (0, σ_166)) else (if l < 0 ∨ 40000 ≤ l.toNatClampNeg then none else bnd (LoNt p0 again (l, τ)) fun j_173 => if (τ.2 19 l.toNatClampNeg) = 0 then j_173 (-1) τ else (if l < 0 ∨ 40000 ≤ l.toNatClampNeg then none else if (τ.2 19 l.toNatClampNeg) = 3 then (if l < 0 ∨ 40000 ≤ l.toNatClampNeg then none else j_173 (τ.2 20 l.toNatClampNeg) τ) else (if l < 0 ∨ 40000 ≤ l.toNatClampNeg then none else if (τ.2 19 l.toNatClampNeg) = 2 then j_173 1 τ else (if l < 0 ∨ 40000 ≤ l.toNatClampNeg then none else bnd ((τ.2 20 l.toNatClampNeg)) fun (x_222 : Int32) => if x_222 < 0 ∨ 8000 ≤ x_222.toNatClampNeg then none else j_173 (τ.2 29 x_222.toNatClampNeg) τ)))) := rfl
theorem r_LoNt {p0 : Int32} {again : Int32 × MS → MR} {τ0 τ : MS} {y o c : Nat} {t : Int32} (hy : y < 39990) (ho : o < 200) (hc : c < 1000) (h83 : τ.1 83 = J (o : Nat)) (h71 : τ.2 71 o = J (c : Nat)) : LoNt p0 again (J (y : Nat), τ0) t τ = again (τ.2 22 y, mA (mA τ 71 (upd (τ.2 71) o (J (c + 1 : Nat)))) (if c = 0 then 72 else 73) (upd (τ.2 (if c = 0 then 72 else 73)) o t)) := by
  have go := gNn (k := o) (n := 200) (by omega) (by omega)
  have go' := gKn (k := 200) (x := o) ho (by omega)
  unfold LoNt
  rw [h83, bndE, if_neg go, bndE, if_neg go, J_natN (by omega), h71, J_suc, bndE]
  generalize hτ1 : mA τ 71 (upd (τ.2 71) o (J (c + 1 : Nat))) = τ1
  have e83 : τ1.1 83 = J (o : Nat) := by rw [← hτ1]; exact h83
  have e22 : τ1.2 22 = τ.2 22 := by rw [← hτ1]; rfl
  have e72 : τ1.2 72 = τ.2 72 := by rw [← hτ1]; rfl
  have e73 : τ1.2 73 = τ.2 73 := by rw [← hτ1]; rfl
  rw [bndE, e83]
  by_cases q : c = 0
  · rw [if_pos (show J (c : Nat) = 0 by rw [q]; rfl), if_neg go, bndE, J_natN (by omega), if_pos q, e72]
    dsimp only
    rw [if_neg (g40 hy), bndE, J_natN (by omega), mA_2, if_neg (by omega), e22]
  · rw [if_neg (show ¬ J (c : Nat) = 0 by rw [show (0 : Int32) = J 0 from rfl, J_eq (by omega) (by omega) (by omega) (by omega)]; omega), if_neg go, bndE, J_natN (by omega), if_neg q, e73]
    dsimp only
    rw [if_neg (g40 hy), bndE, J_natN (by omega), mA_2, if_neg (by omega), e22]
