/-! items are declared: names -/
variable {T N : Nat} {kd vl rv : Nat → Int} {pl : Nat → Nat}
def N186 (j_8 : MS → MR) (p0 x_3 x_167 t_175 : Int32) : MS → MR := (fun  (σ_185 : MS) => ( if x_167 < 0 ∨ 8000 ≤ x_167.toNatClampNeg then none else if (σ_185.2 28 x_167.toNatClampNeg) = 0 then ( if x_167 < 0 ∨ 8000 ≤ x_167.toNatClampNeg then none else bnd (mA σ_185 28 (upd (σ_185.2 28) x_167.toNatClampNeg x_3)) fun σ_195 => if x_167 < 0 ∨ 8000 ≤ x_167.toNatClampNeg then none else bnd (mA σ_195 29 (upd (σ_195.2 29) x_167.toNatClampNeg t_175)) fun σ_199 => if x_167 < 0 ∨ 8000 ≤ x_167.toNatClampNeg then none else bnd (mA σ_199 30 (upd (σ_199.2 30) x_167.toNatClampNeg p0)) fun σ_203 => j_8  σ_203 ) else ( j_8  σ_185 ) ) : MS → MR)
def N182 (j_8 : MS → MR) (p0 x_3 x_167 t_175 : Int32) : Int32 → MS → MR := (fun (t_180 : Int32) (σ_181 : MS) => ( bnd (N186 j_8 p0 x_3 x_167 t_175) fun j_186 => if t_180 = 0 then ( j_186  σ_181 ) else ( if p0 < 0 ∨ 40000 ≤ p0.toNatClampNeg then none else bnd ((σ_181.2 19 p0.toNatClampNeg)) fun (x_211 : Int32) => if x_211 < 0 ∨ 40000 ≤ x_211.toNatClampNeg then none else (F_X12_note 5 (σ_181.2 18 x_211.toNatClampNeg) σ_181).bind fun u_215 => j_186  u_215.2 ) ) : Int32 → MS → MR)
def N177 (j_8 : MS → MR) (p0 x_3 x_167 : Int32) : Int32 → MS → MR := (fun (t_175 : Int32) (σ_176 : MS) => ( bnd (N182 j_8 p0 x_3 x_167 t_175) fun j_182 => if 2 < x_3 then ( if x_3 = 3 then ( if (σ_176.1 36) ≤ 60 then ( j_182 0 σ_176 ) else ( j_182 1 σ_176 ) ) else ( if x_3 = 4 then ( if (σ_176.1 37) ≤ 100 then ( j_182 0 σ_176 ) else ( j_182 1 σ_176 ) ) else ( if x_3 = 5 then ( if (σ_176.1 38) ≤ 20 then ( j_182 0 σ_176 ) else ( j_182 1 σ_176 ) ) else ( if (σ_176.1 40) ≤ 100 then ( j_182 0 σ_176 ) else ( j_182 1 σ_176 ) ) ) ) ) else ( if (σ_176.1 35) ≤ 120 then ( j_182 0 σ_176 ) else ( j_182 1 σ_176 ) ) ) : Int32 → MS → MR)
def N172 (j_8 : MS → MR) (p0 x_3 x_167 : Int32) : MS → MR := (fun  (σ_171 : MS) => ( bnd (N177 j_8 p0 x_3 x_167) fun j_177 => if 2 < x_3 then ( if x_3 = 3 then ( bnd (mI σ_171 36 ((σ_171.1 36) + 1)) fun σ_248 => j_177 ((σ_171.1 36) + 1) σ_248 ) else ( if x_3 = 4 then ( bnd (mI σ_171 37 ((σ_171.1 37) + 1)) fun σ_253 => j_177 (σ_171.1 37) σ_253 ) else ( if x_3 = 5 then ( bnd (mI σ_171 38 ((σ_171.1 38) + 1)) fun σ_258 => j_177 (σ_171.1 38) σ_258 ) else ( bnd (mI σ_171 40 ((σ_171.1 40) + 1)) fun σ_261 => j_177 (σ_171.1 40) σ_261 ) ) ) ) else ( bnd (mI σ_171 35 ((σ_171.1 35) + 1)) fun σ_264 => j_177 ((σ_171.1 35) + 1) σ_264 ) ) : MS → MR)
theorem decl_eq2 (p0 : Int32) (σ : MS) : F_X12_declareOne p0 σ = if p0 < 0 ∨ 40000 ≤ p0.toNatClampNeg then none else bnd ((σ.2 17 p0.toNatClampNeg)) fun (x_3 : Int32) => (F_X12_isItem x_3 σ).bind fun u_5 => bnd (D8 p0 x_3) fun j_8 => if u_5.1 = 0 then ( j_8  u_5.2 ) else ( if p0 < 0 ∨ 40000 ≤ p0.toNatClampNeg then none else bnd ((u_5.2.2 19 p0.toNatClampNeg)) fun (x_163 : Int32) => if x_163 < 0 ∨ 40000 ≤ x_163.toNatClampNeg then none else bnd ((u_5.2.2 19 x_163.toNatClampNeg)) fun (x_167 : Int32) => if x_167 < 0 ∨ 8000 ≤ x_167.toNatClampNeg then none else bnd (N172 j_8 p0 x_3 x_167) fun j_172 => if (u_5.2.2 28 x_167.toNatClampNeg) = 0 then ( j_172  u_5.2 ) else ( if p0 < 0 ∨ 40000 ≤ p0.toNatClampNeg then none else bnd ((u_5.2.2 19 p0.toNatClampNeg)) fun (x_271 : Int32) => if x_271 < 0 ∨ 40000 ≤ x_271.toNatClampNeg then none else (F_X12_note 4 (u_5.2.2 18 x_271.toNatClampNeg) u_5.2).bind fun u_275 => j_172  u_275.2 ) ) := rfl
def namF (a : Int32 × Int32) (td ov : Bool) (p : Nat) : Int32 × Int32 := if ov then ntF (if td then ntF a 4 p else a) 5 p else (if td then ntF a 4 p else a)
def namS (σ : MS) (a : Int32 × Int32) (fc c r : Nat) (w num : Int) (x : Nat) : MS := if σ.2 28 r = 0 then mA (mA (mA (noF (mI σ fc (J (c + 1 : Nat))) a) 28 (upd (σ.2 28) r (J w))) 29 (upd (σ.2 29) r (J num))) 30 (upd (σ.2 30) r (J (x : Nat))) else noF (mI σ fc (J (c + 1 : Nat))) a
theorem n186_ok {K : MS → MR} {Q : Int32 × MS → Prop} {x r fc c : Nat} {w num : Int} {X R M W : Int32} (hX : X = J (x : Nat)) (hR : R = J (r : Nat)) (hM : M = J num) (hW : W = J w) (hr : r < 8000) {σ : MS} {a : Int32 × Int32} (hfc : 35 ≤ fc ∧ fc ≤ 42) (h : Ok (K (namS σ a fc c r w num x)) Q) : Ok (N186 K X W R M (noF (mI σ fc (J (c + 1 : Nat))) a)) Q := by
  have g : ¬ (R < 0 ∨ 8000 ≤ R.toNatClampNeg) := by
    rw [hR, J_natN (by omega)]; rintro (h | h); exact J_nlt0 (by omega) (by omega) h; omega
  have g2 : R.toNatClampNeg = r := by rw [hR, J_natN (by omega)]
  unfold namS at h
  unfold N186
  rw [g2]
  rw [g2] at g
  refine Ok_neg g ?_
  by_cases q : σ.2 28 r = 0
  · rw [if_pos q] at h
    refine Ok_pos (show (noF (mI σ fc (J (c + 1 : Nat))) a).2 28 r = 0 from q) (Ok_neg g (Ok_bnd (Ok_neg g (Ok_bnd (Ok_neg g (Ok_bnd ?_))))))
    rw [hX, hM, hW]
    exact h
  · rw [if_neg q] at h
    exact Ok_neg (show ¬ (noF (mI σ fc (J (c + 1 : Nat))) a).2 28 r = 0 from q) h
theorem n182_ok {K : MS → MR} {Q : Int32 × MS → Prop} {x y r fc c p : Nat} {w num : Int} {X R M W : Int32} (hX : X = J (x : Nat)) (hR : R = J (r : Nat)) (hM : M = J num) (hW : W = J w) (hr : r < 8000) (hx : x < 39990) (hy : y < 39990) {σ : MS} {a : Int32 × Int32} {ov : Bool} (hfc : 35 ≤ fc ∧ fc ≤ 42) (h19 : σ.2 19 x = J (y : Nat)) (h18 : σ.2 18 y = J (p : Nat)) (h : Ok (K (namS σ (if ov then ntF a 5 p else a) fc c r w num x)) Q) : Ok (N182 K X W R M (if ov then 1 else 0) (noF (mI σ fc (J (c + 1 : Nat))) a)) Q := by
  have en := g_en (n := x) (by omega)
  have en2 := (ng (n := x) (by omega)).2
  unfold N182
  refine Ok_bnd ?_
  cases ov with
  | false => exact Ok_pos (by rfl) (n186_ok hX hR hM hW hr hfc h)
  | true =>
    refine Ok_neg (by decide) ?_
    rw [show X = J (x : Nat) from hX] 
    rw [en2]
    rw [en2] at en
    refine Ok_neg en (Ok_bnd ?_)
    rw [show (noF (mI σ fc (J (c + 1 : Nat))) a).2 19 x = J (y : Nat) from h19]
    refine Ok_neg (g_en (by omega)) ?_
    rw [(ng (n := y) (by omega)).2, show (noF (mI σ fc (J (c + 1 : Nat))) a).2 18 y = J (p : Nat) from h18, show F_X12_note 5 (J (p : Nat)) (noF (mI σ fc (J (c + 1 : Nat))) a) = _ from r_note _ 5 p, Option.bind_some, noF_flt, noF_noF]
    rw [hX] at hX
    exact n186_ok rfl hR hM hW hr hfc h
def namK (w : Int) (fc lim c : Nat) (num : Int) : Prop := (1 ≤ w ∧ w ≤ 2 ∧ fc = 35 ∧ lim = 120 ∧ num = (c + 1 : Nat)) ∨ (w = 3 ∧ fc = 36 ∧ lim = 60 ∧ num = (c + 1 : Nat)) ∨ (w = 4 ∧ fc = 37 ∧ lim = 100 ∧ num = (c : Nat)) ∨ (w = 5 ∧ fc = 38 ∧ lim = 20 ∧ num = (c : Nat)) ∨ (w = 6 ∧ fc = 40 ∧ lim = 100 ∧ num = (c : Nat))
theorem n172_ok {K : MS → MR} {Q : Int32 × MS → Prop} {x y r fc c p lim : Nat} {w num : Int} {X R W : Int32} (hX : X = J (x : Nat)) (hR : R = J (r : Nat)) (hW : W = J w) (hr : r < 8000) (hx : x < 39990) (hy : y < 39990) (hK : namK w fc lim c num) {σ : MS} {a : Int32 × Int32} (hc : σ.1 fc = J (c : Nat)) (hc2 : c ≤ 5000) (h19 : σ.2 19 x = J (y : Nat)) (h18 : σ.2 18 y = J (p : Nat)) (h : Ok (K (namS σ (if decide (lim < c + 1) then ntF a 5 p else a) fc c r w num x)) Q) : Ok (N172 K X W R (noF σ a)) Q := by
  have hcc : ∀ f, f = fc → (noF σ a).1 f = J (c : Nat) := by
    rintro f rfl
    rw [noF_i (by unfold namK at hK; omega) (by unfold namK at hK; omega)]; exact hc
  have ec : J (c : Nat) + 1 = J (c + 1 : Nat) := by rw [J_lit, J_add]; rfl
  have em : ∀ v : Int32, mI (noF σ a) fc v = noF (mI σ fc v) a := fun v => (noF_mI (by unfold namK at hK; omega) (by unfold namK at hK; omega)).symm
  have ej : (noF (mI σ fc (J (c + 1 : Nat))) a).1 fc = J (c + 1 : Nat) := by
    rw [noF_i (by unfold namK at hK; omega) (by unfold namK at hK; omega), mI_1, if_pos rfl]
  have wl : ∀ k : Int, 0 ≤ k → k < 1000 → (W = J k) = (w = k) := fun k k0 k1 => by rw [hW, J_eq (by unfold namK at hK; omega) (by unfold namK at hK; omega) (by omega) (by omega)]
  have w2 : (2 < W) = (2 < w) := by rw [hW, show (2 : Int32) = J 2 from rfl, J_lt (by omega) (by omega) (by unfold namK at hK; omega) (by unfold namK at hK; omega)]
  have le : ∀ (l : Nat), l ≤ 1000 → (J (c + 1 : Nat) ≤ J (l : Nat)) = (c + 1 ≤ l) := fun l hl => by rw [J_le (by omega) (by omega) (by omega) (by omega)]; exact propext (by omega)
  have fin : ∀ (ov : Bool) (M : Int32), M = J num → ov = decide (lim < c + 1) → Ok (N182 K X W R M (if ov then 1 else 0) (noF (mI σ fc (J (c + 1 : Nat))) a)) Q := fun ov M hM ho => n182_ok hX hR hM hW hr hx hy (by unfold namK at hK; omega) h19 h18 (by rw [ho]; exact h)
  unfold N172 N177
  refine Ok_bnd ?_
  rcases hK with ⟨k1, k2, k3, k4, k5⟩ | ⟨k1, k3, k4, k5⟩ | ⟨k1, k3, k4, k5⟩ | ⟨k1, k3, k4, k5⟩ | ⟨k1, k3, k4, k5⟩
  · refine Ok_neg (by rw [w2]; omega) ?_
    subst k3
    rw [hcc 35 rfl, ec, em]
    refine Ok_bnd (Ok_bnd (Ok_neg (by rw [w2]; omega) ?_))
    rw [ej]
    by_cases q : c + 1 ≤ 120
    · exact Ok_pos (by show J (c + 1 : Nat) ≤ J (120 : Nat); rw [le 120 (by omega)]; exact q) (fin false _ (by rw [k5]) (by rw [k4]; exact (decide_eq_false (by omega)).symm))
    · exact Ok_neg (by show ¬ J (c + 1 : Nat) ≤ J (120 : Nat); rw [le 120 (by omega)]; exact q) (fin true _ (by rw [k5]) (by rw [k4]; exact (decide_eq_true (by omega)).symm))
  · refine Ok_pos (by rw [w2]; omega) (Ok_pos (by show W = J 3; rw [wl 3 (by omega) (by omega)]; exact k1) ?_)
    subst k3
    rw [hcc 36 rfl, ec, em]
    refine Ok_bnd (Ok_bnd (Ok_pos (by rw [w2]; omega) (Ok_pos (by show W = J 3; rw [wl 3 (by omega) (by omega)]; exact k1) ?_)))
    rw [ej]
    by_cases q : c + 1 ≤ 60
    · exact Ok_pos (by show J (c + 1 : Nat) ≤ J (60 : Nat); rw [le 60 (by omega)]; exact q) (fin false _ (by rw [k5]) (by rw [k4]; exact (decide_eq_false (by omega)).symm))
    · exact Ok_neg (by show ¬ J (c + 1 : Nat) ≤ J (60 : Nat); rw [le 60 (by omega)]; exact q) (fin true _ (by rw [k5]) (by rw [k4]; exact (decide_eq_true (by omega)).symm))
  · refine Ok_pos (by rw [w2]; omega) (Ok_neg (by show ¬ W = J 3; rw [wl 3 (by omega) (by omega)]; omega) (Ok_pos (by show W = J 4; rw [wl 4 (by omega) (by omega)]; exact k1) ?_))
    subst k3
    rw [hcc 37 rfl, ec, em]
    refine Ok_bnd (Ok_bnd (Ok_pos (by rw [w2]; omega) (Ok_neg (by show ¬ W = J 3; rw [wl 3 (by omega) (by omega)]; omega) (Ok_pos (by show W = J 4; rw [wl 4 (by omega) (by omega)]; exact k1) ?_))))
    rw [ej]
    by_cases q : c + 1 ≤ 100
    · exact Ok_pos (by show J (c + 1 : Nat) ≤ J (100 : Nat); rw [le 100 (by omega)]; exact q) (fin false _ (by rw [k5]) (by rw [k4]; exact (decide_eq_false (by omega)).symm))
    · exact Ok_neg (by show ¬ J (c + 1 : Nat) ≤ J (100 : Nat); rw [le 100 (by omega)]; exact q) (fin true _ (by rw [k5]) (by rw [k4]; exact (decide_eq_true (by omega)).symm))
  · refine Ok_pos (by rw [w2]; omega) (Ok_neg (by show ¬ W = J 3; rw [wl 3 (by omega) (by omega)]; omega) (Ok_neg (by show ¬ W = J 4; rw [wl 4 (by omega) (by omega)]; omega) (Ok_pos (by show W = J 5; rw [wl 5 (by omega) (by omega)]; exact k1) ?_)))
    subst k3
    rw [hcc 38 rfl, ec, em]
    refine Ok_bnd (Ok_bnd (Ok_pos (by rw [w2]; omega) (Ok_neg (by show ¬ W = J 3; rw [wl 3 (by omega) (by omega)]; omega) (Ok_neg (by show ¬ W = J 4; rw [wl 4 (by omega) (by omega)]; omega) (Ok_pos (by show W = J 5; rw [wl 5 (by omega) (by omega)]; exact k1) ?_)))))
    rw [ej]
    by_cases q : c + 1 ≤ 20
    · exact Ok_pos (by show J (c + 1 : Nat) ≤ J (20 : Nat); rw [le 20 (by omega)]; exact q) (fin false _ (by rw [k5]) (by rw [k4]; exact (decide_eq_false (by omega)).symm))
    · exact Ok_neg (by show ¬ J (c + 1 : Nat) ≤ J (20 : Nat); rw [le 20 (by omega)]; exact q) (fin true _ (by rw [k5]) (by rw [k4]; exact (decide_eq_true (by omega)).symm))
  · refine Ok_pos (by rw [w2]; omega) (Ok_neg (by show ¬ W = J 3; rw [wl 3 (by omega) (by omega)]; omega) (Ok_neg (by show ¬ W = J 4; rw [wl 4 (by omega) (by omega)]; omega) (Ok_neg (by show ¬ W = J 5; rw [wl 5 (by omega) (by omega)]; omega) ?_)))
    subst k3
    rw [hcc 40 rfl, ec, em]
    refine Ok_bnd (Ok_bnd (Ok_pos (by rw [w2]; omega) (Ok_neg (by show ¬ W = J 3; rw [wl 3 (by omega) (by omega)]; omega) (Ok_neg (by show ¬ W = J 4; rw [wl 4 (by omega) (by omega)]; omega) (Ok_neg (by show ¬ W = J 5; rw [wl 5 (by omega) (by omega)]; omega) ?_)))))
    rw [ej]
    by_cases q : c + 1 ≤ 100
    · exact Ok_pos (by show J (c + 1 : Nat) ≤ J (100 : Nat); rw [le 100 (by omega)]; exact q) (fin false _ (by rw [k5]) (by rw [k4]; exact (decide_eq_false (by omega)).symm))
    · exact Ok_neg (by show ¬ J (c + 1 : Nat) ≤ J (100 : Nat); rw [le 100 (by omega)]; exact q) (fin true _ (by rw [k5]) (by rw [k4]; exact (decide_eq_true (by omega)).symm))
theorem isItem_eq {w : Int} (hw : 0 ≤ w ∧ w < 1000) (σ : MS) : F_X12_isItem (J w) σ = some (J (if 1 ≤ w ∧ w ≤ 6 then 1 else 0), σ) := by
  unfold F_X12_isItem
  by_cases q1 : w < 1
  · rw [if_pos (by rw [show (1 : Int32) = J 1 from rfl, J_lt (by omega) (by omega) (by omega) (by omega)]; exact q1), if_neg (by omega)]; rfl
  · rw [if_neg (by rw [show (1 : Int32) = J 1 from rfl, J_lt (by omega) (by omega) (by omega) (by omega)]; exact q1)]
    by_cases q2 : 6 < w
    · rw [if_pos (by rw [show (6 : Int32) = J 6 from rfl, J_lt (by omega) (by omega) (by omega) (by omega)]; exact q2), if_neg (by omega)]; rfl
    · rw [if_neg (by rw [show (6 : Int32) = J 6 from rfl, J_lt (by omega) (by omega) (by omega) (by omega)]; exact q2), if_pos (by omega)]; rfl
/-- an item with a name -/
theorem nam_ok {Q : Int32 × MS → Prop} {x y r fc c p lim : Nat} {w num : Int} (hr : r < 8000) (hx : x < 39990) (hy : y < 39990) (hK : namK w fc lim c num) {σ : MS} (hc : σ.1 fc = J (c : Nat)) (hc2 : c ≤ 5000) (h17 : σ.2 17 x = J w) (h19 : σ.2 19 x = J (y : Nat)) (h19y : σ.2 19 y = J (r : Nat)) (h18 : σ.2 18 y = J (p : Nat)) (h : Ok (D8 (J (x : Nat)) (J w) (namS σ (namF (flt σ) (!decide (σ.2 28 r = 0)) (decide (lim < c + 1)) p) fc c r w num x)) Q) : Ok (F_X12_declareOne (J (x : Nat)) σ) Q := by
  have en := g_en (n := x) (by omega)
  have en2 := (ng (n := x) (by omega)).2
  have hw : 1 ≤ w ∧ w ≤ 6 := by unfold namK at hK; omega
  have gr : ¬ (J (r : Nat) < 0 ∨ 8000 ≤ (J (r : Nat)).toNatClampNeg) := by
    rw [J_natN (by omega)]; rintro (h | h); exact J_nlt0 (by omega) (by omega) h; omega
  have gr2 : (J (r : Nat)).toNatClampNeg = r := J_natN (by omega)
  rw [decl_eq2]
  refine Ok_neg en (Ok_bnd ?_)
  rw [en2]
  rw [en2] at en
  rw [h17, isItem_eq (by omega), if_pos hw]
  refine Ok_bind (Ok_some (Ok_bnd (Ok_neg J1_ne (Ok_neg en (Ok_bnd ?_)))))
  dsimp only
  rw [h19]
  refine Ok_neg (g_en (by omega)) (Ok_bnd ?_)
  rw [(ng (n := y) (by omega)).2, h19y]
  refine Ok_neg gr (Ok_bnd ?_)
  rw [gr2]
  by_cases q : σ.2 28 r = 0
  · refine Ok_pos q ?_
    rw [show decide (σ.2 28 r = 0) = true from decide_eq_true q] at h
    have := n172_ok (K := D8 (J (x : Nat)) (J w)) (Q := Q) (a := flt σ) rfl rfl rfl hr hx hy hK hc hc2 h19 h18 h
    rw [noF_id] at this
    exact this
  · refine Ok_neg q (Ok_neg en (Ok_bnd ?_))
    refine Ok_neg (g_en (by omega)) ?_
    rw [(ng (n := y) (by omega)).2, h18, show F_X12_note 4 (J (p : Nat)) σ = _ from r_note σ 4 p]
    rw [show decide (σ.2 28 r = 0) = false from decide_eq_false q] at h
    exact Ok_bind (Ok_some (n172_ok (K := D8 (J (x : Nat)) (J w)) (Q := Q) (a := ntF (flt σ) 4 p) rfl rfl rfl hr hx hy hK hc hc2 h19 h18 h))
