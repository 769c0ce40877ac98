/-! items are declared: the reference -/
variable {T N : Nat} {kd vl rv : Nat → Int} {pl : Nat → Nat}
def D24 (p0 x_3 : Int32) : MS → MR := (fun  (σ_23 : MS) => ( if x_3 < 6 then ( some (0, σ_23) ) else ( if p0 < 0 ∨ 40000 ≤ p0.toNatClampNeg then none else bnd ((σ_23.2 21 p0.toNatClampNeg)) fun (x_32 : Int32) => if x_32 < 0 ∨ 40000 ≤ x_32.toNatClampNeg then none else if p0 < 0 ∨ 40000 ≤ p0.toNatClampNeg then none else bnd (((σ_23.2 18 x_32.toNatClampNeg) - (σ_23.2 18 p0.toNatClampNeg))) fun (x_38 : Int32) => if x_38 ≤ 4000 then ( some (0, σ_23) ) else ( bnd (fun (t_43 : Int32) (σ_44 : MS) => ( (F_X12_note 5 t_43 σ_44).bind fun u_48 => some (0, u_48.2) ) : Int32 → MS → MR) fun j_45 => if x_3 = 6 then ( if p0 < 0 ∨ 40000 ≤ p0.toNatClampNeg then none else bnd ((σ_23.2 19 p0.toNatClampNeg)) fun (x_54 : Int32) => if x_54 < 0 ∨ 40000 ≤ x_54.toNatClampNeg then none else j_45 (σ_23.2 18 x_54.toNatClampNeg) σ_23 ) else ( if p0 < 0 ∨ 40000 ≤ p0.toNatClampNeg then none else j_45 (σ_23.2 18 p0.toNatClampNeg) σ_23 ) ) ) ) : MS → MR)
def D20 (p0 x_3 : Int32) : MS → MR := (fun  (σ_19 : MS) => ( bnd (D24 p0 x_3) fun j_24 => bnd (fun  (σ_61 : MS) => ( if p0 < 0 ∨ 40000 ≤ p0.toNatClampNeg then none else (F_X12_note 5 (σ_61.2 18 p0.toNatClampNeg) σ_61).bind fun u_67 => j_24  u_67.2 ) : MS → MR) fun j_62 => bnd (fun  (σ_69 : MS) => ( if x_3 = 8 then ( bnd (mI σ_69 42 ((σ_69.1 42) + 1)) fun σ_75 => if ((σ_69.1 42) + 1) ≤ 20 then ( j_24  σ_75 ) else ( j_62  σ_75 ) ) else ( j_24  σ_69 ) ) : MS → MR) fun j_70 => if x_3 = 7 then ( bnd (mI σ_19 41 ((σ_19.1 41) + 1)) fun σ_83 => if 200 < ((σ_19.1 41) + 1) then ( j_62  σ_83 ) else ( j_70  σ_83 ) ) else ( j_70  σ_19 ) ) : MS → MR)
def D16 (p0 x_3 : Int32) : MS → MR := (fun  (σ_15 : MS) => ( bnd (D20 p0 x_3) fun j_20 => if x_3 = 2 then ( if p0 < 0 ∨ 40000 ≤ p0.toNatClampNeg then none else bnd ((σ_15.2 20 p0.toNatClampNeg)) fun (x_93 : Int32) => loopF (fun (again_96 : (Int32 × Int32 × MS) → MR) (s_95 : Int32 × Int32 × MS) => ( if s_95.2.1 < 0 then ( j_20  s_95.2.2 ) else ( if s_95.2.1 < 0 ∨ 40000 ≤ s_95.2.1.toNatClampNeg then none else bnd (fun (v3_104 : Int32) (σ_105 : MS) => ( if s_95.2.1 < 0 ∨ 40000 ≤ s_95.2.1.toNatClampNeg then none else bnd ((σ_105.2 22 s_95.2.1.toNatClampNeg)) fun (x_111 : Int32) => again_96 (v3_104, x_111, σ_105) ) : Int32 → MS → MR) fun j_106 => if (s_95.2.2.2 17 s_95.2.1.toNatClampNeg) = 14 then ( if s_95.2.1 < 0 ∨ 40000 ≤ s_95.2.1.toNatClampNeg then none else (F_X12_tooManyWords (s_95.2.2.2 19 s_95.2.1.toNatClampNeg) s_95.1 s_95.2.2).bind fun u_117 => j_106 u_117.1 u_117.2 ) else ( j_106 s_95.1 s_95.2.2 ) ) )) FU (0, x_93, σ_15) ) else ( j_20  σ_15 ) ) : MS → MR)
def D12 (p0 x_3 : Int32) : MS → MR := (fun  (σ_11 : MS) => ( bnd (D16 p0 x_3) fun j_16 => if x_3 = 3 then ( if p0 < 0 ∨ 40000 ≤ p0.toNatClampNeg then none else (F_X12_tooManyWords (σ_11.2 20 p0.toNatClampNeg) 0 σ_11).bind fun u_125 => j_16  u_125.2 ) else ( j_16  σ_11 ) ) : MS → MR)
def D8 (p0 x_3 : Int32) : MS → MR := (fun  (σ_7 : MS) => ( bnd (D12 p0 x_3) fun j_12 => if x_3 = 5 then ( if p0 < 0 ∨ 40000 ≤ p0.toNatClampNeg then none else bnd (((σ_7.1 39) + (σ_7.2 20 p0.toNatClampNeg))) fun (x_132 : Int32) => bnd (mI σ_7 39 x_132) fun σ_134 => if p0 < 0 ∨ 40000 ≤ p0.toNatClampNeg then none else bnd (fun  (σ_138 : MS) => ( if p0 < 0 ∨ 40000 ≤ p0.toNatClampNeg then none else (F_X12_note 5 (σ_138.2 21 p0.toNatClampNeg) σ_138).bind fun u_144 => j_12  u_144.2 ) : MS → MR) fun j_139 => if (σ_134.2 20 p0.toNatClampNeg) < 1 then ( j_139  σ_134 ) else ( if p0 < 0 ∨ 40000 ≤ p0.toNatClampNeg then none else if 400 < (σ_134.2 20 p0.toNatClampNeg) then ( j_139  σ_134 ) else ( if (σ_134.1 39) ≤ 1000 then ( j_12  σ_134 ) else ( j_139  σ_134 ) ) ) ) else ( j_12  σ_7 ) ) : MS → MR)
theorem decl_eq (p0 : Int32) (σ : MS) : F_X12_declareOne p0 σ = if p0 < 0 ∨ 40000 ≤ p0.toNatClampNeg then none else bnd ((σ.2 17 p0.toNatClampNeg)) fun (x_3 : Int32) => (F_X12_isItem x_3 σ).bind fun u_5 => bnd (D8 p0 x_3) fun j_8 => if u_5.1 = 0 then ( j_8  u_5.2 ) else ( if p0 < 0 ∨ 40000 ≤ p0.toNatClampNeg then none else bnd ((u_5.2.2 19 p0.toNatClampNeg)) fun (x_163 : Int32) => if x_163 < 0 ∨ 40000 ≤ x_163.toNatClampNeg then none else bnd ((u_5.2.2 19 x_163.toNatClampNeg)) fun (x_167 : Int32) => if x_167 < 0 ∨ 8000 ≤ x_167.toNatClampNeg then none else bnd (fun  (σ_171 : MS) => ( bnd (fun (t_175 : Int32) (σ_176 : MS) => ( bnd (fun (t_180 : Int32) (σ_181 : MS) => ( bnd (fun  (σ_185 : MS) => ( if x_167 < 0 ∨ 8000 ≤ x_167.toNatClampNeg then none else if (σ_185.2 28 x_167.toNatClampNeg) = 0 then ( if x_167 < 0 ∨ 8000 ≤ x_167.toNatClampNeg then none else bnd (mA σ_185 28 (upd (σ_185.2 28) x_167.toNatClampNeg x_3)) fun σ_195 => if x_167 < 0 ∨ 8000 ≤ x_167.toNatClampNeg then none else bnd (mA σ_195 29 (upd (σ_195.2 29) x_167.toNatClampNeg t_175)) fun σ_199 => if x_167 < 0 ∨ 8000 ≤ x_167.toNatClampNeg then none else bnd (mA σ_199 30 (upd (σ_199.2 30) x_167.toNatClampNeg p0)) fun σ_203 => j_8  σ_203 ) else ( j_8  σ_185 ) ) : MS → MR) fun j_186 => if t_180 = 0 then ( j_186  σ_181 ) else ( if p0 < 0 ∨ 40000 ≤ p0.toNatClampNeg then none else bnd ((σ_181.2 19 p0.toNatClampNeg)) fun (x_211 : Int32) => if x_211 < 0 ∨ 40000 ≤ x_211.toNatClampNeg then none else (F_X12_note 5 (σ_181.2 18 x_211.toNatClampNeg) σ_181).bind fun u_215 => j_186  u_215.2 ) ) : Int32 → MS → MR) fun j_182 => if 2 < x_3 then ( if x_3 = 3 then ( if (σ_176.1 36) ≤ 60 then ( j_182 0 σ_176 ) else ( j_182 1 σ_176 ) ) else ( if x_3 = 4 then ( if (σ_176.1 37) ≤ 100 then ( j_182 0 σ_176 ) else ( j_182 1 σ_176 ) ) else ( if x_3 = 5 then ( if (σ_176.1 38) ≤ 20 then ( j_182 0 σ_176 ) else ( j_182 1 σ_176 ) ) else ( if (σ_176.1 40) ≤ 100 then ( j_182 0 σ_176 ) else ( j_182 1 σ_176 ) ) ) ) ) else ( if (σ_176.1 35) ≤ 120 then ( j_182 0 σ_176 ) else ( j_182 1 σ_176 ) ) ) : Int32 → MS → MR) fun j_177 => if 2 < x_3 then ( if x_3 = 3 then ( bnd (mI σ_171 36 ((σ_171.1 36) + 1)) fun σ_248 => j_177 ((σ_171.1 36) + 1) σ_248 ) else ( if x_3 = 4 then ( bnd (mI σ_171 37 ((σ_171.1 37) + 1)) fun σ_253 => j_177 (σ_171.1 37) σ_253 ) else ( if x_3 = 5 then ( bnd (mI σ_171 38 ((σ_171.1 38) + 1)) fun σ_258 => j_177 (σ_171.1 38) σ_258 ) else ( bnd (mI σ_171 40 ((σ_171.1 40) + 1)) fun σ_261 => j_177 (σ_171.1 40) σ_261 ) ) ) ) else ( bnd (mI σ_171 35 ((σ_171.1 35) + 1)) fun σ_264 => j_177 ((σ_171.1 35) + 1) σ_264 ) ) : MS → MR) fun j_172 => if (u_5.2.2 28 x_167.toNatClampNeg) = 0 then ( j_172  u_5.2 ) else ( if p0 < 0 ∨ 40000 ≤ p0.toNatClampNeg then none else bnd ((u_5.2.2 19 p0.toNatClampNeg)) fun (x_271 : Int32) => if x_271 < 0 ∨ 40000 ≤ x_271.toNatClampNeg then none else (F_X12_note 4 (u_5.2.2 18 x_271.toNatClampNeg) u_5.2).bind fun u_275 => j_172  u_275.2 ) ) := rfl
def Tw1  : ((Int32 × Int32 × MS) → MR) → Int32 × Int32 × MS → MR := (fun (again_2 : (Int32 × Int32 × MS) → MR) (s_1 : Int32 × Int32 × MS) => ( if s_1.2.1 < 0 then ( some (s_1.1, s_1.2.2) ) else ( bnd (s_1.1 + 1) fun (x_8 : Int32) => bnd (fun  (σ_10 : MS) => ( if s_1.2.1 < 0 ∨ 40000 ≤ s_1.2.1.toNatClampNeg then none else bnd ((σ_10.2 22 s_1.2.1.toNatClampNeg)) fun (x_16 : Int32) => again_2 (x_8, x_16, σ_10) ) : MS → MR) fun j_11 => if x_8 ≤ 10 then ( j_11  s_1.2.2 ) else ( if s_1.2.1 < 0 ∨ 40000 ≤ s_1.2.1.toNatClampNeg then none else (F_X12_note 5 (s_1.2.2.2 18 s_1.2.1.toNatClampNeg) s_1.2.2).bind fun u_23 => j_11  u_23.2 ) ) ))
def rD0 (σ τ : MS) : Prop := (∀ k, k ≠ 14 → k ≠ 15 → ¬ (35 ≤ k ∧ k ≤ 42) → τ.1 k = σ.1 k) ∧ (∀ j, j ≠ 28 → j ≠ 29 → j ≠ 30 → τ.2 j = σ.2 j)
theorem rD0_rfl {σ : MS} : rD0 σ σ := ⟨fun _ _ _ _ => rfl, fun _ _ _ _ => rfl⟩
theorem rD0_trans {σ τ υ : MS} (h : rD0 σ τ) (i : rD0 τ υ) : rD0 σ υ := ⟨fun k a b c => by rw [i.1 k a b c, h.1 k a b c], fun j a b c => by rw [i.2 j a b c, h.2 j a b c]⟩
theorem rD0_mI {σ : MS} {k : Nat} {v : Int32} (h : 35 ≤ k ∧ k ≤ 42) : rD0 σ (mI σ k v) := ⟨fun j a b c => by rw [mI_1, if_neg (by omega)], fun _ _ _ _ => rfl⟩
theorem rD0_mA {σ : MS} {k : Nat} {g : Nat → Int32} (h : k = 28 ∨ k = 29 ∨ k = 30) : rD0 σ (mA σ k g) := ⟨fun _ _ _ _ => rfl, fun j a b c => by rw [mA_2, if_neg (by omega)]⟩
theorem rD0_noF {σ : MS} {a : Int32 × Int32} : rD0 σ (noF σ a) := ⟨fun k a b c => noF_i a b, fun _ _ _ _ => rfl⟩
theorem noF_if {σ : MS} {c : Prop} [Decidable c] {a : Int32 × Int32} : (if c then noF σ (flt σ) else noF σ a) = noF σ (if c then flt σ else a) := by split <;> rfl
/-- how long a routine is -/
def lenF (a : Int32 × Int32) (e i P : Nat) : Int32 × Int32 := if (e : Int) - i ≤ 4000 then a else ntF a 5 P
theorem D24_no {p0 : Int32} {w : Int} (hw : 0 ≤ w ∧ w < 6) (σ : MS) : D24 p0 (J w) σ = some ((0 : Int32), σ) := by
  unfold D24
  rw [if_pos (by rw [show (6 : Int32) = J 6 from rfl, J_lt (by omega) (by omega) (by omega) (by omega)]; omega)]
theorem D24_ok {x m y e i P : Nat} {w : Int} {σ : MS} (hx : x < 39990) (hm : m < 39990) (hw : 6 ≤ w ∧ w ≤ 8) (h21 : σ.2 21 x = J (m : Nat)) (he : σ.2 18 m = J (e : Nat)) (hi : σ.2 18 x = J (i : Nat)) (hei : e ≤ 5000 ∧ i ≤ 5000) (hP : (w = 6 ∧ σ.2 19 x = J (y : Nat) ∧ y < 39990 ∧ σ.2 18 y = J (P : Nat)) ∨ (w ≠ 6 ∧ P = i)) : Ok (D24 (J (x : Nat)) (J w) σ) fun u => u = ((0 : Int32), noF σ (lenF (flt σ) e i P)) := by
  have en := g_en (n := x) (by omega)
  have en2 := (ng (n := x) (by omega)).2
  unfold D24 lenF
  rw [en2]
  rw [en2] at en
  refine Ok_neg (by rw [show (6 : Int32) = J 6 from rfl, J_lt (by omega) (by omega) (by omega) (by omega)]; omega) (Ok_neg en (Ok_bnd ?_))
  rw [h21]
  refine Ok_neg (g_en (by omega)) (Ok_neg en (Ok_bnd ?_))
  rw [(ng (n := m) (by omega)).2, he, hi, J_sub]
  by_cases q : (e : Int) - i ≤ 4000
  · rw [if_pos q, noF_id]
    exact Ok_pos (by rw [show (4000 : Int32) = J 4000 from rfl, J_le (by omega) (by omega) (by omega) (by omega)]; exact q) (Ok_some rfl)
  · rw [if_neg q]
    have fin : ∀ p : Nat, p = P → Ok ((F_X12_note 5 (J (p : Nat)) σ).bind fun u_48 => some ((0 : Int32), u_48.2)) fun u => u = ((0 : Int32), noF σ (ntF (flt σ) 5 P)) := by
      rintro p rfl
      rw [show F_X12_note 5 (J (p : Nat)) σ = _ from r_note σ 5 p]
      exact Ok_some rfl
    refine Ok_neg (by rw [show (4000 : Int32) = J 4000 from rfl, J_le (by omega) (by omega) (by omega) (by omega)]; exact q) (Ok_bnd ?_)
    rcases hP with ⟨h1, h2, h3, h4⟩ | ⟨h1, h2⟩
    · refine Ok_pos (by rw [h1]; rfl) (Ok_neg en (Ok_bnd ?_))
      rw [h2]
      refine Ok_neg (g_en (by omega)) ?_
      rw [(ng (n := y) (by omega)).2, h4]
      exact fin P rfl
    · refine Ok_neg (by rw [show (6 : Int32) = J 6 from rfl, J_eq (by omega) (by omega) (by omega) (by omega)]; exact h1) (Ok_neg en ?_)
      exact fin i h2.symm
/-- ons and eachs are counted -/
theorem D20_no {p0 : Int32} {w : Int} (hw : 0 ≤ w ∧ w < 7) (σ : MS) : D20 p0 (J w) σ = D24 p0 (J w) σ := by
  show (if J w = 7 then _ else (if J w = 8 then _ else D24 p0 (J w) σ)) = _
  rw [if_neg (by rw [show (7 : Int32) = J 7 from rfl, J_eq (by omega) (by omega) (by omega) (by omega)]; omega), if_neg (by rw [show (8 : Int32) = J 8 from rfl, J_eq (by omega) (by omega) (by omega) (by omega)]; omega)]
theorem D20_7 {x i n : Nat} {W : Int32} (hW : W = 7) {σ : MS} (hx : x < 39990) (hi : σ.2 18 x = J (i : Nat)) (hn : σ.1 41 = J (n : Nat)) (hn2 : n ≤ 5000) : D20 (J (x : Nat)) W σ = D24 (J (x : Nat)) W (noF (mI σ 41 (J (n + 1 : Nat))) (if 200 < n + 1 then ntF (flt σ) 5 i else flt σ)) := by
  have en := g_en (n := x) (by omega)
  have en2 := (ng (n := x) (by omega)).2
  show (if W = 7 then (if 200 < (σ.1 41 + 1) then (if J (x : Nat) < 0 ∨ 40000 ≤ (J (x : Nat)).toNatClampNeg then none else (F_X12_note 5 ((mI σ 41 (σ.1 41 + 1)).2 18 (J (x : Nat)).toNatClampNeg) (mI σ 41 (σ.1 41 + 1))).bind fun u_67 => D24 (J (x : Nat)) W u_67.2) else (if W = 8 then _ else D24 (J (x : Nat)) W (mI σ 41 (σ.1 41 + 1)))) else _) = _
  rw [if_pos hW, hn, show J (n : Nat) + 1 = J (n + 1 : Nat) by rw [J_lit, J_add]; rfl]
  by_cases q : 200 < n + 1
  · rw [if_pos (by rw [show (200 : Int32) = J 200 from rfl, J_lt (by omega) (by omega) (by omega) (by omega)]; omega), if_neg en, en2, if_pos q, show (mI σ 41 (J (n + 1 : Nat))).2 18 x = J (i : Nat) from hi, show F_X12_note 5 (J (i : Nat)) (mI σ 41 (J (n + 1 : Nat))) = _ from r_note _ 5 i, Option.bind_some, flt_mI (by omega) (by omega)]
  · rw [if_neg (by rw [show (200 : Int32) = J 200 from rfl, J_lt (by omega) (by omega) (by omega) (by omega)]; omega), if_neg (show ¬ W = 8 by rw [hW]; decide), if_neg q, ← flt_mI (σ := σ) (k := 41) (v := J (n + 1 : Nat)) (by omega) (by omega), noF_id]
theorem D20_8 {x i n : Nat} {W : Int32} (hW : W = 8) {σ : MS} (hx : x < 39990) (hi : σ.2 18 x = J (i : Nat)) (hn : σ.1 42 = J (n : Nat)) (hn2 : n ≤ 5000) : D20 (J (x : Nat)) W σ = D24 (J (x : Nat)) W (noF (mI σ 42 (J (n + 1 : Nat))) (if 20 < n + 1 then ntF (flt σ) 5 i else flt σ)) := by
  have en := g_en (n := x) (by omega)
  have en2 := (ng (n := x) (by omega)).2
  show (if W = 7 then _ else (if W = 8 then (if (σ.1 42 + 1) ≤ 20 then D24 (J (x : Nat)) W (mI σ 42 (σ.1 42 + 1)) else (if J (x : Nat) < 0 ∨ 40000 ≤ (J (x : Nat)).toNatClampNeg then none else (F_X12_note 5 ((mI σ 42 (σ.1 42 + 1)).2 18 (J (x : Nat)).toNatClampNeg) (mI σ 42 (σ.1 42 + 1))).bind fun u_67 => D24 (J (x : Nat)) W u_67.2)) else _)) = _
  rw [if_neg (show ¬ W = 7 by rw [hW]; decide), if_pos hW, hn, show J (n : Nat) + 1 = J (n + 1 : Nat) by rw [J_lit, J_add]; rfl]
  by_cases q : 20 < n + 1
  · rw [if_neg (by rw [show (20 : Int32) = J 20 from rfl, J_le (by omega) (by omega) (by omega) (by omega)]; omega), if_neg en, en2, if_pos q, show (mI σ 42 (J (n + 1 : Nat))).2 18 x = J (i : Nat) from hi, show F_X12_note 5 (J (i : Nat)) (mI σ 42 (J (n + 1 : Nat))) = _ from r_note _ 5 i, Option.bind_some, flt_mI (by omega) (by omega)]
  · rw [if_pos (by rw [show (20 : Int32) = J 20 from rfl, J_le (by omega) (by omega) (by omega) (by omega)]; omega), if_neg q, ← flt_mI (σ := σ) (k := 42) (v := J (n + 1 : Nat)) (by omega) (by omega), noF_id]
/-- how many words -/
def twF (pl : Nat → Nat) : Int32 × Int32 → Nat → Nat → Nat → Int32 × Int32
  | a, _, _, 0 => a
  | a, b, i, c + 1 => twF pl (if 10 < b + 1 then ntF a 5 (pl i) else a) (b + 1) (i + 2) c
theorem twF_no {a : Int32 × Int32} : ∀ (c b i : Nat), b + c ≤ 10 → twF pl a b i c = a := by
  intro c
  induction c with
  | zero => intro b i _; rfl
  | succ c ih =>
    intro b i h
    unfold twF
    rw [if_neg (by omega)]
    exact ih (b + 1) (i + 2) (by omega)
theorem twF_nGe (hp : plm T pl) (hpb : ∀ i, i ≤ T + 1 → pl i ≤ 5000) : ∀ (c b i : Nat) (a : Int32 × Int32), i + 2 * c ≤ T + 2 → nGe (pl i) a (twF pl a b i c) := by
  intro c
  induction c with
  | zero => intro b i a _; exact nGe_rfl
  | succ c ih =>
    intro b i a h
    unfold twF
    have h1 : nGe (pl i) a (if 10 < b + 1 then ntF a 5 (pl i) else a) := by
      split
      · exact nGe_nt (by omega) (Nat.le_refl _) (hpb i (by omega))
      · exact nGe_rfl
    refine nGe_trans h1 ?_
    by_cases q : c = 0
    · subst q; exact nGe_rfl
    · exact nGe_le (ih (b + 1) (i + 2) _ (by omega)) (by have := hp i (i + 2) (by omega) (by omega); omega)
theorem twF_yes (hp : plm T pl) (hpb : ∀ i, i ≤ T + 1 → pl i ≤ 5000) : ∀ (c b i : Nat) (a : Int32 × Int32), i + 2 * c ≤ T + 2 → b ≤ 10 → 10 < b + c → nBeh (pl (i + 2 * (10 - b))) a → twF pl a b i c = (J 5, J (pl (i + 2 * (10 - b)) : Nat)) := by
  intro c
  induction c with
  | zero => intro b i a _ h1 h2; omega
  | succ c ih =>
    intro b i a h hb hc hn
    unfold twF
    by_cases q : b = 10
    · subst q
      rw [show i + 2 * (10 - 10) = i by omega] at hn ⊢
      rw [if_pos (by omega), ntF_beh hn 5 (Nat.le_refl _)]
      by_cases q0 : c = 0
      · subst q0; rfl
      · exact nGe_keep (twF_nGe hp hpb c 11 (i + 2) _ (by omega)) rfl (by omega) (by have := hp i (i + 2) (by omega) (by omega); omega) (hpb _ (by omega))
    · rw [if_neg (by omega)]
      have := ih (b + 1) (i + 2) a (by omega) (by omega) (by omega) (by rw [show i + 2 + 2 * (10 - (b + 1)) = i + 2 * (10 - b) by omega]; exact hn)
      rw [this, show i + 2 + 2 * (10 - (b + 1)) = i + 2 * (10 - b) by omega]
theorem tw_end {n : Nat} {b l : Int32} {τ : MS} (h : l < 0) : loopF Tw1 (n + 1) (b, l, τ) = some (b, τ) := if_pos h
theorem tw_loop {σ : MS} {n c i : Nat} (hn : n + c < 39990) (hS : NMS kd rv pl σ n c i) : ∀ (d k N' b : Nat) (a : Int32 × Int32), k + d = c → d < N' → b + d ≤ 9000 → loopF Tw1 N' (J (b : Nat), J (if k < c then ((n + k : Nat) : Int) else -1), noF σ a) = some (J (b + d : Nat), noF σ (twF pl a b (i + 2 * k) d)) := by
  intro d
  induction d with
  | zero =>
    intro k N' b a hk hN hb
    obtain ⟨N', rfl⟩ : ∃ z, N' = z + 1 := ⟨N' - 1, by omega⟩
    rw [if_neg (by omega)]
    rw [tw_end (by decide)]; rfl
  | succ d ih =>
    intro k N' b a hk hN hb
    obtain ⟨N', rfl⟩ : ∃ z, N' = z + 1 := ⟨N' - 1, by omega⟩
    obtain ⟨⟨s1, s1b, s1c⟩, s2, s3, s4⟩ := hS k (by omega)
    have en := g_en (n := n + k) (by omega)
    have en2 := (ng (n := n + k) (by omega)).2
    rw [if_pos (by omega)]
    have eb : J (b : Nat) + 1 = J (b + 1 : Nat) := by rw [J_lit, J_add]; rfl
    have enx : (if k + 1 < c then J (n + k + 1 : Nat) else J (-1)) = J (if k + 1 < c then ((n + (k + 1) : Nat) : Int) else -1) := by split <;> rfl
    show (if J (n + k : Nat) < 0 then _ else (if (J (b : Nat) + 1) ≤ 10 then (if J (n + k : Nat) < 0 ∨ 40000 ≤ (J (n + k : Nat)).toNatClampNeg then none else loopF Tw1 N' (J (b : Nat) + 1, (noF σ a).2 22 (J (n + k : Nat)).toNatClampNeg, noF σ a)) else (if J (n + k : Nat) < 0 ∨ 40000 ≤ (J (n + k : Nat)).toNatClampNeg then none else (F_X12_note 5 ((noF σ a).2 18 (J (n + k : Nat)).toNatClampNeg) (noF σ a)).bind fun u_23 => if J (n + k : Nat) < 0 ∨ 40000 ≤ (J (n + k : Nat)).toNatClampNeg then none else loopF Tw1 N' (J (b : Nat) + 1, u_23.2.2 22 (J (n + k : Nat)).toNatClampNeg, u_23.2)))) = _
    rw [if_neg (J_nlt0 (by omega) (by omega)), eb]
    have step : ∀ a' : Int32 × Int32, loopF Tw1 N' (J (b + 1 : Nat), (noF σ a').2 22 (n + k), noF σ a') = some (J (b + (d + 1) : Nat), noF σ (twF pl a' (b + 1) (i + 2 * k + 2) d)) := by
      intro a'
      rw [show (noF σ a').2 22 (n + k) = σ.2 22 (n + k) from rfl, s3, enx, ih (k + 1) N' (b + 1) a' (by omega) (by omega) (by omega), show b + 1 + d = b + (d + 1) by omega, show i + 2 * (k + 1) = i + 2 * k + 2 by omega]
    unfold twF
    by_cases q : 10 < b + 1
    · rw [if_neg (by rw [show (10 : Int32) = J 10 from rfl, J_le (by omega) (by omega) (by omega) (by omega)]; omega), if_pos q, if_neg en, en2, show (noF σ a).2 18 (n + k) = J (pl (i + 2 * k)) from s1b, show F_X12_note 5 (J (pl (i + 2 * k) : Nat)) (noF σ a) = _ from r_note _ 5 _, Option.bind_some, if_neg (by rw [← en2]; rw [en2]; rw [en2] at en; exact en), noF_flt, noF_noF]
      exact step _
    · rw [if_pos (by rw [show (10 : Int32) = J 10 from rfl, J_le (by omega) (by omega) (by omega) (by omega)]; omega), if_neg q, if_neg en, en2]
      exact step a
theorem r_tooMany {σ : MS} {n c i b : Nat} (hc : 1 ≤ c) (hn : n + c < 39990) (hb : b + c ≤ 9000) (hS : NMS kd rv pl σ n c i) : F_X12_tooManyWords (J (n : Nat)) (J (b : Nat)) σ = some (J (b + c : Nat), noF σ (twF pl (flt σ) b i c)) := by
  have := tw_loop hn hS c 0 FU b (flt σ) (by omega) (FU_gt (by omega)) hb
  rw [noF_id, if_pos (by omega)] at this
  exact this
