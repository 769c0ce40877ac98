/-! the reference lays a built text: what stands before the items -/
variable {T N : Nat} {kd vl rv : Nat → Int} {pl : Nat → Nat}
def LyJ : (Int32 × MS → MR) → Int32 × MS → MR := (fun (again_120 : (Int32 × MS) → MR) (s_119 : Int32 × MS) => ( if s_119.1 < 0 then ( some (0, s_119.2) ) else ( (F_X12_layOne s_119.1 s_119.2).bind fun u_126 => if s_119.1 < 0 ∨ 40000 ≤ s_119.1.toNatClampNeg then none else bnd ((u_126.2.2 22 s_119.1.toNatClampNeg)) fun (x_130 : Int32) => again_120 (x_130, u_126.2) ) ))
def LyI (σ : MS) : MR := ( (F_X12_ownVerb 1 ([108, 111, 111, 107] : List Int32) ([108] : List Int32) ([] : List Int32) 0 ([] : List Int32) σ).bind fun u_49 => (F_X12_ownVerb 2 ([105, 110, 118, 101, 110, 116, 111, 114, 121] : List Int32) ([105] : List Int32) ([] : List Int32) 0 ([] : List Int32) u_49.2).bind fun u_55 => (F_X12_ownVerb 3 ([119, 97, 105, 116] : List Int32) ([122] : List Int32) ([] : List Int32) 0 ([] : List Int32) u_55.2).bind fun u_61 => (F_X12_ownVerb 4 ([116, 97, 107, 101] : List Int32) ([103, 101, 116] : List Int32) ([] : List Int32) 1 ([] : List Int32) u_61.2).bind fun u_67 => (F_X12_ownVerb 5 ([100, 114, 111, 112] : List Int32) ([] : List Int32) ([] : List Int32) 1 ([] : List Int32) u_67.2).bind fun u_73 => (F_X12_ownVerb 6 ([101, 120, 97, 109, 105, 110, 101] : List Int32) ([120] : List Int32) ([] : List Int32) 1 ([] : List Int32) u_73.2).bind fun u_79 => (F_X12_ownVerb 7 ([111, 112, 101, 110] : List Int32) ([] : List Int32) ([] : List Int32) 1 ([] : List Int32) u_79.2).bind fun u_85 => (F_X12_ownVerb 8 ([99, 108, 111, 115, 101] : List Int32) ([] : List Int32) ([] : List Int32) 1 ([] : List Int32) u_85.2).bind fun u_91 => (F_X12_ownVerb 9 ([112, 117, 116] : List Int32) ([] : List Int32) ([] : List Int32) 2 ([105, 110] : List Int32) u_91.2).bind fun u_97 => (F_X12_ownVerb 10 ([112, 117, 116] : List Int32) ([] : List Int32) ([] : List Int32) 2 ([111, 110] : List Int32) u_97.2).bind fun u_103 => bnd (mA u_103.2 59 (upd (u_103.2.2 59) (11 : Int32).toNatClampNeg 0)) fun σ_105 => bnd (mA σ_105 60 (upd (σ_105.2 60) (11 : Int32).toNatClampNeg (-1))) fun σ_107 => bnd (mA σ_107 54 (upd (σ_107.2 54) (90 : Int32).toNatClampNeg (vp_nar .byte 109))) fun σ_109 => bnd (mA σ_109 54 (upd (σ_109.2 54) (91 : Int32).toNatClampNeg (vp_nar .byte 101))) fun σ_111 => bnd (mA σ_111 55 (upd (σ_111.2 55) (10 : Int32).toNatClampNeg 2)) fun σ_113 => bnd (mA σ_113 56 (upd (σ_113.2 56) (1 : Int32).toNatClampNeg 1)) fun σ_115 => bnd ((σ_115.1 24)) fun (x_117 : Int32) => loopF LyJ FU (x_117, σ_115) )
def LyE (again : Int32 × MS → MR) (i : Int32) : (Int32 × MS → MR) → Int32 × MS → MR := (fun (again_154 : (Int32 × MS) → MR) (s_153 : Int32 × MS) => ( if 7 ≤ s_153.1 then ( bnd (i + 1) fun (x_159 : Int32) => again (x_159, s_153.2) ) else ( if ((7 * i) + s_153.1) < 0 ∨ 847 ≤ ((7 * i) + s_153.1).toNatClampNeg then none else bnd (mA s_153.2 51 (upd (s_153.2.2 51) ((7 * i) + s_153.1).toNatClampNeg 0)) fun σ_164 => if ((7 * i) + s_153.1) < 0 ∨ 847 ≤ ((7 * i) + s_153.1).toNatClampNeg then none else bnd (mA σ_164 53 (upd (σ_164.2 53) ((7 * i) + s_153.1).toNatClampNeg (vp_nar .boolean 0))) fun σ_168 => bnd (s_153.1 + 1) fun (x_170 : Int32) => again_154 (x_170, σ_168) ) ))
def LyD : (Int32 × MS → MR) → Int32 × MS → MR := (fun (again_40 : (Int32 × MS) → MR) (s_39 : Int32 × MS) => ( if 121 ≤ s_39.1 then (LyI s_39.2) else ( if s_39.1 < 0 ∨ 121 ≤ s_39.1.toNatClampNeg then none else bnd (mA s_39.2 52 (upd (s_39.2.2 52) s_39.1.toNatClampNeg 0)) fun σ_135 => if s_39.1 < 0 ∨ 121 ≤ s_39.1.toNatClampNeg then none else bnd (mA σ_135 56 (upd (σ_135.2 56) s_39.1.toNatClampNeg 0)) fun σ_139 => if s_39.1 < 0 ∨ 121 ≤ s_39.1.toNatClampNeg then none else bnd (mA σ_139 49 (upd (σ_139.2 49) s_39.1.toNatClampNeg 0)) fun σ_143 => if s_39.1 < 0 ∨ 121 ≤ s_39.1.toNatClampNeg then none else bnd (mA σ_143 122 (upd (σ_143.2 122) s_39.1.toNatClampNeg (vp_nar .boolean 0))) fun σ_147 => if s_39.1 < 0 ∨ 121 ≤ s_39.1.toNatClampNeg then none else bnd (mA σ_147 50 (upd (σ_147.2 50) s_39.1.toNatClampNeg (vp_nar .boolean 0))) fun σ_151 => loopF (LyE again_40 s_39.1) FU (0, σ_151) ) ))
def LyK (σ : MS) : MR := ( bnd (mI σ 78 (σ.1 35)) fun σ_23 => bnd (mI σ_23 79 (σ_23.1 36)) fun σ_25 => bnd (mI σ_25 80 (σ_25.1 37)) fun σ_27 => bnd (mI σ_27 81 (σ_27.1 38)) fun σ_29 => bnd (mI σ_29 82 (σ_29.1 40)) fun σ_31 => bnd (mI σ_31 83 0) fun σ_33 => bnd (mI σ_33 84 0) fun σ_35 => bnd (mI σ_35 63 0) fun σ_37 => loopF LyD FU (0, σ_37) )
def LyC : (Int32 × MS → MR) → Int32 × MS → MR := (fun (again_18 : (Int32 × MS) → MR) (s_17 : Int32 × MS) => ( if (s_17.2.1 23) ≤ s_17.1 then (LyK s_17.2) else ( if s_17.1 < 0 ∨ 40000 ≤ s_17.1.toNatClampNeg then none else bnd ((s_17.2.2 17 s_17.1.toNatClampNeg)) fun (x_175 : Int32) => if s_17.1 < 0 ∨ 40000 ≤ s_17.1.toNatClampNeg then none else bnd (mA s_17.2 64 (upd (s_17.2.2 64) s_17.1.toNatClampNeg x_175)) fun σ_179 => if s_17.1 < 0 ∨ 40000 ≤ s_17.1.toNatClampNeg then none else bnd ((σ_179.2 18 s_17.1.toNatClampNeg)) fun (x_183 : Int32) => if s_17.1 < 0 ∨ 40000 ≤ s_17.1.toNatClampNeg then none else bnd (mA σ_179 65 (upd (σ_179.2 65) s_17.1.toNatClampNeg x_183)) fun σ_187 => if s_17.1 < 0 ∨ 40000 ≤ s_17.1.toNatClampNeg then none else bnd ((σ_187.2 19 s_17.1.toNatClampNeg)) fun (x_191 : Int32) => if s_17.1 < 0 ∨ 40000 ≤ s_17.1.toNatClampNeg then none else bnd (mA σ_187 66 (upd (σ_187.2 66) s_17.1.toNatClampNeg x_191)) fun σ_195 => if s_17.1 < 0 ∨ 40000 ≤ s_17.1.toNatClampNeg then none else bnd ((σ_195.2 20 s_17.1.toNatClampNeg)) fun (x_199 : Int32) => if s_17.1 < 0 ∨ 40000 ≤ s_17.1.toNatClampNeg then none else bnd (mA σ_195 67 (upd (σ_195.2 67) s_17.1.toNatClampNeg x_199)) fun σ_203 => if s_17.1 < 0 ∨ 40000 ≤ s_17.1.toNatClampNeg then none else bnd ((σ_203.2 21 s_17.1.toNatClampNeg)) fun (x_207 : Int32) => if s_17.1 < 0 ∨ 40000 ≤ s_17.1.toNatClampNeg then none else bnd (mA σ_203 68 (upd (σ_203.2 68) s_17.1.toNatClampNeg x_207)) fun σ_211 => if s_17.1 < 0 ∨ 40000 ≤ s_17.1.toNatClampNeg then none else bnd ((σ_211.2 22 s_17.1.toNatClampNeg)) fun (x_215 : Int32) => if s_17.1 < 0 ∨ 40000 ≤ s_17.1.toNatClampNeg then none else bnd (mA σ_211 69 (upd (σ_211.2 69) s_17.1.toNatClampNeg x_215)) fun σ_219 => bnd (s_17.1 + 1) fun (x_221 : Int32) => again_18 (x_221, σ_219) ) ))
def LyB : (Int32 × MS → MR) → Int32 × MS → MR := (fun (again_12 : (Int32 × MS) → MR) (s_11 : Int32 × MS) => ( if (s_11.2.1 6) ≤ s_11.1 then ( loopF LyC FU (0, s_11.2) ) else ( if s_11.1 < 0 ∨ 16000 ≤ s_11.1.toNatClampNeg then none else bnd ((s_11.2.2 5 s_11.1.toNatClampNeg)) fun (x_226 : Int32) => if s_11.1 < 0 ∨ 16000 ≤ s_11.1.toNatClampNeg then none else bnd (mA s_11.2 45 (upd (s_11.2.2 45) s_11.1.toNatClampNeg (vp_nar .byte x_226))) fun σ_230 => bnd (s_11.1 + 1) fun (x_232 : Int32) => again_12 (x_232, σ_230) ) ))
def LyA : (Int32 × MS → MR) → Int32 × MS → MR := (fun (again_6 : (Int32 × MS) → MR) (s_5 : Int32 × MS) => ( if 4 ≤ s_5.1 then ( loopF LyB FU (0, s_5.2) ) else ( if s_5.1 < 0 ∨ 4 ≤ s_5.1.toNatClampNeg then none else bnd (mA s_5.2 100 (upd (s_5.2.2 100) s_5.1.toNatClampNeg (vp_nar .boolean 0))) fun σ_237 => bnd (s_5.1 + 1) fun (x_239 : Int32) => again_6 (x_239, σ_237) ) ))
theorem lay_eq (σ : MS) : F_X12_lay σ = bnd (mI σ 44 1) fun σ_1 => bnd (mI σ_1 86 0) fun σ_3 => loopF LyA FU (0, σ_3) := rfl
/-- a loop that counts, and what comes behind it -/
theorem cnt_loop {F : (Int32 × MS → MR) → Int32 × MS → MR} {n : Nat} {nx : MS → MR} {P : Nat → MS → Prop} (hn : n < 100000) (hend : ∀ (again : Int32 × MS → MR) (τ : MS), P n τ → F again (J (n : Nat), τ) = nx τ) (hstep : ∀ (again : Int32 × MS → MR) (k : Nat) (τ : MS), k < n → P k τ → ∃ τ', F again (J (k : Nat), τ) = again (J (k + 1 : Nat), τ') ∧ P (k + 1) τ') {τ : MS} (h : P 0 τ) : ∃ τ', loopF F FU (0, τ) = nx τ' ∧ P n τ' := by
  have hl : ∀ (d k : Nat) (τ : MS), k + d = n → P k τ → ∀ m, d < m → ∃ τ', loopF F m (J (k : Nat), τ) = nx τ' ∧ P n τ' := by
    intro d
    induction d with
    | zero =>
      intro k τ hk hP m hm
      obtain ⟨m, rfl⟩ : ∃ m', m = m' + 1 := ⟨m - 1, by omega⟩
      obtain rfl : k = n := by omega
      exact ⟨τ, hend (loopF F m) τ hP, hP⟩
    | succ d ih =>
      intro k τ hk hP m hm
      obtain ⟨m, rfl⟩ : ∃ m', m = m' + 1 := ⟨m - 1, by omega⟩
      obtain ⟨τ', e, hP'⟩ := hstep (loopF F m) k τ (by omega) hP
      obtain ⟨υ, u1, u2⟩ := ih (k + 1) τ' (by omega) hP' m (by omega)
      exact ⟨υ, by rw [← u1, ← e]; rfl, u2⟩
  exact hl n 0 τ (by omega) h FU (FU_gt (by omega))
theorem gNn {k n : Nat} (h : k < n) (hn : n < 100000) : ¬ (J (k : Nat) < 0 ∨ n ≤ (J (k : Nat)).toNatClampNeg) := by
  rintro (c | c)
  · exact J_nlt0 (by omega) (by omega) c
  · rw [J_natN (by omega)] at c; omega
theorem Jle_no {k n : Nat} (h : k < n) (hn : n < 100000) : ¬ J (n : Nat) ≤ J (k : Nat) := by
  rw [J_le (by omega) (by omega) (by omega) (by omega)]; omega
theorem J_suc (k : Nat) : J (k : Nat) + 1 = J (k + 1 : Nat) := by rw [J_lit, J_add]; rfl
/-- only these arrays have changed -/
def frA (S : Nat → Prop) (σ τ : MS) : Prop := τ.1 = σ.1 ∧ ∀ k, ¬ S k → τ.2 k = σ.2 k
theorem frA_rfl {S : Nat → Prop} {σ : MS} : frA S σ σ := ⟨rfl, fun _ _ => rfl⟩
theorem frA_mA {S : Nat → Prop} {σ τ : MS} {k : Nat} {g : Nat → Int32} (h : frA S σ τ) (hk : S k) : frA S σ (mA τ k g) := ⟨h.1, fun j hj => by rw [mA_2, if_neg (by rintro rfl; exact hj hk)]; exact h.2 j hj⟩
theorem lyA (σ : MS) : ∃ τ, loopF LyA FU (0, σ) = loopF LyB FU (0, τ) ∧ frA (fun k => k = 100) σ τ ∧ ∀ x, x < 4 → τ.2 100 x = 0 := by
  obtain ⟨τ, e, h⟩ := cnt_loop (F := LyA) (n := 4) (nx := fun τ => loopF LyB FU (0, τ)) (P := fun k τ => frA (fun k => k = 100) σ τ ∧ ∀ x, x < k → τ.2 100 x = 0) (by omega) (fun again τ _ => by
    unfold LyA
    rw [if_pos (show (4 : Int32) ≤ J ((4 : Nat) : Int) by decide)]) (fun again k τ hk ⟨h1, h2⟩ => by
    unfold LyA
    simp only [bndE]
    refine ⟨_, by rw [if_neg (show ¬ (4 : Int32) ≤ J (k : Nat) from Jle_no (n := 4) hk (by omega)), if_neg (gNn (n := 4) hk (by omega)), J_suc], frA_mA h1 rfl, fun x hx => ?_⟩
    rw [mA_2, if_pos rfl, J_natN (by omega), upd_s]
    by_cases q : x = k
    · rw [if_pos q]; rfl
    · rw [if_neg q]; exact h2 x (by omega)) (τ := σ) ⟨frA_rfl, fun x hx => by omega⟩
  exact ⟨τ, e, h⟩
theorem lyB {σ : MS} {L : Nat} {b : Nat → Int} (h6 : σ.1 6 = J (L : Nat)) (hL : L ≤ 4096) (h5 : ∀ i, i < L → σ.2 5 i = J (b i)) (hb : ∀ i, i < L → b i = 10 ∨ (32 ≤ b i ∧ b i ≤ 126)) : ∃ τ, loopF LyB FU (0, σ) = loopF LyC FU (0, τ) ∧ frA (fun k => k = 45) σ τ ∧ ∀ x, x < L → τ.2 45 x = J (b x) := by
  obtain ⟨τ, e, h⟩ := cnt_loop (F := LyB) (n := L) (nx := fun τ => loopF LyC FU (0, τ)) (P := fun k τ => frA (fun k => k = 45) σ τ ∧ ∀ x, x < k → τ.2 45 x = J (b x)) (by omega) (fun again τ h => by
    unfold LyB
    rw [if_pos (show τ.1 6 ≤ J (L : Nat) by rw [h.1.1, h6]; exact Int32.le_refl _)]) (fun again k τ hk ⟨h1, h2⟩ => by
    unfold LyB
    simp only [bndE]
    have g := gNn (k := k) (n := 16000) (by omega) (by omega)
    have hbk := hb k hk
    refine ⟨_, by rw [if_neg (show ¬ τ.1 6 ≤ J (k : Nat) by rw [h1.1, h6]; exact Jle_no hk (by omega)), if_neg g, if_neg g, J_suc], frA_mA h1 rfl, fun x hx => ?_⟩
    rw [mA_2, if_pos rfl, J_natN (by omega), upd_s]
    by_cases q : x = k
    · rw [if_pos q, h1.2 5 (by omega), h5 k hk, J_byte (by omega) (by omega), q]
    · rw [if_neg q]; exact h2 x (by omega)) (τ := σ) ⟨frA_rfl, fun x hx => by omega⟩
  exact ⟨τ, e, h⟩
theorem lyC {σ : MS} {n : Nat} (h23 : σ.1 23 = J (n : Nat)) (hn : n < 40000) : ∃ τ, loopF LyC FU (0, σ) = LyK τ ∧ frA (fun k => 64 ≤ k ∧ k ≤ 69) σ τ ∧ ∀ x, x < n → ∀ k, 17 ≤ k → k ≤ 22 → τ.2 (k + 47) x = σ.2 k x := by
  obtain ⟨τ, e, h⟩ := cnt_loop (F := LyC) (n := n) (nx := LyK) (P := fun m τ => frA (fun k => 64 ≤ k ∧ k ≤ 69) σ τ ∧ ∀ x, x < m → ∀ k, 17 ≤ k → k ≤ 22 → τ.2 (k + 47) x = σ.2 k x) (by omega) (fun again τ h => by
    unfold LyC
    rw [if_pos (show τ.1 23 ≤ J (n : Nat) by rw [h.1.1, h23]; exact Int32.le_refl _)]) (fun again k τ hk ⟨h1, h2⟩ => by
    unfold LyC
    simp only [bndE]
    have g := gNn (k := k) (n := 40000) (by omega) (by omega)
    refine ⟨(mA (mA (mA (mA (mA (mA τ 64 (upd (τ.2 64) k (τ.2 17 k))) 65 (upd (τ.2 65) k (τ.2 18 k))) 66 (upd (τ.2 66) k (τ.2 19 k))) 67 (upd (τ.2 67) k (τ.2 20 k))) 68 (upd (τ.2 68) k (τ.2 21 k))) 69 (upd (τ.2 69) k (τ.2 22 k))), by rw [if_neg (show ¬ τ.1 23 ≤ J (k : Nat) by rw [h1.1, h23]; exact Jle_no hk (by omega)), if_neg g, if_neg g, if_neg g, if_neg g, if_neg g, if_neg g, if_neg g, if_neg g, if_neg g, if_neg g, if_neg g, if_neg g, J_suc, J_natN (by omega)]; rfl, frA_mA (frA_mA (frA_mA (frA_mA (frA_mA (frA_mA h1 (by omega)) (by omega)) (by omega)) (by omega)) (by omega)) (by omega), fun x hx j j1 j2 => ?_⟩
    have e : (mA (mA (mA (mA (mA (mA τ 64 (upd (τ.2 64) k (τ.2 17 k))) 65 (upd (τ.2 65) k (τ.2 18 k))) 66 (upd (τ.2 66) k (τ.2 19 k))) 67 (upd (τ.2 67) k (τ.2 20 k))) 68 (upd (τ.2 68) k (τ.2 21 k))) 69 (upd (τ.2 69) k (τ.2 22 k))).2 (j + 47) = upd (τ.2 (j + 47)) k (τ.2 j k) := by
      have hs : j = 17 ∨ j = 18 ∨ j = 19 ∨ j = 20 ∨ j = 21 ∨ j = 22 := by omega
      rcases hs with rfl | rfl | rfl | rfl | rfl | rfl <;> rfl
    rw [e, upd_s]
    by_cases q : x = k
    · rw [if_pos q, h1.2 j (by omega), q]
    · rw [if_neg q]; exact h2 x (by omega) j j1 j2) (τ := σ) ⟨frA_rfl, fun x hx => by omega⟩
  exact ⟨τ, e, h⟩
