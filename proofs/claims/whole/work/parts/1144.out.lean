/-! what is told, in both -/
def OL (f : Nat → Int32) (n : Int32) (w : List Int) : Prop := n = J (w.length : Nat) ∧ w.length ≤ 3000 ∧ ∀ i, i < w.length → f i = J (w.getD i 0) ∧ 0 ≤ w.getD i 0 ∧ w.getD i 0 < 128
def apO (w v : List Int) : List Int := (w ++ v).take 3000
theorem apO_len {w v : List Int} : (apO w v).length ≤ 3000 := by unfold apO; rw [List.length_take]; omega
theorem apO_nil {w : List Int} (h : w.length ≤ 3000) : apO w [] = w := by unfold apO; rw [List.append_nil, List.take_of_length_le h]
theorem apO_apO (w v u : List Int) : apO (apO w v) u = apO w (v ++ u) := by
  unfold apO
  rw [← List.append_assoc, List.take_append (l₁ := w ++ v)]
  rw [List.take_append (l₁ := List.take 3000 (w ++ v)), List.take_take, Nat.min_self, List.length_take]
  congr 1
  by_cases h : (w ++ v).length ≤ 3000
  · rw [Nat.min_eq_right h]
  · rw [Nat.min_eq_left (by omega), show 3000 - (w ++ v).length = 0 by omega, Nat.sub_self]
theorem OL_one {f : Nat → Int32} {w : List Int} (h1 : w.length < 3000) (h : ∀ i, i < w.length → f i = J (w.getD i 0) ∧ 0 ≤ w.getD i 0 ∧ w.getD i 0 < 128) {c : Int} (hc : 0 ≤ c ∧ c < 128) : OL (upd f w.length (J c)) (J (w.length + 1 : Nat)) (apO w [c]) := by
  have e : apO w [c] = w ++ [c] := by unfold apO; rw [List.take_of_length_le]; rw [List.length_append, List.length_singleton]; omega
  rw [e]
  refine ⟨by rw [List.length_append, List.length_singleton], by rw [List.length_append, List.length_singleton]; omega, fun i hi => ?_⟩
  rw [List.length_append, List.length_singleton] at hi
  rw [upd_s]
  by_cases q : i = w.length
  · have e : (w ++ [c]).getD i 0 = c := by rw [List.getD_eq_getElem?_getD, List.getElem?_append_right (by omega), q, Nat.sub_self]; rfl
    rw [if_pos q, e]; exact ⟨rfl, hc⟩
  · have e : (w ++ [c]).getD i 0 = w.getD i 0 := by rw [List.getD_eq_getElem?_getD, List.getElem?_append_left (by omega), ← List.getD_eq_getElem?_getD]
    rw [if_neg q, e]; exact h i (by omega)
theorem apO_full {w : List Int} (h : w.length = 3000) (v : List Int) : apO w v = w := by
  unfold apO
  rw [List.take_append, List.take_of_length_le (by omega), h, Nat.sub_self, List.take_zero, List.append_nil]
/-- the class: only what is told changes -/
def o8 (Γ Δ : HS) : Prop := ∀ r, r ≠ 8 → Δ r = Γ r
theorem o8_rfl {Γ : HS} : o8 Γ Γ := fun _ _ => rfl
theorem o8_trans {Γ Δ Θ : HS} (h : o8 Γ Δ) (g : o8 Δ Θ) : o8 Γ Θ := fun r hr => by rw [g r hr, h r hr]
def OC (Γ : HS) (w : List Int) : Prop := OL ((Γ 8).2.1 0) ((Γ 8).1 1) w
theorem mrg8 {Γ Δ : HS} (h : o8 Γ Δ) : mrg (fun j => j == 8) Γ Δ = Δ := mrgE (fun r hr => h r (by rintro rfl; exact absurd hr (by decide)))
theorem ot_sign {Γ : HS} {w : List Int} {c : Int} (h : OC Γ w) (hc : 0 ≤ c ∧ c < 128) : ∃ Δ, F_X5_sign (J c) Γ = some ((0 : Int32), Δ) ∧ o8 Γ Δ ∧ OC Δ (apO w [c]) := by
  obtain ⟨h1, h2, h3⟩ := h
  unfold F_X5_sign
  rw [h1, if_neg (J_nlt0 (by omega) (by omega))]
  by_cases q : w.length = 3000
  · rw [if_pos (by rw [show (3000 : Int32) = J 3000 from rfl, J_le (by omega) (by omega) (by omega) (by omega)]; omega)]
    exact ⟨_, rfl, o8_rfl, by rw [apO_full q]; exact ⟨h1, h2, h3⟩⟩
  · rw [if_neg (by rw [show (3000 : Int32) = J 3000 from rfl, J_le (by omega) (by omega) (by omega) (by omega)]; omega), bndE, if_neg (by rw [J_natN (by omega)]; rintro (a | a); exact J_nlt0 (by omega) (by omega) a; omega), bndE, bndE, J_natN (by omega), J_i8 (by omega) (by omega), J_byte (by omega) (by omega), show ((cA' Γ 8 0 (upd ((Γ 8).2.1 0) w.length (J c))) 8).1 1 = (Γ 8).1 1 from rfl, h1, J_suc]
    refine ⟨_, rfl, fun r hr => by rw [cI_r, if_neg hr, cA_r, if_neg hr], ?_⟩
    exact OL_one (by omega) h3 hc
/-- a text of the program -/
def TXL (S : List Int32) (v : List Int) : Prop := S.length = v.length ∧ v.length < 1000 ∧ ∀ k, k < v.length → g_chr (S.getD k 0) = J (v.getD k 0) ∧ 0 ≤ v.getD k 0 ∧ v.getD k 0 < 128
def tlI (S : List Int32) : List Int := S.map (fun x => x.toInt)
def Tx1 (b0 : List Int32) : ((Int32 × HS) → HR) → Int32 × HS → HR := (fun (again_2 : (Int32 × HS) → HR) (s_1 : Int32 × HS) => ( bnd ((Int32.ofNat (b0).length)) fun (x_5 : Int32) => if x_5 ≤ s_1.1 then ( some (0, s_1.2) ) else ( if s_1.1 < 0 ∨ Int32.ofNat (b0).length ≤ s_1.1 then none else bnd ((g_chr ((b0).getD s_1.1.toNatClampNeg 0))) fun (x_12 : Int32) => (F_X5_sign x_12 s_1.2).bind fun u_14 => bnd (s_1.1 + 1) fun (x_16 : Int32) => again_2 (x_16, u_14.2) ) ))
theorem text_eq (b0 : List Int32) (Γ : HS) : F_X5_text b0 Γ = loopF (Tx1 b0) FU (0, Γ) := rfl
theorem Tx1_s (b0 : List Int32) (n : Nat) (a : Int32) (Γ : HS) : loopF (Tx1 b0) (n + 1) (a, Γ) = ( bnd ((Int32.ofNat (b0).length)) fun (x_5 : Int32) => if x_5 ≤ a then ( some (0, Γ) ) else ( if a < 0 ∨ Int32.ofNat (b0).length ≤ a then none else bnd ((g_chr ((b0).getD a.toNatClampNeg 0))) fun (x_12 : Int32) => (F_X5_sign x_12 Γ).bind fun u_14 => bnd (a + 1) fun (x_16 : Int32) => loopF (Tx1 b0) n (x_16, u_14.2) ) ) := rfl
theorem take_one {v : List Int} {k : Nat} (h : k < v.length) : v.drop k = v.getD k 0 :: v.drop (k + 1) := by
  rw [List.getD_eq_getElem?_getD, List.getElem?_eq_getElem h]
  exact List.drop_eq_getElem_cons h
theorem ot_text {S : List Int32} {v : List Int} (hS : TXL S v) {Γ : HS} {w : List Int} (h : OC Γ w) : ∃ Δ, F_X5_text S Γ = some ((0 : Int32), Δ) ∧ o8 Γ Δ ∧ OC Δ (apO w v) := by
  obtain ⟨s1, s2, s3⟩ := hS
  have key : ∀ (d k : Nat) (Γ : HS) (w : List Int), k + d = v.length → OC Γ w → ∀ n, d < n → ∃ Δ, loopF (Tx1 S) n (J (k : Nat), Γ) = some ((0 : Int32), Δ) ∧ o8 Γ Δ ∧ OC Δ (apO w (v.drop k)) := by
    intro d
    induction d with
    | zero =>
      intro k Γ w hk h n hn
      obtain ⟨n, rfl⟩ : ∃ e, n = e + 1 := ⟨n - 1, by omega⟩
      rw [Tx1_s, bndE, J_ofNat, if_pos (by rw [J_le (by omega) (by omega) (by omega) (by omega)]; omega), List.drop_of_length_le (by omega), apO_nil h.2.1]
      exact ⟨_, rfl, o8_rfl, h⟩
    | succ d ih =>
      intro k Γ w hk h n hn
      obtain ⟨n, rfl⟩ : ∃ e, n = e + 1 := ⟨n - 1, by omega⟩
      obtain ⟨c1, c2, c3⟩ := s3 k (by omega)
      obtain ⟨Δ, e1, e2, e3⟩ := ot_sign h (c := v.getD k 0) ⟨c2, c3⟩
      obtain ⟨Θ, f1, f2, f3⟩ := ih (k + 1) Δ _ (by omega) e3 n (by omega)
      rw [Tx1_s, bndE, J_ofNat, if_neg (by rw [J_le (by omega) (by omega) (by omega) (by omega)]; omega), if_neg (by rw [J_le (by omega) (by omega) (by omega) (by omega)]; rintro (a | a); exact J_nlt0 (by omega) (by omega) a; omega), J_natN (by omega), c1, bndE, e1, Option.bind_some, bndE, J_suc, f1]
      refine ⟨Θ, rfl, o8_trans e2 f2, ?_⟩
      rw [take_one (show k < v.length by omega), show v.getD k 0 :: v.drop (k + 1) = [v.getD k 0] ++ v.drop (k + 1) from rfl, ← apO_apO]
      exact f3
  rw [text_eq]
  have := key v.length 0 Γ w (by omega) h FU (FU_gt (by omega))
  rw [List.drop_zero] at this
  exact this
theorem ot_line {S : List Int32} {v : List Int} (hS : TXL S v) {Γ : HS} {w : List Int} (h : OC Γ w) : ∃ Δ, F_X5_line S Γ = some ((0 : Int32), Δ) ∧ o8 Γ Δ ∧ OC Δ (apO w (v ++ [10])) := by
  obtain ⟨Δ, e1, e2, e3⟩ := ot_text hS h
  obtain ⟨Θ, f1, f2, f3⟩ := ot_sign e3 (c := 10) (by omega)
  unfold F_X5_line
  rw [e1, Option.bind_some]
  dsimp only
  rw [show F_X5_sign 10 Δ = _ from f1]
  exact ⟨Θ, rfl, o8_trans e2 f2, by rw [← apO_apO]; exact f3⟩
/-- a row of bytes -/
theorem ot_row {Γ : HS} {w v : List Int} (h : OC Γ w) (hv : v.length ≤ 200) (h15 : ∀ k, k < v.length → (Γ 10).2.1 15 k = J (v.getD k 0) ∧ 0 ≤ v.getD k 0 ∧ v.getD k 0 < 128) : ∃ Δ, F_X5_row (J (v.length : Nat)) Γ = some ((0 : Int32), Δ) ∧ o8 Γ Δ ∧ OC Δ (apO w v) := by
  obtain ⟨h1, h2, h3⟩ := h
  unfold F_X5_row
  rw [if_neg (by rw [show (200 : Int32) = J 200 from rfl, J_lt (by omega) (by omega) (by omega) (by omega)]; omega), bndE, h1, show (3000 : Int32) - J (w.length : Nat) = J (3000 - w.length : Nat) by rw [show (3000 : Int32) = J 3000 from rfl, J_sub]; congr 1; omega]
  have eM : (if J (3000 - w.length : Nat) < J (v.length : Nat) then J (3000 - w.length : Nat) else J (v.length : Nat)) = J (min (3000 - w.length) v.length : Nat) := by
    by_cases q : 3000 - w.length < v.length
    · rw [if_pos (by rw [J_lt (by omega) (by omega) (by omega) (by omega)]; omega), Nat.min_eq_left (by omega)]
    · rw [if_neg (by rw [J_lt (by omega) (by omega) (by omega) (by omega)]; omega), Nat.min_eq_right (by omega)]
  rw [eM, bndE]
  have hm1 := Nat.min_le_left (3000 - w.length) v.length
  have hm2 := Nat.min_le_right (3000 - w.length) v.length
  have hl : (apO w v).length = w.length + min (3000 - w.length) v.length := by
    unfold apO; rw [List.length_take, List.length_append]; omega
  have hg : ∀ i, i < (apO w v).length → (apO w v).getD i 0 = if i < w.length then w.getD i 0 else v.getD (i - w.length) 0 := fun i hi => by
    have hi2 : i < 3000 := by omega
    unfold apO
    rw [List.getD_eq_getElem?_getD, List.getElem?_take, if_pos hi2]
    by_cases q : i < w.length
    · rw [if_pos q, List.getElem?_append_left q, List.getD_eq_getElem?_getD]
    · rw [if_neg q, List.getElem?_append_right (by omega), List.getD_eq_getElem?_getD]
  generalize hmm : min (3000 - w.length) v.length = m at *
  by_cases q : m = 0
  · rw [if_pos (by rw [q]; decide)]
    refine ⟨_, rfl, o8_rfl, by rw [hl, q]; exact h1, by omega, fun i hi => ?_⟩
    rw [hg i hi, if_pos (by omega)]; exact h3 i (by omega)
  · have z0 : (0 : Int32).toNatClampNeg = 0 := rfl
    rw [if_neg (by rw [show (0 : Int32) = J 0 from rfl, J_le (by omega) (by omega) (by omega) (by omega)]; omega), if_neg (J_nlt0 (by omega) (by omega)), z0, J_natN (by omega), J_natN (by omega), if_neg (by
      rintro (a | a | a | a | a | a)
      · exact absurd a (by decide)
      · exact J_nlt0 (by omega) (by omega) a
      · exact J_nlt0 (by omega) (by omega) a
      · omega
      · omega
      · refine a (fun z hz => ?_)
        obtain ⟨e1, e2, e3⟩ := h15 z (by omega)
        rw [show 0 + z = z by omega, e1]
        exact J_byte (by omega) (by omega)), bndE, bndE]
    refine ⟨_, rfl, fun r hr => by rw [cI_r, if_neg hr, cA_r, if_neg hr], ?_, by omega, fun i hi => ?_⟩
    · show (Γ 8).1 1 + J (m : Nat) = _
      rw [h1, J_add, hl]; rfl
    · rw [hg i hi]
      show va_cpy ((Γ 10).2.1 15) ((Γ 8).2.1 0) 0 w.length m i = _ ∧ _
      unfold va_cpy
      by_cases q1 : i < w.length
      · rw [if_neg (by omega)]
        simp only [if_pos q1]
        exact h3 i q1
      · rw [if_pos (by omega)]
        simp only [if_neg q1]
        rw [show 0 + (i - w.length) = i - w.length by omega]; exact h15 _ (by omega)
