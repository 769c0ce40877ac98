/-! the lists of words that the class learns first -/
def KS1 : List Int32 := [110, 111, 114, 116, 104, 32, 115, 111, 117, 116, 104, 32, 101, 97, 115, 116, 32, 119, 101, 115, 116, 32, 117, 112, 32, 100, 111, 119, 110, 32, 99, 111, 110, 116, 97, 105, 110, 101, 114, 32, 102, 105, 120, 101, 100, 32, 104, 105, 100, 100, 101, 110, 32, 108, 105, 103, 104, 116, 32, 111, 112, 101, 110, 32, 115, 117, 112, 112, 111, 114, 116, 101, 114, 32, 100, 97, 114, 107, 32, 97, 108, 111, 110, 101, 32, 111, 110, 101, 32, 116, 119, 111, 32]
def KS1w : List (List Int) := [[110, 111, 114, 116, 104], [115, 111, 117, 116, 104], [101, 97, 115, 116], [119, 101, 115, 116], [117, 112], [100, 111, 119, 110], [99, 111, 110, 116, 97, 105, 110, 101, 114], [102, 105, 120, 101, 100], [104, 105, 100, 100, 101, 110], [108, 105, 103, 104, 116], [111, 112, 101, 110], [115, 117, 112, 112, 111, 114, 116, 101, 114], [100, 97, 114, 107], [97, 108, 111, 110, 101], [111, 110, 101], [116, 119, 111]]
def KS1s : List Nat := [0, 6, 12, 17, 22, 25, 30, 40, 46, 53, 59, 64, 74, 79, 85, 89, 93]
def KS2 : List Int32 := [97, 110, 100, 32, 111, 114, 32, 110, 111, 116, 32, 105, 110, 32, 104, 97, 115, 32, 104, 111, 108, 100, 101, 114, 32, 102, 105, 114, 115, 116, 32, 110, 101, 120, 116, 32, 114, 97, 110, 100, 111, 109, 32, 104, 101, 114, 101, 32, 110, 111, 117, 110, 32, 115, 101, 99, 111, 110, 100, 32, 112, 108, 97, 121, 101, 114, 32, 110, 97, 109, 101, 32]
def KS2w : List (List Int) := [[97, 110, 100], [111, 114], [110, 111, 116], [105, 110], [104, 97, 115], [104, 111, 108, 100, 101, 114], [102, 105, 114, 115, 116], [110, 101, 120, 116], [114, 97, 110, 100, 111, 109], [104, 101, 114, 101], [110, 111, 117, 110], [115, 101, 99, 111, 110, 100], [112, 108, 97, 121, 101, 114], [110, 97, 109, 101]]
def KS2s : List Nat := [0, 4, 7, 11, 14, 18, 25, 31, 36, 43, 48, 53, 60, 67, 72]
def KS3 : List Int32 := [114, 111, 111, 109, 32, 116, 104, 105, 110, 103, 32, 118, 101, 114, 98, 32, 118, 97, 114, 32, 97, 114, 114, 97, 121, 32, 100, 101, 102, 32, 111, 110, 32, 101, 97, 99, 104, 32, 116, 101, 120, 116, 32, 101, 120, 105, 116, 32, 119, 111, 114, 100, 32]
def KS3w : List (List Int) := [[114, 111, 111, 109], [116, 104, 105, 110, 103], [118, 101, 114, 98], [118, 97, 114], [97, 114, 114, 97, 121], [100, 101, 102], [111, 110], [101, 97, 99, 104], [116, 101, 120, 116], [101, 120, 105, 116], [119, 111, 114, 100]]
def KS3s : List Nat := [0, 5, 11, 16, 20, 26, 30, 33, 38, 43, 48, 53]
def KS4 : List Int32 := [115, 97, 121, 32, 108, 101, 116, 32, 109, 111, 118, 101, 32, 116, 111, 32, 114, 101, 109, 111, 118, 101, 32, 115, 101, 116, 32, 99, 108, 101, 97, 114, 32, 105, 102, 32, 101, 108, 115, 101, 32, 119, 104, 105, 108, 101, 32, 114, 101, 116, 117, 114, 110, 32, 100, 111, 110, 101, 32, 119, 105, 110, 32, 108, 111, 115, 101, 32, 97, 110, 121, 32, 97, 108, 108, 32]
def KS4w : List (List Int) := [[115, 97, 121], [108, 101, 116], [109, 111, 118, 101], [116, 111], [114, 101, 109, 111, 118, 101], [115, 101, 116], [99, 108, 101, 97, 114], [105, 102], [101, 108, 115, 101], [119, 104, 105, 108, 101], [114, 101, 116, 117, 114, 110], [100, 111, 110, 101], [119, 105, 110], [108, 111, 115, 101], [97, 110, 121], [97, 108, 108]]
def KS4s : List Nat := [0, 4, 8, 13, 16, 23, 27, 33, 36, 41, 47, 54, 59, 63, 68, 72, 76]
def KS5 : List Int32 := [108, 111, 111, 107, 32, 105, 110, 118, 101, 110, 116, 111, 114, 121, 32, 119, 97, 105, 116, 32, 116, 97, 107, 101, 32, 100, 114, 111, 112, 32, 101, 120, 97, 109, 105, 110, 101, 32, 111, 112, 101, 110, 32, 99, 108, 111, 115, 101, 32, 112, 117, 116, 105, 110, 32, 112, 117, 116, 111, 110, 32, 103, 111, 32]
def KS5w : List (List Int) := [[108, 111, 111, 107], [105, 110, 118, 101, 110, 116, 111, 114, 121], [119, 97, 105, 116], [116, 97, 107, 101], [100, 114, 111, 112], [101, 120, 97, 109, 105, 110, 101], [111, 112, 101, 110], [99, 108, 111, 115, 101], [112, 117, 116, 105, 110], [112, 117, 116, 111, 110], [103, 111]]
def KS5s : List Nat := [0, 5, 15, 20, 25, 30, 38, 43, 49, 55, 61, 64]
/-- all of them, by their numbers -/
def KWC : List (List Int) := [[110, 111, 114, 116, 104], [115, 111, 117, 116, 104], [101, 97, 115, 116], [119, 101, 115, 116], [117, 112], [100, 111, 119, 110], [99, 111, 110, 116, 97, 105, 110, 101, 114], [102, 105, 120, 101, 100], [104, 105, 100, 100, 101, 110], [108, 105, 103, 104, 116], [111, 112, 101, 110], [115, 117, 112, 112, 111, 114, 116, 101, 114], [100, 97, 114, 107], [97, 108, 111, 110, 101], [111, 110, 101], [116, 119, 111], [97, 110, 100], [111, 114], [110, 111, 116], [105, 110], [104, 97, 115], [104, 111, 108, 100, 101, 114], [102, 105, 114, 115, 116], [110, 101, 120, 116], [114, 97, 110, 100, 111, 109], [104, 101, 114, 101], [110, 111, 117, 110], [115, 101, 99, 111, 110, 100], [112, 108, 97, 121, 101, 114], [110, 97, 109, 101], [114, 111, 111, 109], [116, 104, 105, 110, 103], [118, 101, 114, 98], [118, 97, 114], [97, 114, 114, 97, 121], [100, 101, 102], [111, 110], [101, 97, 99, 104], [116, 101, 120, 116], [101, 120, 105, 116], [119, 111, 114, 100], [115, 97, 121], [108, 101, 116], [109, 111, 118, 101], [116, 111], [114, 101, 109, 111, 118, 101], [115, 101, 116], [99, 108, 101, 97, 114], [105, 102], [101, 108, 115, 101], [119, 104, 105, 108, 101], [114, 101, 116, 117, 114, 110], [100, 111, 110, 101], [119, 105, 110], [108, 111, 115, 101], [97, 110, 121], [97, 108, 108], [108, 111, 111, 107], [105, 110, 118, 101, 110, 116, 111, 114, 121], [119, 97, 105, 116], [116, 97, 107, 101], [100, 114, 111, 112], [101, 120, 97, 109, 105, 110, 101], [99, 108, 111, 115, 101], [112, 117, 116, 105, 110], [112, 117, 116, 111, 110], [103, 111]]
/-- a list of words, each with a blank behind: where they begin -/
def lstOk (S : List Int32) (W : List (List Int)) (s : List Nat) : Prop := S.length < 1000 ∧ s.getD 0 0 = 0 ∧ s.getD W.length 0 = S.length ∧ W.length ≤ S.length ∧ ∀ k, k < W.length → 0 < (W.getD k []).length ∧ (W.getD k []).length ≤ 12 ∧ s.getD (k + 1) 0 = s.getD k 0 + (W.getD k []).length + 1 ∧ s.getD (k + 1) 0 ≤ S.length ∧ (∀ j, j < (W.getD k []).length → g_chr (S.getD (s.getD k 0 + j) 0) = J ((W.getD k []).getD j 0) ∧ 97 ≤ (W.getD k []).getD j 0 ∧ (W.getD k []).getD j 0 ≤ 122) ∧ g_chr (S.getD (s.getD k 0 + (W.getD k []).length) 0) = J 32
theorem KS1_ok : lstOk KS1 KS1w KS1s := by unfold lstOk; decide +kernel
theorem KS2_ok : lstOk KS2 KS2w KS2s := by unfold lstOk; decide +kernel
theorem KS3_ok : lstOk KS3 KS3w KS3s := by unfold lstOk; decide +kernel
theorem KS4_ok : lstOk KS4 KS4w KS4s := by unfold lstOk; decide +kernel
theorem KS5_ok : lstOk KS5 KS5w KS5s := by unfold lstOk; decide +kernel
theorem lst_nmW {S : List Int32} {W : List (List Int)} {s : List Nat} (h : lstOk S W s) {k : Nat} (hk : k < W.length) : nmW (W.getD k []) := by
  obtain ⟨h1, h2, -, -, h5, -⟩ := h.2.2.2.2 k hk
  refine ⟨h1, h2, fun j hj => ?_⟩
  have := h5 j hj
  exact isLF_iff.mpr (Or.inl ⟨this.2.1, this.2.2⟩)
theorem c_wordEnd {S : List Int32} {W : List (List Int)} {s : List Nat} (h : lstOk S W s) {k : Nat} (hk : k < W.length) (Γ : HS) : Ok (F_X11_wordEnd S (J (s.getD k 0 : Nat)) Γ) fun u => u = (J ((s.getD k 0 + (W.getD k []).length : Nat) : Int), Γ) := by
  obtain ⟨h1, -, -, -, h2⟩ := h
  obtain ⟨t1, t2, t3, t4, t5, t6⟩ := h2 k hk
  generalize s.getD k 0 = p at *
  generalize W.getD k [] = w at *
  unfold F_X11_wordEnd
  refine Ok_bnd ?_
  have e0 : (if (0 : Int32) < J (p : Int) then J (p : Int) else 0) = J (p : Int) := by
    by_cases q : p = 0
    · subst q; rfl
    · rw [if_pos (by rw [show (0 : Int32) = J 0 from rfl, J_lt (by omega) (by omega) (by omega) (by omega)]; omega)]
  rw [e0]
  simp only [bnd, J_ofNat]
  refine Ok_loop (P := fun s m => ∃ j : Nat, j ≤ w.length ∧ m = w.length - j ∧ s = (J (p + j : Nat), Γ)) ?_ FU _ w.length (FU_gt (by omega)) ⟨0, by omega, rfl, rfl⟩
  rintro a s m ⟨j, hj, rfl, rfl⟩ ih
  refine Ok_neg (by simp (disch := omega) only [J_lit, J_add, J_sub, J_mul, J_neg, J_lt, J_le, J_eq, J_natN, J_nat, Int.toNat_natCast, tnl, tnc] <;> omega) ?_
  refine Ok_neg (by simp (disch := omega) only [J_lit, J_add, J_sub, J_mul, J_neg, J_lt, J_le, J_eq, J_natN, J_nat, Int.toNat_natCast, tnl, tnc] <;> omega) ?_
  dsimp only
  rw [J_natN (by omega)]
  by_cases q : j = w.length
  · subst q
    rw [t6]
    exact Ok_pos (by decide) (Ok_some rfl)
  · obtain ⟨y1, y2, y3⟩ := t5 j (by omega)
    rw [y1]
    refine Ok_neg (by simp (disch := omega) only [J_lit, J_add, J_sub, J_mul, J_neg, J_lt, J_le, J_eq, J_natN, J_nat, Int.toNat_natCast, tnl, tnc] <;> omega) ?_
    rw [show J ((p + j : Nat) : Int) + 1 = J ((p + (j + 1) : Nat) : Int) by rw [J_lit, J_add]; rfl]
    exact ih _ (w.length - (j + 1)) (by omega) ⟨j + 1, by omega, rfl, rfl⟩
theorem c_packed {S : List Int32} {W : List (List Int)} {s : List Nat} (h : lstOk S W s) {k : Nat} (hk : k < W.length) (n : Nat) (hn : n ≤ 12) (Γ : HS) : Ok (F_X11_packed S (J (s.getD k 0 : Nat)) (J ((s.getD k 0 + (W.getD k []).length : Nat) : Int)) (J n) Γ) fun u => u = (L64 (dgF (dgw (W.getD k [])) n), Γ) := by
  obtain ⟨h1, -, -, -, h2⟩ := h
  obtain ⟨t1, t2, t3, t4, t5, t6⟩ := h2 k hk
  generalize s.getD k 0 = p at *
  generalize W.getD k [] = w at *
  unfold F_X11_packed
  simp only [bnd, J_ofNat]
  refine Ok_loop (P := fun s m => ∃ j : Nat, j ≤ n ∧ m = n - j ∧ s = (L64 (dgF (dgw w) j), J j, Γ)) ?_ FU _ n (FU_gt (by omega)) ⟨0, by omega, rfl, rfl⟩
  rintro a s m ⟨j, hj, rfl, rfl⟩ ih
  have hstep : j < n → ∀ d : Int, d = dgw w j → Ok (a (L64 (dgF (dgw w) j) * 37 + L64 d, J (j : Nat) + 1, Γ)) fun u => u = (L64 (dgF (dgw w) n), Γ) := by
    intro hjn d hd
    rw [show (37 : Int64) = L64 37 from rfl, L_mul, L_add, show J (j : Nat) + 1 = J (j + 1 : Nat) by rw [J_lit, J_add]; rfl, hd]
    exact ih _ (n - (j + 1)) (by omega) ⟨j + 1, by omega, rfl, rfl⟩
  by_cases q : j = n
  · subst q
    exact Ok_pos (Int32.le_refl _) (Ok_some rfl)
  · refine Ok_neg (by simp (disch := omega) only [J_lit, J_add, J_sub, J_mul, J_neg, J_lt, J_le, J_eq, J_natN, J_nat, Int.toNat_natCast, tnl, tnc] <;> omega) ?_
    rw [J_add, ← Int.natCast_add]
    refine Ok_neg (by simp (disch := omega) only [J_lit, J_add, J_sub, J_mul, J_neg, J_lt, J_le, J_eq, J_natN, J_nat, Int.toNat_natCast, tnl, tnc] <;> omega) ?_
    by_cases q2 : j < w.length
    · obtain ⟨y1, y2, y3⟩ := t5 j q2
      refine Ok_neg (by simp (disch := omega) only [J_lit, J_add, J_sub, J_mul, J_neg, J_lt, J_le, J_eq, J_natN, J_nat, Int.toNat_natCast, tnl, tnc] <;> omega) ?_
      refine Ok_neg (by simp (disch := omega) only [J_lit, J_add, J_sub, J_mul, J_neg, J_lt, J_le, J_eq, J_natN, J_nat, Int.toNat_natCast, tnl, tnc] <;> omega) ?_
      refine Ok_neg (by decide) ?_
      refine Ok_neg (by simp (disch := omega) only [J_lit, J_add, J_sub, J_mul, J_neg, J_lt, J_le, J_eq, J_natN, J_nat, Int.toNat_natCast, tnl, tnc] <;> omega) ?_
      rw [J_natN (by omega), y1, c_nameSign (by omega), Option.bind_some]
      have hr := nsg_rng (c := w.getD j 0) (isLF_iff.mpr (Or.inl ⟨y2, y3⟩))
      dsimp only
      rw [J_64 (by omega) (by omega)]
      exact hstep (by omega) _ (by unfold dgw; rw [if_pos q2])
    · refine Ok_pos (by simp (disch := omega) only [J_lit, J_add, J_sub, J_mul, J_neg, J_lt, J_le, J_eq, J_natN, J_nat, Int.toNat_natCast, tnl, tnc] <;> omega) ?_
      refine Ok_pos trivial ?_
      exact hstep (by omega) 0 (by unfold dgw; rw [if_neg q2])
/-- numbers that are learned one after the other, each once -/
def lrnF (cl : List Int) : List Int → List Int
  | [] => cl
  | z :: zs => lrnF (if cl.contains z then cl else cl ++ [z]) zs
def wfrL (Γ Γ' : HS) : Prop := (∀ r, r ≠ 1 → Γ' r = Γ r) ∧ (∀ k, k ≠ 10 → (Γ' 1).1 k = (Γ 1).1 k) ∧ (∀ k, k ≠ 9 → (Γ' 1).2.1 k = (Γ 1).2.1 k)
theorem wfrN_trans {Γ Δ Θ : HS} (h : wfrN Γ Δ) (i : wfrN Δ Θ) : wfrN Γ Θ := ⟨fun r hr => by rw [i.1 r hr, h.1 r hr], fun k hk => by rw [i.2.1 k hk, h.2.1 k hk], fun k hk => by rw [i.2.2 k hk, h.2.2 k hk]⟩
theorem c_numberOf2 {cl : List Int} {Γ : HS} {z : Int} (h : cnam cl Γ) (hl : cl.length < 4500) (hz : 0 ≤ z) (hz2 : z < 9223372036854775808) : Ok (F_X10_numberOf (L64 z) Γ) fun u => ∃ (c : Nat), u.1 = J c ∧ wfrN Γ u.2 ∧ c < (if cl.contains z then cl else cl ++ [z]).length ∧ (if cl.contains z then cl else cl ++ [z]).getD c 0 = z ∧ cnam (if cl.contains z then cl else cl ++ [z]) u.2 := by
  refine Ok_mono (c_numberOf h hl hz hz2) ?_
  rintro u ⟨c, h1, h2, ⟨h3, h4, h5⟩ | ⟨h3, h4, h5⟩⟩
  · have hc : cl.contains z = true := by
      rw [List.contains_iff_mem, ← h4]
      rw [List.getD_eq_getElem?_getD, List.getElem?_eq_getElem h3]; exact List.getElem_mem h3
    rw [if_pos hc]
    exact ⟨c, h1, h2, h3, h4, by rw [h5]; exact h⟩
  · have hc : ¬ cl.contains z = true := by
      rw [List.contains_iff_mem]
      intro hm
      obtain ⟨i, hi, he⟩ := List.getElem_of_mem hm
      exact h4 i hi (by rw [List.getD_eq_getElem?_getD, List.getElem?_eq_getElem hi]; exact he)
    rw [if_neg hc]
    refine ⟨c, h1, h2, by rw [h3]; simp, by rw [h3, List.getD_eq_getElem?_getD, List.getElem?_append_right (Nat.le_refl _)]; simp, h5⟩
theorem lrnF_take {W : List (List Int)} {cl : List Int} : ∀ k, k < W.length → lrnF cl ((W.take (k + 1)).map pk) = if (lrnF cl ((W.take k).map pk)).contains (pk (W.getD k [])) then lrnF cl ((W.take k).map pk) else lrnF cl ((W.take k).map pk) ++ [pk (W.getD k [])] := by
  have hap : ∀ (a : List Int) (cl : List Int) (z : Int), lrnF cl (a ++ [z]) = if (lrnF cl a).contains z then lrnF cl a else lrnF cl a ++ [z] := by
    intro a
    induction a with
    | nil => intro cl z; rfl
    | cons x a ih => intro cl z; exact ih _ z
  intro k hk
  rw [List.take_succ_eq_append_getElem hk, List.map_append, List.map_cons, List.map_nil, hap, List.getD_eq_getElem?_getD, List.getElem?_eq_getElem hk]; rfl
theorem lrnF_len {cl : List Int} : ∀ zs, (lrnF cl zs).length ≤ cl.length + zs.length := by
  intro zs
  induction zs generalizing cl with
  | nil => exact Nat.le_refl _
  | cons z zs ih =>
    have h1 := ih (cl := if cl.contains z then cl else cl ++ [z])
    have h2 : (if cl.contains z then cl else cl ++ [z]).length ≤ cl.length + 1 := by split <;> simp
    unfold lrnF
    rw [List.length_cons]; omega
theorem c_learn {S : List Int32} {W : List (List Int)} {s : List Nat} (h : lstOk S W s) {cl : List Int} {Γ : HS} (hc : cnam cl Γ) (hl : cl.length < 1000) : Ok (F_X10_learn S Γ) fun u => cnam (lrnF cl (W.map pk)) u.2 ∧ wfrN Γ u.2 := by
  have h0 := h
  obtain ⟨h1, h2, h3, h4, h5⟩ := h
  unfold F_X10_learn
  simp only [bnd, J_ofNat]
  refine Ok_loop (P := fun t m => ∃ (k : Nat) (Δ : HS), k ≤ W.length ∧ m = W.length - k ∧ t = (J (s.getD k 0 : Nat), J k, Δ) ∧ cnam (lrnF cl ((W.take k).map pk)) Δ ∧ wfrN Γ Δ) ?_ FU _ W.length (FU_gt (by omega)) ⟨0, Γ, by omega, rfl, by rw [h2]; rfl, hc, fun _ _ => rfl, fun _ _ => rfl, fun _ _ => rfl⟩
  rintro a t m ⟨k, Δ, hk, rfl, rfl, hcn, hfr⟩ ih
  by_cases q : k = W.length
  · subst q
    rw [List.take_length] at hcn
    have hfin : Ok (some ((0 : Int32), Δ)) fun u => cnam (lrnF cl (W.map pk)) u.2 ∧ wfrN Γ u.2 := Ok_some ⟨hcn, hfr⟩
    refine Ok_ite (fun _ => hfin) (fun _ => ?_)
    refine Ok_pos (by dsimp only; rw [h3]; exact Int32.le_refl _) hfin
  · have hk2 : k < W.length := by omega
    obtain ⟨t1, t2, t3, t4, t5, t6⟩ := h5 k hk2
    refine Ok_neg (by simp (disch := omega) only [J_lit, J_add, J_sub, J_mul, J_neg, J_lt, J_le, J_eq, J_natN, J_nat, Int.toNat_natCast, tnl, tnc] <;> omega) ?_
    refine Ok_neg (by simp (disch := omega) only [J_lit, J_add, J_sub, J_mul, J_neg, J_lt, J_le, J_eq, J_natN, J_nat, Int.toNat_natCast, tnl, tnc] <;> omega) ?_
    dsimp only
    refine Ok_bind (Ok_mono (c_wordEnd h0 hk2 Δ) ?_)
    rintro u rfl
    refine Ok_bind (Ok_mono (c_packed h0 hk2 12 (by omega) Δ) ?_)
    rintro u rfl
    have hw := lst_nmW h0 hk2
    have hle := lrnF_len (cl := cl) ((W.take k).map pk)
    rw [List.length_map, List.length_take] at hle
    refine Ok_bind (Ok_mono (c_numberOf2 hcn (by omega) (pk_rng hw).1 (pk_rng hw).2) ?_)
    rintro u ⟨c, y1, y2, y3, y4, y5⟩
    have := ih (J (s.getD (k + 1) 0 : Nat), J (k + 1 : Nat), u.2) (W.length - (k + 1)) (by omega) ⟨k + 1, u.2, by omega, rfl, rfl, by rw [lrnF_take k hk2]; exact y5, wfrN_trans hfr y2⟩
    dsimp only
    rw [show J ((s.getD k 0 + (W.getD k []).length : Nat) : Int) + 1 = J (s.getD (k + 1) 0 : Nat) by rw [J_lit, J_add, t3]; rfl, show J (k : Nat) + 1 = J (k + 1 : Nat) by rw [J_lit, J_add]; rfl]
    exact this
theorem KWC_all : lrnF (lrnF (lrnF (lrnF (lrnF [] (KS1w.map pk)) (KS2w.map pk)) (KS3w.map pk)) (KS4w.map pk)) (KS5w.map pk) = KWC.map pk := by decide +kernel
