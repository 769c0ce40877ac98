/-! a line is heard by the class, whole -/
theorem recX_ok {X : HS} {L : Nat → Int} {n f i c : Nat} {W : List Int} {P : List (Nat × Nat)} {z : Int} (hP : CTS L W X P) (hc : P.length < 12) (hz : TNO W z (tm9 (twd L (f, i)))) : CTS L W (recX X (J z)) (P ++ [(f, i)]) ∧ cHr X (recX X (J z)) ∧ ((recX X (J z)) 11).2.1 4 = (X 11).2.1 4 ∧ ((recX X (J z)) 11).1 5 = (X 11).1 5 := by
  obtain ⟨p1, p2, p3⟩ := hP
  have e6 : ((recX X (J z)) 11).2.1 6 = upd ((X 11).2.1 6) P.length (J z) := by
    show g_put 12 ((X 11).2.1 6) ((X 11).1 7) (J z) = _
    rw [p1, q_g_put_in (by omega) (by omega) (by omega), Int.toNat_natCast]
  refine ⟨⟨?_, ?_, fun j hj => ?_⟩, ⟨fun r hr => ?_, fun k k5 k7 => ?_, fun k k4 k6 => ?_⟩, rfl, rfl⟩
  · show (X 11).1 7 + 1 = _
    rw [p1, J_suc, List.length_append]; rfl
  · rw [List.length_append]; show P.length + 1 ≤ 12; omega
  · rw [List.length_append] at hj
    have hj : j < P.length + 1 := hj
    rw [e6, upd_s]
    by_cases q : j = P.length
    · rw [if_pos q, q, getD_ap2]; exact ⟨z, rfl, hz⟩
    · rw [if_neg q, getD_ap1 (by omega)]; exact p3 j (by omega)
  · unfold recX; rw [cI_r, if_neg hr, cA_r, if_neg hr]
  · exact if_neg k7
  · exact if_neg k6
theorem SCN_go {B : (Int32 × Int32 × HS → HR) → Int32 × Int32 × HS → HR} (hB : SCN B) {L : Nat → Int} {n : Nat} {W : List Int} : ∀ (d i f m : Nat) (P : List (Nat × Nat)) (X : HS), i + d = n → d + 1 < m → f ≤ i → CLN X L n → DOK X W → CTS L W X P → (∀ p, p ∈ tmg L d i f → TMK L n p) → ∃ Δ, loopF B m (J (f : Nat), J (i : Nat), X) = some (0, Δ) ∧ CTS L W Δ ((P ++ tmg L d i f).take 12) ∧ cHr X Δ ∧ (Δ 11).2.1 4 = (X 11).2.1 4 ∧ (Δ 11).1 5 = (X 11).1 5 := by
  have one : ∀ (d i f m : Nat) (P R : List (Nat × Nat)) (X : HS), i + d = n → f ≤ i → CLN X L n → DOK X W → CTS L W X P → (d = 0 ∨ isLt (L i) = false) → (∀ p, p ∈ (if f < i then [(f, i)] else []) → TMK L n p) → (∀ (Q : List (Nat × Nat)) (Y : HS), cHr X Y → CLN Y L n → DOK Y W → CTS L W Y Q → ∃ Δ, loopF B m (J (i + 1 : Nat), J (i + 1 : Nat), Y) = some (0, Δ) ∧ CTS L W Δ ((Q ++ R).take 12) ∧ cHr Y Δ ∧ (Δ 11).2.1 4 = (Y 11).2.1 4 ∧ (Δ 11).1 5 = (Y 11).1 5) → ∃ Δ, loopF B (m + 1) (J (f : Nat), J (i : Nat), X) = some (0, Δ) ∧ CTS L W Δ ((P ++ ((if f < i then [(f, i)] else []) ++ R)).take 12) ∧ cHr X Δ ∧ (Δ 11).2.1 4 = (X 11).2.1 4 ∧ (Δ 11).1 5 = (X 11).1 5 := by
    intro d i f m P R X hi hf hL hD hP he hk hgo
    obtain ⟨-, -, b3, b4⟩ := hB L n W X m f i P.length hL hD hP.1 hP.2.1 hf
    have he' : i = n ∨ (i < n ∧ isLt (L i) = false) := by
      rcases he with h | h
      · exact Or.inl (by omega)
      · rcases Nat.eq_or_lt_of_le (show i ≤ n by omega) with g | g
        · exact Or.inl g
        · exact Or.inr ⟨g, h⟩
    by_cases q : f = i ∨ P.length = 12
    · obtain ⟨Δ, d1, d2, d3⟩ := hgo P X cHr_rfl hL hD hP
      refine ⟨Δ, (b3 he' q).trans d1, ?_, d3⟩
      rcases q with q | q
      · rw [if_neg (by omega), List.nil_append]; exact d2
      · rw [tk12 q] at d2 ⊢; exact d2
    · have h12 := hP.2.1
      have q1 : f < i := by omega
      have q2 : P.length < 12 := by omega
      have hT := hk (f, i) (by rw [if_pos q1]; exact List.mem_singleton.mpr rfl)
      obtain ⟨z, z1, z2⟩ := c_find hD (TW_nmW (twd_TW hT))
      obtain ⟨r1, r2, r3, r4⟩ := recX_ok (f := f) (i := i) (n := n) (c := 0) hP q2 z2
      obtain ⟨Δ, d1, d2, d3, d4, d5⟩ := hgo (P ++ [(f, i)]) (recX X (J z)) r2 ⟨hL.1, r4.trans hL.2.1, fun j hj => by rw [r3]; exact hL.2.2 j hj⟩ (by
        obtain ⟨p, p1, p2⟩ := hD
        exact ⟨p, by unfold DOp; rw [r2.1 7 (by omega)]; exact ⟨p1, p2⟩⟩) r1
      refine ⟨Δ, (b4 he' q1 q2 (J z) z1).trans d1, ?_, cHr_trans r2 d3, d4.trans r3, d5.trans r4⟩
      rw [if_pos q1]
      rw [List.append_assoc] at d2
      exact d2
  intro d
  induction d with
  | zero =>
    intro i f m P X hi hm hf hL hD hP hk
    obtain ⟨m, rfl⟩ : ∃ k, m = k + 2 := ⟨m - 2, by omega⟩
    have h120 := hL.1
    have e : tmg L 0 i f = (if f < i then [(f, i)] else []) ++ [] := by rw [List.append_nil]; rfl
    rw [e]
    refine one 0 i f (m + 1) P [] X hi hf hL hD hP (Or.inl rfl) (fun p hp => hk p (by rw [e, List.append_nil]; exact hp)) (fun Q Y hY hLY hDY hQ => ?_)
    obtain ⟨b1, -, -, -⟩ := hB L n W Y m (i + 1) (i + 1) Q.length hLY hDY hQ.1 hQ.2.1 (Nat.le_refl _)
    refine ⟨Y, b1 (by omega) (by omega), ?_, cHr_rfl, rfl, rfl⟩
    rw [List.append_nil, List.take_of_length_le hQ.2.1]; exact hQ
  | succ d ih =>
    intro i f m P X hi hm hf hL hD hP hk
    obtain ⟨m, rfl⟩ : ∃ k, m = k + 1 := ⟨m - 1, by omega⟩
    by_cases q : isLt (L i) = true
    · obtain ⟨-, b2, -, -⟩ := hB L n W X m f i P.length hL hD hP.1 hP.2.1 hf
      have e : tmg L (d + 1) i f = tmg L d (i + 1) f := by
        show (if isLt (L i) = true then _ else _) = _
        rw [if_pos q]
      obtain ⟨Δ, d1, d2⟩ := ih (i + 1) f m P X (by omega) (by omega) (by omega) hL hD hP (fun p hp => hk p (by rw [e]; exact hp))
      refine ⟨Δ, (b2 (by omega) q).trans d1, ?_⟩
      rw [e]; exact d2
    · have e : tmg L (d + 1) i f = (if f < i then [(f, i)] else []) ++ tmg L d (i + 1) (i + 1) := by
        show (if isLt (L i) = true then _ else _) = _
        rw [if_neg q]
      rw [e]
      exact one (d + 1) i f m P (tmg L d (i + 1) (i + 1)) X hi hf hL hD hP (Or.inr (Bool.eq_false_iff.mpr q)) (fun p hp => hk p (by rw [e]; exact List.mem_append_left _ hp)) (fun Q Y hY hLY hDY hQ => ih (i + 1) (i + 1) m Q Y (by omega) (by omega) (Nat.le_refl _) hLY hDY hQ (fun p hp => hk p (by rw [e]; exact List.mem_append_right _ hp)))
theorem HrP_scn0 : SCN HrP := HrP_scn
theorem cHr_A {X : HS} {g : Nat → Int32} : cHr X (cA' X 11 4 g) := ⟨fun r hr => by rw [cA_r, if_neg hr], fun _ _ _ => rfl, fun k k4 _ => by show updA _ _ _ _ = _; rw [updA_s, if_neg k4]⟩
theorem cHr_5 {X : HS} {v : Int32} : cHr X (cI' X 11 5 v) := ⟨fun r hr => by rw [cI_r, if_neg hr], fun k k5 _ => if_neg k5, fun _ _ _ => rfl⟩
theorem cHr_7 {X : HS} {v : Int32} : cHr X (cI' X 11 7 v) := ⟨fun r hr => by rw [cI_r, if_neg hr], fun k _ k7 => if_neg k7, fun _ _ _ => rfl⟩
/-- a byte as it is heard -/
def lnC (c : Int) : Int := if c = 10 then 32 else if 65 ≤ c ∧ c ≤ 90 then c + 32 else c
theorem lnC_rng {c : Int} (h : c = 10 ∨ (32 ≤ c ∧ c ≤ 126)) : 32 ≤ lnC c ∧ lnC c ≤ 126 ∧ ¬ (65 ≤ lnC c ∧ lnC c ≤ 90) := by
  unfold lnC
  split
  · omega
  · split <;> omega
/-- the line as the class writes it down -/
def hrA (X : HS) (g : Nat → Int32) : HS := cA' X 11 4 g
theorem HeB_go {b : Nat → Int} {n : Nat} (hn : n ≤ 120) : ∀ (d i m : Nat) (X : HS), i + d = n → d < m → (X 11).1 5 = J (n : Nat) → (∀ j, j < n → (X 13).2.1 0 j = J (b j) ∧ (b j = 10 ∨ (32 ≤ b j ∧ b j ≤ 126))) → (∀ j, j < i → (X 11).2.1 4 j = J (lnC (b j))) → ∃ Y, loopF HeB m (J (i : Nat), X) = loopF HrB FU (0, 0, cI' Y 11 7 0) ∧ CLN Y (fun j => lnC (b j)) n ∧ cHr X Y := by
  intro d
  induction d with
  | zero =>
    intro i m X hi hm h5 hb hd
    obtain ⟨m, rfl⟩ : ∃ k, m = k + 1 := ⟨m - 1, by omega⟩
    refine ⟨X, ?_, ⟨hn, h5, fun j hj => ⟨hd j (by omega), ?_⟩⟩, cHr_rfl⟩
    · rw [HeB_s, bndE, h5, if_pos (by rw [J_le (by omega) (by omega) (by omega) (by omega)]; omega)]
      dsimp only
      rw [bndE]
    · have := lnC_rng (hb j hj).2; show 0 ≤ lnC (b j) ∧ lnC (b j) ≤ 126; omega
  | succ d ih =>
    intro i m X hi hm h5 hb hd
    obtain ⟨m, rfl⟩ : ∃ k, m = k + 1 := ⟨m - 1, by omega⟩
    obtain ⟨b1, b2⟩ := hb i (by omega)
    have r := lnC_rng b2
    obtain ⟨Y, y1, y2, y3⟩ := ih (i + 1) m (cA' X 11 4 (upd ((X 11).2.1 4) i (J (lnC (b i))))) (by omega) (by omega) h5 hb (fun j hj => by
      show upd ((X 11).2.1 4) i (J (lnC (b i))) j = _
      rw [upd_s]
      by_cases q : j = i
      · rw [if_pos q, q]
      · rw [if_neg q]; exact hd j (by omega))
    refine ⟨Y, ?_, y2, cHr_trans cHr_A y3⟩
    have s := HeB_s m (J (i : Nat)) X
    rw [bndE, h5, if_neg (by rw [J_le (by omega) (by omega) (by omega) (by omega)]; omega), if_neg (by rw [show (120 : Int32) = J ((120 : Nat) : Int) from rfl, J_le (by omega) (by omega) (by omega) (by omega)]; omega), if_neg (by rw [show (16000 : Int32) = J ((16000 : Nat) : Int) from rfl, J_le (by omega) (by omega) (by omega) (by omega)]; omega), if_neg (gNn (by omega) (by omega)), J_natN (by omega), b1, bndE, bndE, bndE] at s
    have fin : ∀ v : Int, v = lnC (b i) → (bnd ((J v).toInt8.toInt32) fun (x_90 : Int32) => if J (i : Nat) < 0 ∨ 120 ≤ (J (i : Nat)).toNatClampNeg then none else bnd (cA' X 11 4 (upd ((X 11).2.1 4) (J (i : Nat)).toNatClampNeg (vp_nar .byte x_90))) fun σ_94 => bnd (J (i : Nat) + 1) fun (x_96 : Int32) => loopF HeB m (x_96, σ_94)) = loopF HeB m (J (i + 1 : Nat), cA' X 11 4 (upd ((X 11).2.1 4) i (J (lnC (b i))))) := fun v hv => by
      subst hv
      rw [J_i8 (by omega) (by omega), bndE, if_neg (gNn (by omega) (by omega)), J_natN (by omega), bndE, bndE, J_suc, J_byte (by omega) (by omega)]
    rw [J_natN (by omega)] at fin
    rw [s]
    refine Eq.trans ?_ y1
    by_cases q1 : b i < 65
    · rw [if_pos (by rw [show (65 : Int32) = J 65 from rfl, J_lt (by omega) (by omega) (by omega) (by omega)]; exact q1)]
      dsimp only
      by_cases q2 : b i = 10
      · rw [if_pos (by rw [show (10 : Int32) = J 10 from rfl, J_eq (by omega) (by omega) (by omega) (by omega)]; exact q2)]
        exact fin 32 (by unfold lnC; rw [if_pos q2])
      · rw [if_neg (by rw [show (10 : Int32) = J 10 from rfl, J_eq (by omega) (by omega) (by omega) (by omega)]; exact q2)]
        exact fin (b i) (by unfold lnC; rw [if_neg q2, if_neg (by omega)])
    · rw [if_neg (by rw [show (65 : Int32) = J 65 from rfl, J_lt (by omega) (by omega) (by omega) (by omega)]; exact q1)]
      by_cases q2 : 90 < b i
      · rw [if_pos (by rw [show (90 : Int32) = J 90 from rfl, J_lt (by omega) (by omega) (by omega) (by omega)]; exact q2)]
        dsimp only
        rw [if_neg (by rw [show (10 : Int32) = J 10 from rfl, J_eq (by omega) (by omega) (by omega) (by omega)]; omega)]
        exact fin (b i) (by unfold lnC; rw [if_neg (by omega), if_neg (by omega)])
      · rw [if_neg (by rw [show (90 : Int32) = J 90 from rfl, J_lt (by omega) (by omega) (by omega) (by omega)]; exact q2), show (32 : Int32) = J 32 from rfl, J_add]
        exact fin (b i + 32) (by unfold lnC; rw [if_neg (by omega), if_pos (by omega)])
theorem hr_min {n k : Nat} (hk : k < 100000) (hn : n < 100000) : (if (k : Nat) < n then J (k : Nat) else J (n : Nat)) = J ((if k < n then k else n : Nat) : Int) := by split <;> rfl
theorem J_min {a : Int32} {k n : Nat} (ha : a = J (k : Nat)) (hk : k < 100000) (hn : n < 100000) : (if a < J (n : Nat) then a else J (n : Nat)) = J ((if k < n then k else n : Nat) : Int) := by
  subst ha
  by_cases q : k < n
  · rw [if_pos (by rw [J_lt (by omega) (by omega) (by omega) (by omega)]; omega), if_pos q]
  · rw [if_neg (by rw [J_lt (by omega) (by omega) (by omega) (by omega)]; omega), if_neg q]
theorem J_min' {a : Int32} {k n : Nat} (ha : a = J (k : Nat)) (hk : k < 100000) (hn : n < 100000) : (if J (n : Nat) < a then J (n : Nat) else a) = J ((if k < n then k else n : Nat) : Int) := by
  subst ha
  by_cases q : n < k
  · rw [if_pos (by rw [J_lt (by omega) (by omega) (by omega) (by omega)]; omega), if_neg (by omega)]
  · rw [if_neg (by rw [J_lt (by omega) (by omega) (by omega) (by omega)]; omega)]
    by_cases q2 : k < n
    · rw [if_pos q2]
    · rw [if_neg q2, show k = n by omega]
theorem CLN_i {X : HS} {L : Nat → Int} {n : Nat} {v : Int32} (h : CLN X L n) : CLN (cI' X 11 7 v) L n := ⟨h.1, h.2.1, h.2.2⟩
theorem DOK_r {X Y : HS} {W : List Int} (h : DOK X W) (e : Y 7 = X 7) : DOK Y W := by
  obtain ⟨p, p1, p2⟩ := h
  exact ⟨p, by unfold DOp; rw [e]; exact ⟨p1, p2⟩⟩
theorem c_hear_b {b : Nat → Int} {len : Nat} {Γ : HS} {W : List Int} (hl : len ≤ 16000) (hb : ∀ j, j < len → (Γ 13).2.1 0 j = J (b j) ∧ (b j = 10 ∨ (32 ≤ b j ∧ b j ≤ 126))) (hD : DOK Γ W) : ∃ Δ, F_X8_hear_b (J (len : Nat)) Γ = some (0, Δ) ∧ CLN Δ (fun j => lnC (b j)) (if len < 120 then len else 120) ∧ CTS (fun j => lnC (b j)) W Δ ((tmg (fun j => lnC (b j)) (if len < 120 then len else 120) 0 0).take 12) ∧ cHr Γ Δ := by
  have hn : (if len < 120 then len else 120) ≤ 120 := by split <;> omega
  have hnl : (if len < 120 then len else 120) ≤ len := by split <;> omega
  have e1 := J_min' (a := J (len : Nat)) (n := 16000) rfl (by omega) (by omega)
  have e16 : (if len < 16000 then len else 16000) = len := by split <;> omega
  rw [e16] at e1
  have e2 := J_min' (a := J (len : Nat)) (n := 120) rfl (by omega) (by omega)
  obtain ⟨Y, y1, y2, y3⟩ := HeB_go (b := b) hn _ 0 FU (cI' Γ 11 5 (J ((if len < 120 then len else 120 : Nat) : Int))) (Nat.zero_add _) (FU_gt (by omega)) rfl (fun j hj => hb j (by omega)) (fun j hj => absurd hj (Nat.not_lt_zero _))
  obtain ⟨Δ, d1, d2, d3, d4, d5⟩ := SCN_go HrB_scn (L := fun j => lnC (b j)) (W := W) _ 0 0 FU [] (cI' Y 11 7 0) (Nat.zero_add _) (FU_gt (by omega)) (Nat.le_refl _) (CLN_i y2) (DOK_r hD (by rw [cI_r, if_neg (by omega), y3.1 7 (by omega), cI_r, if_neg (by omega)])) ⟨rfl, by decide, fun i hi => absurd hi (Nat.not_lt_zero _)⟩ (tmg_ok _ 0 0 (Nat.zero_add _) (Nat.le_refl _) (fun x x1 x2 => by omega))
  refine ⟨Δ, ?_, ⟨hn, d5.trans y2.2.1, fun j hj => by rw [d4]; exact y2.2.2 j hj⟩, d2, ?_⟩
  · rw [hear_b_eq, show (16000 : Int32) = J ((16000 : Nat) : Int) from rfl, e1, bndE, show (120 : Int32) = J ((120 : Nat) : Int) from rfl, e2, bndE, bndE]
    exact y1.trans d1
  · exact cHr_trans (cHr_trans cHr_5 y3) (cHr_trans cHr_7 d3)
theorem HeP_go {b : Nat → Int} {n : Nat} (hn : n ≤ 120) : ∀ (d i m : Nat) (X : HS), i + d = n → d < m → (X 11).1 5 = J (n : Nat) → (∀ j, j < n → (X 9).2.1 6 j = J (b j) ∧ 32 ≤ b j ∧ b j ≤ 126 ∧ ¬ (65 ≤ b j ∧ b j ≤ 90)) → (∀ j, j < i → (X 11).2.1 4 j = J (b j)) → ∃ Y, loopF HeP m (J (i : Nat), X) = loopF HrP FU (0, 0, cI' Y 11 7 0) ∧ CLN Y b n ∧ cHr X Y := by
  intro d
  induction d with
  | zero =>
    intro i m X hi hm h5 hb hd
    obtain ⟨m, rfl⟩ : ∃ k, m = k + 1 := ⟨m - 1, by omega⟩
    refine ⟨X, ?_, ⟨hn, h5, fun j hj => ⟨hd j (by omega), ?_⟩⟩, cHr_rfl⟩
    · rw [HeP_s, bndE, h5, if_pos (by rw [J_le (by omega) (by omega) (by omega) (by omega)]; omega)]
      dsimp only
      rw [bndE]
    · have := hb j hj; omega
  | succ d ih =>
    intro i m X hi hm h5 hb hd
    obtain ⟨m, rfl⟩ : ∃ k, m = k + 1 := ⟨m - 1, by omega⟩
    obtain ⟨b1, b2, b3, b4⟩ := hb i (by omega)
    obtain ⟨Y, y1, y2, y3⟩ := ih (i + 1) m (cA' X 11 4 (upd ((X 11).2.1 4) i (J (b i)))) (by omega) (by omega) h5 hb (fun j hj => by
      show upd ((X 11).2.1 4) i (J (b i)) j = _
      rw [upd_s]
      by_cases q : j = i
      · rw [if_pos q, q]
      · rw [if_neg q]; exact hd j (by omega))
    refine ⟨Y, ?_, y2, cHr_trans cHr_A y3⟩
    have s := HeP_s m (J (i : Nat)) X
    have n120 : ¬ (120 : Int32) ≤ J (i : Nat) := by rw [show (120 : Int32) = J ((120 : Nat) : Int) from rfl, J_le (by omega) (by omega) (by omega) (by omega)]; omega
    rw [bndE, h5, if_neg (by rw [J_le (by omega) (by omega) (by omega) (by omega)]; omega), if_neg n120, if_neg n120, if_neg (gNn (by omega) (by omega)), J_natN (by omega), nrB_J b1 (by omega) (by omega), bndE, bndE, bndE] at s
    have fin : (bnd ((J (b i)).toInt8.toInt32) fun (x_90 : Int32) => if J (i : Nat) < 0 ∨ 120 ≤ i then none else bnd (cA' X 11 4 (upd ((X 11).2.1 4) i (vp_nar .byte x_90))) fun σ_94 => bnd (J (i : Nat) + 1) fun (x_96 : Int32) => loopF HeP m (x_96, σ_94)) = loopF HeP m (J (i + 1 : Nat), cA' X 11 4 (upd ((X 11).2.1 4) i (J (b i)))) := by
      have g := gNn (k := i) (n := 120) (by omega) (by omega)
      rw [J_natN (by omega)] at g
      rw [J_i8 (by omega) (by omega), bndE, if_neg g, bndE, bndE, J_suc, J_byte (by omega) (by omega)]
    rw [s]
    refine Eq.trans ?_ y1
    have n10 : ¬ J (b i) = 10 := by rw [show (10 : Int32) = J 10 from rfl, J_eq (by omega) (by omega) (by omega) (by omega)]; omega
    by_cases q1 : b i < 65
    · rw [if_pos (by rw [show (65 : Int32) = J 65 from rfl, J_lt (by omega) (by omega) (by omega) (by omega)]; exact q1)]
      dsimp only
      rw [if_neg n10]
      exact fin
    · rw [if_neg (by rw [show (65 : Int32) = J 65 from rfl, J_lt (by omega) (by omega) (by omega) (by omega)]; exact q1), if_pos (by rw [show (90 : Int32) = J 90 from rfl, J_lt (by omega) (by omega) (by omega) (by omega)]; omega)]
      dsimp only
      rw [if_neg n10]
      exact fin
theorem c_hear_p {b : Nat → Int} {n : Nat} {Γ : HS} {W : List Int} (hn : n ≤ 120) (hb : ∀ j, j < n → (Γ 9).2.1 6 j = J (b j) ∧ 32 ≤ b j ∧ b j ≤ 126 ∧ ¬ (65 ≤ b j ∧ b j ≤ 90)) (hD : DOK Γ W) : ∃ Δ, F_X8_hear_p (J (n : Nat)) Γ = some (0, Δ) ∧ CLN Δ b n ∧ CTS b W Δ ((tmg b n 0 0).take 12) ∧ cHr Γ Δ := by
  have e2 := J_min' (a := J (n : Nat)) (n := 120) rfl (by omega) (by omega)
  have e16 : (if n < 120 then n else 120) = n := by split <;> omega
  rw [e16] at e2
  obtain ⟨Y, y1, y2, y3⟩ := HeP_go (b := b) hn _ 0 FU (cI' Γ 11 5 (J (n : Nat))) (Nat.zero_add _) (FU_gt (by omega)) rfl hb (fun j hj => absurd hj (Nat.not_lt_zero _))
  obtain ⟨Δ, d1, d2, d3, d4, d5⟩ := SCN_go HrP_scn (L := b) (W := W) _ 0 0 FU [] (cI' Y 11 7 0) (Nat.zero_add _) (FU_gt (by omega)) (Nat.le_refl _) (CLN_i y2) (DOK_r hD (by rw [cI_r, if_neg (by omega), y3.1 7 (by omega), cI_r, if_neg (by omega)])) ⟨rfl, by decide, fun i hi => absurd hi (Nat.not_lt_zero _)⟩ (tmg_ok _ 0 0 (Nat.zero_add _) (Nat.le_refl _) (fun x x1 x2 => by omega))
  refine ⟨Δ, ?_, ⟨hn, d5.trans y2.2.1, fun j hj => by rw [d4]; exact y2.2.2 j hj⟩, d2, ?_⟩
  · rw [hear_p_eq, show (120 : Int32) = J ((120 : Nat) : Int) from rfl, e2, bndE, e2, bndE, bndE]
    exact y1.trans d1
  · exact cHr_trans (cHr_trans cHr_5 y3) (cHr_trans cHr_7 d3)
