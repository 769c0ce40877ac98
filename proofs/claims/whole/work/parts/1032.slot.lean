/-! the reference looks a name up -/
variable {T N : Nat} {kd vl rv : Nat → Int} {pl : Nat → Nat}
def So1 (p0 : Int32) : ((Int32 × MS) → MR) → Int32 × MS → MR := (fun (again_4 : (Int32 × MS) → MR) (s_3 : Int32 × MS) => ( if s_3.1 < 0 then ( some ((-1), s_3.2) ) else ( if s_3.1 < 0 ∨ 16 ≤ s_3.1.toNatClampNeg then none else if (s_3.2.2 31 s_3.1.toNatClampNeg) = p0 then ( if s_3.1 < 0 ∨ 16 ≤ s_3.1.toNatClampNeg then none else some ((s_3.2.2 32 s_3.1.toNatClampNeg), s_3.2) ) else ( bnd (s_3.1 + (-1)) fun (x_17 : Int32) => again_4 (x_17, s_3.2) ) ) ))
theorem slotOf_eq (p0 : Int32) (σ : MS) : F_X12_slotOf p0 σ = bnd ((σ.1 33) - 1) fun (x_1 : Int32) => loopF (So1 p0) FU (x_1, σ) := rfl
theorem So1_s (p0 : Int32) (n : Nat) (l : Int32) (σ : MS) : loopF (So1 p0) (n + 1) (l, σ) = if l < 0 then some ((-1 : Int32), σ) else if l < 0 ∨ 16 ≤ l.toNatClampNeg then none else if (σ.2 31 l.toNatClampNeg) = p0 then (if l < 0 ∨ 16 ≤ l.toNatClampNeg then none else some ((σ.2 32 l.toNatClampNeg), σ)) else bnd (l + (-1)) fun (x_17 : Int32) => loopF (So1 p0) n (x_17, σ) := rfl
/-- the names that the reference sees, with their numbers -/
def WS3 (rv : Nat → Int) (τ : MS) (s m : Nat) (ts sl : Nat → Nat) : Prop := τ.1 33 = J (s : Nat) ∧ τ.1 34 = J (m : Nat) ∧ s ≤ m ∧ m ≤ 14 ∧ ∀ k, k < s → τ.2 31 k = J (rv (ts k)) ∧ τ.2 32 k = J (sl k : Nat)
theorem r_slot {τ : MS} {s m : Nat} {ts sl : Nat → Nat} {r : Int} (hw : WS3 rv τ s m ts sl) (hr : 0 ≤ r ∧ r < 8000) (hrv : ∀ k, k < s → 0 ≤ rv (ts k) ∧ rv (ts k) < 8000) : ∀ (k n : Nat), k ≤ s → k < n → (∀ j, k ≤ j → j < s → rv (ts j) ≠ r) → ∃ x : Int, loopF (So1 (J r)) n (J ((k : Int) - 1), τ) = some (J x, τ) ∧ ((x = -1 ∧ ∀ j, j < s → rv (ts j) ≠ r) ∨ ∃ j, j < s ∧ rv (ts j) = r ∧ x = (sl j : Nat)) := by
  obtain ⟨w1, w2, w3, w4, w5⟩ := hw
  intro k
  induction k with
  | zero =>
    intro n hk hn hj
    obtain ⟨n, rfl⟩ : ∃ e, n = e + 1 := ⟨n - 1, by omega⟩
    exact ⟨-1, by rw [So1_s, if_pos (by decide)]; rfl, Or.inl ⟨rfl, fun j h => hj j (by omega) h⟩⟩
  | succ k ih =>
    intro n hk hn hj
    obtain ⟨n, rfl⟩ : ∃ e, n = e + 1 := ⟨n - 1, by omega⟩
    obtain ⟨e1, e2⟩ := w5 k (by omega)
    have hv := hrv k (by omega)
    have g : ¬ (J (k : Nat) < 0 ∨ 16 ≤ (J (k : Nat)).toNatClampNeg) := by
      rw [J_natN (by omega)]; rintro (h | h); exact J_nlt0 (by omega) (by omega) h; omega
    have ej : (J (rv (ts k)) = J r) = (rv (ts k) = r) := J_eq (by omega) (by omega) (by omega) (by omega)
    rw [So1_s, show ((k + 1 : Nat) : Int) - 1 = (k : Nat) by omega, if_neg (J_nlt0 (by omega) (by omega)), if_neg g, J_natN (by omega), e1]
    by_cases q : rv (ts k) = r
    · rw [if_pos (by rw [ej]; exact q)]
      rw [J_natN (by omega)] at g
      rw [if_neg g, e2]
      exact ⟨_, rfl, Or.inr ⟨k, by omega, q, rfl⟩⟩
    · rw [if_neg (by rw [ej]; exact q), bndE, show J (k : Nat) + -1 = J ((k : Int) - 1) by rw [show (-1 : Int32) = J (-1) from rfl, J_add]; rfl]
      exact ih n (by omega) (by omega) (fun j h1 h2 => by
        by_cases e : j = k
        · rw [e]; exact q
        · exact hj j (by omega) h2)
theorem snF_of (hT : TKE T N kd vl rv pl) {G : Nat → HS} {t s m D : Nat} {ts sl : Nat → Nat} (h : SC T kd vl (G t) s m D ts sl) (ht : t ≤ T) (hk : kd t = 2) : (∃ j, j < s ∧ vl (ts j) = vl t ∧ snF G vl t = (sl j : Int) + 1 ∧ sl j < 14) ∨ ((∀ j, j < s → vl (ts j) ≠ vl t) ∧ snF G vl t = 0) := by
  obtain ⟨h1, h2, h3, h4, h5, h6, h7, h8, h9⟩ := h
  by_cases q : ∃ j, j < s ∧ vl (ts j) = vl t
  · obtain ⟨j, j1, j2⟩ := q
    obtain ⟨g1, g2, g3, g4, g5⟩ := h7 j j1
    refine Or.inl ⟨j, j1, j2, ?_, by omega⟩
    unfold snF
    rw [← j2, g4, J_toInt (by omega) (by omega)]; omega
  · refine Or.inr ⟨fun j j1 j2 => q ⟨j, j1, j2⟩, ?_⟩
    unfold snF
    rw [h8 t ht hk (fun j j1 j2 => q ⟨j, j1, j2⟩)]; rfl
theorem r_slotOf (hT : TKE T N kd vl rv pl) (hN : NMI T kd vl rv) {G : Nat → HS} {τ : MS} {t s m D : Nat} {ts sl : Nat → Nat} (h : SC T kd vl (G t) s m D ts sl) (hw : WS3 rv τ s m ts sl) (ht : t ≤ T) (hk : kd t = 2) : F_X12_slotOf (J (rv t)) τ = some (J (snF G vl t - 1), τ) := by
  have hv := SC_vl hT ht hk
  have h7 := h.2.2.2.2.2.2.1
  have h9 := h.2.2.2.2.2.2.2.2
  obtain ⟨x, e, hx⟩ := r_slot hw (r := rv t) (by omega) (fun k hk' => by have := SC_vl hT (h7 k hk').2.1 (h7 k hk').1; omega) s FU (Nat.le_refl s) (FU_gt (by have := hw.2.2.1; have := hw.2.2.2.1; omega)) (fun j h1 h2 => by omega)
  rw [slotOf_eq, hw.1, bndE, show J (s : Nat) - 1 = J ((s : Int) - 1) by rw [J_lit, J_sub], e]
  refine congrArg (fun z => some (J z, τ)) ?_
  rcases snF_of hT h ht hk with ⟨j, j1, j2, j3, -⟩ | ⟨j1, j2⟩
  · rcases hx with ⟨x1, x2⟩ | ⟨i, i1, i2, i3⟩
    · exact absurd ((hN (ts j) t (h7 j j1).2.1 ht (h7 j j1).1 hk).mpr j2) (x2 j j1)
    · have e2 := (hN (ts i) t (h7 i i1).2.1 ht (h7 i i1).1 hk).mp i2
      have : i = j := by
        rcases Nat.lt_trichotomy i j with q | q | q
        · exact absurd (by rw [e2, j2]) (h9 i j q j1)
        · exact q
        · exact absurd (by rw [e2, j2]) (h9 j i q i1)
      rw [j3, i3, this]; omega
  · rcases hx with ⟨x1, x2⟩ | ⟨i, i1, i2, i3⟩
    · rw [j2, x1]; rfl
    · exact absurd ((hN (ts i) t (h7 i i1).2.1 ht (h7 i i1).1 hk).mp i2) (j1 i i1)
/-- the names' kinds, when all is told -/
def KE (T : Nat) (kd vl rv : Nat → Int) (Θ : HS) (τ : MS) : Prop := ∀ u, u ≤ T → kd u = 2 → τ.2 28 (rv u).toNat = J (ksF Θ vl u) ∧ (ksF Θ vl u ≠ 0 → τ.2 29 (rv u).toNat = J (nsF Θ vl u : Nat)) ∧ 0 ≤ ksF Θ vl u ∧ ksF Θ vl u ≤ 6
theorem ng8 {r : Int} (h : 0 ≤ r ∧ r < 8000) : ¬ (J r < 0 ∨ 8000 ≤ (J r).toNatClampNeg) ∧ (J r).toNatClampNeg = r.toNat := by
  rw [J_nat (by omega) (by omega)]
  exact ⟨by rintro (h' | h'); exact J_nlt0 (by omega) (by omega) h'; omega, rfl⟩
theorem r_is (hT : TKE T N kd vl rv pl) {Θ : HS} {τ : MS} (hE : KE T kd vl rv Θ τ) {u : Nat} (hu : u ≤ T) (hk : kd u = 2) {c : Int} (hc : 0 ≤ c ∧ c ≤ 100) : F_X12_is (J (rv u)) (J c) τ = some (J (if ksF Θ vl u = c then 1 else 0), τ) := by
  have hv := SC_vl hT hu hk
  obtain ⟨e1, -, e2, e3⟩ := hE u hu hk
  unfold F_X12_is
  rw [if_neg (ng8 (by omega)).1, (ng8 (by omega)).2, e1]
  have ej : (J (ksF Θ vl u) = J c) = (ksF Θ vl u = c) := J_eq (by omega) (by omega) (by omega) (by omega)
  by_cases q : ksF Θ vl u = c
  · rw [if_pos (by rw [ej]; exact q), if_pos q]; rfl
  · rw [if_neg (by rw [ej]; exact q), if_neg q]; rfl
theorem r_wrong (σ : MS) (q : Nat) : F_X12_wrong (J (q : Nat)) σ = some (J 0, noF σ (ntF (flt σ) 3 q)) := by
  unfold F_X12_wrong
  rw [show F_X12_note 3 (J (q : Nat)) σ = _ from r_note σ 3 q]; rfl
/-- a node gets its meaning -/
def mnR (τ : MS) (x : Nat) (B D : Int32) : MS := mA (mA τ 20 (upd (τ.2 20) x B)) 21 (upd (τ.2 21) x D)
def mnB (G : Nat → HS) (vl rv : Nat → Int) (τ : MS) (t : Nat) : Int32 := if snF G vl t = 0 then τ.2 28 (rv t).toNat else J 9
def mnD (G : Nat → HS) (vl rv : Nat → Int) (τ : MS) (t : Nat) : Int32 := if snF G vl t = 0 then τ.2 29 (rv t).toNat else J (snF G vl t - 1)
theorem mnR_fl {τ : MS} {x : Nat} {B D : Int32} : flt (mnR τ x B D) = flt τ := rfl
theorem r_means (hT : TKE T N kd vl rv pl) (hN : NMI T kd vl rv) {G : Nat → HS} {Θ : HS} {τ : MS} {x t s m D : Nat} {ts sl : Nat → Nat} (hC : SC T kd vl (G t) s m D ts sl) (hw : WS3 rv τ s m ts sl) (hE : KE T kd vl rv Θ τ) (ht : t ≤ T) (hk : kd t = 2) (hx : x < 39990) (h19 : τ.2 19 x = J (rv t)) {ob : Int} (hob : ob = 0 ∨ ob = 1) : ∃ z : Int32, F_X12_means (J (x : Nat)) (J ob) τ = some (z, mnR τ x (mnB G vl rv τ t) (mnD G vl rv τ t)) ∧ ((z = 1 ∧ (snF G vl t ≠ 0 ∨ ksF Θ vl t = 4 ∨ (ob = 1 ∧ (ksF Θ vl t = 1 ∨ ksF Θ vl t = 2)))) ∨ (z = 0 ∧ ¬ (snF G vl t ≠ 0 ∨ ksF Θ vl t = 4 ∨ (ob = 1 ∧ (ksF Θ vl t = 1 ∨ ksF Θ vl t = 2))))) := by
  have en := g_en (n := x) (by omega)
  have en2 := (ng (n := x) (by omega)).2
  have hv := SC_vl hT ht hk
  have g8 := ng8 (r := rv t) (by omega)
  unfold F_X12_means
  rw [if_neg en, en2, h19, bndE, r_slotOf hT hN hC hw ht hk, Option.bind_some]
  simp only [bndE]
  rw [en2] at en
  rcases snF_of hT hC ht hk with ⟨j, j1, j2, j3, j4⟩ | ⟨j1, j2⟩
  · have h0 : snF G vl t ≠ 0 := by omega
    have hn : ¬ J (snF G vl t - 1) < 0 := J_nlt0 (by omega) (by omega)
    refine ⟨1, ?_, Or.inl ⟨rfl, Or.inl h0⟩⟩
    rw [if_neg hn, if_neg en, if_neg hn, if_neg en, if_pos (by rw [show (0 : Int32) = J 0 from rfl, J_le (by omega) (by omega) (by omega) (by omega)]; omega)]
    unfold mnB mnD
    rw [if_neg h0, if_neg h0]; rfl
  · have hn : J (snF G vl t - 1) < 0 := by rw [j2]; decide
    have hn2 : ¬ (0 : Int32) ≤ J (snF G vl t - 1) := by rw [j2]; decide
    rw [if_pos hn, if_neg g8.1, g8.2, if_neg en, if_pos hn]
    rw [g8.2] at g8
    rw [if_neg g8.1, if_neg en, if_neg hn2]
    have hE2 : KE T kd vl rv Θ (mnR τ x (mnB G vl rv τ t) (mnD G vl rv τ t)) := hE
    have eS : mA (mA τ 20 (upd (τ.2 20) x (τ.2 28 (rv t).toNat))) 21 (upd ((mA τ 20 (upd (τ.2 20) x (τ.2 28 (rv t).toNat))).2 21) x ((mA τ 20 (upd (τ.2 20) x (τ.2 28 (rv t).toNat))).2 29 (rv t).toNat)) = mnR τ x (mnB G vl rv τ t) (mnD G vl rv τ t) := by
      unfold mnR mnB mnD
      rw [if_pos j2, if_pos j2]; rfl
    rw [eS, show F_X12_is (J (rv t)) 4 _ = _ from r_is hT hE2 ht hk (c := 4) (by omega), Option.bind_some]
    by_cases q4 : ksF Θ vl t = 4
    · rw [if_pos q4]
      exact ⟨1, by rw [if_neg J1_ne], Or.inl ⟨rfl, Or.inr (Or.inl q4)⟩⟩
    · rw [if_neg q4, if_pos J0_eq]
      rcases hob with rfl | rfl
      · rw [if_pos J0_eq]
        exact ⟨0, rfl, Or.inr ⟨rfl, by omega⟩⟩
      · rw [if_neg J1_ne]
        dsimp only
        rw [show F_X12_is (J (rv t)) 1 _ = _ from r_is hT hE2 ht hk (c := 1) (by omega), Option.bind_some]
        by_cases q1 : ksF Θ vl t = 1
        · rw [if_pos q1]
          exact ⟨1, by rw [if_neg J1_ne], Or.inl ⟨rfl, by omega⟩⟩
        · rw [if_neg q1, if_pos J0_eq]
          dsimp only
          rw [show F_X12_is (J (rv t)) 2 _ = _ from r_is hT hE2 ht hk (c := 2) (by omega), Option.bind_some]
          by_cases q2 : ksF Θ vl t = 2
          · rw [if_pos q2]
            exact ⟨1, by rw [if_neg J1_ne], Or.inl ⟨rfl, by omega⟩⟩
          · rw [if_neg q2]
            exact ⟨0, by rw [if_pos J0_eq], Or.inr ⟨rfl, by omega⟩⟩
