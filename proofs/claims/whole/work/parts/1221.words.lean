/-! terms as words, in both -/
/-- the terms as the reference has them -/
def TRr (σ : MS) (ws : List (List Int)) : Prop := σ.1 120 = J (ws.length : Nat) ∧ ws.length ≤ 12 ∧ ∀ t, t < ws.length → TW (ws.getD t []) ∧ ∃ a : Nat, a + (ws.getD t []).length ≤ 120 ∧ σ.2 118 t = J (a : Nat) ∧ σ.2 119 t = J ((ws.getD t []).length : Nat) ∧ ∀ k, k < (ws.getD t []).length → σ.2 116 (a + k) = J ((ws.getD t []).getD k 0)
/-- as the class has them -/
def TRc (Γ : HS) (W : List Int) (ws : List (List Int)) : Prop := (Γ 11).1 7 = J (ws.length : Nat) ∧ ∀ t, t < ws.length → ∃ z : Int, (Γ 11).2.1 6 t = J z ∧ TNO W z (tm9 (ws.getD t []))
theorem getD_mapT {P : List (Nat × Nat)} {L : Nat → Int} {t : Nat} (h : t < P.length) : (P.map (twd L)).getD t [] = twd L (P.getD t (0, 0)) := by
  rw [List.getD_eq_getElem?_getD, List.getElem?_map, List.getD_eq_getElem?_getD, List.getElem?_eq_getElem h]; rfl
theorem TRr_of {σ : MS} {L : Nat → Int} {n : Nat} {P : List (Nat × Nat)} (h : RTS σ P) (hL : LIN σ L n) (hP : ∀ p, p ∈ P → TMK L n p) : TRr σ (P.map (twd L)) := by
  obtain ⟨h1, h2, h3⟩ := h
  refine ⟨by rw [List.length_map]; exact h1, by rw [List.length_map]; exact h2, fun t ht => ?_⟩
  rw [List.length_map] at ht
  have hm : P.getD t (0, 0) ∈ P := by
    rw [List.getD_eq_getElem?_getD, List.getElem?_eq_getElem ht]; exact List.getElem_mem ht
  have k := hP _ hm
  obtain ⟨a1, a2⟩ := h3 t ht
  rw [getD_mapT ht]
  generalize P.getD t (0, 0) = p at k a1 a2
  obtain ⟨k1, k2, k3⟩ := id k
  have hn : tmn p ≤ p.2 - p.1 := by unfold tmn; split <;> omega
  have := hL.1
  refine ⟨twd_TW k, p.1, by rw [twd_len]; omega, a1, by rw [twd_len]; exact a2, fun j hj => ?_⟩
  rw [twd_len] at hj
  rw [twd_get L p hj]
  exact (hL.2.2 (p.1 + j) (by omega)).1
theorem TRc_of {Γ : HS} {L : Nat → Int} {W : List Int} {P : List (Nat × Nat)} (h : CTS L W Γ P) : TRc Γ W (P.map (twd L)) := by
  obtain ⟨h1, h2, h3⟩ := h
  refine ⟨by rw [List.length_map]; exact h1, fun t ht => ?_⟩
  rw [List.length_map] at ht
  rw [getD_mapT ht]; exact h3 t ht
theorem TRr_keep {σ τ : MS} {ws : List (List Int)} (h : TRr σ ws) (e1 : τ.1 120 = σ.1 120) (e2 : ∀ k, k = 116 ∨ k = 118 ∨ k = 119 → τ.2 k = σ.2 k) : TRr τ ws := by
  unfold TRr
  rw [e1, e2 116 (by omega), e2 118 (by omega), e2 119 (by omega)]; exact h
/-- the literal of a text -/
def LTW (S : List Int32) (v : List Int) : Prop := S.length = v.length ∧ 1 ≤ v.length ∧ v.length ≤ 9 ∧ ∀ k, k < v.length → g_chr (S.getD k 0) = J (v.getD k 0) ∧ 97 ≤ v.getD k 0 ∧ v.getD k 0 ≤ 122
theorem w_ne {w v : List Int} {k : Nat} (h : w.getD k 0 ≠ v.getD k 0) : ¬ w = v := fun e => h (by rw [e])
theorem r_isL {σ : MS} {ws : List (List Int)} {t : Nat} {S : List Int32} {v : List Int} (h : TRr σ ws) (ht : t < ws.length) (hS : LTW S v) : F_X12_isTerm (J (t : Nat)) S σ = some (if ws.getD t [] = v then 1 else 0, σ) := by
  obtain ⟨h1, h2, h3⟩ := h
  obtain ⟨w1, a, a1, a2, a3, a4⟩ := h3 t ht
  obtain ⟨s1, s2, s3, s4⟩ := hS
  generalize ws.getD t [] = w at w1 a1 a3 a4
  obtain ⟨t1, t2, t3⟩ := w1
  have g12 := gNn (k := t) (n := 12) (by omega) (by omega)
  have g12' : ¬ (J (t : Nat) < 0 ∨ 12 ≤ t) := by rw [J_natN (by omega)] at g12; exact g12
  have e9 : (if J (v.length : Nat) < 9 then J (v.length : Nat) else (9 : Int32)) = J (v.length : Nat) := by
    have e := J_min (a := J (v.length : Nat)) (k := v.length) (n := 9) rfl (by omega) (by omega)
    rw [show (if v.length < 9 then v.length else 9) = v.length by split <;> omega] at e
    exact e
  have go : w.length = v.length → ∀ (d k m : Nat), k + d = w.length → d < m → (∀ j, j < k → w.getD j 0 = v.getD j 0) → loopF (IsL (J (t : Nat)) S) m (1, J (k : Nat), σ) = some (if w = v then 1 else 0, σ) := by
    intro hl d
    induction d with
    | zero =>
      intro k m hk hm hd
      obtain ⟨m, rfl⟩ : ∃ j, m = j + 1 := ⟨m - 1, by omega⟩
      have e : w = v := list_ext hl (fun j hj => hd j (by omega))
      rw [IsL_s, if_neg g12, J_natN (by omega), a3, if_pos (by rw [J_le (by omega) (by omega) (by omega) (by omega)]; omega), if_neg (by decide), if_pos e]
    | succ d ih =>
      intro k m hk hm hd
      obtain ⟨m, rfl⟩ : ∃ j, m = j + 1 := ⟨m - 1, by omega⟩
      obtain ⟨c1, c2, c3⟩ := s4 k (by omega)
      have cw := isLt_iff.mp (t3 k (by omega))
      rw [IsL_s, if_neg g12, J_natN (by omega), a3, if_neg (by rw [J_le (by omega) (by omega) (by omega) (by omega)]; omega), if_neg (by decide), if_neg g12', a2, J_add, show ((a : Nat) : Int) + ((k : Nat) : Int) = ((a + k : Nat) : Int) by omega, bndE, if_neg (gNn (by omega) (by omega)), if_neg (show ¬ (J (k : Nat) < 0 ∨ Int32.ofNat S.length ≤ J (k : Nat)) by rw [J_ofNat, s1]; rintro (c | c); exact J_nlt0 (by omega) (by omega) c; rw [J_le (by omega) (by omega) (by omega) (by omega)] at c; omega), J_natN (by omega), J_natN (by omega), c1, a4 k (by omega), bndE, bndE]
      by_cases q : w.getD k 0 = v.getD k 0
      · rw [if_pos (by rw [q])]
        dsimp only
        rw [bndE, J_suc]
        exact ih (k + 1) m (by omega) (by omega) (fun j hj => by
          by_cases e : j = k
          · rw [e]; exact q
          · exact hd j (by omega))
      · rw [if_neg (by rw [J_eq (by omega) (by omega) (by omega) (by omega)]; exact q)]
        dsimp only
        rw [bndE, J_suc, if_neg (w_ne q)]
        obtain ⟨m, rfl⟩ : ∃ j, m = j + 1 := ⟨m - 1, by omega⟩
        rw [IsL_s, if_neg g12]
        split
        · rw [if_neg (by decide)]
        · rw [if_pos rfl, if_neg (by decide)]
  rw [isL_eq, if_neg g12, J_natN (by omega), a3, bndE, show Int32.ofNat S.length = J (v.length : Nat) by rw [J_ofNat, s1], e9, bndE, bndE]
  by_cases q : w.length = v.length
  · rw [if_pos (by rw [q])]
    exact go q w.length 0 FU (by omega) (FU_gt (by omega)) (fun j hj => by omega)
  · rw [if_neg (by rw [J_eqN (by omega) (by omega)]; exact q), if_neg (fun e => q (by rw [e]))]
    obtain ⟨m, hm⟩ : ∃ m, FU = m + 1 := ⟨FU - 1, by have := FU_gt (k := 0) (by omega); omega⟩
    dsimp only
    rw [hm, IsL_s, if_neg g12]
    split
    · rw [if_neg (by decide)]
    · rw [if_pos rfl, if_neg (by decide)]
/-- whether a term is a source's word -/
def eqT (w v : List Int) : Bool := decide (wsz w = (v.length : Int) ∧ ∀ k, k < v.length → w.getD k 0 = v.getD k 0)
theorem eqT_iff {w v : List Int} : eqT w v = true ↔ wsz w = (v.length : Int) ∧ ∀ k, k < v.length → w.getD k 0 = v.getD k 0 := by unfold eqT; exact decide_eq_true_iff
theorem wsz_or (w : List Int) : wsz w = -1 ∨ (wsz w = (wmn w : Int) ∧ ∀ k, k < wmn w → lowB (w.getD k 0) = true) := by
  unfold wsz
  split
  · rename_i h; exact Or.inr ⟨rfl, h⟩
  · exact Or.inl rfl
theorem wmn_le9 (w : List Int) : wmn w ≤ 9 := by unfold wmn; split <;> omega
theorem r_isV {σ : MS} {ws : List (List Int)} {t p : Nat} {w' : List Int} (h : TRr σ ws) (ht : t < ws.length) (hp : p + 9 ≤ 5490) (hw : ∀ k, k < wmn w' → σ.2 57 (p + k) = J (w'.getD k 0)) : F_X12_isTerm__verbBytes (J (t : Nat)) (J (p : Nat)) (J (wsz w')) σ = some (if eqT w' (ws.getD t []) = true then 1 else 0, σ) := by
  obtain ⟨h1, h2, h3⟩ := h
  obtain ⟨w1, a, a1, a2, a3, a4⟩ := h3 t ht
  generalize ws.getD t [] = w at w1 a1 a3 a4
  obtain ⟨t1, t2, t3⟩ := w1
  have g12 := gNn (k := t) (n := 12) (by omega) (by omega)
  have w9 := wmn_le9 w'
  have hs := wsz_or w'
  have hsr : -1 ≤ wsz w' ∧ wsz w' ≤ 9 := by omega
  have go : wsz w' = (w.length : Int) → ∀ (d k m : Nat), k + d = w.length → d < m → (∀ j, j < k → w'.getD j 0 = w.getD j 0) → loopF (IsV (J (t : Nat)) (J (p : Nat)) (J (wsz w'))) m (1, J (k : Nat), σ) = some (if eqT w' w = true then 1 else 0, σ) := by
    intro hl d
    have hlow : w.length = wmn w' ∧ ∀ k, k < wmn w' → lowB (w'.getD k 0) = true := by
      rcases hs with hs | ⟨hs, hs2⟩
      · omega
      · exact ⟨by omega, hs2⟩
    induction d with
    | zero =>
      intro k m hk hm hd
      obtain ⟨m, rfl⟩ : ∃ j, m = j + 1 := ⟨m - 1, by omega⟩
      rw [IsV_s, hl, if_pos (by rw [J_le (by omega) (by omega) (by omega) (by omega)]; omega), if_neg (by decide), if_pos (eqT_iff.mpr ⟨hl, fun j hj => hd j (by omega)⟩)]
    | succ d ih =>
      intro k m hk hm hd
      obtain ⟨m, rfl⟩ : ∃ j, m = j + 1 := ⟨m - 1, by omega⟩
      have cw := isLt_iff.mp (t3 k (by omega))
      have cw' := lowB_iff.mp (hlow.2 k (by omega))
      rw [IsV_s, if_neg (by rw [hl, J_le (by omega) (by omega) (by omega) (by omega)]; omega), if_neg (by decide), if_neg g12, J_natN (by omega), a2, J_add, show ((a : Nat) : Int) + ((k : Nat) : Int) = ((a + k : Nat) : Int) by omega, bndE, if_neg (gNn (by omega) (by omega)), J_add, show ((p : Nat) : Int) + ((k : Nat) : Int) = ((p + k : Nat) : Int) by omega, bndE, if_neg (gNn (by omega) (by omega)), J_natN (by omega), J_natN (by omega), a4 k (by omega), hw k (by omega), bndE]
      by_cases q : w'.getD k 0 = w.getD k 0
      · rw [if_pos (by rw [q])]
        dsimp only
        rw [bndE, J_suc]
        exact ih (k + 1) m (by omega) (by omega) (fun j hj => by
          by_cases e : j = k
          · rw [e]; exact q
          · exact hd j (by omega))
      · rw [if_neg (by rw [J_eq (by omega) (by omega) (by omega) (by omega)]; exact fun e => q e.symm)]
        dsimp only
        rw [bndE, J_suc, if_neg (fun e => q ((eqT_iff.mp e).2 k (by omega)))]
        obtain ⟨m, rfl⟩ : ∃ j, m = j + 1 := ⟨m - 1, by omega⟩
        rw [IsV_s]
        split
        · rw [if_neg (by decide)]
        · rw [if_pos rfl, if_neg (by decide)]
  rw [isV_eq, if_neg g12, J_natN (by omega), a3, bndE]
  by_cases q : wsz w' = (w.length : Int)
  · rw [if_pos (by rw [q])]
    exact go q w.length 0 FU (by omega) (FU_gt (by omega)) (fun j hj => by omega)
  · rw [if_neg (by rw [J_eq (by omega) (by omega) (by omega) (by omega)]; exact fun e => q e.symm), if_neg (fun e => q (eqT_iff.mp e).1)]
    obtain ⟨m, hm⟩ : ∃ m, FU = m + 1 := ⟨FU - 1, by have := FU_gt (k := 0) (by omega); omega⟩
    dsimp only
    rw [hm, IsV_s]
    split
    · rw [if_neg (by decide)]
    · rw [if_pos rfl, if_neg (by decide)]
theorem r_isW {σ : MS} {ws : List (List Int)} {t p : Nat} {w' : List Int} (h : TRr σ ws) (ht : t < ws.length) (hp : p + 9 ≤ 549) (hw : ∀ k, k < wmn w' → σ.2 61 (p + k) = J (w'.getD k 0)) : F_X12_isTerm__between (J (t : Nat)) (J (p : Nat)) (J (wsz w')) σ = some (if eqT w' (ws.getD t []) = true then 1 else 0, σ) := by
  obtain ⟨h1, h2, h3⟩ := h
  obtain ⟨w1, a, a1, a2, a3, a4⟩ := h3 t ht
  generalize ws.getD t [] = w at w1 a1 a3 a4
  obtain ⟨t1, t2, t3⟩ := w1
  have g12 := gNn (k := t) (n := 12) (by omega) (by omega)
  have w9 := wmn_le9 w'
  have hs := wsz_or w'
  have hsr : -1 ≤ wsz w' ∧ wsz w' ≤ 9 := by omega
  have go : wsz w' = (w.length : Int) → ∀ (d k m : Nat), k + d = w.length → d < m → (∀ j, j < k → w'.getD j 0 = w.getD j 0) → loopF (IsW (J (t : Nat)) (J (p : Nat)) (J (wsz w'))) m (1, J (k : Nat), σ) = some (if eqT w' w = true then 1 else 0, σ) := by
    intro hl d
    have hlow : w.length = wmn w' ∧ ∀ k, k < wmn w' → lowB (w'.getD k 0) = true := by
      rcases hs with hs | ⟨hs, hs2⟩
      · omega
      · exact ⟨by omega, hs2⟩
    induction d with
    | zero =>
      intro k m hk hm hd
      obtain ⟨m, rfl⟩ : ∃ j, m = j + 1 := ⟨m - 1, by omega⟩
      rw [IsW_s, hl, if_pos (by rw [J_le (by omega) (by omega) (by omega) (by omega)]; omega), if_neg (by decide), if_pos (eqT_iff.mpr ⟨hl, fun j hj => hd j (by omega)⟩)]
    | succ d ih =>
      intro k m hk hm hd
      obtain ⟨m, rfl⟩ : ∃ j, m = j + 1 := ⟨m - 1, by omega⟩
      have cw := isLt_iff.mp (t3 k (by omega))
      have cw' := lowB_iff.mp (hlow.2 k (by omega))
      rw [IsW_s, if_neg (by rw [hl, J_le (by omega) (by omega) (by omega) (by omega)]; omega), if_neg (by decide), if_neg g12, J_natN (by omega), a2, J_add, show ((a : Nat) : Int) + ((k : Nat) : Int) = ((a + k : Nat) : Int) by omega, bndE, if_neg (gNn (by omega) (by omega)), J_add, show ((p : Nat) : Int) + ((k : Nat) : Int) = ((p + k : Nat) : Int) by omega, bndE, if_neg (gNn (by omega) (by omega)), J_natN (by omega), J_natN (by omega), a4 k (by omega), hw k (by omega), bndE]
      by_cases q : w'.getD k 0 = w.getD k 0
      · rw [if_pos (by rw [q])]
        dsimp only
        rw [bndE, J_suc]
        exact ih (k + 1) m (by omega) (by omega) (fun j hj => by
          by_cases e : j = k
          · rw [e]; exact q
          · exact hd j (by omega))
      · rw [if_neg (by rw [J_eq (by omega) (by omega) (by omega) (by omega)]; exact fun e => q e.symm)]
        dsimp only
        rw [bndE, J_suc, if_neg (fun e => q ((eqT_iff.mp e).2 k (by omega)))]
        obtain ⟨m, rfl⟩ : ∃ j, m = j + 1 := ⟨m - 1, by omega⟩
        rw [IsW_s]
        split
        · rw [if_neg (by decide)]
        · rw [if_pos rfl, if_neg (by decide)]
  rw [isW_eq, if_neg g12, J_natN (by omega), a3, bndE]
  by_cases q : wsz w' = (w.length : Int)
  · rw [if_pos (by rw [q])]
    exact go q w.length 0 FU (by omega) (FU_gt (by omega)) (fun j hj => by omega)
  · rw [if_neg (by rw [J_eq (by omega) (by omega) (by omega) (by omega)]; exact fun e => q e.symm), if_neg (fun e => q (eqT_iff.mp e).1)]
    obtain ⟨m, hm⟩ : ∃ m, FU = m + 1 := ⟨FU - 1, by have := FU_gt (k := 0) (by omega); omega⟩
    dsimp only
    rw [hm, IsW_s]
    split
    · rw [if_neg (by decide)]
    · rw [if_pos rfl, if_neg (by decide)]
theorem r_isO {σ : MS} {ws : List (List Int)} {t p : Nat} {w' : List Int} (h : TRr σ ws) (ht : t < ws.length) (hp : p + 9 ≤ 10890) (hw : ∀ k, k < wmn w' → σ.2 54 (p + k) = J (w'.getD k 0)) : F_X12_isTerm__wordBytes (J (t : Nat)) (J (p : Nat)) (J (wsz w')) σ = some (if eqT w' (ws.getD t []) = true then 1 else 0, σ) := by
  obtain ⟨h1, h2, h3⟩ := h
  obtain ⟨w1, a, a1, a2, a3, a4⟩ := h3 t ht
  generalize ws.getD t [] = w at w1 a1 a3 a4
  obtain ⟨t1, t2, t3⟩ := w1
  have g12 := gNn (k := t) (n := 12) (by omega) (by omega)
  have w9 := wmn_le9 w'
  have hs := wsz_or w'
  have hsr : -1 ≤ wsz w' ∧ wsz w' ≤ 9 := by omega
  have go : wsz w' = (w.length : Int) → ∀ (d k m : Nat), k + d = w.length → d < m → (∀ j, j < k → w'.getD j 0 = w.getD j 0) → loopF (IsO (J (t : Nat)) (J (p : Nat)) (J (wsz w'))) m (1, J (k : Nat), σ) = some (if eqT w' w = true then 1 else 0, σ) := by
    intro hl d
    have hlow : w.length = wmn w' ∧ ∀ k, k < wmn w' → lowB (w'.getD k 0) = true := by
      rcases hs with hs | ⟨hs, hs2⟩
      · omega
      · exact ⟨by omega, hs2⟩
    induction d with
    | zero =>
      intro k m hk hm hd
      obtain ⟨m, rfl⟩ : ∃ j, m = j + 1 := ⟨m - 1, by omega⟩
      rw [IsO_s, hl, if_pos (by rw [J_le (by omega) (by omega) (by omega) (by omega)]; omega), if_neg (by decide), if_pos (eqT_iff.mpr ⟨hl, fun j hj => hd j (by omega)⟩)]
    | succ d ih =>
      intro k m hk hm hd
      obtain ⟨m, rfl⟩ : ∃ j, m = j + 1 := ⟨m - 1, by omega⟩
      have cw := isLt_iff.mp (t3 k (by omega))
      have cw' := lowB_iff.mp (hlow.2 k (by omega))
      rw [IsO_s, if_neg (by rw [hl, J_le (by omega) (by omega) (by omega) (by omega)]; omega), if_neg (by decide), if_neg g12, J_natN (by omega), a2, J_add, show ((a : Nat) : Int) + ((k : Nat) : Int) = ((a + k : Nat) : Int) by omega, bndE, if_neg (gNn (by omega) (by omega)), J_add, show ((p : Nat) : Int) + ((k : Nat) : Int) = ((p + k : Nat) : Int) by omega, bndE, if_neg (gNn (by omega) (by omega)), J_natN (by omega), J_natN (by omega), a4 k (by omega), hw k (by omega), bndE]
      by_cases q : w'.getD k 0 = w.getD k 0
      · rw [if_pos (by rw [q])]
        dsimp only
        rw [bndE, J_suc]
        exact ih (k + 1) m (by omega) (by omega) (fun j hj => by
          by_cases e : j = k
          · rw [e]; exact q
          · exact hd j (by omega))
      · rw [if_neg (by rw [J_eq (by omega) (by omega) (by omega) (by omega)]; exact fun e => q e.symm)]
        dsimp only
        rw [bndE, J_suc, if_neg (fun e => q ((eqT_iff.mp e).2 k (by omega)))]
        obtain ⟨m, rfl⟩ : ∃ j, m = j + 1 := ⟨m - 1, by omega⟩
        rw [IsO_s]
        split
        · rw [if_neg (by decide)]
        · rw [if_pos rfl, if_neg (by decide)]
  rw [isO_eq, if_neg g12, J_natN (by omega), a3, bndE]
  by_cases q : wsz w' = (w.length : Int)
  · rw [if_pos (by rw [q])]
    exact go q w.length 0 FU (by omega) (FU_gt (by omega)) (fun j hj => by omega)
  · rw [if_neg (by rw [J_eq (by omega) (by omega) (by omega) (by omega)]; exact fun e => q e.symm), if_neg (fun e => q (eqT_iff.mp e).1)]
    obtain ⟨m, hm⟩ : ∃ m, FU = m + 1 := ⟨FU - 1, by have := FU_gt (k := 0) (by omega); omega⟩
    dsimp only
    rw [hm, IsO_s]
    split
    · rw [if_neg (by decide)]
    · rw [if_pos rfl, if_neg (by decide)]
