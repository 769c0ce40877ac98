/-! the class hears a line -/
/-- a word's number as a term has it: -1 if it is none -/
def TNO (W : List Int) (z : Int) (t : Int) : Prop := (∃ m : Nat, z = (m : Nat) ∧ m < W.length ∧ W.getD m 0 = t) ∨ (z = -1 ∧ ∀ m, m < W.length → W.getD m 0 ≠ t)
def CTS (L : Nat → Int) (W : List Int) (Γ : HS) (P : List (Nat × Nat)) : Prop := (Γ 11).1 7 = J (P.length : Nat) ∧ P.length ≤ 12 ∧ ∀ i, i < P.length → ∃ z : Int, (Γ 11).2.1 6 i = J z ∧ TNO W z (tm9 (twd L (P.getD i (0, 0))))
/-- only what is heard changed -/
def cHr (Γ Δ : HS) : Prop := (∀ r, r ≠ 11 → Δ r = Γ r) ∧ (∀ k, k ≠ 5 → k ≠ 7 → (Δ 11).1 k = (Γ 11).1 k) ∧ ∀ k, k ≠ 4 → k ≠ 6 → (Δ 11).2.1 k = (Γ 11).2.1 k
theorem cHr_rfl {Γ : HS} : cHr Γ Γ := ⟨fun _ _ => rfl, fun _ _ _ => rfl, fun _ _ _ => rfl⟩
theorem cHr_trans {Γ Δ Θ : HS} (h : cHr Γ Δ) (g : cHr Δ Θ) : cHr Γ Θ := ⟨fun r a => by rw [g.1 r a, h.1 r a], fun k a b => by rw [g.2.1 k a b, h.2.1 k a b], fun k a b => by rw [g.2.2 k a b, h.2.2 k a b]⟩
/-- a line: n bytes -/
def CLN (Γ : HS) (L : Nat → Int) (n : Nat) : Prop := n ≤ 120 ∧ (Γ 11).1 5 = J (n : Nat) ∧ ∀ i, i < n → (Γ 11).2.1 4 i = J (L i) ∧ 0 ≤ L i ∧ L i ≤ 126
theorem TbB_go {f t n : Nat} {L : Nat → Int} {Γ : HS} (hL : CLN Γ L n) (ht : t ≤ n) (hf : f ≤ t) : ∀ (d k m : Nat), k + d = 9 → d < m → loopF (TbB (J (f : Nat)) (J (t : Nat))) m (L64 (dgF (fun k => if f + k < t then nsg (L (f + k)) else 0) k), J (f + k : Nat), Γ) = some (L64 (dgF (fun k => if f + k < t then nsg (L (f + k)) else 0) 9), Γ) := by
  obtain ⟨l1, l2, l3⟩ := hL
  intro d
  induction d with
  | zero =>
    intro k m hk hm
    obtain ⟨m, rfl⟩ : ∃ j, m = j + 1 := ⟨m - 1, by omega⟩
    obtain rfl : k = 9 := by omega
    rw [TbB_s, show J (f : Nat) + 9 = J (f + 9 : Nat) by rw [show (9 : Int32) = J 9 from rfl, J_add]; rfl, if_pos (Int32.le_refl _)]
  | succ d ih =>
    intro k m hk hm
    obtain ⟨m, rfl⟩ : ∃ j, m = j + 1 := ⟨m - 1, by omega⟩
    have s := TbB_s (J (f : Nat)) (J (t : Nat)) m (L64 (dgF (fun k => if f + k < t then nsg (L (f + k)) else 0) k)) (J (f + k : Nat)) Γ
    rw [show J (f : Nat) + 9 = J (f + 9 : Nat) by rw [show (9 : Int32) = J 9 from rfl, J_add]; rfl, if_neg (by rw [J_le (by omega) (by omega) (by omega) (by omega)]; omega), bndE, bndE] at s
    have step : ∀ v : Int, v = (if f + k < t then nsg (L (f + k)) else 0) → L64 (dgF (fun k => if f + k < t then nsg (L (f + k)) else 0) k) * 37 + L64 v = L64 (dgF (fun k => if f + k < t then nsg (L (f + k)) else 0) (k + 1)) := fun v hv => by
      rw [show (37 : Int64) = L64 37 from rfl, L_mul, L_add, hv]; rfl
    by_cases q : f + k < t
    · obtain ⟨a1, a2, a3⟩ := l3 (f + k) (by omega)
      have a1 := nrB_J a1 (by omega) (by omega)
      rw [if_neg (by rw [J_le (by omega) (by omega) (by omega) (by omega)]; omega), if_neg (J_nlt0 (by omega) (by omega)), if_neg (by rw [show (120 : Int32) = J ((120 : Nat) : Int) from rfl, J_le (by omega) (by omega) (by omega) (by omega)]; omega), if_neg (gNn (by omega) (by omega)), J_natN (by omega), a1, c_nameSign (by omega), Option.bind_some] at s
      dsimp only at s
      have hr : -1000 ≤ nsg (L (f + k)) ∧ nsg (L (f + k)) ≤ 1000 := by unfold nsg; split <;> omega
      rw [bndE, bndE, J_suc, J_64 (by omega) (by omega), step _ (by rw [if_pos q])] at s
      rw [s]
      exact ih (k + 1) m (by omega) (by omega)
    · rw [if_pos (by rw [J_le (by omega) (by omega) (by omega) (by omega)]; omega)] at s
      dsimp only at s
      rw [bndE, bndE, J_suc, show (0 : Int32).toInt64 = L64 0 from rfl, step _ (by rw [if_neg q])] at s
      rw [s]
      exact ih (k + 1) m (by omega) (by omega)
theorem c_tb {f t n : Nat} {L : Nat → Int} {Γ : HS} (hL : CLN Γ L n) (ht : t ≤ n) (hf : f ≤ t) : F_X8_termBetween (J (f : Nat)) (J (t : Nat)) Γ = some (L64 (tm9 (twd L (f, t))), Γ) := by
  have e9 : tm9 (twd L (f, t)) = dgF (fun k => if f + k < t then nsg (L (f + k)) else 0) 9 := by
    unfold tm9
    refine dgF_congr 9 (fun k hk => ?_)
    unfold dgw
    rw [twd_len]
    have e : (k < tmn (f, t)) = (f + k < t) := by
      apply propext
      unfold tmn
      dsimp only
      split <;> omega
    by_cases q : f + k < t
    · rw [if_pos q, if_pos (by rw [e]; exact q), twd_get L (f, t) (by rw [e]; exact q)]
    · rw [if_neg q, if_neg (by rw [e]; exact q)]
  have g := TbB_go hL ht hf 9 0 FU rfl (FU_gt (by omega))
  rw [e9, tb_eq]
  exact g
/-- one more term written down -/
def recX (X : HS) (v : Int32) : HS := cI' (cA' X 11 6 (g_put 12 ((X 11).2.1 6) ((X 11).1 7) v)) 11 7 ((X 11).1 7 + 1)
theorem c_find {Γ : HS} {W : List Int} {w : List Int} (h : DOK Γ W) (hw : nmW w) : ∃ z : Int, F_X1_find (L64 (tm9 w)) Γ = some (J z, Γ) ∧ TNO W z (tm9 w) := by
  obtain ⟨r1, r2⟩ := tm9_rng hw
  rcases d_find h r1 r2 with ⟨m, m1, m2, m3⟩ | ⟨m1, m2⟩
  · exact ⟨(m : Nat), m3, Or.inl ⟨m, rfl, m1, m2⟩⟩
  · exact ⟨-1, m2, Or.inr ⟨rfl, m1⟩⟩
/-- the scan, as both its texts go -/
def SCN (B : (Int32 × Int32 × HS → HR) → Int32 × Int32 × HS → HR) : Prop := ∀ (L : Nat → Int) (n : Nat) (W : List Int) (X : HS) (m f i c : Nat), CLN X L n → DOK X W → (X 11).1 7 = J (c : Nat) → c ≤ 12 → f ≤ i →
  (n < i → i ≤ 200 → loopF B (m + 1) (J (f : Nat), J (i : Nat), X) = some (0, X)) ∧
  (i < n → isLt (L i) = true → loopF B (m + 1) (J (f : Nat), J (i : Nat), X) = loopF B m (J (f : Nat), J (i + 1 : Nat), X)) ∧
  ((i = n ∨ (i < n ∧ isLt (L i) = false)) → (f = i ∨ c = 12) → loopF B (m + 1) (J (f : Nat), J (i : Nat), X) = loopF B m (J (i + 1 : Nat), J (i + 1 : Nat), X)) ∧
  ((i = n ∨ (i < n ∧ isLt (L i) = false)) → f < i → c < 12 → ∀ v : Int32, F_X1_find (L64 (tm9 (twd L (f, i)))) X = some (v, X) → loopF B (m + 1) (J (f : Nat), J (i : Nat), X) = loopF B m (J (i + 1 : Nat), J (i + 1 : Nat), recX X v))
theorem HrB_scn : SCN HrB := by
  intro L n W X m f i c hL hD h7 hc hf
  have hL' := hL
  obtain ⟨l1, l2, l3⟩ := hL'
  have s := HrB_s m (J (f : Nat)) (J (i : Nat)) X
  rw [l2] at s
  refine ⟨fun q q2 => ?_, fun q ql => ?_, fun q q2 => ?_, fun q q2 q3 v hv => ?_⟩
  · rw [s, if_pos (by rw [J_lt (by omega) (by omega) (by omega) (by omega)]; omega)]
  · obtain ⟨a1, a2, a3⟩ := l3 i q
    have a1 := nrB_J a1 (by omega) (by omega)
    rw [if_neg (by rw [J_lt (by omega) (by omega) (by omega) (by omega)]; omega), bndE, bndE, if_neg (by rw [J_eqN (by omega) (by omega)]; omega), if_neg (by rw [show (120 : Int32) = J ((120 : Nat) : Int) from rfl, J_le (by omega) (by omega) (by omega) (by omega)]; omega), if_neg (gNn (by omega) (by omega)), J_natN (by omega), a1, c_isLetter (by omega), Option.bind_some, if_pos ql] at s
    dsimp only at s
    rw [if_neg (by decide), bndE, J_suc] at s
    exact s
  · have hi : i ≤ n := by omega
    have go : loopF HrB (m + 1) (J (f : Nat), J (i : Nat), X) = (if J (i : Nat) ≤ J (f : Nat) then loopF HrB m (J (i + 1 : Nat), J (i + 1 : Nat), X) else if 12 ≤ (X 11).1 7 then loopF HrB m (J (i + 1 : Nat), J (i + 1 : Nat), X) else none) ∨ loopF HrB (m + 1) (J (f : Nat), J (i : Nat), X) = loopF HrB m (J (i + 1 : Nat), J (i + 1 : Nat), X) := by
      rw [if_neg (by rw [J_lt (by omega) (by omega) (by omega) (by omega)]; omega), bndE, bndE] at s
      have sk : ∀ y : HR, (if J (i : Nat) ≤ J (f : Nat) then loopF HrB m (J (i + 1 : Nat), J (i + 1 : Nat), X) else if 12 ≤ (X 11).1 7 then loopF HrB m (J (i + 1 : Nat), J (i + 1 : Nat), X) else y) = loopF HrB m (J (i + 1 : Nat), J (i + 1 : Nat), X) := fun y => by
        rcases q2 with q2 | q2
        · rw [if_pos (by rw [q2]; exact Int32.le_refl _)]
        · rw [if_pos (show (12 : Int32) ≤ (X 11).1 7 by rw [h7, q2]; decide), ite_self]
      rcases q with q | ⟨q, ql⟩
      · rw [if_pos (by rw [q])] at s
        dsimp only at s
        rw [bndE] at s
        dsimp only at s
        rw [bndE, bndE, J_suc, sk] at s
        exact Or.inr s
      · obtain ⟨a1, a2, a3⟩ := l3 i q
        have a1 := nrB_J a1 (by omega) (by omega)
        rw [if_neg (by rw [J_eqN (by omega) (by omega)]; omega), if_neg (by rw [show (120 : Int32) = J ((120 : Nat) : Int) from rfl, J_le (by omega) (by omega) (by omega) (by omega)]; omega), if_neg (gNn (by omega) (by omega)), J_natN (by omega), a1, c_isLetter (by omega), Option.bind_some, ql] at s
        dsimp only at s
        rw [if_pos (by decide), bndE] at s
        dsimp only at s
        rw [bndE, bndE, J_suc, sk] at s
        exact Or.inr s
    rcases go with go | go
    · rw [go]
      rcases q2 with q2 | q2
      · rw [if_pos (by rw [q2]; exact Int32.le_refl _)]
      · rw [if_pos (show (12 : Int32) ≤ (X 11).1 7 by rw [h7, q2]; decide), ite_self]
    · exact go
  · have tb := c_tb hL (f := f) (t := i) (by omega) hf
    rw [if_neg (by rw [J_lt (by omega) (by omega) (by omega) (by omega)]; omega), bndE, bndE] at s
    have n1 : ¬ J (i : Nat) ≤ J (f : Nat) := by rw [J_le (by omega) (by omega) (by omega) (by omega)]; omega
    have n2 : ¬ (12 : Int32) ≤ (X 11).1 7 := by rw [h7, show (12 : Int32) = J ((12 : Nat) : Int) from rfl, J_le (by omega) (by omega) (by omega) (by omega)]; omega
    rcases q with q | ⟨q, ql⟩
    · rw [if_pos (by rw [q])] at s
      dsimp only at s
      rw [bndE, if_neg n1, if_neg n2, tb, Option.bind_some] at s
      dsimp only at s
      rw [mrgS, bndE, hv, Option.bind_some] at s
      dsimp only at s
      rw [mrgS, bndE, bndE, bndE, bndE, bndE, J_suc] at s
      exact s
    · obtain ⟨a1, a2, a3⟩ := l3 i q
      have a1 := nrB_J a1 (by omega) (by omega)
      rw [if_neg (by rw [J_eqN (by omega) (by omega)]; omega), if_neg (by rw [show (120 : Int32) = J ((120 : Nat) : Int) from rfl, J_le (by omega) (by omega) (by omega) (by omega)]; omega), if_neg (gNn (by omega) (by omega)), J_natN (by omega), a1, c_isLetter (by omega), Option.bind_some, ql] at s
      dsimp only at s
      rw [if_pos (by decide), bndE, if_neg n1, if_neg n2, tb, Option.bind_some] at s
      dsimp only at s
      rw [mrgS, bndE, hv, Option.bind_some] at s
      dsimp only at s
      rw [mrgS, bndE, bndE, bndE, bndE, bndE, J_suc] at s
      exact s
theorem HrP_scn : SCN HrP := by
  intro L n W X m f i c hL hD h7 hc hf
  have hL' := hL
  obtain ⟨l1, l2, l3⟩ := hL'
  have s := HrP_s m (J (f : Nat)) (J (i : Nat)) X
  rw [l2] at s
  refine ⟨fun q q2 => ?_, fun q ql => ?_, fun q q2 => ?_, fun q q2 q3 v hv => ?_⟩
  · rw [s, if_pos (by rw [J_lt (by omega) (by omega) (by omega) (by omega)]; omega)]
  · obtain ⟨a1, a2, a3⟩ := l3 i q
    have a1 := nrB_J a1 (by omega) (by omega)
    rw [if_neg (by rw [J_lt (by omega) (by omega) (by omega) (by omega)]; omega), bndE, bndE, if_neg (by rw [J_eqN (by omega) (by omega)]; omega), if_neg (by rw [show (120 : Int32) = J ((120 : Nat) : Int) from rfl, J_le (by omega) (by omega) (by omega) (by omega)]; omega), if_neg (gNn (by omega) (by omega)), J_natN (by omega), a1, c_isLetter (by omega), Option.bind_some, if_pos ql] at s
    dsimp only at s
    rw [if_neg (by decide), bndE, J_suc] at s
    exact s
  · have hi : i ≤ n := by omega
    have go : loopF HrP (m + 1) (J (f : Nat), J (i : Nat), X) = (if J (i : Nat) ≤ J (f : Nat) then loopF HrP m (J (i + 1 : Nat), J (i + 1 : Nat), X) else if 12 ≤ (X 11).1 7 then loopF HrP m (J (i + 1 : Nat), J (i + 1 : Nat), X) else none) ∨ loopF HrP (m + 1) (J (f : Nat), J (i : Nat), X) = loopF HrP m (J (i + 1 : Nat), J (i + 1 : Nat), X) := by
      rw [if_neg (by rw [J_lt (by omega) (by omega) (by omega) (by omega)]; omega), bndE, bndE] at s
      have sk : ∀ y : HR, (if J (i : Nat) ≤ J (f : Nat) then loopF HrP m (J (i + 1 : Nat), J (i + 1 : Nat), X) else if 12 ≤ (X 11).1 7 then loopF HrP m (J (i + 1 : Nat), J (i + 1 : Nat), X) else y) = loopF HrP m (J (i + 1 : Nat), J (i + 1 : Nat), X) := fun y => by
        rcases q2 with q2 | q2
        · rw [if_pos (by rw [q2]; exact Int32.le_refl _)]
        · rw [if_pos (show (12 : Int32) ≤ (X 11).1 7 by rw [h7, q2]; decide), ite_self]
      rcases q with q | ⟨q, ql⟩
      · rw [if_pos (by rw [q])] at s
        dsimp only at s
        rw [bndE] at s
        dsimp only at s
        rw [bndE, bndE, J_suc, sk] at s
        exact Or.inr s
      · obtain ⟨a1, a2, a3⟩ := l3 i q
        have a1 := nrB_J a1 (by omega) (by omega)
        rw [if_neg (by rw [J_eqN (by omega) (by omega)]; omega), if_neg (by rw [show (120 : Int32) = J ((120 : Nat) : Int) from rfl, J_le (by omega) (by omega) (by omega) (by omega)]; omega), if_neg (gNn (by omega) (by omega)), J_natN (by omega), a1, c_isLetter (by omega), Option.bind_some, ql] at s
        dsimp only at s
        rw [if_pos (by decide), bndE] at s
        dsimp only at s
        rw [bndE, bndE, J_suc, sk] at s
        exact Or.inr s
    rcases go with go | go
    · rw [go]
      rcases q2 with q2 | q2
      · rw [if_pos (by rw [q2]; exact Int32.le_refl _)]
      · rw [if_pos (show (12 : Int32) ≤ (X 11).1 7 by rw [h7, q2]; decide), ite_self]
    · exact go
  · have tb := c_tb hL (f := f) (t := i) (by omega) hf
    rw [if_neg (by rw [J_lt (by omega) (by omega) (by omega) (by omega)]; omega), bndE, bndE] at s
    have n1 : ¬ J (i : Nat) ≤ J (f : Nat) := by rw [J_le (by omega) (by omega) (by omega) (by omega)]; omega
    have n2 : ¬ (12 : Int32) ≤ (X 11).1 7 := by rw [h7, show (12 : Int32) = J ((12 : Nat) : Int) from rfl, J_le (by omega) (by omega) (by omega) (by omega)]; omega
    rcases q with q | ⟨q, ql⟩
    · rw [if_pos (by rw [q])] at s
      dsimp only at s
      rw [bndE, if_neg n1, if_neg n2, tb, Option.bind_some] at s
      dsimp only at s
      rw [hv, Option.bind_some] at s
      dsimp only at s
      rw [mrgS, bndE, bndE, bndE, bndE, bndE, J_suc] at s
      exact s
    · obtain ⟨a1, a2, a3⟩ := l3 i q
      have a1 := nrB_J a1 (by omega) (by omega)
      rw [if_neg (by rw [J_eqN (by omega) (by omega)]; omega), if_neg (by rw [show (120 : Int32) = J ((120 : Nat) : Int) from rfl, J_le (by omega) (by omega) (by omega) (by omega)]; omega), if_neg (gNn (by omega) (by omega)), J_natN (by omega), a1, c_isLetter (by omega), Option.bind_some, ql] at s
      dsimp only at s
      rw [if_pos (by decide), bndE, if_neg n1, if_neg n2, tb, Option.bind_some] at s
      dsimp only at s
      rw [hv, Option.bind_some] at s
      dsimp only at s
      rw [mrgS, bndE, bndE, bndE, bndE, bndE, J_suc] at s
      exact s
