/-! what the words of a source are -/
def isLt (c : Int) : Bool := decide (97 ≤ c) && decide (c ≤ 122)
def isFg (c : Int) : Bool := decide (48 ≤ c) && decide (c ≤ 57)
def isLF (c : Int) : Bool := isLt c || isFg c
def no10 (c : Int) : Bool := !decide (c = 10)
def inStr (c : Int) : Bool := !decide (c = 34) && !decide (c = 10)
def scn (p : Int → Bool) (b : Nat → Int) (L : Nat) : Nat → Nat → Nat
  | 0, i => i
  | n + 1, i => if i < L ∧ p (b i) = true then scn p b L n (i + 1) else i
def endF (p : Int → Bool) (b : Nat → Int) (L i : Nat) : Nat := scn p b L (L - i) i
theorem endF_step {p : Int → Bool} {b : Nat → Int} {L i : Nat} (h : i < L) (h2 : p (b i) = true) : endF p b L i = endF p b L (i + 1) := by
  unfold endF; rw [show L - i = (L - (i + 1)) + 1 by omega]; rw [scn, if_pos ⟨h, h2⟩]
theorem endF_stop {p : Int → Bool} {b : Nat → Int} {L i : Nat} (h : ¬ (i < L ∧ p (b i) = true)) : endF p b L i = i := by
  unfold endF
  cases q : L - i with
  | zero => rfl
  | succ n => rw [scn, if_neg h]
theorem endF_all {p : Int → Bool} {b : Nat → Int} {L : Nat} : ∀ (k i : Nat), L - i ≤ k → i ≤ endF p b L i ∧ (i ≤ L → endF p b L i ≤ L) ∧ (∀ j, i ≤ j → j < endF p b L i → j < L ∧ p (b j) = true) ∧ ¬ (endF p b L i < L ∧ p (b (endF p b L i)) = true) := by
  intro k
  induction k with
  | zero => intro i h; rw [endF_stop (by omega)]; exact ⟨by omega, fun h => h, fun j h1 h2 => by omega, by omega⟩
  | succ k ih =>
    intro i h
    by_cases q : i < L ∧ p (b i) = true
    · rw [endF_step q.1 q.2]
      obtain ⟨h1, h2, h3, h4⟩ := ih (i + 1) (by omega)
      refine ⟨by omega, fun _ => h2 (by omega), fun j a c => ?_, h4⟩
      by_cases e : j = i
      · rw [e]; exact q
      · exact h3 j (by omega) c
    · rw [endF_stop q]; exact ⟨by omega, fun h => h, fun j h1 h2 => by omega, q⟩
theorem endF_ge {p : Int → Bool} {b : Nat → Int} {L : Nat} (i : Nat) : i ≤ endF p b L i := (endF_all _ i (Nat.le_refl _)).1
theorem endF_le {p : Int → Bool} {b : Nat → Int} {L i : Nat} (h : i ≤ L) : endF p b L i ≤ L := (endF_all _ i (Nat.le_refl _)).2.1 h
theorem endF_in {p : Int → Bool} {b : Nat → Int} {L i j : Nat} (h : i ≤ j) (h2 : j < endF p b L i) : j < L ∧ p (b j) = true := (endF_all _ i (Nat.le_refl _)).2.2.1 j h h2
theorem endF_end {p : Int → Bool} {b : Nat → Int} {L : Nat} (i : Nat) : ¬ (endF p b L i < L ∧ p (b (endF p b L i)) = true) := (endF_all _ i (Nat.le_refl _)).2.2.2
theorem endF_lt {p : Int → Bool} {b : Nat → Int} {L i : Nat} (h : i < L) (h2 : p (b i) = true) : i < endF p b L i := by
  rw [endF_step h h2]; exact endF_ge (i + 1)
theorem endF_mid {p : Int → Bool} {b : Nat → Int} {L i : Nat} : ∀ (d : Nat), i + d ≤ endF p b L i → endF p b L (i + d) = endF p b L i := by
  intro d
  induction d with
  | zero => intro _; rfl
  | succ d ih =>
    intro h
    obtain ⟨q, q2⟩ := endF_in (p := p) (b := b) (L := L) (i := i) (j := i + d) (by omega) (by omega)
    rw [← ih (by omega), endF_step q q2]; rfl
/-- behind what parts words -/
def skpN (b : Nat → Int) (L : Nat) : Nat → Nat → Nat
  | 0, i => i
  | n + 1, i => if i < L then (if b i = 32 ∨ b i = 10 then skpN b L n (i + 1) else if b i = 35 then skpN b L n (endF no10 b L (i + 1)) else i) else i
theorem skpN_fuel {b : Nat → Int} {L : Nat} : ∀ (n m i : Nat), L - i < n → L - i < m → skpN b L n i = skpN b L m i := by
  intro n
  induction n with
  | zero => intro m i h; omega
  | succ n ih =>
    intro m i h h2
    cases m with
    | zero => omega
    | succ m =>
      rw [skpN, skpN]
      by_cases q : i < L
      · rw [if_pos q, if_pos q]
        by_cases q2 : b i = 32 ∨ b i = 10
        · rw [if_pos q2, if_pos q2]; exact ih m (i + 1) (by omega) (by omega)
        · rw [if_neg q2, if_neg q2]
          by_cases q3 : b i = 35
          · rw [if_pos q3, if_pos q3]
            have := endF_ge (p := no10) (b := b) (L := L) (i + 1)
            exact ih m _ (by omega) (by omega)
          · rw [if_neg q3, if_neg q3]
      · rw [if_neg q, if_neg q]
def skp (b : Nat → Int) (L i : Nat) : Nat := skpN b L (L - i + 1) i
theorem skp_eq {b : Nat → Int} {L : Nat} (i : Nat) : skp b L i = if i < L then (if b i = 32 ∨ b i = 10 then skp b L (i + 1) else if b i = 35 then skp b L (endF no10 b L (i + 1)) else i) else i := by
  unfold skp
  rw [skpN]
  by_cases q : i < L
  · rw [if_pos q, if_pos q]
    by_cases q2 : b i = 32 ∨ b i = 10
    · rw [if_pos q2, if_pos q2]; exact skpN_fuel _ _ _ (by omega) (by omega)
    · rw [if_neg q2, if_neg q2]
      by_cases q3 : b i = 35
      · rw [if_pos q3, if_pos q3]
        have := endF_ge (p := no10) (b := b) (L := L) (i + 1)
        exact skpN_fuel _ _ _ (by omega) (by omega)
      · rw [if_neg q3, if_neg q3]
  · rw [if_neg q, if_neg q]
theorem skp_at {b : Nat → Int} {L i : Nat} (h : skp b L i < L) : ∃ c, b (skp b L i) = c ∧ c ≠ 32 ∧ c ≠ 10 ∧ c ≠ 35 := by
  suffices H : ∀ k i, L - i ≤ k → skp b L i < L → b (skp b L i) ≠ 32 ∧ b (skp b L i) ≠ 10 ∧ b (skp b L i) ≠ 35 from ⟨_, rfl, H _ i (Nat.le_refl _) h⟩
  intro k
  induction k with
  | zero => intro i h h2; rw [skp_eq, if_neg (by omega)] at h2; omega
  | succ k ih =>
    intro i h h2
    rw [skp_eq] at h2 ⊢
    by_cases q : i < L
    · rw [if_pos q] at h2 ⊢
      by_cases q2 : b i = 32 ∨ b i = 10
      · rw [if_pos q2] at h2 ⊢; exact ih _ (by omega) h2
      · rw [if_neg q2] at h2 ⊢
        by_cases q3 : b i = 35
        · rw [if_pos q3] at h2 ⊢
          have := endF_ge (p := no10) (b := b) (L := L) (i + 1)
          exact ih _ (by omega) h2
        · rw [if_neg q3]; omega
    · rw [if_neg q] at h2; omega
theorem skp_ge {b : Nat → Int} {L : Nat} (i : Nat) : i ≤ skp b L i := by
  suffices H : ∀ k i, L - i ≤ k → i ≤ skp b L i from H _ i (Nat.le_refl _)
  intro k
  induction k with
  | zero => intro i h; rw [skp_eq, if_neg (by omega)]; omega
  | succ k ih =>
    intro i h
    rw [skp_eq]
    split
    · split
      · have := ih (i + 1) (by omega); omega
      · split
        · have := endF_ge (p := no10) (b := b) (L := L) (i + 1)
          have := ih (endF no10 b L (i + 1)) (by omega); omega
        · omega
    · omega
theorem skp_le {b : Nat → Int} {L i : Nat} (h : i ≤ L) : skp b L i ≤ L := by
  suffices H : ∀ k i, L - i ≤ k → i ≤ L → skp b L i ≤ L from H _ i (Nat.le_refl _) h
  intro k
  induction k with
  | zero => intro i h h2; rw [skp_eq, if_neg (by omega)]; exact h2
  | succ k ih =>
    intro i h h2
    rw [skp_eq]
    split
    · split
      · exact ih (i + 1) (by omega) (by omega)
      · split
        · have := endF_ge (p := no10) (b := b) (L := L) (i + 1)
          exact ih (endF no10 b L (i + 1)) (by omega) (endF_le (by omega))
        · omega
    · omega
/-- a NUMBER's worth -/
def valN (b : Nat → Int) (i : Nat) : Nat → Int
  | 0 => 0
  | n + 1 => valN b i n * 10 + (b (i + n) - 48)
theorem valN_ge {b : Nat → Int} {i : Nat} : ∀ (n : Nat), (∀ k, k < n → isFg (b (i + k)) = true) → 0 ≤ valN b i n := by
  intro n
  induction n with
  | zero => intro _; exact Int.le_refl 0
  | succ n ih =>
    intro h
    have h1 := ih (fun k hk => h k (by omega))
    have h2 := h n (by omega)
    unfold isFg at h2
    simp only [Bool.and_eq_true, decide_eq_true_eq] at h2
    unfold valN; omega
def sgnOk (c : Int) : Bool := [123, 125, 40, 41, 91, 93, 59, 44, 61, 60, 62, 43, 45, 42, 47, 37].contains c
def dbl (c : Int) : Bool := decide (c = 61) || decide (c = 33) || decide (c = 60) || decide (c = 62)
/-- the byte at a place, none behind the end -/
def byt (b : Nat → Int) (L i : Nat) : Int := if i < L then b i else 0
/-- where the word ends that begins there -/
def wEnd (b : Nat → Int) (L i : Nat) : Nat :=
  if isLt (b i) then endF isLF b L i
  else if isFg (b i) then endF isFg b L i
  else if b i = 34 then endF inStr b L (i + 1) + 1
  else if dbl (b i) = true ∧ byt b L (i + 1) = 61 then i + 2 else i + 1
/-- whether it can be -/
def wOk (b : Nat → Int) (L i : Nat) : Prop :=
  if isLt (b i) then endF isLF b L i - i ≤ 12
  else if isFg (b i) then valN b i (endF isFg b L i - i) ≤ 32767
  else if b i = 34 then byt b L (endF inStr b L (i + 1)) = 34 ∧ endF inStr b L (i + 1) - i - 1 ≤ 200
  else (dbl (b i) = true ∧ byt b L (i + 1) = 61) ∨ sgnOk (b i) = true
/-- where the words begin -/
def posW (b : Nat → Int) (L : Nat) : Nat → Nat
  | 0 => skp b L 0
  | t + 1 => skp b L (wEnd b L (posW b L t))
theorem wEnd_gt {b : Nat → Int} {L i : Nat} (h : i < L) : i < wEnd b L i := by
  unfold wEnd
  split
  · rename_i q; exact endF_lt h (by unfold isLF; rw [q]; rfl)
  · split
    · rename_i q; exact endF_lt h q
    · split
      · have := endF_ge (p := inStr) (b := b) (L := L) (i + 1); omega
      · split <;> omega
theorem wEnd_le {b : Nat → Int} {L i : Nat} (h : i < L) (h2 : wOk b L i) : wEnd b L i ≤ L := by
  unfold wOk at h2; unfold wEnd
  split
  · exact endF_le (by omega)
  · rename_i q1; rw [if_neg q1] at h2
    split
    · exact endF_le (by omega)
    · rename_i q2; rw [if_neg q2] at h2
      split
      · rename_i q3; rw [if_pos q3] at h2
        have := h2.1
        unfold byt at this
        split at this
        · omega
        · omega
      · split
        · rename_i q; have := q.2; unfold byt at this; split at this
          · omega
          · omega
        · omega
/-- a word as its bytes -/
def wl (b : Nat → Int) (i n : Nat) : List Int := (List.range n).map (fun k => b (i + k))
theorem wl_len {b : Nat → Int} {i n : Nat} : (wl b i n).length = n := by simp [wl]
theorem wl_get {b : Nat → Int} {i n k : Nat} (h : k < n) : (wl b i n).getD k 0 = b (i + k) := by
  unfold wl; rw [List.getD_eq_getElem?_getD, List.getElem?_map, List.getElem?_range h]; rfl
theorem wl_eq {b c : Nat → Int} {i j n m : Nat} : wl b i n = wl c j m ↔ n = m ∧ ∀ k, k < n → b (i + k) = c (j + k) := by
  constructor
  · intro h
    have hl : n = m := by have := congrArg List.length h; rwa [wl_len, wl_len] at this
    refine ⟨hl, fun k hk => ?_⟩
    have := congrArg (fun l => l.getD k 0) h
    rwa [wl_get hk, wl_get (by omega)] at this
  · rintro ⟨rfl, h⟩
    unfold wl
    exact List.map_congr_left (fun k hk => h k (List.mem_range.mp hk))
theorem list_ext {l l' : List Int} (h : l.length = l'.length) (h2 : ∀ k, k < l.length → l.getD k 0 = l'.getD k 0) : l = l' := by
  apply List.ext_getElem h
  intro k h3 h4
  have := h2 k h3
  rw [List.getD_eq_getElem?_getD, List.getD_eq_getElem?_getD, List.getElem?_eq_getElem h3, List.getElem?_eq_getElem h4] at this
  exact this
