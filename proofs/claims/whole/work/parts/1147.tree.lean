/-! the tree of what is in what -/
def uN (f : Nat → Nat) (k v : Nat) (j : Nat) : Nat := if j = k then v else f j
theorem uN_s (f : Nat → Nat) (k v j : Nat) : uN f k v j = if j = k then v else f j := rfl
/-- a row of siblings -/
def chL (nx : Nat → Nat) : List Nat → Nat → Prop
  | [], f => f = 0
  | a :: l, f => f = a ∧ a ≠ 0 ∧ chL nx l (nx a)
def upP (pa : Nat → Nat) : Nat → Nat → Nat
  | 0, x => x
  | k + 1, x => upP pa k (pa x)
/-- the tree stands: ch gives the siblings -/
def TR (n : Nat) (pa fi nx : Nat → Nat) (ch : Nat → List Nat) : Prop := n ≤ 120 ∧ (∀ h, 1 ≤ h → h ≤ n → chL nx (ch h) (fi h) ∧ (ch h).Nodup) ∧ (∀ h x, 1 ≤ h → h ≤ n → (x ∈ ch h ↔ 1 ≤ x ∧ x ≤ n ∧ pa x = h)) ∧ (∀ x, pa x ≤ n) ∧ (pa 0 = 0 ∧ fi 0 = 0 ∧ nx 0 = 0) ∧ (∀ x, n < x → pa x = 0 ∧ fi x = 0 ∧ nx x = 0) ∧ (∀ x, ∃ k, upP pa k x = 0) ∧ ∀ x, nx x ≤ n
theorem upP_0 {pa : Nat → Nat} (h : pa 0 = 0) : ∀ k, upP pa k 0 = 0 := by
  intro k
  induction k with
  | zero => rfl
  | succ k ih => show upP pa k (pa 0) = 0; rw [h]; exact ih
theorem upP_add (pa : Nat → Nat) : ∀ (k l x : Nat), upP pa (k + l) x = upP pa l (upP pa k x) := by
  intro k
  induction k with
  | zero => intro l x; rw [Nat.zero_add]; rfl
  | succ k ih => intro l x; rw [show k + 1 + l = k + l + 1 by omega]; exact ih l (pa x)
theorem nodup_le : ∀ (n : Nat) (l : List Nat), l.Nodup → (∀ a, a ∈ l → 1 ≤ a ∧ a ≤ n) → l.length ≤ n := by
  intro n
  induction n with
  | zero =>
    intro l _ h
    cases l with
    | nil => exact Nat.le_refl _
    | cons a l => have := h a (List.mem_cons_self ..); omega
  | succ n ih =>
    intro l hn h
    have e := ih (l.filter (fun a => a ≠ n + 1)) (hn.filter _) (fun a ha => by
      rw [List.mem_filter] at ha
      have := h a ha.1
      have : a ≠ n + 1 := by simpa using ha.2
      omega)
    have key : ∀ l : List Nat, l.Nodup → l.length ≤ (l.filter (fun a => a ≠ n + 1)).length + 1 := by
      intro l
      induction l with
      | nil => intro _; exact Nat.zero_le _
      | cons a l ihl =>
        intro hl
        rw [List.nodup_cons] at hl
        by_cases q : a = n + 1
        · have e : (a :: l).filter (fun a => a ≠ n + 1) = l.filter (fun a => a ≠ n + 1) := by
            rw [List.filter_cons_of_neg]; simp [q]
          have e2 : l.filter (fun a => a ≠ n + 1) = l := by
            rw [List.filter_eq_self]
            intro b hb
            have : b ≠ n + 1 := by rintro rfl; exact hl.1 (q ▸ hb)
            simpa using this
          rw [e, e2, List.length_cons]
          exact Nat.le_refl _
        · have e : (a :: l).filter (fun a => a ≠ n + 1) = a :: l.filter (fun a => a ≠ n + 1) := by
            rw [List.filter_cons_of_pos]; simpa using q
          rw [e, List.length_cons, List.length_cons]
          have := ihl hl.2; omega
    have := key l hn
    omega
/-- what is above -/
def pathL (pa : Nat → Nat) : Nat → Nat → List Nat
  | 0, _ => []
  | k + 1, x => x :: pathL pa k (pa x)
theorem path_len (pa : Nat → Nat) : ∀ k x, (pathL pa k x).length = k := by
  intro k
  induction k with
  | zero => intro x; rfl
  | succ k ih => intro x; show (pathL pa k (pa x)).length + 1 = k + 1; rw [ih]
theorem path_mem (pa : Nat → Nat) : ∀ k x a, a ∈ pathL pa k x ↔ ∃ j, j < k ∧ upP pa j x = a := by
  intro k
  induction k with
  | zero => intro x a; exact ⟨fun h => absurd h List.not_mem_nil, fun ⟨j, hj, _⟩ => by omega⟩
  | succ k ih =>
    intro x a
    show a ∈ x :: pathL pa k (pa x) ↔ _
    rw [List.mem_cons, ih]
    constructor
    · rintro (h | ⟨j, j1, j2⟩)
      · exact ⟨0, by omega, h.symm⟩
      · exact ⟨j + 1, by omega, j2⟩
    · rintro ⟨j, j1, j2⟩
      cases j with
      | zero => exact Or.inl j2.symm
      | succ j => exact Or.inr ⟨j, by omega, j2⟩
/-- nothing comes round: the way up is short -/
theorem up_n {n : Nat} {pa : Nat → Nat} (h0 : pa 0 = 0) (hn : ∀ x, pa x ≤ n) (hw : ∀ x, ∃ k, upP pa k x = 0) {x : Nat} (hx : x ≤ n) : upP pa n x = 0 := by
  have least : ∀ m, upP pa m x = 0 → ∃ k, k ≤ m ∧ upP pa k x = 0 ∧ ∀ j, j < k → upP pa j x ≠ 0 := by
    intro m
    induction m with
    | zero => intro h; exact ⟨0, Nat.le_refl _, h, fun j hj => by omega⟩
    | succ m ih =>
      intro h
      by_cases q : ∃ j, j < m + 1 ∧ upP pa j x = 0
      · obtain ⟨j, j1, j2⟩ := q
        have e : upP pa m x = 0 := by
          rw [show m = j + (m - j) by omega, upP_add, j2]; exact upP_0 h0 _
        obtain ⟨k, k1, k2, k3⟩ := ih e
        exact ⟨k, by omega, k2, k3⟩
      · exact ⟨m + 1, Nat.le_refl _, h, fun j hj hh => q ⟨j, hj, hh⟩⟩
  obtain ⟨m, hm⟩ := hw x
  obtain ⟨k, -, k2, k3⟩ := least m hm
  have nod : ∀ d j, j + d = k → (pathL pa d (upP pa j x)).Nodup := by
    intro d
    induction d with
    | zero => intro j _; exact List.nodup_nil
    | succ d ih =>
      intro j hj
      show (upP pa j x :: pathL pa d (pa (upP pa j x))).Nodup
      have e1 : pa (upP pa j x) = upP pa (j + 1) x := by rw [upP_add]; rfl
      rw [e1, List.nodup_cons]
      refine ⟨fun hm => ?_, ih (j + 1) (by omega)⟩
      obtain ⟨i, i1, i2⟩ := (path_mem pa d _ _).mp hm
      rw [← upP_add] at i2
      -- then it comes round for ever
      have per : ∀ t, upP pa (j + t * (i + 1)) x = upP pa j x := by
        intro t
        induction t with
        | zero => rw [Nat.zero_mul, Nat.add_zero]
        | succ t iht =>
          rw [show j + (t + 1) * (i + 1) = (j + t * (i + 1)) + (i + 1) by rw [Nat.add_mul]; omega, upP_add, iht, ← upP_add, show j + (i + 1) = j + 1 + i by omega]
          exact i2
      have big : upP pa (j + k * (i + 1)) x = 0 := by
        have : k ≤ j + k * (i + 1) := by rw [Nat.mul_add]; omega
        rw [show j + k * (i + 1) = k + (j + k * (i + 1) - k) by omega, upP_add, k2]; exact upP_0 h0 _
      rw [per] at big
      exact k3 j (by omega) big
  have hl := nodup_le n (pathL pa k x) (nod k 0 (by omega)) (fun a ha => by
    obtain ⟨j, j1, j2⟩ := (path_mem pa k x a).mp ha
    have := k3 j j1
    refine ⟨by omega, ?_⟩
    cases j with
    | zero => rw [← j2]; exact hx
    | succ j =>
      rw [← j2, upP_add]
      exact hn _)
  rw [path_len] at hl
  rw [show n = k + (n - k) by omega, upP_add, k2]; exact upP_0 h0 _
theorem TR_up {n : Nat} {pa fi nx : Nat → Nat} {ch : Nat → List Nat} (h : TR n pa fi nx ch) {x : Nat} (hx : x ≤ n) : upP pa n x = 0 := up_n h.2.2.2.2.1.1 h.2.2.2.1 h.2.2.2.2.2.2.1 hx
theorem TR_len {n : Nat} {pa fi nx : Nat → Nat} {ch : Nat → List Nat} (h : TR n pa fi nx ch) {k : Nat} (h1 : 1 ≤ k) (h2 : k ≤ n) : (ch k).length ≤ n := nodup_le n _ (h.2.1 k h1 h2).2 (fun a ha => by have := (h.2.2.1 k a h1 h2).mp ha; omega)
/-- the sibling ahead of x -/
def predL : List Nat → Nat → Nat
  | a :: b :: l, x => if b = x then a else predL (b :: l) x
  | _, _ => 0
theorem predL_mem : ∀ (l : List Nat) (x : Nat), x ∈ l → l.head? ≠ some x → predL l x ∈ l := by
  intro l
  induction l with
  | nil => intro x h; cases h
  | cons a l ih =>
    intro x h hx
    cases l with
    | nil =>
      rw [List.mem_singleton] at h
      exact absurd (by rw [h]; rfl) hx
    | cons b l =>
      show (if b = x then a else predL (b :: l) x) ∈ _
      by_cases q : b = x
      · rw [if_pos q]; exact List.mem_cons_self ..
      · rw [if_neg q]
        refine List.mem_cons_of_mem _ (ih x ?_ (fun e => q (by injection e)))
        rcases List.mem_cons.mp h with e | e
        · exact absurd (by rw [e]; rfl) hx
        · exact e
/-- out of a row -/
theorem chL_congr {nx nx' : Nat → Nat} : ∀ (l : List Nat) (f : Nat), (∀ a, a ∈ l → nx' a = nx a) → chL nx l f → chL nx' l f := by
  intro l
  induction l with
  | nil => intro f _ h; exact h
  | cons a l ih =>
    intro f hc h
    exact ⟨h.1, h.2.1, by rw [hc a (List.mem_cons_self ..)]; exact ih _ (fun b hb => hc b (List.mem_cons_of_mem _ hb)) h.2.2⟩
theorem chL_head {nx : Nat → Nat} {l : List Nat} {f : Nat} (h : chL nx l f) : f = l.headD 0 := by
  cases l with
  | nil => exact h
  | cons a l => exact h.1
theorem chL_out {nx : Nat → Nat} {x : Nat} : ∀ (l : List Nat) (f : Nat), chL nx l f → l.Nodup → x ∈ l → l.head? ≠ some x → chL (uN (uN nx (predL l x) (nx x)) x 0) (l.filter (fun a => a ≠ x)) f := by
  intro l
  induction l with
  | nil => intro f _ _ h; cases h
  | cons a l ih =>
    intro f hc hn hx hh
    have hax : a ≠ x := fun e => hh (by rw [e]; rfl)
    rw [List.nodup_cons] at hn
    have hxl : x ∈ l := by
      rcases List.mem_cons.mp hx with e | e
      · exact absurd e.symm hax
      · exact e
    rw [List.filter_cons_of_pos (by simpa using hax)]
    cases l with
    | nil => cases hxl
    | cons b l =>
      refine ⟨hc.1, hc.2.1, ?_⟩
      have hb := hc.2.2
      by_cases q : b = x
      · have ep : predL (a :: b :: l) x = a := if_pos q
        rw [ep, uN_s, if_neg hax, uN_s, if_pos rfl, List.filter_cons_of_neg (by simp [q])]
        have en : nx x = nx b := by rw [q]
        rw [en]
        have hn2 := List.nodup_cons.mp hn.2
        have ef : l.filter (fun a => a ≠ x) = l := by
          rw [List.filter_eq_self]
          intro c hc'
          have : c ≠ x := by rintro rfl; exact hn2.1 (q ▸ hc')
          simpa using this
        rw [ef]
        refine chL_congr l _ (fun c hc' => ?_) hb.2.2
        have c1 : c ≠ x := by rintro rfl; exact hn2.1 (q ▸ hc')
        have c2 : c ≠ a := by rintro rfl; exact hn.1 (List.mem_cons_of_mem _ hc')
        rw [uN_s, if_neg c1, uN_s, if_neg c2]
      · have ep : predL (a :: b :: l) x = predL (b :: l) x := if_neg q
        have hh2 : (b :: l).head? ≠ some x := fun e => q (by injection e)
        have hm := predL_mem (b :: l) x hxl hh2
        have pa1 : a ≠ predL (b :: l) x := by intro e; exact hn.1 (e ▸ hm)
        have := ih (nx a) hb hn.2 hxl hh2
        rw [ep, uN_s, if_neg hax, uN_s, if_neg pa1]
        exact this
theorem filter_nodup {l : List Nat} {x : Nat} (h : l.Nodup) : (l.filter (fun a => a ≠ x)).Nodup := h.filter _
theorem filter_mem {l : List Nat} {x a : Nat} : a ∈ l.filter (fun a => a ≠ x) ↔ a ∈ l ∧ a ≠ x := by
  rw [List.mem_filter]; simp
theorem TR_fi {n : Nat} {pa fi nx : Nat → Nat} {ch : Nat → List Nat} (h : TR n pa fi nx ch) (x : Nat) : fi x ≤ n := by
  obtain ⟨t0, t1, t2, t3, ⟨t4, t5, t6⟩, t7, t8, t9⟩ := h
  by_cases q0 : x = 0
  · rw [q0, t5]; exact Nat.zero_le _
  by_cases q1 : n < x
  · rw [(t7 x q1).2.1]; exact Nat.zero_le _
  have c := (t1 x (by omega) (by omega)).1
  have m := t2 x (fi x) (by omega) (by omega)
  cases hl : ch x with
  | nil => rw [hl] at c; rw [show fi x = 0 from c]; exact Nat.zero_le _
  | cons a l =>
    rw [hl] at c m
    have := m.mp (by rw [c.1]; exact List.mem_cons_self ..)
    exact this.2.1
