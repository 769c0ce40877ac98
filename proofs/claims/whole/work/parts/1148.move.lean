/-! out of the tree, and into it -/
/-- the tree without x -/
def toP (pa : Nat → Nat) (x : Nat) : Nat → Nat := uN pa x 0
def toF (pa fi nx : Nat → Nat) (x : Nat) : Nat → Nat := if pa x = 0 then fi else if fi (pa x) = x then uN fi (pa x) (nx x) else fi
def toX (pa fi nx : Nat → Nat) (ch : Nat → List Nat) (x : Nat) : Nat → Nat := if pa x = 0 then nx else uN (if fi (pa x) = x then nx else uN nx (predL (ch (pa x)) x) (nx x)) x 0
def toC (pa : Nat → Nat) (ch : Nat → List Nat) (x : Nat) (h : Nat) : List Nat := if pa x = 0 then ch h else if h = pa x then (ch h).filter (fun a => a ≠ x) else ch h
theorem up_uN {pa : Nat → Nat} {x : Nat} (h0 : pa 0 = 0) : ∀ k y, upP pa k y = 0 → upP (uN pa x 0) k y = 0 := by
  have hz : uN pa x 0 0 = 0 := by rw [uN_s]; split; rfl; exact h0
  intro k
  induction k with
  | zero => intro y h; exact h
  | succ k ih =>
    intro y h
    show upP (uN pa x 0) k (uN pa x 0 y) = 0
    rw [uN_s]
    by_cases q : y = x
    · rw [if_pos q]; exact upP_0 hz k
    · rw [if_neg q]; exact ih _ h
theorem TR_out {n : Nat} {pa fi nx : Nat → Nat} {ch : Nat → List Nat} (h : TR n pa fi nx ch) {x : Nat} (hx : 1 ≤ x ∧ x ≤ n) : TR n (toP pa x) (toF pa fi nx x) (toX pa fi nx ch x) (toC pa ch x) := by
  obtain ⟨t0, t1, t2, t3, ⟨t4, t5, t6⟩, t7, t8, t9⟩ := h
  unfold toP toF toX toC
  by_cases q : pa x = 0
  · have e : uN pa x 0 = pa := by
      funext j; rw [uN_s]
      by_cases e : j = x
      · rw [if_pos e, e, q]
      · rw [if_neg e]
    have ec : (fun h => if pa x = 0 then ch h else if h = pa x then (ch h).filter (fun a => a ≠ x) else ch h) = ch := by funext h; rw [if_pos q]
    rw [if_pos q, if_pos q, e]
    show TR n pa fi nx (fun h => if pa x = 0 then ch h else if h = pa x then (ch h).filter (fun a => a ≠ x) else ch h)
    rw [ec]
    exact ⟨t0, t1, t2, t3, ⟨t4, t5, t6⟩, t7, t8, t9⟩
  · have hpx : 1 ≤ pa x ∧ pa x ≤ n := ⟨by omega, t3 x⟩
    obtain ⟨c1, c2⟩ := t1 (pa x) hpx.1 hpx.2
    have hm := (t2 (pa x) x hpx.1 hpx.2).mpr ⟨hx.1, hx.2, rfl⟩
    rw [if_neg q, if_neg q]
    have nxx : ∀ h, 1 ≤ h → h ≤ n → h ≠ pa x → ∀ a, a ∈ ch h → a ≠ x ∧ a ∉ ch (pa x) := fun h h1 h2 h3 a ha => by
      obtain ⟨a1, a2, a3⟩ := (t2 h a h1 h2).mp ha
      refine ⟨fun e => h3 (by rw [← a3, e]), fun hh => ?_⟩
      exact h3 (a3.symm.trans ((t2 (pa x) a hpx.1 hpx.2).mp hh).2.2)
    refine ⟨t0, fun h h1 h2 => ?_, fun h y h1 h2 => ?_, fun y => ?_, ⟨?_, ?_, ?_⟩, fun y hy => ?_, fun y => ?_, fun y => ?_⟩
    · dsimp only
      rw [if_neg q]
      by_cases e : h = pa x
      · rw [if_pos e, e]
        refine ⟨?_, filter_nodup c2⟩
        by_cases f : fi (pa x) = x
        · rw [if_pos f, if_pos f, uN_s, if_pos rfl]
          have hc := c1
          cases hl : ch (pa x) with
          | nil => rw [hl] at hm; cases hm
          | cons a l =>
            rw [hl] at hc c2
            have ea : a = x := by rw [← f]; exact hc.1.symm
            rw [List.nodup_cons] at c2
            rw [List.filter_cons_of_neg (by simp [ea])]
            have ef : l.filter (fun a => a ≠ x) = l := by
              rw [List.filter_eq_self]
              intro b hb
              have : b ≠ x := by rintro rfl; exact c2.1 (ea ▸ hb)
              simpa using this
            rw [ef, ← ea]
            exact chL_congr l _ (fun b hb => by rw [uN_s, if_neg (by rintro rfl; exact c2.1 hb)]) hc.2.2
        · rw [if_neg f, if_neg f]
          refine chL_out _ _ c1 c2 hm (fun hh => f ?_)
          rw [chL_head c1]
          cases hl : ch (pa x) with
          | nil => rw [hl] at hm; cases hm
          | cons a l => rw [hl] at hh; injection hh
      · rw [if_neg e]
        obtain ⟨d1, d2⟩ := t1 h h1 h2
        refine ⟨?_, d2⟩
        have efi : (if fi (pa x) = x then uN fi (pa x) (nx x) else fi) h = fi h := by
          split
          · rw [uN_s, if_neg e]
          · rfl
        rw [efi]
        refine chL_congr _ _ (fun a ha => ?_) d1
        obtain ⟨n1, n2⟩ := nxx h h1 h2 e a ha
        rw [uN_s, if_neg n1]
        split
        · rfl
        · rename_i f
          rw [uN_s, if_neg]
          rintro rfl
          refine n2 (predL_mem _ _ hm (fun hh => f ?_))
          rw [chL_head c1]
          cases hl : ch (pa x) with
          | nil => rw [hl] at hm; cases hm
          | cons a l => rw [hl] at hh; injection hh
    · dsimp only
      rw [if_neg q, uN_s]
      by_cases e : h = pa x
      · rw [if_pos e, filter_mem, t2 h y h1 h2]
        by_cases ey : y = x
        · rw [if_pos ey]
          exact ⟨fun hh => absurd ey hh.2, fun hh => by omega⟩
        · rw [if_neg ey]
          exact ⟨fun hh => hh.1, fun hh => ⟨hh, ey⟩⟩
      · rw [if_neg e, t2 h y h1 h2]
        by_cases ey : y = x
        · rw [if_pos ey]
          exact ⟨fun hh => absurd (by rw [← hh.2.2, ey]) e, fun hh => by omega⟩
        · rw [if_neg ey]
    · rw [uN_s]; split; exact Nat.zero_le _; exact t3 y
    · rw [uN_s]; split; rfl; exact t4
    · split
      · rw [uN_s, if_neg (by omega)]; exact t5
      · exact t5
    · rw [uN_s]
      split
      · rfl
      · split
        · exact t6
        · rename_i f
          rw [uN_s]
          by_cases e0 : 0 = predL (ch (pa x)) x
          · exfalso
            have hp := predL_mem _ _ hm (fun hh => f (by
              rw [chL_head c1]
              cases hl : ch (pa x) with
              | nil => rw [hl] at hm; cases hm
              | cons a l => rw [hl] at hh; injection hh))
            have := (t2 _ _ hpx.1 hpx.2).mp hp
            omega
          · rw [if_neg e0]; exact t6
    · obtain ⟨y1, y2, y3⟩ := t7 y hy
      refine ⟨?_, ?_, ?_⟩
      · rw [uN_s]; split; rfl; exact y1
      · split
        · rw [uN_s, if_neg (by omega)]; exact y2
        · exact y2
      · rw [uN_s, if_neg (by omega)]
        split
        · exact y3
        · rename_i f
          rw [uN_s]
          by_cases e0 : y = predL (ch (pa x)) x
          · exfalso
            have hp := predL_mem _ _ hm (fun hh => f (by
              rw [chL_head c1]
              cases hl : ch (pa x) with
              | nil => rw [hl] at hm; cases hm
              | cons a l => rw [hl] at hh; injection hh))
            have := (t2 _ _ hpx.1 hpx.2).mp hp
            omega
          · rw [if_neg e0]; exact y3
    · obtain ⟨k, hk⟩ := t8 y
      exact ⟨k, up_uN t4 k y hk⟩
    · rw [uN_s]
      split
      · exact Nat.zero_le _
      · split
        · exact t9 y
        · rw [uN_s]; split; exact t9 x; exact t9 y
/-- x comes into h, ahead of all -/
def inX (fi nx : Nat → Nat) (x h : Nat) : Nat → Nat := uN nx x (fi h)
def inC (ch : Nat → List Nat) (x h : Nat) (j : Nat) : List Nat := if j = h then x :: ch j else ch j
/-- h is not in x -/
theorem TR_in {n : Nat} {pa fi nx : Nat → Nat} {ch : Nat → List Nat} (t : TR n pa fi nx ch) {x h : Nat} (hx : 1 ≤ x ∧ x ≤ n) (hh : 1 ≤ h ∧ h ≤ n) (hp : pa x = 0) (hw : ∀ k, upP pa k h ≠ x) : TR n (uN pa x h) (uN fi h x) (inX fi nx x h) (inC ch x h) := by
  have hf := TR_fi t h
  obtain ⟨t0, t1, t2, t3, ⟨t4, t5, t6⟩, t7, t8, t9⟩ := t
  have hxn : ∀ j, 1 ≤ j → j ≤ n → x ∉ ch j := fun j j1 j2 hm => by
    have := ((t2 j x j1 j2).mp hm).2.2; omega
  have hwx : ∀ k y, upP pa k y = 0 → (∀ j, j ≤ k → upP pa j y ≠ x) → upP (uN pa x h) k y = 0 := by
    have hz : uN pa x h 0 = 0 := by rw [uN_s, if_neg (by omega)]; exact t4
    intro k
    induction k with
    | zero => intro y hy _; exact hy
    | succ k ih =>
      intro y hy hj
      show upP (uN pa x h) k (uN pa x h y) = 0
      have h0 : y ≠ x := hj 0 (by omega)
      rw [uN_s, if_neg h0]
      exact ih _ hy (fun j hj' => hj (j + 1) (by omega))
  refine ⟨t0, fun j j1 j2 => ?_, fun j y j1 j2 => ?_, fun y => ?_, ⟨?_, ?_, ?_⟩, fun y hy => ?_, fun y => ?_, fun y => ?_⟩
  · obtain ⟨c1, c2⟩ := t1 j j1 j2
    have hc : ∀ a, a ∈ ch j → inX fi nx x h a = nx a := fun a ha => by
      unfold inX; rw [uN_s, if_neg (by rintro rfl; exact hxn j j1 j2 ha)]
    unfold inC
    by_cases e : j = h
    · rw [if_pos e, uN_s, if_pos e]
      refine ⟨⟨rfl, by omega, ?_⟩, List.nodup_cons.mpr ⟨hxn j j1 j2, c2⟩⟩
      have : inX fi nx x h x = fi j := by unfold inX; rw [uN_s, if_pos rfl, e]
      rw [this]
      exact chL_congr _ _ hc c1
    · rw [if_neg e, uN_s, if_neg e]
      exact ⟨chL_congr _ _ hc c1, c2⟩
  · unfold inC
    rw [uN_s]
    by_cases e : j = h
    · rw [if_pos e, List.mem_cons, t2 j y j1 j2]
      by_cases ey : y = x
      · rw [if_pos ey]
        exact ⟨fun _ => ⟨by omega, by omega, e.symm⟩, fun _ => Or.inl ey⟩
      · rw [if_neg ey]
        exact ⟨fun hh => by rcases hh with hh | hh; exact absurd hh ey; exact hh, fun hh => Or.inr hh⟩
    · rw [if_neg e, t2 j y j1 j2]
      by_cases ey : y = x
      · rw [if_pos ey]
        refine ⟨fun hh => ?_, fun hh => absurd hh.2.2.symm e⟩
        rw [ey, hp] at hh; omega
      · rw [if_neg ey]
  · rw [uN_s]; split; exact hh.2; exact t3 y
  · rw [uN_s, if_neg (by omega)]; exact t4
  · rw [uN_s, if_neg (by omega)]; exact t5
  · unfold inX; rw [uN_s, if_neg (by omega)]; exact t6
  · obtain ⟨y1, y2, y3⟩ := t7 y hy
    unfold inX
    rw [uN_s, if_neg (by omega), uN_s, if_neg (by omega), uN_s, if_neg (by omega)]
    exact ⟨y1, y2, y3⟩
  · obtain ⟨k, hk⟩ := t8 h
    have eh := hwx k h hk (fun j _ => hw j)
    obtain ⟨m, hm⟩ := t8 y
    by_cases q : ∃ j, j ≤ m ∧ upP pa j y = x
    · -- the way up comes to x, and from there to h
      have first : ∀ m, (∃ j, j ≤ m ∧ upP pa j y = x) → ∃ j, upP pa j y = x ∧ ∀ i, i < j → upP pa i y ≠ x := by
        intro m
        induction m with
        | zero => rintro ⟨j, j1, j2⟩; exact ⟨0, by rw [show j = 0 by omega] at j2; exact j2, fun i hi => by omega⟩
        | succ m ih =>
          rintro ⟨j, j1, j2⟩
          by_cases r : ∃ i, i ≤ m ∧ upP pa i y = x
          · exact ih r
          · refine ⟨m + 1, ?_, fun i hi hh => r ⟨i, by omega, hh⟩⟩
            by_cases e : j = m + 1
            · rw [← e]; exact j2
            · exact absurd ⟨j, by omega, j2⟩ r
      obtain ⟨j, j1, j2⟩ := first m q
      have go : ∀ i, i ≤ j → upP (uN pa x h) i y = upP pa i y := by
        intro i
        induction i with
        | zero => intro _; rfl
        | succ i ih =>
          intro hi
          rw [upP_add, upP_add, ih (by omega)]
          show uN pa x h (upP pa i y) = pa (upP pa i y)
          rw [uN_s, if_neg (j2 i (by omega))]
      refine ⟨j + 1 + k, ?_⟩
      rw [upP_add, upP_add, go j (Nat.le_refl _), j1]
      show upP (uN pa x h) k (uN pa x h x) = 0
      rw [uN_s, if_pos rfl]; exact eh
    · exact ⟨m, hwx m y hm (fun j hj hh => q ⟨j, hj, hh⟩)⟩
  · unfold inX; rw [uN_s]; split; exact hf; exact t9 y
