/-! which exceptions a call may throw, and what its wrapper answers -/
def CDp (S : Int32 → Prop) (x : HA) : Prop := ∀ u, x = some u → S u.1.1
theorem CDp_none {S : Int32 → Prop} : CDp S none := fun _ h => nomatch h
theorem CDp_some {S : Int32 → Prop} {k v : Int32} {T : TS} (h : S k) : CDp S (some ((k, v), T)) := fun u e => by
  obtain rfl := Option.some.inj e
  exact h
theorem CDp_ite {S : Int32 → Prop} {c : Prop} [Decidable c] {a b : HA} (h1 : CDp S a) (h2 : CDp S b) : CDp S (if c then a else b) := by
  by_cases h : c
  · rw [if_pos h]; exact h1
  · rw [if_neg h]; exact h2
theorem CDp_bind {α : Type} {S : Int32 → Prop} {x : Option α} {g : α → HA} (h : ∀ a, CDp S (g a)) : CDp S (x.bind g) := by
  cases x with
  | none => exact CDp_none
  | some a => exact h a
abbrev S0 : Int32 → Prop := fun k => k = 0
abbrev S1 : Int32 → Prop := fun k => k = 0 ∨ k = 1
abbrev S2 : Int32 → Prop := fun k => k = 0 ∨ k = 1 ∨ k = 2
abbrev S3 : Int32 → Prop := fun k => k = 0 ∨ k = 1 ∨ k = 2 ∨ k = 3
theorem cd_obj (x : Int32) (T : TS) : S2 (H_obj x T) := by
  unfold H_obj
  split
  · decide
  · split
    · decide
    · split
      · decide
      · split <;> decide
theorem cd_holder (x : Int32) (T : TS) : CDp S2 (H_holder x T) := by
  unfold H_holder
  exact CDp_ite (CDp_some (by decide)) (CDp_some (cd_obj x T))
theorem cd_first (x n : Int32) (T : TS) : CDp S2 (H_first x n T) := by
  unfold H_first
  exact CDp_ite (CDp_some (by decide)) (CDp_some (cd_obj x T))
theorem cd_has (x a : Int32) (T : TS) : CDp S3 (H_has x a T) := by
  unfold H_has
  simp only [bndE]
  repeat (first | exact CDp_none | exact CDp_some (by decide) | refine CDp_ite ?_ ?_ | refine CDp_bind (fun _ => ?_))
theorem cd_value (x : Int32) (T : TS) : CDp S2 (H_value x T) := by
  unfold H_value
  repeat (first | exact CDp_none | exact CDp_some (by decide) | refine CDp_ite ?_ ?_ | refine CDp_bind (fun _ => ?_))
theorem cd_cell (x i : Int32) (T : TS) : CDp S2 (H_cell x i T) := by
  unfold H_cell
  simp only [bndE]
  repeat (first | exact CDp_none | exact CDp_some (by decide) | refine CDp_ite ?_ ?_ | refine CDp_bind (fun _ => ?_))
theorem cd_told (x : Int32) (T : TS) : CDp S1 (H_told x T) := by
  unfold H_told
  repeat (first | exact CDp_none | exact CDp_some (by decide) | refine CDp_ite ?_ ?_ | refine CDp_bind (fun _ => ?_))
theorem cd_out (x : Int32) (T : TS) : CDp S1 (H_out x T) := by
  unfold H_out
  repeat (first | exact CDp_none | exact CDp_some (by decide) | refine CDp_ite ?_ ?_ | refine CDp_bind (fun _ => ?_))
theorem cd_save (x : Int32) (T : TS) : CDp S2 (H_save x T) := by
  unfold H_save
  simp only [bndE]
  repeat (first | exact CDp_none | exact CDp_some (by decide) | refine CDp_ite ?_ ?_ | refine CDp_bind (fun _ => ?_))
theorem cd_restore (x : Int32) (T : TS) : CDp S2 (H_restore x T) := by
  unfold H_restore
  simp only [bndE]
  repeat (first | exact CDp_none | exact CDp_some (by decide) | refine CDp_ite ?_ ?_ | refine CDp_bind (fun _ => ?_))
theorem cd_undo (T : TS) : CDp S1 (H_undo T) := by
  unfold H_undo
  simp only [bndE]
  repeat (first | exact CDp_none | exact CDp_some (by decide) | refine CDp_ite ?_ ?_ | refine CDp_bind (fun _ => ?_))
theorem cd_begin (x : Int32) (T : TS) : CDp S1 (H_begin x T) := by
  unfold H_begin
  simp only [bndE]
  repeat (first | exact CDp_none | exact CDp_some (by decide) | refine CDp_ite ?_ ?_ | refine CDp_bind (fun _ => ?_))
theorem cd_he3 (T : TS) (Γ : HS) : CDp S1 (HE3 T Γ) := by
  unfold HE3
  refine CDp_ite CDp_none (CDp_bind (fun _ => CDp_bind (fun _ => ?_)))
  exact CDp_ite (CDp_some (by decide)) (CDp_bind (fun _ => CDp_bind (fun _ => CDp_some (by decide))))
theorem cd_he2 (T : TS) (Γ : HS) : CDp S1 (HE2 T Γ) := by
  unfold HE2
  exact CDp_bind (fun _ => CDp_ite (CDp_some (by decide)) (cd_he3 _ _))
theorem cd_enter (T : TS) : CDp S1 (H_enter T) := by
  unfold H_enter
  exact CDp_ite (CDp_some (by decide)) (CDp_bind (fun _ => CDp_bind (fun _ => CDp_ite (CDp_some (by decide)) (cd_he2 _ _))))
theorem cd_feed (p : Int64) (x : Int32) (T : TS) : CDp S2 (H_feed p x T) := by
  unfold H_feed
  repeat (first | exact CDp_none | exact CDp_some (by decide) | refine CDp_ite ?_ ?_ | refine CDp_bind (fun _ => ?_))
theorem cd_sound (T : TS) : CDp S0 (H_sound T) := by
  unfold H_sound
  simp only [bndE]
  repeat (first | exact CDp_none | exact CDp_some (by decide) | refine CDp_ite ?_ ?_ | refine CDp_bind (fun _ => ?_))
/-- what a wrapper's call comes to, in both -/
def WRP (L : Nat) (wn : Int32 → Int32) (S : Int32 → Prop) (mR : MR) (mF : HA) : Prop := ∃ (v : Int32) (σ' : MS) (res : (Int32 × Int32) × TS), mR = some (v, σ') ∧ mF = some res ∧ S res.1.1 ∧ σ'.1 0 = wn res.1.1 ∧ (wn res.1.1 = 0 → res.1.1 = 0) ∧ (res.1.1 = 0 → v = res.1.2) ∧ TPO L σ' res.2
theorem WRP_of {L : Nat} {wn f : Int32 → Int32} {S : Int32 → Prop} {SH : Int32 → Prop} {mR : MR} {mF mH : HA} (h : ALK (TPO L) mR mH) (e : mF = rlH f mH) (c : CDp SH mH) (hS : ∀ k, SH k → S (f k) ∧ wn (f k) = k ∧ (f k = 0 → k = 0) ∧ (k = 0 → f k = 0)) : WRP L wn S mR mF := by
  obtain ⟨v, w, k, σ', T', a, b, c1, d, g⟩ := h
  obtain ⟨s1, s2, s3, s4⟩ := hS k (c _ b)
  refine ⟨v, σ', ((f k, w), T'), a, by rw [e, b]; rfl, s1, by rw [c1]; exact s2.symm, fun z => s4 (by rw [← s2]; exact z), fun z => d (s3 z), g⟩
theorem rl_id (x : HA) : rlH (fun k => k) x = x := by
  cases x with
  | none => rfl
  | some u => rfl
