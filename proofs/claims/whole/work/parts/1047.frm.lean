/-! what telling leaves alone; the scope is followed alike in both goings -/
variable {T N : Nat} {kd vl rv : Nat → Int} {pl : Nat → Nat}
def scI (k : Nat) : Prop := k = 7 ∨ k = 8 ∨ k = 9 ∨ k = 11 ∨ k = 12
def scA (k : Nat) : Prop := k = 5 ∨ k = 6 ∨ k = 10
/-- the same scope -/
def AGR0 (Γ Δ : HS) : Prop := (∀ k, scI k → (Δ 3).1 k = (Γ 3).1 k) ∧ ∀ k, scA k → (Δ 3).2.1 k = (Γ 3).2.1 k
theorem AGR0_rfl {Γ : HS} : AGR0 Γ Γ := ⟨fun _ _ => rfl, fun _ _ => rfl⟩
theorem AGR0_trans {Γ Δ Θ : HS} (h : AGR0 Γ Δ) (i : AGR0 Δ Θ) : AGR0 Γ Θ := ⟨fun k hk => by rw [i.1 k hk, h.1 k hk], fun k hk => by rw [i.2 k hk, h.2 k hk]⟩
theorem AGR0_symm {Γ Δ : HS} (h : AGR0 Γ Δ) : AGR0 Δ Γ := ⟨fun k hk => (h.1 k hk).symm, fun k hk => (h.2 k hk).symm⟩
def FRM (Γ Δ : HS) : Prop := Δ 1 = Γ 1 ∧ AGR0 Γ Δ
theorem FRM_rfl {Γ : HS} : FRM Γ Γ := ⟨rfl, AGR0_rfl⟩
theorem FRM_cI {Γ Δ : HS} {r k : Nat} {v : Int32} (h : FRM Γ Δ) (h1 : r ≠ 1) (h3 : r = 3 → ¬ scI k) : FRM Γ (cI' Δ r k v) := ⟨by rw [cI_r, if_neg (Ne.symm h1)]; exact h.1, fun j hj => by
  rw [cI_r]
  by_cases q : 3 = r
  · rw [if_pos q]
    show upd _ _ _ _ = _
    rw [upd_s, if_neg (fun e : j = k => h3 q.symm (by rw [← e]; exact hj)), ← q]; exact h.2.1 j hj
  · rw [if_neg q]; exact h.2.1 j hj, fun j hj => by
  rw [cI_r]
  by_cases q : 3 = r
  · rw [if_pos q, ← q]; exact h.2.2 j hj
  · rw [if_neg q]; exact h.2.2 j hj⟩
theorem FRM_cA {Γ Δ : HS} {r k : Nat} {g : Nat → Int32} (h : FRM Γ Δ) (h1 : r ≠ 1) (h3 : r = 3 → ¬ scA k) : FRM Γ (cA' Δ r k g) := ⟨by rw [cA_r, if_neg (Ne.symm h1)]; exact h.1, fun j hj => by
  rw [cA_r]
  by_cases q : 3 = r
  · rw [if_pos q, ← q]; exact h.2.1 j hj
  · rw [if_neg q]; exact h.2.1 j hj, fun j hj => by
  rw [cA_r]
  by_cases q : 3 = r
  · rw [if_pos q]
    show updA _ _ _ _ = _
    rw [updA_s, if_neg (fun e : j = k => h3 q.symm (by rw [← e]; exact hj)), ← q]; exact h.2.2 j hj
  · rw [if_neg q]; exact h.2.2 j hj⟩
theorem FRM_mrg {Γ Δ Θ : HS} (h : FRM Γ Δ) (i : FRM Γ Θ) : FRM Γ (mrg (fun j => j == 1) Δ Θ) := ⟨i.1, h.2⟩
def Fr (Γ : HS) (R : HR) : Prop := ∀ u, R = some u → FRM Γ u.2
theorem Fr_some {Γ Δ : HS} {x : Int32} (h : FRM Γ Δ) : Fr Γ (some (x, Δ)) := fun u e => by injection e with e; rw [← e]; exact h
theorem Fr_none {Γ : HS} : Fr Γ none := fun u e => by cases e
theorem Fr_bind {Γ : HS} {A : HR} {f : Int32 × HS → HR} (h : Fr Γ A) (g : ∀ u, FRM Γ u.2 → Fr Γ (f u)) : Fr Γ (A.bind f) := fun u e => by
  cases A with
  | none => cases e
  | some a => exact g a (h a rfl) u e
theorem Fr_ite {Γ : HS} {p : Prop} [Decidable p] {A B : HR} (h : Fr Γ A) (g : Fr Γ B) : Fr Γ (if p then A else B) := by
  by_cases q : p
  · rw [if_pos q]; exact h
  · rw [if_neg q]; exact g
theorem fr_kind {Γ Δ : HS} (h : FRM Γ Δ) (a : Int32) : Fr Γ (F_X10_kindOf a Δ) := Fr_ite (Fr_some h) (Fr_ite (Fr_some h) (Fr_ite (Fr_some h) (Fr_ite Fr_none (Fr_some h))))
theorem fr_worth {Γ Δ : HS} (h : FRM Γ Δ) (a : Int32) : Fr Γ (F_X10_worthOf a Δ) := Fr_ite (Fr_some h) (Fr_ite (Fr_some h) (Fr_some h))
theorem fr_place {Γ Δ : HS} (h : FRM Γ Δ) (a : Int32) : Fr Γ (F_X10_placeOf a Δ) := Fr_ite (Fr_some h) (Fr_ite (Fr_some h) (Fr_some h))
theorem n16 {r : Nat} : r = 3 → ¬ scI 16 := fun _ => by unfold scI; omega
theorem n17 {r : Nat} : r = 3 → ¬ scI 17 := fun _ => by unfold scI; omega
theorem n14 {r : Nat} : r = 3 → ¬ scI 14 := fun _ => by unfold scI; omega
theorem fr_fail {Γ Δ : HS} (h : FRM Γ Δ) (a b : Int32) : Fr Γ (F_X4_fail a b Δ) := by
  unfold F_X4_fail
  simp only [bndE]
  exact Fr_ite (Fr_bind (fr_place (FRM_cI h (by omega) n16) b) (fun u hu => Fr_some (FRM_cI (FRM_mrg (FRM_cI h (by omega) n16) hu) (by omega) n17))) (Fr_some h)
theorem fr_item {Γ Δ : HS} (h : FRM Γ Δ) (a b c d : Int32) : Fr Γ (F_X4_tellItem a b c d Δ) := by
  unfold F_X4_tellItem
  simp only [bndE]
  refine Fr_bind (fr_worth h a) (fun u hu => ?_)
  have h1 := FRM_mrg h hu
  have h2 : ∀ g1 g2 g3, FRM Γ (cA' (cA' (cA' (mrg (fun j => j == 1) Δ u.2) 4 0 g1) 3 3 g2) 3 4 g3) := fun g1 g2 g3 => FRM_cA (FRM_cA (FRM_cA h1 (by omega) (fun e => by omega)) (by omega) (fun _ => by unfold scA; omega)) (by omega) (fun _ => by unfold scA; omega)
  refine Fr_ite (Fr_ite (Fr_ite (Fr_some (h2 _ _ _)) (Fr_some (h2 _ _ _))) (Fr_bind (fr_fail h1 _ _) (fun v hv => Fr_some hv))) (Fr_bind (fr_fail h1 _ _) (fun v hv => Fr_some hv))
theorem Fr_loop {Γ : HS} {B : (Int32 × HS → HR) → Int32 × HS → HR} (hB : ∀ again s, FRM Γ s.2 → (∀ s', FRM Γ s'.2 → Fr Γ (again s')) → Fr Γ (B again s)) : ∀ (n : Nat) (s : Int32 × HS), FRM Γ s.2 → Fr Γ (loopF B n s) := by
  intro n
  induction n with
  | zero => intro s _; exact Fr_none
  | succ n ih => intro s hs; exact hB _ s hs (fun s' hs' => ih s' hs')
theorem fr_owned {Γ Δ : HS} (h : FRM Γ Δ) (a : Int32) : Fr Γ (F_X4_countOwned a Δ) := by
  unfold F_X4_countOwned
  refine Fr_loop (fun again s hs ha => ?_) FU _ h
  simp only [bndE]
  have fin : ∀ Θ, FRM Γ Θ → Fr Γ ((F_X10_kindOf s.1 Θ).bind fun u_16 => if u_16.1 = 2 then (if ((cI' (mrg (fun j => j == 1) Θ u_16.2) 3 14 (((Θ 3).1 14) + 1) 3).1 14) ≤ 10 then again (s.1 + 1, cI' (mrg (fun j => j == 1) Θ u_16.2) 3 14 (((Θ 3).1 14) + 1)) else (F_X4_fail 5 s.1 (cI' (mrg (fun j => j == 1) Θ u_16.2) 3 14 (((Θ 3).1 14) + 1))).bind fun u_32 => some (s.1, u_32.2)) else (if ((cI' (mrg (fun j => j == 1) Θ u_16.2) 3 14 (((Θ 3).1 14) + 0) 3).1 14) ≤ 10 then again (s.1 + 1, cI' (mrg (fun j => j == 1) Θ u_16.2) 3 14 (((Θ 3).1 14) + 0)) else (F_X4_fail 5 s.1 (cI' (mrg (fun j => j == 1) Θ u_16.2) 3 14 (((Θ 3).1 14) + 0))).bind fun u_32 => some (s.1, u_32.2))) := by
    intro Θ hΘ
    refine Fr_bind (fr_kind hΘ _) (fun u hu => ?_)
    have h1 : ∀ v, FRM Γ (cI' (mrg (fun j => j == 1) Θ u.2) 3 14 v) := fun v => FRM_cI (FRM_mrg hΘ hu) (by omega) n14
    exact Fr_ite (Fr_ite (ha _ (h1 _)) (Fr_bind (fr_fail (h1 _) _ _) (fun v hv => Fr_some hv))) (Fr_ite (ha _ (h1 _)) (Fr_bind (fr_fail (h1 _) _ _) (fun v hv => Fr_some hv)))
  refine Fr_ite (Fr_some hs) (Fr_bind (fr_kind hs _) (fun u hu => ?_))
  have h1 := FRM_mrg hs hu
  refine Fr_ite (fin _ h1) (Fr_bind (fr_kind h1 _) (fun v hv => ?_))
  exact Fr_ite (fin _ (FRM_mrg h1 hv)) (Fr_some (FRM_mrg h1 hv))
theorem fr_verb {Γ Δ : HS} (h : FRM Γ Δ) (a : Int32) : Fr Γ (F_X4_tellVerb a Δ) := by
  unfold F_X4_tellVerb
  simp only [bndE]
  refine Fr_bind (fr_item h _ _ _ _) (fun u hu => Fr_ite ?_ (Fr_some hu))
  refine Fr_bind (fr_owned (FRM_cI hu (by omega) n14) _) (fun v hv => Fr_bind (fr_kind hv _) (fun w hw => Fr_some ?_))
  exact FRM_cA (FRM_mrg hv hw) (by omega) (fun e => by omega)
theorem fr_array {Γ Δ : HS} (h : FRM Γ Δ) (a : Int32) : Fr Γ (F_X4_tellArray a Δ) := by
  unfold F_X4_tellArray
  simp only [bndE]
  refine Fr_bind (fr_item h _ _ _ _) (fun u hu => Fr_bind (fr_worth hu _) (fun v hv => ?_))
  have h1 := FRM_mrg hu hv
  have h2 : ∀ Θ g, FRM Γ Θ → FRM Γ (cA' Θ 4 12 g) := fun Θ g hΘ => FRM_cA hΘ (by omega) (fun e => by omega)
  refine Fr_ite ?_ ?_
  · exact Fr_ite (Fr_bind (fr_fail h1 _ _) (fun w hw => Fr_some (h2 _ _ hw))) (Fr_ite (Fr_bind (fr_fail h1 _ _) (fun w hw => Fr_some (h2 _ _ hw))) (Fr_ite (Fr_some (h2 _ _ h1)) (Fr_bind (fr_fail h1 _ _) (fun w hw => Fr_some (h2 _ _ hw)))))
  · exact Fr_ite (Fr_bind (fr_fail h1 _ _) (fun w hw => Fr_some (h2 _ _ hw))) (Fr_ite (Fr_bind (fr_fail h1 _ _) (fun w hw => Fr_some (h2 _ _ hw))) (Fr_ite (Fr_some (h2 _ _ h1)) (Fr_bind (fr_fail h1 _ _) (fun w hw => Fr_some (h2 _ _ hw)))))
theorem fr_long {Γ Δ : HS} (h : FRM Γ Δ) (a : Int32) : Fr Γ (F_X4_isTooLong a Δ) := by
  unfold F_X4_isTooLong
  simp only [bndE]
  refine Fr_bind (fr_place h _) (fun u hu => Fr_bind (fr_place (FRM_mrg h hu) _) (fun v hv => ?_))
  exact Fr_ite (Fr_some (FRM_mrg (FRM_mrg h hu) hv)) (Fr_some (FRM_mrg (FRM_mrg h hu) hv))
theorem fr_rule {Γ Δ : HS} (h : FRM Γ Δ) (a b c : Int32) : Fr Γ (F_X4_tellRule a b c Δ) := by
  unfold F_X4_tellRule
  simp only [bndE]
  have h2 : ∀ Θ g, FRM Γ Θ → FRM Γ (cA' Θ 4 0 g) := fun Θ g hΘ => FRM_cA hΘ (by omega) (fun e => by omega)
  refine Fr_ite (Fr_bind (fr_fail h _ _) (fun w hw => Fr_some (h2 _ _ hw))) (Fr_bind (fr_long h _) (fun u hu => ?_))
  exact Fr_ite (Fr_some (h2 _ _ hu)) (Fr_bind (fr_fail hu _ _) (fun w hw => Fr_some (h2 _ _ hw)))
/-- telling, but for a def's list, leaves the scope alone -/
theorem fr_tell (hT : TKE T N kd vl rv pl) {Γ : HS} {t : Nat} (hc : TKc N kd vl pl Γ) (ht : t < N) (h235 : kd t ≠ 235) : Fr Γ (F_X4_tellWord (J (t : Nat)) Γ) := by
  have hk := kd_le hT ht
  unfold F_X4_tellWord
  rw [c_kindOf hT hc ht, Option.bind_some]
  simp only [bndE]
  rw [mrg1_id]
  have hΓ : FRM Γ Γ := FRM_rfl
  have some0 : ∀ u : Int32 × HS, FRM Γ u.2 → Fr Γ (some ((0 : Int32), u.2)) := fun u hu => Fr_some hu
  refine Fr_ite (Fr_bind (fr_item hΓ _ _ _ _) some0) (Fr_ite (Fr_bind (fr_item hΓ _ _ _ _) (fun u hu => Fr_some (FRM_cI hu (by omega) n14))) (Fr_ite (Fr_bind (fr_verb hΓ _) some0) (Fr_ite (Fr_bind (fr_item hΓ _ _ _ _) some0) (Fr_ite (Fr_bind (fr_array hΓ _) some0) ?_))))
  rw [if_neg (show ¬ J (kd t) = 235 by rw [show (235 : Int32) = J 235 from rfl, J255 235 hk (by omega)]; exact h235)]
  refine Fr_ite (Fr_bind (fr_rule hΓ _ _ _) some0) (Fr_ite (Fr_bind (fr_rule hΓ _ _ _) some0) (Fr_ite (Fr_bind (fr_owned hΓ _) some0) (Fr_ite ?_ (Fr_some hΓ))))
  have loc : ∀ a b : Int32, Fr Γ ((F_X4_tellLocal a b Γ).bind fun u_59 => some ((0 : Int32), u_59.2)) := by
    intro a b
    refine Fr_bind ?_ some0
    unfold F_X4_tellLocal
    simp only [bndE]
    refine Fr_bind (fr_worth hΓ _) (fun u hu => ?_)
    have h1 := FRM_mrg hΓ hu
    exact Fr_ite (Fr_ite (Fr_ite (Fr_bind (fr_fail h1 _ _) some0) (Fr_some h1)) (Fr_bind (fr_fail h1 _ _) some0)) (Fr_bind (fr_fail h1 _ _) some0)
  exact Fr_ite (loc _ _) (loc _ _)
