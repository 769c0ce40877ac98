/-! the row at the items' own words -/
variable {T N : Nat} {kd vl rv : Nat → Int} {pl : Nat → Nat}
def qh (k : Int) : Prop := k ≠ 235 ∧ (qf k ∨ k = 59)
theorem qp_qh {k : Int} (h : qp k) : qh k := by unfold qp qt at h; unfold qh; exact ⟨by omega, h.2⟩
theorem qh_of {k : Int} (h1 : ¬ (235 ≤ k ∧ k ≤ 237)) (h3 : k ≠ 242) (h4 : k ≠ 123) (h5 : k ≠ 125) : qh k := by
  unfold qh qf
  by_cases q : k = 59
  · exact ⟨by omega, Or.inr q⟩
  · exact ⟨by omega, Or.inl (by omega)⟩
theorem g_a (hT : TKE T N kd vl rv pl) {G : Nat → HS} (hG : GRW T N kd vl pl G) {t : Nat} (ht : t < T) (hk : kd t ≠ 235) {x : Int32} {Δ : HS} (hf : F_X4_followScope (J (t : Nat)) (G t) = some (x, Δ)) : AGR T kd vl Δ (G (t + 1)) := by
  obtain ⟨n1, n2, n3, n4⟩ := TKE_N hT
  obtain ⟨x', u, y, e1, e2⟩ := hG.2 t ht
  have hc := (hG.1 t (by omega)).1
  have hfr := fr_tell hT hc (show t < N by omega) hk _ e1
  have hcu : TKc N kd vl pl u := ⟨by rw [show u 1 = _ from hfr.1]; exact hc.1, fun i hi => by rw [show u 1 = _ from hfr.1]; exact hc.2 i hi⟩
  obtain ⟨v, v1, v2, v3, v4⟩ := fs_sim hT hc hcu (Or.inr ht) (AGR_of hfr.2) hf
  rw [e2] at v1
  injection v1 with v1
  rw [← v1] at v3
  exact v3
theorem g_ah (hT : TKE T N kd vl rv pl) {G : Nat → HS} (hG : GRW T N kd vl pl G) {t : Nat} (ht : t < T) (hq : qh (kd t)) (h9 : (G t 3).1 9 = J (-1)) : AGR T kd vl (G t) (G (t + 1)) := by
  obtain ⟨n1, n2, n3, n4⟩ := TKE_N hT
  have hc := (hG.1 t (by omega)).1
  rcases hq.2 with h | h
  · exact g_a hT hG ht hq.1 (fs_q hT hc (by omega) h)
  · exact g_a hT hG ht hq.1 (fs_semi hT hc (by omega) h h9)
theorem g_hr (hT : TKE T N kd vl rv pl) {G : Nat → HS} (hG : GRW T N kd vl pl G) {i j : Nat} (hj : j ≤ T) (hq : ∀ t, i ≤ t → t < j → qh (kd t)) (h9 : (G i 3).1 9 = J (-1)) : ∀ d, i + d ≤ j → AGR T kd vl (G i) (G (i + d)) := by
  intro d
  induction d with
  | zero => intro _; exact AGR_rfl
  | succ d ih =>
    intro hd
    have a := ih (by omega)
    exact AGR_trans a (g_ah hT hG (t := i + d) (by omega) (hq _ (by omega) (by omega)) (by rw [AGR_i a 9 (by omega)]; exact h9))
theorem g_ht (hT : TKE T N kd vl rv pl) {G : Nat → HS} (hG : GRW T N kd vl pl G) {i j : Nat} (hj : j ≤ T) (hq : ∀ t, i ≤ t → t < j → qh (kd t)) (h9 : (G i 3).1 9 = J (-1)) {t : Nat} (h1 : i ≤ t) (h2 : t ≤ j) : AGR T kd vl (G i) (G t) := by
  have := g_hr hT hG hj hq h9 (t - i) (by omega)
  rwa [show i + (t - i) = t by omega] at this
/-- at an item's start -/
def GZ (T : Nat) (kd vl : Nat → Int) (Γ : HS) : Prop := SC T kd vl Γ 0 0 0 (fun _ => 0) (fun _ => 0) ∧ (Γ 3).1 9 = J (-1) ∧ (Γ 3).1 12 = J 0
theorem GZ_AGR {Γ Δ : HS} (h : GZ T kd vl Γ) (i : AGR T kd vl Γ Δ) : GZ T kd vl Δ := ⟨SC_AGR h.1 i, by rw [AGR_i i 9 (by omega)]; exact h.2.1, by rw [AGR_i i 12 (by omega)]; exact h.2.2⟩
/-- words of items without braces -/
theorem q_g_flat (hT : TKE T N kd vl rv pl) {G : Nat → HS} (hG : GRW T N kd vl pl G) {i j : Nat} (hij : i ≤ j) (hj : j ≤ T) (hq : ∀ t, i ≤ t → t < j → qh (kd t)) (hZ : GZ T kd vl (G i)) : GZ T kd vl (G j) ∧ ∀ t, i ≤ t → t ≤ j → (G t 3).1 12 = J 0 := ⟨GZ_AGR hZ (g_ht hT hG hj hq hZ.2.1 hij (Nat.le_refl _)), fun t t1 t2 => (GZ_AGR hZ (g_ht hT hG hj hq hZ.2.1 t1 t2)).2.2⟩
/-- rooms and things -/
theorem g_place (hT : TKE T N kd vl rv pl) {G : Nat → HS} (hG : GRW T N kd vl pl G) {i b j : Nat} (hib : i ≤ b) (hbj : b + 1 < j) (hj : j ≤ T) (hq : ∀ t, i ≤ t → t < b → qh (kd t)) (hb : kd b = 123) (hq2 : ∀ t, b + 1 ≤ t → t < j - 1 → qh (kd t)) (hj1 : kd (j - 1) = 125) (hZ : GZ T kd vl (G i)) : GZ T kd vl (G j) ∧ ∀ t, i ≤ t → t ≤ j → (G t 3).1 12 = J 0 := by
  obtain ⟨n1, n2, n3, n4⟩ := TKE_N hT
  obtain ⟨z1, z2⟩ := q_g_flat hT hG hib (by omega) hq hZ
  have a1 := g_a hT hG (t := b) (by omega) (by omega) (fs_open hT (hG.1 b (by omega)).1 (show b < N by omega) hb z1.1 (by omega))
  have s1 := SC_AGR (opM_SC z1.1 (by omega)) a1
  have m1 := z1.2.1
  have e9 : (G (b + 1) 3).1 9 = J (-1) := by rw [AGR_i a1 9 (by omega)]; exact m1
  have e12 : (G (b + 1) 3).1 12 = J 0 := by rw [AGR_i a1 12 (by omega)]; exact z1.2.2
  have ar := fun (t : Nat) (h1 : b + 1 ≤ t) (h2 : t ≤ j - 1) => g_ht hT hG (i := b + 1) (j := j - 1) (by omega) hq2 e9 h1 h2
  have s2 := SC_AGR s1 (ar (j - 1) (by omega) (Nat.le_refl _))
  obtain ⟨Θ, f1, f2, f3, f4, f5, f6⟩ := fs_shut hT (D := 0) (L := 0) (hG.1 (j - 1) (by omega)).1 (show j - 1 < N by omega) hj1 s2 (Nat.le_refl 0) ⟨fun _ => rfl, fun h => by omega⟩
  have a2 := g_a hT hG (t := j - 1) (by omega) (by omega) f1
  rw [show j - 1 + 1 = j by omega] at a2
  rw [if_pos rfl] at f3 f5
  have hZj : GZ T kd vl (G j) := GZ_AGR ⟨f3, by rw [f4, AGR_i (ar (j - 1) (by omega) (Nat.le_refl _)) 9 (by omega)]; exact e9, f5⟩ a2
  refine ⟨hZj, fun t t1 t2 => ?_⟩
  by_cases q1 : t ≤ b
  · exact z2 t t1 q1
  by_cases q2 : t ≤ j - 1
  · rw [AGR_i (ar t (by omega) q2) 12 (by omega)]; exact e12
  · rw [show t = j by omega]; exact hZj.2.2
/-- on, each: up to the block -/
theorem g_rule (hT : TKE T N kd vl rv pl) {G : Nat → HS} (hG : GRW T N kd vl pl G) {i b : Nat} (hib : i + 1 ≤ b) (hb : b ≤ T) (hk : kd i = 236 ∨ kd i = 237) (hq : ∀ t, i + 1 ≤ t → t < b → qh (kd t)) (hZ : GZ T kd vl (G i)) : SC T kd vl (G b) 0 0 0 (fun _ => 0) (fun _ => 0) ∧ (G b 3).1 9 = J (-1) ∧ (G b 3).1 12 = J (kd i) ∧ ∀ t, i ≤ t → t ≤ b → (G t 3).1 11 = J 0 := by
  obtain ⟨n1, n2, n3, n4⟩ := TKE_N hT
  have a1 := g_a hT hG (t := i) (by omega) (by omega) (fs_rt hT (hG.1 i (by omega)).1 (show i < N by omega) (by omega))
  have s0 : SC T kd vl (cI' (G i) 3 12 (J (kd i))) 0 0 0 (fun _ => 0) (fun _ => 0) := hZ.1
  have s1 := SC_AGR s0 a1
  have e9 : (G (i + 1) 3).1 9 = J (-1) := by rw [AGR_i a1 9 (by omega)]; exact hZ.2.1
  have e12 : (G (i + 1) 3).1 12 = J (kd i) := by rw [AGR_i a1 12 (by omega)]; rfl
  have ar := fun (t : Nat) (h1 : i + 1 ≤ t) (h2 : t ≤ b) => g_ht hT hG (i := i + 1) (j := b) hb hq e9 h1 h2
  refine ⟨SC_AGR s1 (ar b hib (Nat.le_refl _)), by rw [AGR_i (ar b hib (Nat.le_refl _)) 9 (by omega)]; exact e9, by rw [AGR_i (ar b hib (Nat.le_refl _)) 12 (by omega)]; exact e12, fun t t1 t2 => ?_⟩
  by_cases q : t = i
  · rw [q]; exact hZ.1.2.2.1
  · rw [AGR_i (ar t (by omega) t2) 11 (by omega)]; exact s1.2.2.1
