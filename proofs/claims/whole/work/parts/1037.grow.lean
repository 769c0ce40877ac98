/-! the row of the second going's states -/
variable {T N : Nat} {kd vl rv : Nat → Int} {pl : Nat → Nat}
/-- the states at the words, all clean -/
def GRW (T N : Nat) (kd vl : Nat → Int) (pl : Nat → Nat) (G : Nat → HS) : Prop := (∀ t, t ≤ T → TKc N kd vl pl (G t) ∧ (G t 3).1 16 = J 0) ∧ ∀ t, t < T → ∃ (x : Int32) (u : HS) (y : Int32), F_X4_tellWord (J (t : Nat)) (G t) = some (x, u) ∧ F_X4_followScope (J (t : Nat)) u = some (y, G (t + 1))
theorem GRW_of {Γ Θ : HS} (h : CW W2 Γ 0 Θ T) (hc : TKc N kd vl pl Γ) (h16 : (Θ 3).1 16 = J 0) : ∃ G : Nat → HS, G 0 = Γ ∧ G T = Θ ∧ GRW T N kd vl pl G := by
  obtain ⟨-, -, H, a1, a2, a3⟩ := h
  have e1 : ∀ t, t ≤ T → H t 1 = Γ 1 := by
    intro t
    induction t with
    | zero => intro _; rw [a1]
    | succ t ih => intro ht; rw [(a3 t (Nat.zero_le _) (by omega)).2.2, ih (by omega)]
  refine ⟨H, a1, a2, fun t ht => ⟨⟨by rw [e1 t ht]; exact hc.1, fun i hi => by rw [e1 t ht]; exact hc.2 i hi⟩, ?_⟩, fun t ht => (a3 t (Nat.zero_le _) ht).2.1⟩
  by_cases q : t < T
  · exact (a3 t (Nat.zero_le _) q).1
  · rw [show t = T by omega, a2]; exact h16
theorem some2 {α β : Type} {a c : α} {b d : β} (h : some (a, b) = some (c, d)) : b = d := by
  injection h with h
  injection h
theorem g_f (hT : TKE T N kd vl rv pl) {G : Nat → HS} (hG : GRW T N kd vl pl G) {t : Nat} (ht : t < T) (hq : qt (kd t)) {x : Int32} {Δ : HS} (hf : F_X4_followScope (J (t : Nat)) (G t) = some (x, Δ)) : G (t + 1) = Δ := by
  obtain ⟨n1, n2, n3, n4⟩ := TKE_N hT
  obtain ⟨x', u, y, e1, e2⟩ := hG.2 t ht
  rw [tw_q hT (hG.1 t (by omega)).1 (show t < N by omega) hq] at e1
  have e3 := some2 e1
  rw [← e3, hf] at e2
  exact (some2 e2).symm
theorem g_q (hT : TKE T N kd vl rv pl) {G : Nat → HS} (hG : GRW T N kd vl pl G) {t : Nat} (ht : t < T) (hq : qs (kd t)) : G (t + 1) = G t := by
  obtain ⟨n1, n2, n3, n4⟩ := TKE_N hT
  exact g_f hT hG ht (qs_t hq) (fs_q hT (hG.1 t (by omega)).1 (show t < N by omega) (qs_f hq))
theorem g_qq (hT : TKE T N kd vl rv pl) {G : Nat → HS} (hG : GRW T N kd vl pl G) {i j : Nat} (hj : j ≤ T) (hq : ∀ t, i ≤ t → t < j → qs (kd t)) {t : Nat} (h1 : i ≤ t) (h2 : t ≤ j) : G t = G i := G_at (j := j) (fun t t1 t2 => g_q hT hG (by omega) (hq t t1 t2)) h1 h2
theorem g_semi (hT : TKE T N kd vl rv pl) {G : Nat → HS} (hG : GRW T N kd vl pl G) {t : Nat} (ht : t < T) (hk : kd t = 59) (h9 : (G t 3).1 9 = J (-1)) : G (t + 1) = G t := by
  obtain ⟨n1, n2, n3, n4⟩ := TKE_N hT
  exact g_f hT hG ht (by rw [hk]; unfold qt; omega) (fs_semi hT (hG.1 t (by omega)).1 (show t < N by omega) hk h9)
theorem g_let (hT : TKE T N kd vl rv pl) {G : Nat → HS} (hG : GRW T N kd vl pl G) {t s m D : Nat} {ts sl : Nat → Nat} (ht : t + 1 ≤ T) (hk : kd t = 242) (hk2 : kd (t + 1) = 2) (h : SC T kd vl (G t) s m D ts sl) : G (t + 1) = cI' (G t) 3 9 (J (vl (t + 1))) ∧ m < 14 ∧ ∀ k, k < s → vl (ts k) ≠ vl (t + 1) := by
  obtain ⟨n1, n2, n3, n4⟩ := TKE_N hT
  obtain ⟨x', u, y, e1, e2⟩ := hG.2 t (by omega)
  have hc := (hG.1 t (by omega)).1
  have h16 := (hG.1 (t + 1) ht).2
  rw [tw_let hT hc (hG.1 t (by omega)).2 ht hk hk2 h] at e1
  have e3 := some2 e1
  have no : ∀ f : Int, 0 < f ∧ f ≤ 6 → failS (G t) pl f (t + 1) ≠ u := by
    intro f hf e
    rw [← e, fs_let hT (Γ := failS (G t) pl f (t + 1)) ⟨hc.1, hc.2⟩ (by omega) hk] at e2
    have e4 := some2 e2
    rw [← e4] at h16
    have h16 : J f = J 0 := h16
    rw [J_eq (by omega) (by omega) (by omega) (by omega)] at h16; omega
  by_cases q1 : (G t 3).2.1 2 (vl (t + 1)).toNat = J 16001 ∧ (G t 3).2.1 5 (vl (t + 1)).toNat = J 0
  · rw [if_pos q1] at e3
    by_cases q2 : 14 ≤ m
    · rw [if_pos q2] at e3; exact absurd e3 (no 5 (by omega))
    · rw [if_neg q2] at e3
      rw [← e3, fs_let hT hc (by omega) hk] at e2
      refine ⟨(some2 e2).symm, by omega, fun k hk' e => ?_⟩
      obtain ⟨z1, z2, z3, z4, z5⟩ := h.2.2.2.2.2.2.1 k hk'
      rw [e, q1.2, J_eq (by omega) (by omega) (by omega) (by omega)] at z4; omega
  · rw [if_neg q1] at e3; exact absurd e3 (no 4 (by omega))
