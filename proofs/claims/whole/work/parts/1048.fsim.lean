/-! the scope is followed alike from the same scope -/
variable {T N : Nat} {kd vl rv : Nat → Int} {pl : Nat → Nat}
/-- the same scope: what is seen, by names; the rows -/
def AGR (T : Nat) (kd vl : Nat → Int) (Γ Δ : HS) : Prop := (∀ k, scI k → (Δ 3).1 k = (Γ 3).1 k) ∧ (∀ u, u ≤ T → kd u = 2 → (Δ 3).2.1 5 (vl u).toNat = (Γ 3).2.1 5 (vl u).toNat) ∧ ∀ k, k = 6 ∨ k = 10 → (Δ 3).2.1 k = (Γ 3).2.1 k
theorem AGR_rfl {Γ : HS} : AGR T kd vl Γ Γ := ⟨fun _ _ => rfl, fun _ _ _ => rfl, fun _ _ => rfl⟩
theorem AGR_trans {Γ Δ Θ : HS} (h : AGR T kd vl Γ Δ) (i : AGR T kd vl Δ Θ) : AGR T kd vl Γ Θ := ⟨fun k hk => by rw [i.1 k hk, h.1 k hk], fun u hu hk => by rw [i.2.1 u hu hk, h.2.1 u hu hk], fun k hk => by rw [i.2.2 k hk, h.2.2 k hk]⟩
theorem AGR_symm {Γ Δ : HS} (h : AGR T kd vl Γ Δ) : AGR T kd vl Δ Γ := ⟨fun k hk => (h.1 k hk).symm, fun u hu hk => (h.2.1 u hu hk).symm, fun k hk => (h.2.2 k hk).symm⟩
theorem AGR_of {Γ Δ : HS} (h : AGR0 Γ Δ) : AGR T kd vl Γ Δ := ⟨h.1, fun u hu hk => by rw [h.2 5 (Or.inl rfl)], fun k hk => h.2 k (Or.inr hk)⟩
theorem AGR_s {Γ Δ : HS} (h : AGR T kd vl Γ Δ) {u : Nat} (hu : u ≤ T) (hk : kd u = 2) : (Δ 3).2.1 5 (vl u).toNat = (Γ 3).2.1 5 (vl u).toNat := h.2.1 u hu hk
theorem AGR_a {Γ Δ : HS} (h : AGR T kd vl Γ Δ) (k : Nat) (hk : k = 6 ∨ k = 10) : (Δ 3).2.1 k = (Γ 3).2.1 k := h.2.2 k hk
theorem SC_AGR {Γ Δ : HS} {s m D : Nat} {ts sl : Nat → Nat} (h : SC T kd vl Γ s m D ts sl) (i : AGR T kd vl Γ Δ) : SC T kd vl Δ s m D ts sl := by
  obtain ⟨a1, a2, a3, a4, a5, a6, a7, a8, a9⟩ := h
  obtain ⟨i1, i2, i3⟩ := i
  refine ⟨by rw [i1 7 (Or.inl rfl)]; exact a1, by rw [i1 8 (Or.inr (Or.inl rfl))]; exact a2, by rw [i1 11 (Or.inr (Or.inr (Or.inr (Or.inl rfl))))]; exact a3, a4, a5, a6, fun k hk => ?_, fun u hu hk hn => by rw [i2 u hu hk]; exact a8 u hu hk hn, a9⟩
  obtain ⟨b1, b2, b3, b4, b5⟩ := a7 k hk
  exact ⟨b1, b2, by rw [i3 6 (Or.inl rfl)]; exact b3, by rw [i2 _ b2 b1]; exact b4, b5⟩
/-- the scope's part of a state, and nothing else, changes alike -/
def Sm (T : Nat) (kd vl : Nat → Int) (Γ Δ : HS) (R S : HR) : Prop := ∀ u, R = some u → ∃ v, S = some v ∧ v.1 = u.1 ∧ AGR T kd vl u.2 v.2 ∧ m3 Δ v.2
theorem AGR_cI {Γ Δ : HS} {k : Nat} {v : Int32} (h : AGR T kd vl Γ Δ) : AGR T kd vl (cI' Γ 3 k v) (cI' Δ 3 k v) := ⟨fun j hj => by
  show upd _ _ _ _ = upd _ _ _ _
  rw [upd_s, upd_s, h.1 j hj], h.2.1, h.2.2⟩
theorem AGR_cA {Γ Δ : HS} {k : Nat} {g : Nat → Int32} (h : AGR T kd vl Γ Δ) : AGR T kd vl (cA' Γ 3 k g) (cA' Δ 3 k g) := ⟨h.1, fun u hu hk => by
  show updA _ _ _ _ _ = updA _ _ _ _ _
  rw [updA_s, updA_s]
  by_cases q : 5 = k
  · rw [if_pos q, if_pos q]
  · rw [if_neg q, if_neg q]; exact h.2.1 u hu hk, fun j hj => by
  show updA _ _ _ _ = updA _ _ _ _
  rw [updA_s, updA_s, h.2.2 j hj]⟩
theorem AGR_A5 {Γ Δ : HS} {p v : Int32} (h : AGR T kd vl Γ Δ) : AGR T kd vl (cA' Γ 3 5 (g_put 4500 ((Γ 3).2.1 5) p v)) (cA' Δ 3 5 (g_put 4500 ((Δ 3).2.1 5) p v)) := ⟨h.1, fun u hu hk => by
  show g_put 4500 _ _ _ _ = g_put 4500 _ _ _ _
  unfold g_put
  split
  · exact h.2.1 u hu hk
  · rw [upd_s, upd_s, h.2.1 u hu hk], fun k hk => by
  show updA _ _ _ k = updA _ _ _ k
  rw [updA_s, updA_s, if_neg (by omega), if_neg (by omega)]; exact h.2.2 k hk⟩
theorem AGR_i {Γ Δ : HS} (h : AGR T kd vl Γ Δ) (k : Nat) (hk : k = 7 ∨ k = 8 ∨ k = 9 ∨ k = 11 ∨ k = 12) : (Δ 3).1 k = (Γ 3).1 k := h.1 k hk
theorem m3_cI {Γ Δ : HS} {k : Nat} {v : Int32} (h : m3 Γ Δ) (hk : k = 7 ∨ k = 8 ∨ k = 9 ∨ k = 11 ∨ k = 12) : m3 Γ (cI' Δ 3 k v) := m3_trans h (m3_I hk)
theorem m3_cA {Γ Δ : HS} {k : Nat} {g : Nat → Int32} (h : m3 Γ Δ) (hk : k = 5 ∨ k = 6 ∨ k = 10) : m3 Γ (cA' Δ 3 k g) := m3_trans h (m3_A hk)
theorem sm_see {Γ Δ E : HS} (h : AGR T kd vl Γ Δ) (hm : m3 E Δ) (p : Int32) : ∃ Γ' Δ', F_X4_see p Γ = some ((0 : Int32), Γ') ∧ F_X4_see p Δ = some ((0 : Int32), Δ') ∧ AGR T kd vl Γ' Δ' ∧ m3 E Δ' := by
  refine ⟨_, _, rfl, rfl, ?_, ?_⟩
  · rw [AGR_i h 8 (by omega)]
    have h1 : AGR T kd vl (cI' Γ 3 8 ((Γ 3).1 8 + 1)) (cI' Δ 3 8 ((Γ 3).1 8 + 1)) := AGR_cI h
    generalize cI' Γ 3 8 ((Γ 3).1 8 + 1) = Γ1 at *
    generalize cI' Δ 3 8 ((Γ 3).1 8 + 1) = Δ1 at *
    rw [AGR_i h1 8 (by omega)]
    have h2 : AGR T kd vl (cA' Γ1 3 5 (g_put 4500 ((Γ1 3).2.1 5) p ((Γ1 3).1 8))) (cA' Δ1 3 5 (g_put 4500 ((Δ1 3).2.1 5) p ((Γ1 3).1 8))) := AGR_A5 h1
    generalize cA' Γ1 3 5 (g_put 4500 ((Γ1 3).2.1 5) p ((Γ1 3).1 8)) = Γ2 at *
    generalize cA' Δ1 3 5 (g_put 4500 ((Δ1 3).2.1 5) p ((Γ1 3).1 8)) = Δ2 at *
    rw [AGR_i h2 7 (by omega), AGR_a h2 6 (by omega)]
    have h3 : AGR T kd vl (cA' Γ2 3 6 (g_put 14 ((Γ2 3).2.1 6) ((Γ2 3).1 7) p)) (cA' Δ2 3 6 (g_put 14 ((Γ2 3).2.1 6) ((Γ2 3).1 7) p)) := AGR_cA h2
    generalize cA' Γ2 3 6 (g_put 14 ((Γ2 3).2.1 6) ((Γ2 3).1 7) p) = Γ3 at *
    generalize cA' Δ2 3 6 (g_put 14 ((Γ2 3).2.1 6) ((Γ2 3).1 7) p) = Δ3 at *
    rw [AGR_i h3 7 (by omega)]
    exact AGR_cI h3
  · exact m3_cI (m3_cA (m3_cA (m3_cI hm (by omega)) (by omega)) (by omega)) (by omega)
theorem sm_loop {B : (Int32 × HS → HR) → Int32 × HS → HR} {L : Int32} (hB : ∀ again q, B again q = if ((q.2 3).1 7) ≤ q.1 then (if ((cI' q.2 3 7 L 3).1 11) = 0 then some ((0 : Int32), cI' (cI' (cI' q.2 3 7 L) 3 12 0) 3 8 0) else some ((0 : Int32), cI' q.2 3 7 L)) else again (q.1 + 1, cA' q.2 3 5 (g_put 4500 ((q.2 3).2.1 5) (g_at 14 ((q.2 3).2.1 6) q.1) 0))) {E : HS} : ∀ (n : Nat) (l : Int32) (Γ Δ : HS), AGR T kd vl Γ Δ → m3 E Δ → ∀ u, loopF B n (l, Γ) = some u → ∃ v, loopF B n (l, Δ) = some v ∧ v.1 = u.1 ∧ AGR T kd vl u.2 v.2 ∧ m3 E v.2 := by
  intro n
  induction n with
  | zero => intro l Γ Δ _ _ u hu; cases hu
  | succ n ih =>
    intro l Γ Δ h hm u hu
    have hu : B (loopF B n) (l, Γ) = some u := hu
    show ∃ v, B (loopF B n) (l, Δ) = some v ∧ _
    rw [hB] at hu ⊢
    dsimp only at hu ⊢
    rw [AGR_i h 7 (by omega)]
    by_cases q : (Γ 3).1 7 ≤ l
    · rw [if_pos q] at hu ⊢
      have h1 : AGR T kd vl (cI' Γ 3 7 L) (cI' Δ 3 7 L) := AGR_cI h
      rw [AGR_i h1 11 (by omega)]
      by_cases q2 : (cI' Γ 3 7 L 3).1 11 = 0
      · rw [if_pos q2] at hu ⊢
        injection hu with hu
        rw [← hu]
        exact ⟨_, rfl, rfl, AGR_cI (AGR_cI h1), m3_cI (m3_cI (m3_cI hm (by omega)) (by omega)) (by omega)⟩
      · rw [if_neg q2] at hu ⊢
        injection hu with hu
        rw [← hu]
        exact ⟨_, rfl, rfl, h1, m3_cI hm (by omega)⟩
    · rw [if_neg q] at hu ⊢
      rw [AGR_a h 6 (by omega)]
      exact ih _ _ _ (AGR_A5 h) (m3_cA hm (by omega)) u hu
theorem fs_sim (hT : TKE T N kd vl rv pl) {Γ Δ : HS} {t : Nat} (hc : TKc N kd vl pl Γ) (hd : TKc N kd vl pl Δ) (ht : t + 1 < N ∨ t < T) (h : AGR T kd vl Γ Δ) {u : Int32 × HS} (hu : F_X4_followScope (J (t : Nat)) Γ = some u) : ∃ v, F_X4_followScope (J (t : Nat)) Δ = some v ∧ v.1 = u.1 ∧ AGR T kd vl u.2 v.2 ∧ m3 Δ v.2 := by
  obtain ⟨n1, n2, n3, n4⟩ := TKE_N hT
  have htN : t < N := by omega
  unfold F_X4_followScope at hu ⊢
  rw [c_kindOf hT hc htN, Option.bind_some] at hu
  rw [c_kindOf hT hd htN, Option.bind_some]
  simp only [bndE] at hu ⊢
  rw [mrg1_id] at hu ⊢
  by_cases q1 : J (kd t) = 59
  · rw [if_pos q1] at hu ⊢
    rw [AGR_i h 9 (by omega)]
    by_cases q2 : (Γ 3).1 9 = -1
    · rw [if_pos q2] at hu ⊢
      injection hu with hu
      rw [← hu]
      exact ⟨_, rfl, rfl, AGR_cI h, m3_I (by omega)⟩
    · rw [if_neg q2] at hu ⊢
      obtain ⟨Γ', Δ', e1, e2, e3, e4⟩ := sm_see (E := Δ) h m3_rfl ((Γ 3).1 9)
      rw [e1, Option.bind_some] at hu
      rw [e2, Option.bind_some]
      injection hu with hu
      rw [← hu]
      exact ⟨_, rfl, rfl, AGR_cI e3, m3_cI e4 (by omega)⟩
  rw [if_neg q1] at hu ⊢
  by_cases q2 : J (kd t) = 123
  · rw [if_pos q2] at hu ⊢
    rw [AGR_i h 7 (by omega), AGR_i h 11 (by omega), AGR_a h 10 (by omega)]
    have h1 : AGR T kd vl (cA' Γ 3 10 (g_put 31 ((Γ 3).2.1 10) ((Γ 3).1 11) ((Γ 3).1 7))) (cA' Δ 3 10 (g_put 31 ((Γ 3).2.1 10) ((Γ 3).1 11) ((Γ 3).1 7))) := AGR_cA h
    rw [AGR_i h1 11 (by omega)]
    injection hu with hu
    rw [← hu]
    exact ⟨_, rfl, rfl, AGR_cI h1, m3_cI (m3_A (by omega)) (by omega)⟩
  rw [if_neg q2] at hu ⊢
  by_cases q3 : J (kd t) = 125
  · rw [if_pos q3] at hu ⊢
    have fin : ∀ u, F_X4_shutBlock Γ = some u → ∃ v, F_X4_shutBlock Δ = some v ∧ v.1 = u.1 ∧ AGR T kd vl u.2 v.2 ∧ m3 Δ v.2 := by
      intro u hu
      unfold F_X4_shutBlock at hu ⊢
      rw [bndE, bndE] at hu ⊢
      rw [AGR_i h 11 (by omega)]
      have h1 : AGR T kd vl (cI' Γ 3 11 ((Γ 3).1 11 - 1)) (cI' Δ 3 11 ((Γ 3).1 11 - 1)) := AGR_cI h
      rw [AGR_i h1 11 (by omega)]
      by_cases q4 : (cI' Γ 3 11 ((Γ 3).1 11 - 1) 3).1 11 ≤ 0
      · rw [if_pos q4] at hu ⊢
        exact sm_loop (fun _ _ => rfl) FU 0 _ _ h1 (m3_I (by omega)) u hu
      · rw [if_neg q4] at hu ⊢
        rw [bndE, bndE] at hu ⊢
        rw [AGR_a h1 10 (by omega)]
        exact sm_loop (fun _ _ => rfl) FU _ _ _ h1 (m3_I (by omega)) u hu
    cases hs : F_X4_shutBlock Γ with
    | none => rw [hs] at hu; cases hu
    | some a =>
      obtain ⟨v, v1, v2, v3, v4⟩ := fin a hs
      rw [hs, Option.bind_some] at hu
      rw [v1, Option.bind_some]
      injection hu with hu
      rw [← hu]
      exact ⟨_, rfl, rfl, v3, v4⟩
  rw [if_neg q3] at hu ⊢
  by_cases q4 : J (kd t) = 235 ∨ J (kd t) = 236 ∨ J (kd t) = 237
  · rw [if_pos q4] at hu ⊢
    rw [c_kindOf hT hc htN, Option.bind_some] at hu
    rw [c_kindOf hT hd htN, Option.bind_some]
    rw [mrg1_id] at hu ⊢
    injection hu with hu
    rw [← hu]
    exact ⟨_, rfl, rfl, AGR_cI h, m3_I (by omega)⟩
  rw [if_neg q4] at hu ⊢
  by_cases q5 : J (kd t) = 242
  · rw [if_pos q5] at hu ⊢
    rw [show J (t : Nat) + 1 = J (t + 1 : Nat) by rw [J_lit, J_add]; rfl] at hu ⊢
    rw [c_worthOf hT hc (show t + 1 < N by omega), Option.bind_some] at hu
    rw [c_worthOf hT hd (show t + 1 < N by omega), Option.bind_some]
    rw [mrg1_id] at hu ⊢
    injection hu with hu
    rw [← hu]
    exact ⟨_, rfl, rfl, AGR_cI h, m3_I (by omega)⟩
  · rw [if_neg q5] at hu ⊢
    injection hu with hu
    rw [← hu]
    exact ⟨_, rfl, rfl, h, m3_rfl⟩
