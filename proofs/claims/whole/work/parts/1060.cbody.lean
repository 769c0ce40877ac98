/-! the third going, a word of a block -/
variable {T N : Nat} {kd vl rv : Nat → Int} {pl : Nat → Nat}
/-- the class at word t in the third going -/
def CT3 (T N : Nat) (kd vl : Nat → Int) (pl : Nat → Nat) (G : Nat → HS) (Θ Γs : HS) (t : Nat) (Γ : HS) : Prop := TKc N kd vl pl Γ ∧ (Γ 3).1 16 = J 0 ∧ AGR T kd vl (G t) Γ ∧ (Γ 3).2.1 3 = (Θ 3).2.1 3 ∧ (Γ 3).2.1 4 = (Θ 3).2.1 4 ∧ (Γ 1).2.1 6 = (Γs 1).2.1 6 ∧ (Γ 5).2.1 4 = (Γs 5).2.1 4
theorem snF_J {G : Nat → HS} {t : Nat} : (G t 3).2.1 5 (vl t).toNat = J (snF G vl t) := by unfold snF; rw [J_of]
theorem ksF_J {Θ : HS} {t : Nat} : (Θ 3).2.1 3 (vl t).toNat = J (ksF Θ vl t) := by unfold ksF; rw [J_of]
theorem c_sortB (hT : TKE T N kd vl rv pl) {G : Nat → HS} {Θ Γs Γ : HS} {t u : Nat} (h : CT3 T N kd vl pl G Θ Γs t Γ) (hu : u ≤ T) (hk : kd u = 2) : F_X4_sortOf (J (u : Nat)) Γ = some ((if (G t 3).2.1 5 (vl u).toNat = 0 then J (ksF Θ vl u) else 7), Γ) := by
  obtain ⟨n1, n2, n3, n4⟩ := TKE_N hT
  obtain ⟨hc, h16, hA, h3, h4, -⟩ := h
  have hv := SC_vl hT hu hk
  unfold F_X4_sortOf
  rw [c_worthOf hT hc (show u < N by omega), Option.bind_some, bndE, mrg1_id, c_kindOf hT hc (show u < N by omega), Option.bind_some, bndE, mrg1_id, hk, if_pos (show J 2 = 2 from rfl), bndE]
  dsimp only
  rw [q_g_at_in (n := 4500) (i := vl u) (by omega) (by omega) (by omega), AGR_s hA hu hk]
  by_cases q : (G t 3).2.1 5 (vl u).toNat = 0
  · rw [if_pos q, if_pos q, bndE, q_g_at_in (n := 4500) (i := vl u) (by omega) (by omega) (by omega), h3, ksF_J]
  · rw [if_neg q, if_neg q]
theorem c_numOf (hT : TKE T N kd vl rv pl) {G : Nat → HS} {Θ Γs Γ : HS} {t u : Nat} (h : CT3 T N kd vl pl G Θ Γs t Γ) (hu : u ≤ T) (hk : kd u = 2) : F_X4_numberOf (J (u : Nat)) Γ = some ((if (G t 3).2.1 5 (vl u).toNat = 0 then (Θ 3).2.1 4 (vl u).toNat else (G t 3).2.1 5 (vl u).toNat - 1), Γ) := by
  obtain ⟨n1, n2, n3, n4⟩ := TKE_N hT
  obtain ⟨hc, h16, hA, h3, h4, -⟩ := h
  have hv := SC_vl hT hu hk
  unfold F_X4_numberOf
  rw [c_worthOf hT hc (show u < N by omega), Option.bind_some, bndE, mrg1_id, bndE]
  dsimp only
  rw [q_g_at_in (n := 4500) (i := vl u) (by omega) (by omega) (by omega), AGR_s hA hu hk]
  by_cases q : (G t 3).2.1 5 (vl u).toNat = 0
  · rw [if_pos q, if_pos q, bndE, q_g_at_in (n := 4500) (i := vl u) (by omega) (by omega) (by omega), h4]
  · rw [if_neg q, if_neg q, bndE]
/-- a NAME's meaning as the class writes it down -/
def mng (A B : Int32) : Int32 := (A <<< (16 &&& 31)) ||| B
def putM (Γ : HS) (t : Nat) (v : Int32) : HS := cA' Γ 1 7 (g_put 16001 ((Γ 1).2.1 7) (J (t : Nat)) v)
theorem putM_r {Γ : HS} {t r : Nat} {v : Int32} (h : r ≠ 1) : putM Γ t v r = Γ r := by unfold putM; rw [cA_r, if_neg h]
theorem putM_TKc {Γ : HS} {t : Nat} {v : Int32} (h : TKc N kd vl pl Γ) : TKc N kd vl pl (putM Γ t v) := ⟨h.1, fun i hi => h.2 i hi⟩
theorem srt_J {G : Nat → HS} {Θ : HS} {t : Nat} (h : kd (t - 1) ≠ 242) : (if (G t 3).2.1 5 (vl t).toNat = 0 then J (ksF Θ vl t) else 7) = J (srt G Θ kd vl t) := by
  obtain ⟨c1, -⟩ := srt_n (vl := vl) (G := G) (Θ := Θ) h
  rw [c1, snF_J]
  have hr := J_rng ((G t 3).2.1 5 (vl t).toNat)
  have e : (J (snF G vl t) = 0) = (snF G vl t = 0) := by
    rw [show (0 : Int32) = J 0 from rfl]
    exact J_eq hr.1 hr.2 (by omega) (by omega)
  by_cases q : snF G vl t = 0
  · rw [if_pos (by rw [e]; exact q), if_pos q]
  · rw [if_neg (by rw [e]; exact q), if_neg q]; rfl
/-- what a NAME of a block must be -/
def wantB (G : Nat → HS) (Θ Γs : HS) (kd vl : Nat → Int) (t : Nat) : Prop := if kd (t + 1) = 40 then srt G Θ kd vl t = 6 ∧ (Γs 1).2.1 6 t = (Γs 5).2.1 4 (nmb G Θ kd vl t) else if kd (t + 1) = 61 then srt G Θ kd vl t = 4 ∨ srt G Θ kd vl t = 7 else if kd (t + 1) = 91 then srt G Θ kd vl t = 5 else (srt G Θ kd vl t = 1 ∨ srt G Θ kd vl t = 2 ∨ srt G Θ kd vl t = 4 ∨ srt G Θ kd vl t = 7)
theorem badB_want {G : Nat → HS} {Θ Γs : HS} {t : Nat} (hk : kd t = 2) (h1 : kd (t - 1) ≠ 242) : badB G Θ Γs kd vl t ↔ ¬ wantB G Θ Γs kd vl t := by
  unfold wantB
  constructor
  · rintro (⟨-, -, h | h | h | h⟩ | h | h)
    · rw [if_pos h.1]; exact h.2
    · rw [if_neg (by omega), if_neg (by omega), if_pos h.1]; exact h.2
    · rw [if_neg (by omega), if_pos h.1]; rintro (q | q) <;> omega
    · rw [if_neg h.1, if_neg h.2.2.1, if_neg h.2.1]; rintro (q | q | q | q) <;> omega
    · omega
    · omega
  · intro h
    refine Or.inl ⟨hk, h1, ?_⟩
    by_cases q1 : kd (t + 1) = 40
    · rw [if_pos q1] at h; exact Or.inl ⟨q1, h⟩
    rw [if_neg q1] at h
    by_cases q2 : kd (t + 1) = 61
    · rw [if_pos q2] at h
      exact Or.inr (Or.inr (Or.inl ⟨q2, fun e => h (Or.inl e), fun e => h (Or.inr e)⟩))
    rw [if_neg q2] at h
    by_cases q3 : kd (t + 1) = 91
    · rw [if_pos q3] at h; exact Or.inr (Or.inl ⟨q3, h⟩)
    · rw [if_neg q3] at h
      exact Or.inr (Or.inr (Or.inr ⟨q1, q3, q2, fun e => h (Or.inl e), fun e => h (Or.inr (Or.inl e)), fun e => h (Or.inr (Or.inr (Or.inl e))), fun e => h (Or.inr (Or.inr (Or.inr e)))⟩))
theorem c_nameB (hT : TKE T N kd vl rv pl) {G : Nat → HS} {Θ Γs Γ : HS} {t : Nat} (h : CT3 T N kd vl pl G Θ Γs t Γ) (ht : t < T) (ht1 : 1 ≤ t) (hk : kd t = 2) (hk1 : kd (t - 1) ≠ 242) (hs : 0 ≤ srt G Θ kd vl t ∧ srt G Θ kd vl t ≤ 7) (hD : srt G Θ kd vl t = 6 → (if (G t 3).2.1 5 (vl t).toNat = 0 then (Θ 3).2.1 4 (vl t).toNat else (G t 3).2.1 5 (vl t).toNat - 1) = J (nmb G Θ kd vl t : Nat) ∧ nmb G Θ kd vl t < 100) : ∃ X : HS, F_X4_nameInBody (J (t : Nat)) Γ = some ((0 : Int32), putM X t (mng (J (srt G Θ kd vl t)) (if (G t 3).2.1 5 (vl t).toNat = 0 then (Θ 3).2.1 4 (vl t).toNat else (G t 3).2.1 5 (vl t).toNat - 1))) ∧ (badB G Θ Γs kd vl t → X = failS Γ pl 3 t) ∧ (¬ badB G Θ Γs kd vl t → X = Γ) := by
  obtain ⟨n1, n2, n3, n4⟩ := TKE_N hT
  obtain ⟨hc, h16, hA, h3, h4, h6, h54⟩ := id h
  have hkr := kd_le hT (show t + 1 < N by omega)
  have hkr1 := kd_le hT (show t - 1 < N by omega)
  have jk : ∀ c : Int, 0 ≤ c ∧ c ≤ 1000 → (J (kd (t + 1)) = J c) = (kd (t + 1) = c) := fun c hc => J255 c hkr hc
  have js : ∀ c : Int, 0 ≤ c ∧ c ≤ 1000 → (J (srt G Θ kd vl t) = J c) = (srt G Θ kd vl t = c) := fun c hc => J_eq (by omega) (by omega) (by omega) (by omega)
  unfold F_X4_nameInBody
  rw [show J (t : Nat) - 1 = J (t - 1 : Nat) by rw [J_lit, J_sub]; congr 1; omega, c_kindOf hT hc (show t - 1 < N by omega), Option.bind_some]
  simp only [bndE]
  rw [mrg1_id, if_neg (show ¬ J (kd (t - 1)) = 242 by rw [show (242 : Int32) = J 242 from rfl, J255 242 hkr1 (by omega)]; exact hk1)]
  rw [c_sortB hT h (show t ≤ T by omega) hk, Option.bind_some]
  dsimp only
  rw [c_numOf hT h (show t ≤ T by omega) hk, Option.bind_some, srt_J hk1]
  dsimp only
  rw [show J (t : Nat) + 1 = J (t + 1 : Nat) by rw [J_lit, J_add]; rfl, c_kindOf hT hc (show t + 1 < N by omega), Option.bind_some]
  dsimp only
  rw [mrg1_id, show F_X4_fail 3 (J (t : Nat)) Γ = some (J 0, failS Γ pl 3 t) from c_fail4 hT (f := 3) hc h16 (show t < N by omega), Option.bind_some]
  dsimp only
  have hbw := badB_want (vl := vl) (G := G) (Θ := Θ) (Γs := Γs) hk hk1
  unfold wantB at hbw
  have n1 : ¬ (1 : Int32) = 0 := by decide
  by_cases q1 : kd (t + 1) = 40
  · rw [if_pos q1] at hbw
    rw [if_pos (show J (kd (t + 1)) = 40 by rw [q1]; rfl)]
    by_cases s6 : srt G Θ kd vl t = 6
    · obtain ⟨d1, d2⟩ := hD s6
      rw [if_pos (show J (srt G Θ kd vl t) = 6 by rw [s6]; rfl), d1, q_g_at_in (n := 16001) (i := (t : Nat)) (by omega) (by omega) (by omega), q_g_at_in (n := 100) (i := (nmb G Θ kd vl t : Nat)) (by omega) (by omega) (by omega), Int.toNat_natCast, Int.toNat_natCast, h6, h54]
      by_cases qe : (Γs 1).2.1 6 t = (Γs 5).2.1 4 (nmb G Θ kd vl t)
      · rw [if_pos qe, if_neg n1]
        exact ⟨Γ, rfl, fun hb => absurd hb (fun hh => hbw.mp hh ⟨s6, qe⟩), fun _ => rfl⟩
      · rw [if_neg qe, if_pos trivial]
        exact ⟨failS Γ pl 3 t, rfl, fun _ => rfl, fun hn => absurd (hbw.mpr (fun hh => qe hh.2)) hn⟩
    · rw [if_neg (show ¬ J (srt G Θ kd vl t) = 6 by rw [show (6 : Int32) = J 6 from rfl, js 6 (by omega)]; exact s6), if_pos trivial]
      exact ⟨failS Γ pl 3 t, rfl, fun _ => rfl, fun hn => absurd (hbw.mpr (fun hh => s6 hh.1)) hn⟩
  rw [if_neg q1] at hbw
  rw [if_neg (show ¬ J (kd (t + 1)) = 40 by rw [show (40 : Int32) = J 40 from rfl, jk 40 (by omega)]; exact q1)]
  by_cases q2 : kd (t + 1) = 61
  · rw [if_pos q2] at hbw
    rw [if_pos (show J (kd (t + 1)) = 61 by rw [q2]; rfl)]
    by_cases s4 : srt G Θ kd vl t = 4
    · rw [if_pos (show J (srt G Θ kd vl t) = 4 by rw [s4]; rfl), if_neg n1]
      exact ⟨Γ, rfl, fun hb => absurd hb (fun hh => hbw.mp hh (Or.inl s4)), fun _ => rfl⟩
    rw [if_neg (show ¬ J (srt G Θ kd vl t) = 4 by rw [show (4 : Int32) = J 4 from rfl, js 4 (by omega)]; exact s4)]
    by_cases s7 : srt G Θ kd vl t = 7
    · rw [if_pos (show J (srt G Θ kd vl t) = 7 by rw [s7]; rfl), if_neg n1]
      exact ⟨Γ, rfl, fun hb => absurd hb (fun hh => hbw.mp hh (Or.inr s7)), fun _ => rfl⟩
    · rw [if_neg (show ¬ J (srt G Θ kd vl t) = 7 by rw [show (7 : Int32) = J 7 from rfl, js 7 (by omega)]; exact s7), if_pos trivial]
      exact ⟨failS Γ pl 3 t, rfl, fun _ => rfl, fun hn => absurd (hbw.mpr (fun hh => by omega)) hn⟩
  rw [if_neg q2] at hbw
  rw [if_neg (show ¬ J (kd (t + 1)) = 61 by rw [show (61 : Int32) = J 61 from rfl, jk 61 (by omega)]; exact q2)]
  by_cases q3 : kd (t + 1) = 91
  · rw [if_pos q3] at hbw
    rw [if_pos (show J (kd (t + 1)) = 91 by rw [q3]; rfl)]
    by_cases s5 : srt G Θ kd vl t = 5
    · rw [if_pos (show J (srt G Θ kd vl t) = 5 by rw [s5]; rfl), if_neg n1]
      exact ⟨Γ, rfl, fun hb => absurd hb (fun hh => hbw.mp hh s5), fun _ => rfl⟩
    · rw [if_neg (show ¬ J (srt G Θ kd vl t) = 5 by rw [show (5 : Int32) = J 5 from rfl, js 5 (by omega)]; exact s5), if_pos trivial]
      exact ⟨failS Γ pl 3 t, rfl, fun _ => rfl, fun hn => absurd (hbw.mpr s5) hn⟩
  rw [if_neg q3] at hbw
  rw [if_neg (show ¬ J (kd (t + 1)) = 91 by rw [show (91 : Int32) = J 91 from rfl, jk 91 (by omega)]; exact q3)]
  by_cases s1 : srt G Θ kd vl t = 1
  · rw [if_pos (show J (srt G Θ kd vl t) = 1 by rw [s1]; rfl), if_neg n1]
    exact ⟨Γ, rfl, fun hb => absurd hb (fun hh => hbw.mp hh (Or.inl s1)), fun _ => rfl⟩
  rw [if_neg (show ¬ J (srt G Θ kd vl t) = 1 by rw [show (1 : Int32) = J 1 from rfl, js 1 (by omega)]; exact s1)]
  by_cases s2 : srt G Θ kd vl t = 2
  · rw [if_pos (show J (srt G Θ kd vl t) = 2 by rw [s2]; rfl), if_neg n1]
    exact ⟨Γ, rfl, fun hb => absurd hb (fun hh => hbw.mp hh (Or.inr (Or.inl s2))), fun _ => rfl⟩
  rw [if_neg (show ¬ J (srt G Θ kd vl t) = 2 by rw [show (2 : Int32) = J 2 from rfl, js 2 (by omega)]; exact s2)]
  by_cases s4 : srt G Θ kd vl t = 4
  · rw [if_pos (show J (srt G Θ kd vl t) = 4 by rw [s4]; rfl), if_neg n1]
    exact ⟨Γ, rfl, fun hb => absurd hb (fun hh => hbw.mp hh (Or.inr (Or.inr (Or.inl s4)))), fun _ => rfl⟩
  rw [if_neg (show ¬ J (srt G Θ kd vl t) = 4 by rw [show (4 : Int32) = J 4 from rfl, js 4 (by omega)]; exact s4)]
  by_cases s7 : srt G Θ kd vl t = 7
  · rw [if_pos (show J (srt G Θ kd vl t) = 7 by rw [s7]; rfl), if_neg n1]
    exact ⟨Γ, rfl, fun hb => absurd hb (fun hh => hbw.mp hh (Or.inr (Or.inr (Or.inr s7)))), fun _ => rfl⟩
  · rw [if_neg (show ¬ J (srt G Θ kd vl t) = 7 by rw [show (7 : Int32) = J 7 from rfl, js 7 (by omega)]; exact s7), if_pos trivial]
    exact ⟨failS Γ pl 3 t, rfl, fun _ => rfl, fun hn => absurd (hbw.mpr (fun hh => by omega)) hn⟩
