/-! the third going through a block, the class -/
variable {T N : Nat} {kd vl rv : Nat → Int} {pl : Nat → Nat}
/-- what the class writes down for the NAME at word t -/
def mvl (G : Nat → HS) (Θ : HS) (kd vl : Nat → Int) (t : Nat) : Int32 := if kd (t - 1) = 242 then 458752 ||| (G t 3).1 8 else mng (J (srt G Θ kd vl t)) (if (G t 3).2.1 5 (vl t).toNat = 0 then (Θ 3).2.1 4 (vl t).toNat else (G t 3).2.1 5 (vl t).toNat - 1)
/-- the NAMEs from word i to word j have their meanings; all else is as it was, but for the scope -/
def MV (G : Nat → HS) (Θ : HS) (kd vl : Nat → Int) (i j : Nat) (Γ Δ : HS) : Prop := (∀ r, r ≠ 1 → r ≠ 3 → Δ r = Γ r) ∧ (∀ k, k ≠ 7 → k ≠ 8 → k ≠ 9 → k ≠ 11 → k ≠ 12 → (Δ 3).1 k = (Γ 3).1 k) ∧ (∀ k, k ≠ 5 → k ≠ 6 → k ≠ 10 → (Δ 3).2.1 k = (Γ 3).2.1 k) ∧ (Δ 1).1 = (Γ 1).1 ∧ (∀ k, k ≠ 7 → (Δ 1).2.1 k = (Γ 1).2.1 k) ∧ (Δ 1).2.2 = (Γ 1).2.2 ∧ ∀ u, (i ≤ u ∧ u < j ∧ kd u = 2 → (Δ 1).2.1 7 u = mvl G Θ kd vl u) ∧ (¬ (i ≤ u ∧ u < j ∧ kd u = 2) → (Δ 1).2.1 7 u = (Γ 1).2.1 7 u)
theorem MV_rfl {G : Nat → HS} {Θ Γ : HS} {i : Nat} : MV G Θ kd vl i i Γ Γ := ⟨fun _ _ _ => rfl, fun _ _ _ _ _ _ => rfl, fun _ _ _ _ => rfl, rfl, fun _ _ => rfl, rfl, fun u => ⟨fun h => by omega, fun _ => rfl⟩⟩
theorem MV_trans {G : Nat → HS} {Θ Γ Δ E : HS} {i j k : Nat} (hij : i ≤ j) (hjk : j ≤ k) (h : MV G Θ kd vl i j Γ Δ) (g : MV G Θ kd vl j k Δ E) : MV G Θ kd vl i k Γ E := by
  obtain ⟨a1, a2, a3, a4, a5, a6, a7⟩ := h
  obtain ⟨b1, b2, b3, b4, b5, b6, b7⟩ := g
  refine ⟨fun r r1 r3 => by rw [b1 r r1 r3, a1 r r1 r3], fun z c1 c2 c3 c4 c5 => by rw [b2 z c1 c2 c3 c4 c5, a2 z c1 c2 c3 c4 c5], fun z c1 c2 c3 => by rw [b3 z c1 c2 c3, a3 z c1 c2 c3], by rw [b4, a4], fun z c1 => by rw [b5 z c1, a5 z c1], by rw [b6, a6], fun u => ⟨fun hu => ?_, fun hu => ?_⟩⟩
  · by_cases q : j ≤ u
    · exact (b7 u).1 ⟨q, hu.2.1, hu.2.2⟩
    · rw [(b7 u).2 (fun hh => q hh.1)]
      exact (a7 u).1 ⟨hu.1, by omega, hu.2.2⟩
  · rw [(b7 u).2 (fun hh => hu ⟨by omega, hh.2.1, hh.2.2⟩), (a7 u).2 (fun hh => hu ⟨hh.1, by omega, hh.2.2⟩)]
theorem MV_m3 {G : Nat → HS} {Θ Γ Δ : HS} {t : Nat} (h : m3 Γ Δ) (hk : kd t ≠ 2) : MV G Θ kd vl t (t + 1) Γ Δ := ⟨fun r _ r3 => h.1 r r3, h.2.1, h.2.2, by rw [h.1 1 (by omega)], fun _ _ => by rw [h.1 1 (by omega)], by rw [h.1 1 (by omega)], fun u => ⟨fun hu => by rw [show u = t by omega] at hu; exact absurd hu.2.2 hk, fun _ => by rw [h.1 1 (by omega)]⟩⟩
theorem MV_put {G : Nat → HS} {Θ Γ Δ : HS} {t : Nat} (h : m3 (putM Γ t (mvl G Θ kd vl t)) Δ) (hk : kd t = 2) (ht : t < 16001) : MV G Θ kd vl t (t + 1) Γ Δ := by
  have e1 : Δ 1 = putM Γ t (mvl G Θ kd vl t) 1 := h.1 1 (by omega)
  have e3 : ∀ r, r ≠ 1 → putM Γ t (mvl G Θ kd vl t) r = Γ r := fun r hr => putM_r hr
  have e7 : ∀ u, (putM Γ t (mvl G Θ kd vl t) 1).2.1 7 u = if u = t then mvl G Θ kd vl t else (Γ 1).2.1 7 u := by
    intro u
    have : (putM Γ t (mvl G Θ kd vl t) 1).2.1 7 = g_put 16001 ((Γ 1).2.1 7) (J (t : Nat)) (mvl G Θ kd vl t) := rfl
    rw [this, q_g_put_in (n := 16001) (i := (t : Nat)) (by omega) (by omega) (by omega), Int.toNat_natCast, upd_s]
  refine ⟨fun r r1 r3 => by rw [h.1 r r3, e3 r r1], fun k c1 c2 c3 c4 c5 => by rw [h.2.1 k c1 c2 c3 c4 c5, e3 3 (by omega)], fun k c1 c2 c3 => by rw [h.2.2 k c1 c2 c3, e3 3 (by omega)], by rw [e1]; rfl, fun k hk7 => ?_, by rw [e1]; rfl, fun u => ⟨fun hu => ?_, fun hu => ?_⟩⟩
  · rw [e1]
    unfold putM
    show (updA _ _ _ _) = _
    rw [updA_s, if_neg hk7]
  · rw [e1, e7, if_pos (by omega), show u = t by omega]
  · rw [e1, e7, if_neg (fun e => hu ⟨by omega, by omega, by rw [e]; exact hk⟩)]
theorem c_brun (hT : TKE T N kd vl rv pl) {G : Nat → HS} (hG : GRW T N kd vl pl G) {Θ Γs : HS} {i j : Nat} (hi : 1 ≤ i) (hj : j ≤ T) (hno : ∀ t, i ≤ t → t < j → kd t ≠ 235) (hb : ∀ t, i ≤ t → t < j → bodyW G t) (hs : ∀ t, i ≤ t → t < j → kd t = 2 → kd (t - 1) ≠ 242 → 0 ≤ srt G Θ kd vl t ∧ srt G Θ kd vl t ≤ 7 ∧ (srt G Θ kd vl t = 6 → (if (G t 3).2.1 5 (vl t).toNat = 0 then (Θ 3).2.1 4 (vl t).toNat else (G t 3).2.1 5 (vl t).toNat - 1) = J (nmb G Θ kd vl t : Nat) ∧ nmb G Θ kd vl t < 100)) : ∀ (d t : Nat) (Γ : HS), t + d = j → i ≤ t → CT3 T N kd vl pl G Θ Γs t Γ → (∃ w, t ≤ w ∧ w < j ∧ badB G Θ Γs kd vl w ∧ (∀ v, t ≤ v → v < w → ¬ badB G Θ Γs kd vl v) ∧ ∃ X, (∀ n, d + 2 ≤ n → loopF W3 n (J (t : Nat), Γ) = some (J 3, X)) ∧ (X 3).1 17 = J (pl w : Nat) ∧ ∀ r, r ≠ 1 → r ≠ 3 → X r = Γ r) ∨ ((∀ w, t ≤ w → w < j → ¬ badB G Θ Γs kd vl w) ∧ ∃ Δ, (∀ n, loopF W3 (n + d) (J (t : Nat), Γ) = loopF W3 n (J (j : Nat), Δ)) ∧ CT3 T N kd vl pl G Θ Γs j Δ ∧ MV G Θ kd vl t j Γ Δ) := by
  have hT1 := hT.1
  intro d
  induction d with
  | zero =>
    intro t Γ ht hit h
    obtain rfl : t = j := by omega
    exact Or.inr ⟨fun w w1 w2 => by omega, Γ, fun n => rfl, h, MV_rfl⟩
  | succ d ih =>
    intro t Γ ht hit h
    obtain ⟨s1, s2⟩ := c_bstep hT hG h (by omega) (by omega) (hno t hit (by omega)) (hb t hit (by omega)) (hs t hit (by omega))
    by_cases q : badB G Θ Γs kd vl t
    · obtain ⟨X, x1, x2, x3⟩ := s1 q
      exact Or.inl ⟨t, Nat.le_refl _, by omega, q, fun v v1 v2 => by omega, X, fun n hn => by rw [show n = n - 2 + 2 by omega]; exact x1 _, x2, x3⟩
    · obtain ⟨Δ, y1, y2, y3⟩ := s2 q
      have hMV : MV G Θ kd vl t (t + 1) Γ Δ := by
        by_cases q2 : kd t = 2
        · rw [if_pos q2] at y3
          refine MV_put ?_ q2 (by omega)
          have e8 : (Γ 3).1 8 = (G t 3).1 8 := AGR_i h.2.2.1 8 (by omega)
          rw [e8] at y3
          exact y3
        · rw [if_neg q2] at y3
          exact MV_m3 y3 q2
      rcases ih (t + 1) Δ (by omega) (by omega) y2 with ⟨w, w1, w2, w3, w4, X, x1, x2, x3⟩ | ⟨n1, E, e1, e2, e3⟩
      · refine Or.inl ⟨w, by omega, w2, w3, fun v v1 v2 => ?_, X, fun n hn => ?_, x2, fun r r1 r3 => by rw [x3 r r1 r3, hMV.1 r r1 r3]⟩
        · by_cases e : v = t
          · rw [e]; exact q
          · exact w4 v (by omega) v2
        · rw [show n = (n - 1) + 1 by omega, y1]
          exact x1 (n - 1) (by omega)
      · refine Or.inr ⟨fun w w1 w2 => ?_, E, fun n => ?_, e2, MV_trans (by omega) (by omega) hMV e3⟩
        · by_cases e : w = t
          · rw [e]; exact q
          · exact n1 w (by omega) w2
        · rw [show n + (d + 1) = (n + d) + 1 by omega, y1]
          exact e1 n
