/-! an item's way through the third going, piece by piece -/
variable {T N : Nat} {kd vl rv : Nat → Int} {pl : Nat → Nat}
theorem wno_of {k : Int} (h : k = 2 ∨ k = 3 ∨ k = 4 ∨ k = 44 ∨ k = 59 ∨ k = 61 ∨ k = 45 ∨ k = 91 ∨ k = 93 ∨ k = 123 ∨ k = 125 ∨ k = 228 ∨ (200 ≤ k ∧ k ≤ 205) ∨ (213 ≤ k ∧ k ≤ 215)) : wno k := by unfold wno; omega
theorem PRT_wno {g : Int} {σ : MS} {t hi i j : Nat} (h : PRT kd rv pl g σ t hi i j) : ∀ u, i < u → u < j → wno (kd u) := by
  obtain ⟨p1, p2, p3, hP⟩ := h
  intro u u1 u2
  have last : u = j - 1 → wno (kd u) := fun e => by rw [e, p3]; exact wno_of (by omega)
  rcases hP with ⟨m0, m1, m2, m3, m4, m5, m6⟩ | ⟨m0, m1, m2, m3, m4⟩ | ⟨m0, m1, m2, m3, m4, m5, m6, m7, m8, m9, m10⟩ | ⟨m0, m1, m2, m3, m4, m5, m6, m7⟩ | ⟨m0, m1, m2, m3, m4, m5, m6, m7, m8⟩ | ⟨e, he, m0, m1, m2, m3, m4, m5, m6⟩ | ⟨m0, m1, m2, m3, m4, m5, m6⟩
  · by_cases f1 : u = i + 1
    · rw [f1, m1]; exact wno_of (by omega)
    · exact last (by omega)
  · exact last (by omega)
  · by_cases f1 : u = i + 1
    · rw [f1]; exact wno_of (by omega)
    by_cases f2 : u = i + 2
    · rw [f2, m3]; exact wno_of (by omega)
    · exact last (by omega)
  · by_cases f1 : u = i + 1
    · rw [f1, m1]; exact wno_of (by omega)
    · exact last (by omega)
  · by_cases f1 : u = i + 1
    · rw [f1, m1]; exact wno_of (by omega)
    · exact last (by omega)
  · by_cases f1 : u = j - 1
    · exact last f1
    · have hn : NML kd (i + 1) e := NMS_NML m6 he (by rw [show i + 1 + 2 * e - 1 = j - 1 by omega, p3]; omega)
      have := NML_k hn (t := u) (by omega) (by omega)
      exact wno_of (by omega)
  · exact last (by omega)
/-- the word with which a part begins -/
theorem PRT_key {g : Int} {σ : MS} {t hi i j : Nat} (h : PRT kd rv pl g σ t hi i j) : ((206 ≤ kd i ∧ kd i ≤ 212) ∨ kd i = 219 ∨ (238 ≤ kd i ∧ kd i ≤ 240)) ∧ (kd i = 239 → 200 ≤ kd (i + 1) ∧ kd (i + 1) ≤ 205) := by
  obtain ⟨p1, p2, p3, hP⟩ := h
  rcases hP with ⟨m0, m1, -⟩ | ⟨m0, m1, -⟩ | ⟨m0, m1, m2, -⟩ | ⟨m0, m1, -⟩ | ⟨m0, m1, -⟩ | ⟨e, he, m0, -⟩ | ⟨m0, m1, -⟩ <;> exact ⟨by omega, by omega⟩
/-- a room or thing: its head, its parts -/
theorem pl_row {Θ : HS} {cl : List Int} {σ : MS} {w : Int} {x hi i j : Nat} {Γ E : HS} (hI : PLC kd rv pl w σ x hi i j) (hk : kd i = 230 ∨ kd i = 231) (hF : FLT Θ kd vl cl i j Γ E) : ∃ (f : Int) (cc : Nat) (xs it : Nat → Nat) (H : Nat → HS), σ.2 20 x = J f ∧ (f = if cc = 0 then -1 else (xs 0 : Int)) ∧ (∀ k, k < cc → σ.2 22 (xs k) = J (if k + 1 < cc then (xs (k + 1) : Int) else -1)) ∧ it 0 = i + 4 ∧ it cc = j - 1 ∧ (∀ k, k < cc → it k < it (k + 1) ∧ ∃ hi', PRT kd rv pl w σ (xs k) hi' (it k) (it (k + 1)) ∧ hi' ≤ hi ∧ x + 3 ≤ xs k) ∧ WEF Θ kd vl cl i Γ (H 0) ∧ (∀ k, k < cc → WEF Θ kd vl cl (it k) (H k) (H (k + 1))) ∧ m3 (H cc) E ∧ ∀ k, k ≤ cc → k + (i + 4) ≤ it k ∧ it k ≤ j - 1 := by
  obtain ⟨k1, k2, k3, k4, k5, k6, k7, k8, k9, k10, k11, k12, k13, k14, f, cc, k15, xs, lt, it, js, pt, ⟨c0, c1⟩, c2, c3, c4, c5, c6, c7, c8, c9, c10, c11⟩ := hI
  obtain ⟨H, rfl, rfl, hH⟩ := hF
  have es : ∀ k, k < cc → it (k + 1) = js k := fun k hk => by
    rw [(c9 k hk).2]; split <;> omega
  have hrng := LST_rng (fun k hk => ⟨(c4 k hk).1, (c4 k hk).2.1, (c4 k hk).2.2⟩) c9 c10
  have hlt : ∀ k, k ≤ cc → lt k ≤ hi ∧ it k ≤ j - 1 := by
    intro k hk
    have a := hrng (cc - k) k (by omega)
    rw [show k + (cc - k) = cc by omega] at a
    exact ⟨by omega, by omega⟩
  have hlo : ∀ k, k ≤ cc → x + 3 ≤ lt k ∧ k + (i + 4) ≤ it k := by
    intro k hk
    induction k with
    | zero => exact ⟨c2, by omega⟩
    | succ k ih =>
      have a := ih (by omega)
      have b := c4 k (by omega)
      have c := (c9 k (by omega)).1
      have d := es k (by omega)
      exact ⟨by omega, by omega⟩
  refine ⟨f, cc, xs, it, fun k => H (it k), k15, c0, c1, c5, c6, fun k hk => ?_, ?_, fun k hk => ?_, ?_, fun k hk => ⟨(hlo k hk).2, (hlt k hk).2⟩⟩
  · have a := c4 k hk
    have b := (c9 k hk).1
    have d := es k hk
    exact ⟨by omega, lt (k + 1), by rw [d]; exact a.2.2.2.2, (hlt (k + 1) (by omega)).1, by have := hlo k (by omega); have := a.2.2.1; omega⟩
  · dsimp only
    rw [c5]
    refine seg_one (fun t t1 t2 => hH t t1 (by omega)) (by omega) (fun t t1 t2 => ?_)
    by_cases e1 : t = i + 1
    · rw [e1, k3]; exact wno_of (by omega)
    by_cases e2 : t = i + 2
    · rw [e2, k4]; exact wno_of (by omega)
    · rw [show t = i + 3 by omega, k5]; exact wno_of (by omega)
  · have a := c4 k hk
    have b := (c9 k hk).1
    have d := es k hk
    have e := hlo k (by omega)
    have e' := hlt (k + 1) (by omega)
    dsimp only
    rw [d]
    exact seg_one (fun t t1 t2 => hH t (by omega) (by omega)) b (fun t t1 t2 => PRT_wno a.2.2.2.2 t t1 t2)
  · have := seg_no (i := j - 1) (j := j) (fun t t1 t2 => hH t (by omega) t2) (fun t t1 t2 => by rw [show t = j - 1 by omega, k6]; exact wno_of (by omega)) 1 (by omega)
    dsimp only
    rw [c6]
    rw [show j - 1 + 1 = j by omega] at this
    exact this
/-- a verb, a var, an array -/
theorem it_one {Θ : HS} {cl : List Int} {σ : MS} {x hi i j : Nat} {Γ E : HS} (hI : VRB kd rv pl σ x hi i j ∨ VRD kd vl rv pl σ x hi i j ∨ ARD kd vl rv pl σ x hi i j) (hF : FLT Θ kd vl cl i j Γ E) : WEF Θ kd vl cl i Γ E := by
  obtain ⟨H, rfl, rfl, hH⟩ := hF
  rcases hI with ⟨b1, b2, b3, b4, b5, b6, b7, cc, b8, b9, b10, b11, b12, b13⟩ | ⟨b1, b2, b3, b4, b5, b6, b7, b8, b9, b10⟩ | ⟨b1, b2, b3, b4, b5, b6, b7, b8, -⟩
  · have hn : NML kd (i + 2) cc := NMS_NML b10 b8 (by rw [show i + 2 + 2 * cc - 1 = i + 1 + 2 * cc by omega]; omega)
    refine seg_one (fun t t1 t2 => hH t t1 t2) (by omega) (fun t t1 t2 => ?_)
    by_cases e2 : t = i + 1
    · rw [e2, b2]; exact wno_of (by omega)
    by_cases e3 : t < i + 1 + 2 * cc
    · have := NML_k hn (t := t) (by omega) (by omega); exact wno_of (by omega)
    by_cases e4 : t = i + 1 + 2 * cc
    · rw [e4]; exact wno_of (by omega)
    by_cases e5 : t = j - 1
    · rw [e5, b3]; exact wno_of (by omega)
    · have : t = i + 2 + 2 * cc := by omega
      rw [this]; exact wno_of (by omega)
  · refine seg_one (fun t t1 t2 => hH t t1 t2) (by omega) (fun t t1 t2 => ?_)
    by_cases e2 : t = i + 1
    · rw [e2, b2]; exact wno_of (by omega)
    by_cases e3 : t = i + 2
    · rw [e3, b3]; exact wno_of (by omega)
    by_cases e5 : t = j - 1
    · rw [e5, b4]; exact wno_of (by omega)
    by_cases e4 : t = i + 3
    · rw [e4]; exact wno_of (by omega)
    · rw [show t = i + 4 by omega]; exact wno_of (by omega)
  · refine seg_one (fun t t1 t2 => hH t t1 t2) (by omega) (fun t t1 t2 => ?_)
    by_cases e2 : t = i + 1
    · rw [e2, b2]; exact wno_of (by omega)
    by_cases e3 : t = i + 2
    · rw [e3, b3]; exact wno_of (by omega)
    by_cases e4 : t = i + 3
    · rw [e4, b4]; exact wno_of (by omega)
    by_cases e5 : t = i + 4
    · rw [e5, b5]; exact wno_of (by omega)
    · rw [show t = i + 5 by omega, b6]; exact wno_of (by omega)
/-- what an item leaves elsewhere -/
theorem CIT_slot {G : Nat → HS} {Θ : HS} {cl : List Int} {σs : MS} {Γs : HS} {c z : Nat} {is : Nat → Nat} {x hi p q nd no ne : Nat} (hz : z < c) (hI : ITM kd vl rv pl σs Γs x hi (is z) (is (z + 1)) p q nd no ne) (hN : INM kd vl Θ c is) (hon : kd (is z) = 236 → cN kd is 5 z < 200) {Γ E : HS} (hC : CIT T G Θ kd vl cl is z Γ E) (hten : TEN Γ) (h15 : (Γ 3).1 15 = J (cN kd is 5 z : Nat)) : TEN E ∧ (E 3).1 15 = J (cN kd is 5 (z + 1) : Nat) ∧ ∀ k x, ¬ SLT kd is z k x → (E 4).2.1 k x = (Γ 4).2.1 k x := by
  have flat15 : kd (is z) ≠ 236 → cN kd is 5 (z + 1) = cN kd is 5 z := fun h => by
    have hk := ITM_noI hI
    rw [cN_s, if_neg (by unfold qOf; repeat' split
                         all_goals omega)]
  have one : 232 ≤ kd (is z) ∧ kd (is z) ≤ 234 → WEF Θ kd vl cl (is z) Γ E → TEN E ∧ (E 3).1 15 = J (cN kd is 5 (z + 1) : Nat) ∧ ∀ k x, ¬ SLT kd is z k x → (E 4).2.1 k x = (Γ 4).2.1 k x := by
    intro hk hW
    obtain ⟨i1, i2, i3, i4, i5, i6⟩ := hN z hz (by omega)
    obtain ⟨a1, a2, a3, a4⟩ := WEF_slot (n := inum kd is z) hW hten (fun h => by omega) (fun h => by omega) (fun h => ⟨i2, by have := i4 h; omega, (i4 h).2⟩) (fun h => ⟨i2, i5 h⟩) (fun h => by omega)
    refine ⟨a1, by rw [a3, h15, flat15 (by omega)], fun k x hx => a4 k x (fun h => by unfold wpl at h; omega) (fun h hh => hx (Or.inr (Or.inl ⟨h, hh⟩))) (fun h hh => hx (Or.inr (Or.inr (Or.inl ⟨h, hh⟩))))⟩
  have plc : ∀ w : Int, (w = 1 ∧ kd (is z) = 230) ∨ (w = 2 ∧ kd (is z) = 231) → PLC kd rv pl w σs x hi (is z) (is (z + 1)) → TEN E ∧ (E 3).1 15 = J (cN kd is 5 (z + 1) : Nat) ∧ ∀ k x, ¬ SLT kd is z k x → (E 4).2.1 k x = (Γ 4).2.1 k x := by
    intro w hw hP
    have hk : kd (is z) = 230 ∨ kd (is z) = 231 := by omega
    obtain ⟨i1, i2, i3, -⟩ := hN z hz (by omega)
    obtain ⟨f, cc, xs, it, H, -, -, -, -, -, r1, r2, r3, r4, -⟩ := pl_row hP hk (hC.1 (by omega))
    have i3 := i3 (by omega)
    have hs : ∀ k x, ¬ SLT kd is z k x → ¬ ((1 ≤ k ∧ k ≤ 5 ∧ x = inum kd is z) ∨ (k = 6 ∧ 6 * inum kd is z ≤ x ∧ x < 6 * inum kd is z + 6) ∨ (k = 9 ∧ 10 * inum kd is z ≤ x ∧ x < 10 * inum kd is z + 10) ∨ (k = 10 ∧ x = inum kd is z)) := fun k x hx hh => hx (Or.inl ⟨by omega, by omega, hh⟩)
    obtain ⟨a1, a2, a3, a4⟩ := WEF_slot (n := inum kd is z) r2 hten (fun h => by omega) (fun h => ⟨i2, i3⟩) (fun h => by omega) (fun h => by omega) (fun h => by omega)
    have h13 : (H 0 3).1 13 = J (inum kd is z : Nat) := by
      unfold WEF at r2
      rw [if_pos hk] at r2
      rw [r2.2.1 13 (by omega) (by omega) (by omega) (by omega) (by omega), ← i2]
      rfl
    have key : ∀ k, k ≤ cc → TEN (H k) ∧ (H k 3).1 13 = J (inum kd is z : Nat) ∧ (H k 3).1 15 = (Γ 3).1 15 ∧ ∀ k' x, ¬ SLT kd is z k' x → (H k 4).2.1 k' x = (Γ 4).2.1 k' x := by
      intro k
      induction k with
      | zero => intro _; exact ⟨a1, h13, a3, fun k' x hx => a4 k' x (fun _ => hs k' x hx) (fun h => by omega) (fun h => by omega)⟩
      | succ k ih =>
        intro hkc
        obtain ⟨b1, b2, b3, b4⟩ := ih (by omega)
        obtain ⟨-, hi', hP', -⟩ := r1 k (by omega)
        obtain ⟨q1, q2⟩ := PRT_key hP'
        obtain ⟨d1, d2, d3, d4⟩ := WEF_slot (n := inum kd is z) (r3 k (by omega)) b1 (fun _ => ⟨b2, i3⟩) (fun h => by omega) (fun h => by omega) (fun h => by omega) q2
        exact ⟨d1, by rw [d2 (by omega) (by omega)]; exact b2, by rw [d3, b3], fun k' x hx => by rw [d4 k' x (fun _ => hs k' x hx) (fun h => by omega) (fun h => by omega)]; exact b4 k' x hx⟩
    obtain ⟨b1, b2, b3, b4⟩ := key cc (Nat.le_refl _)
    have e4 := r4.1 4 (by omega)
    exact ⟨TEN_4 b1 (by rw [e4]), by rw [r4.2.1 15 (by omega) (by omega) (by omega) (by omega) (by omega), b3, h15, flat15 (by omega)], fun k x hx => by rw [e4]; exact b4 k x hx⟩
  have mv : ∀ {b : Nat}, MV G Θ kd vl (b + 1) (is (z + 1)) Γ E → kd (is z) ≠ 236 → TEN E ∧ (E 3).1 15 = J (cN kd is 5 (z + 1) : Nat) ∧ ∀ k x, ¬ SLT kd is z k x → (E 4).2.1 k x = (Γ 4).2.1 k x := by
    intro b h hk
    have e4 := h.1 4 (by omega) (by omega)
    exact ⟨TEN_4 hten (by rw [e4]), by rw [h.2.1 15 (by omega) (by omega) (by omega) (by omega) (by omega), h15, flat15 hk], fun k x _ => by rw [e4]⟩
  rcases hI with ⟨a0, a1, a⟩ | ⟨a0, a1, a⟩ | ⟨a1, a⟩ | ⟨a1, a⟩ | ⟨a1, a⟩ | a | a | a
  · exact plc 1 (Or.inl ⟨rfl, a0⟩) a
  · exact plc 2 (Or.inr ⟨rfl, a0⟩) a
  · exact one (by have := a.1; omega) (it_one (Or.inl a) (hC.1 (by have := a.1; omega)))
  · exact one (by have := a.1; omega) (it_one (Or.inr (Or.inl a)) (hC.1 (by have := a.1; omega)))
  · exact one (by have := a.1; omega) (it_one (Or.inr (Or.inr a)) (hC.1 (by have := a.1; omega)))
  · have k0 := a.1
    obtain ⟨b, -, -, -, -, h, -⟩ := hC.2 (by omega)
    exact mv (h (by omega)) (by omega)
  · have k0 := a.1
    obtain ⟨b, -, -, -, -, -, h⟩ := hC.2 (by omega)
    obtain ⟨cc, -, -, h⟩ := h k0
    have hlt := hon k0
    have e4 := h.1 4 (by omega) (by omega)
    have e15 := h.2.1 15 (by omega) (by omega) (by omega) (by omega) (by omega)
    have hx : ∀ k, (E 4).2.1 k = if k = 15 then g_put 200 ((Γ 4).2.1 15) ((Γ 3).1 15) (if cc ≤ 1 then -1 else J (whV Θ kd vl (is z + 3))) else if k = 14 then g_put 200 ((Γ 4).2.1 14) ((Γ 3).1 15) (if cc = 0 then -1 else J (whV Θ kd vl (is z + 2))) else if k = 13 then g_put 200 ((Γ 4).2.1 13) ((Γ 3).1 15) (J (nsF Θ vl (is z + 1) : Nat)) else (Γ 4).2.1 k := by
      intro k
      rw [e4]
      show updA (updA (updA _ _ _) _ _) _ _ k = _
      rw [updA_s, updA_s, updA_s]; rfl
    refine ⟨TEN_4 hten (by rw [hx, if_neg (by omega), if_neg (by omega), if_neg (by omega)]), ?_, fun k x hs => ?_⟩
    · rw [e15]
      show (Γ 3).1 15 + 1 = _
      rw [h15, cN_s, if_pos (by rw [k0]; rfl), J_lit, J_add]; rfl
    · have hne : 13 ≤ k → k ≤ 15 → x ≠ cN kd is 5 z := fun h1 h2 e => hs (Or.inr (Or.inr (Or.inr ⟨k0, h1, h2, e⟩)))
      have pw : ∀ (f : Nat → Int32) (v : Int32), x ≠ cN kd is 5 z → g_put 200 f ((Γ 3).1 15) v x = f x := fun f v hh => by
        rw [h15, q_g_put_in (n := 200) (i := (cN kd is 5 z : Nat)) (by omega) (by omega) (by omega), Int.toNat_natCast, upd_s, if_neg hh]
      rw [hx]
      by_cases e1 : k = 15
      · rw [if_pos e1, pw _ _ (hne (by omega) (by omega)), e1]
      by_cases e2 : k = 14
      · rw [if_neg e1, if_pos e2, pw _ _ (hne (by omega) (by omega)), e2]
      by_cases e3 : k = 13
      · rw [if_neg e1, if_neg e2, if_pos e3, pw _ _ (hne (by omega) (by omega)), e3]
      · rw [if_neg e1, if_neg e2, if_neg e3]
  · have k0 := a.1
    obtain ⟨b, -, -, -, -, h, -⟩ := hC.2 (by omega)
    exact mv (h (by omega)) (by omega)
