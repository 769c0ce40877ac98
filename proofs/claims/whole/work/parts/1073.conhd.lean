/-! the third going: an on's head, good or bad, the class -/
variable {T N : Nat} {kd vl rv : Nat → Int} {pl : Nat → Nat}
theorem c_onHead (hT : TKE T N kd vl rv pl) {G : Nat → HS} {Θ Γs Γ : HS} {i cc : Nat} (h : CT3 T N kd vl pl G Θ Γs i Γ) (hki : kd i = 236) (hk1 : kd (i + 1) = 2) (hcc : cc ≤ 2) (hiT : i + 2 + cc ≤ T) (hb : kd (i + 2 + cc) = 123) (hw : ∀ k, k < cc → kd (i + 2 + k) = 2 ∨ (200 ≤ kd (i + 2 + k) ∧ kd (i + 2 + k) ≤ 205) ∨ kd (i + 2 + k) = 255 ∨ kd (i + 2 + k) = 228) (hs0 : ∀ u, u ≤ T → kd u = 2 → (G i 3).2.1 5 (vl u).toNat = 0) (hks : ∀ u, u ≤ T → kd u = 2 → 0 ≤ ksF Θ vl u ∧ ksF Θ vl u ≤ 6 ∧ (ksF Θ vl u ≠ 0 → (Θ 3).2.1 4 (vl u).toNat = J (nsF Θ vl u : Nat))) (hfr : ksF Θ vl (i + 1) = 3 → (Γ 4).2.1 7 (nsF Θ vl (i + 1)) = J (frm Θ vl (i + 1)) ∧ 0 ≤ frm Θ vl (i + 1) ∧ frm Θ vl (i + 1) ≤ 2 ∧ nsF Θ vl (i + 1) ≤ 60) : (∃ w, i ≤ w ∧ w < i + 2 + cc ∧ badA Θ kd vl i w ∧ (∀ v, i ≤ v → v < w → ¬ badA Θ kd vl i v) ∧ ∃ X, F_X4_onItem (J (i : Nat)) Γ = some ((0 : Int32), X) ∧ FS3 T N kd vl pl Γ X w) ∨ ((∀ w, i ≤ w → w < i + 2 + cc → ¬ badA Θ kd vl i w) ∧ F_X4_onItem (J (i : Nat)) Γ = some ((0 : Int32), o15 (o14 (o13 Γ (J (nsF Θ vl (i + 1) : Nat))) ((Γ 3).1 15) (if cc = 0 then -1 else J (whV Θ kd vl (i + 2)))) ((Γ 3).1 15) (if cc ≤ 1 then -1 else J (whV Θ kd vl (i + 3))))) := by
  obtain ⟨n1, n2, n3, n4⟩ := TKE_N hT
  obtain ⟨hc, h16, hA, h3, h4, -⟩ := id h
  obtain ⟨r1, r2, r3⟩ := hks (i + 1) (by omega) hk1
  have n0 : ¬ badA Θ kd vl i i := by
    rintro (h | h | h | h | h) <;> omega
  have b1 : badA Θ kd vl i (i + 1) ↔ ksF Θ vl (i + 1) ≠ 3 := by
    constructor
    · rintro (h | h | h | h | h)
      · omega
      · omega
      · exact h.2.2
      · omega
      · omega
    · intro h; exact Or.inr (Or.inr (Or.inl ⟨hki, rfl, h⟩))
  have j1 : J (i : Nat) + 1 = J (i + 1 : Nat) := by rw [J_lit, J_add]; rfl
  have j2 : J (i : Nat) + 2 = J (i + 2 : Nat) := by rw [J_lit, J_add]; rfl
  have j3 : J (i : Nat) + 3 = J (i + 3 : Nat) := by rw [J_lit, J_add]; rfl
  rw [onItem_eq, j1, j2, j3, c_sortB hT h (show i + 1 ≤ T by omega) hk1, Option.bind_some, if_pos (hs0 _ (by omega) hk1)]
  dsimp only
  by_cases q3 : ksF Θ vl (i + 1) = 3
  · obtain ⟨f1, f2, f3, f4⟩ := hfr q3
    rw [if_pos (show J (ksF Θ vl (i + 1)) = 3 by rw [q3]; rfl), c_numOf hT h (show i + 1 ≤ T by omega) hk1, Option.bind_some, if_pos (hs0 _ (by omega) hk1), r3 (by omega)]
    dsimp only
    have h13 := CT3_13 (v := J (nsF Θ vl (i + 1) : Nat)) h
    have w2 : badA Θ kd vl i (i + 2) ↔ (kd (i + 2) ≠ 123 ∧ ¬ (1 ≤ frm Θ vl (i + 1) ∧ goodWh Θ kd vl (i + 1) (i + 2))) := by
      constructor
      · rintro (h | h | h | h | h)
        · omega
        · omega
        · omega
        · exact ⟨h.2.2.1, h.2.2.2.2⟩
        · omega
      · intro h; exact Or.inr (Or.inr (Or.inr (Or.inl ⟨hki, rfl, h.1, q3, h.2⟩)))
    have w3 : badA Θ kd vl i (i + 3) ↔ (kd (i + 2) ≠ 123 ∧ kd (i + 3) ≠ 123 ∧ ¬ (2 ≤ frm Θ vl (i + 1) ∧ goodWh Θ kd vl (i + 1) (i + 3))) := by
      constructor
      · rintro (h | h | h | h | h)
        · omega
        · omega
        · omega
        · omega
        · exact ⟨h.2.2.1, h.2.2.2.1, h.2.2.2.2.2⟩
      · intro h; exact Or.inr (Or.inr (Or.inr (Or.inr ⟨hki, rfl, h.1, h.2.1, q3, h.2.2⟩)))
    have hd : ∀ u, i ≤ u → u < i + 2 → ¬ badA Θ kd vl i u := fun u u1 u2 => by
      by_cases e : u = i
      · rw [e]; exact n0
      · rw [show u = i + 1 by omega]; exact fun hh => b1.mp hh q3
    have brace : ∀ (p2 : Int32) (u : Nat) (Δ : HS), TKc N kd vl pl Δ → u < N → kd u = 123 → F_X4_whatOf (J (nsF Θ vl (i + 1) : Nat)) (J (u : Nat)) p2 Δ = some ((-1 : Int32), Δ) := by
      intro p2 u Δ hcΔ hu hk
      rw [whatOf_eq, c_kindOf hT hcΔ hu, Option.bind_some, bndE, mrg1_id, hk]
      dsimp only
      rw [if_pos (show J 123 = 123 from rfl)]
    by_cases c0 : cc = 0
    · subst c0
      right
      refine ⟨fun w u1 u2 => hd w u1 (by omega), ?_⟩
      rw [brace 1 (i + 2) _ h13.1 (by omega) hb, Option.bind_some]
      dsimp only
      rw [c_kindOf hT (CT3_14 h13).1 (show i + 2 < N by omega), Option.bind_some, bndE, mrg1_id, show kd (i + 2) = 123 from hb]
      dsimp only
      rw [if_pos (show J 123 = 123 from rfl), if_pos rfl, if_pos (by omega)]
      rfl
    · have hw2 := hw 0 (by omega)
      rw [show i + 2 + 0 = i + 2 from rfl] at hw2
      have hk2 : kd (i + 2) ≠ 123 := by omega
      have hk2r := kd_le hT (show i + 2 < N by omega)
      have nk2 : ¬ J (kd (i + 2)) = 123 := by rw [show (123 : Int32) = J 123 from rfl, J255 123 hk2r (by omega)]; exact hk2
      obtain ⟨g1, g2⟩ := c_what hT h13 (u := i + 2) (v := i + 1) (q := 1) (show i + 2 ≤ T by omega) (fun hh => hs0 _ (by omega) hh) f4 f1 ⟨f2, f3⟩ (by omega) hw2 (fun hh => ⟨(hks _ (by omega) hh).1, (hks _ (by omega) hh).2.1⟩) (fun hh h2 => (hks _ (by omega) hh).2.2 (by omega))
      by_cases qb2 : 1 ≤ frm Θ vl (i + 1) ∧ goodWh Θ kd vl (i + 1) (i + 2)
      · rw [show F_X4_whatOf (J (nsF Θ vl (i + 1) : Nat)) (J (i + 2 : Nat)) 1 _ = _ from g1 qb2, Option.bind_some]
        dsimp only
        have h14 := CT3_14 (o := (Γ 3).1 15) (v := J (whV Θ kd vl (i + 2))) h13
        have nb2 : ¬ badA Θ kd vl i (i + 2) := fun hh => (w2.mp hh).2 qb2
        rw [show ((o13 Γ (J (nsF Θ vl (i + 1) : Nat))) 3).1 15 = (Γ 3).1 15 from rfl, c_kindOf hT h14.1 (show i + 2 < N by omega), Option.bind_some, bndE, mrg1_id]
        dsimp only
        rw [if_neg nk2]
        by_cases c1 : cc = 1
        · subst c1
          right
          refine ⟨fun w u1 u2 => ?_, ?_⟩
          · by_cases e : w = i + 2
            · rw [e]; exact nb2
            · exact hd w u1 (by omega)
          · rw [brace 2 (i + 3) _ h14.1 (by omega) hb, Option.bind_some, if_neg (by omega), if_pos (by omega)]
            rfl
        · have c2 : cc = 2 := by omega
          subst c2
          have hw3 := hw 1 (by omega)
          rw [show i + 2 + 1 = i + 3 from rfl] at hw3
          obtain ⟨e1, e2⟩ := c_what hT h14 (u := i + 3) (v := i + 1) (q := 2) (show i + 3 ≤ T by omega) (fun hh => hs0 _ (by omega) hh) f4 f1 ⟨f2, f3⟩ (by omega) hw3 (fun hh => ⟨(hks _ (by omega) hh).1, (hks _ (by omega) hh).2.1⟩) (fun hh h2 => (hks _ (by omega) hh).2.2 (by omega))
          by_cases qb3 : 2 ≤ frm Θ vl (i + 1) ∧ goodWh Θ kd vl (i + 1) (i + 3)
          · right
            refine ⟨fun w u1 u2 => ?_, ?_⟩
            · by_cases e : w = i + 2
              · rw [e]; exact nb2
              by_cases e' : w = i + 3
              · rw [e']; exact fun hh => (w3.mp hh).2.2 qb3
              · exact hd w u1 (by omega)
            · rw [show F_X4_whatOf (J (nsF Θ vl (i + 1) : Nat)) (J (i + 3 : Nat)) 2 _ = _ from e1 qb3, Option.bind_some, if_neg (by omega), if_neg (by omega)]
              rfl
          · left
            obtain ⟨x, hx⟩ := e2 qb3
            refine ⟨i + 3, by omega, by omega, w3.mpr ⟨hk2, by omega, qb3⟩, fun v v1 v2 => ?_, ?_⟩
            · by_cases e : v = i + 2
              · rw [e]; exact nb2
              · exact hd v v1 (by omega)
            · rw [show F_X4_whatOf (J (nsF Θ vl (i + 1) : Nat)) (J (i + 3 : Nat)) 2 _ = _ from hx, Option.bind_some]
              exact ⟨_, rfl, FS3_15 (FS3_fail h14.1 ⟨fun _ _ => rfl, fun _ _ _ => rfl, fun _ _ => rfl⟩ (fun r r3 r4 => by unfold o14 o13; rw [cA_r, if_neg r4, cA_r, if_neg r4]))⟩
      · left
        obtain ⟨x, hx⟩ := g2 qb2
        have hF := FS3_14 (T := T) (a := (Γ 3).1 15) (b := x) (FS3_fail (w := i + 2) (Γ := Γ) h13.1 ⟨fun _ _ => rfl, fun _ _ _ => rfl, fun _ _ => rfl⟩ (fun r r3 r4 => by unfold o13; rw [cA_r, if_neg r4]))
        refine ⟨i + 2, by omega, by omega, w2.mpr ⟨hk2, qb2⟩, fun v v1 v2 => hd v v1 (by omega), ?_⟩
        rw [show F_X4_whatOf (J (nsF Θ vl (i + 1) : Nat)) (J (i + 2 : Nat)) 1 _ = _ from hx, Option.bind_some]
        dsimp only
        rw [show ((o13 Γ (J (nsF Θ vl (i + 1) : Nat))) 3).1 15 = (Γ 3).1 15 from rfl, c_kindOf hT hF.1 (show i + 2 < N by omega), Option.bind_some, bndE, mrg1_id]
        dsimp only
        rw [if_neg nk2]
        obtain ⟨y, hy⟩ := wo_dead hT hF.1 hF.2.1 (by omega) (show i + 3 < N by omega) (J (nsF Θ vl (i + 1) : Nat)) 2
        rw [hy, Option.bind_some]
        exact ⟨_, rfl, FS3_15 hF⟩
  · left
    refine ⟨i + 1, by omega, by omega, b1.mpr q3, fun v v1 v2 => by rw [show v = i by omega]; exact n0, ?_⟩
    rw [if_neg (show ¬ J (ksF Θ vl (i + 1)) = 3 by rw [show (3 : Int32) = J 3 from rfl, J_eq (by omega) (by omega) (by omega) (by omega)]; exact q3)]
    rw [show F_X4_fail 3 (J (i + 1 : Nat)) Γ = some (J 0, failS Γ pl 3 (i + 1)) from c_fail4 hT (f := 3) hc h16 (show i + 1 < N by omega), Option.bind_some]
    exact ⟨_, rfl, FS3_fail hc AGR_rfl (fun _ _ _ => rfl)⟩
