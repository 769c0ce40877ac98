/-! the third going, a word of a block: the step -/
variable {T N : Nat} {kd vl rv : Nat → Int} {pl : Nat → Nat}
theorem W3_go (hT : TKE T N kd vl rv pl) {Γ : HS} {t : Nat} (hc : TKc N kd vl pl Γ) (ht : t < N) (h16 : (Γ 3).1 16 = J 0) (n : Nat) : loopF W3 (n + 1) (J (t : Nat), Γ) = (if (Γ 3).1 12 = 0 then F_X4_itemWord (J (t : Nat)) Γ else if (Γ 3).1 11 ≤ 0 then F_X4_itemWord (J (t : Nat)) Γ else F_X4_bodyWord (J (t : Nat)) Γ).bind fun u => (F_X4_followScope (J (t : Nat)) u.2).bind fun v => loopF W3 n (J (t + 1 : Nat), v.2) := by
  obtain ⟨n1, n2, n3, n4⟩ := TKE_N hT
  rw [W3_s]
  unfold W3
  rw [bndE, if_neg (by show ¬ ((Γ 1).1 2 ≤ J (t : Nat)); rw [hc.1, J_le (by omega) (by omega) (by omega) (by omega)]; omega), if_pos (by show (Γ 3).1 16 = 0; rw [h16]; rfl), bndE, bndE]
  rw [show J (t : Nat) + 1 = J (t + 1 : Nat) by rw [J_lit, J_add]; rfl]
  dsimp only
  by_cases q1 : (Γ 3).1 12 = 0
  · rw [if_pos q1, if_pos q1]; rfl
  · rw [if_neg q1, if_neg q1]
    by_cases q2 : (Γ 3).1 11 ≤ 0
    · rw [if_pos q2, if_pos q2]; rfl
    · rw [if_neg q2, if_neg q2]; rfl
/-- a fault ends the third going -/
theorem W3_fault {Γ : HS} {f : Int} (h16 : (Γ 3).1 16 = J f) (hf : 0 < f ∧ f ≤ 6) (t : Int32) (n : Nat) : loopF W3 (n + 1) (t, Γ) = some (J f, Γ) := by
  have fin : E3 Γ = some (J f, Γ) := by
    unfold E3
    rw [if_neg (by rw [h16]; exact Jg6_ne hf), h16]
  rw [W3_s]
  unfold W3
  rw [bndE]
  by_cases q : (Γ 1).1 2 ≤ t
  · rw [if_pos q]; exact fin
  · rw [if_neg q, if_neg (by show ¬ (Γ 3).1 16 = 0; rw [h16]; exact Jg6_ne hf)]; exact fin
/-- the scope of the next word -/
theorem g_next (hT : TKE T N kd vl rv pl) {G : Nat → HS} (hG : GRW T N kd vl pl G) {t : Nat} (ht : t < T) (hk : kd t ≠ 235) {Γ : HS} (hc : TKc N kd vl pl Γ) (hA : AGR T kd vl (G t) Γ) : ∃ (x : Int32) (Γ' : HS), F_X4_followScope (J (t : Nat)) Γ = some (x, Γ') ∧ AGR T kd vl (G (t + 1)) Γ' ∧ m3 Γ Γ' := by
  obtain ⟨n1, n2, n3, n4⟩ := TKE_N hT
  obtain ⟨x', u, y, e1, e2⟩ := hG.2 t ht
  have hcG := (hG.1 t (by omega)).1
  have hfr := fr_tell hT hcG (show t < N by omega) hk _ e1
  have hcu : TKc N kd vl pl u := ⟨by rw [show u 1 = _ from hfr.1]; exact hcG.1, fun i hi => by rw [show u 1 = _ from hfr.1]; exact hcG.2 i hi⟩
  obtain ⟨v, v1, v2, v3, v4⟩ := fs_sim hT hcu hc (Or.inr ht) (AGR_trans (AGR_symm (AGR_of hfr.2)) hA) e2
  exact ⟨v.1, v.2, v1, v3, v4⟩
theorem CT3_m3 {G : Nat → HS} {Θ Γs Γ Γ' : HS} {t t' : Nat} (h : CT3 T N kd vl pl G Θ Γs t Γ) (hm : m3 Γ Γ') (hA : AGR T kd vl (G t') Γ') : CT3 T N kd vl pl G Θ Γs t' Γ' := by
  obtain ⟨hc, h16, -, h3, h4, h6, h54⟩ := h
  exact ⟨m3_TKc hm hc, by rw [m3_16 hm]; exact h16, hA, by rw [hm.2.2 3 (by omega) (by omega) (by omega)]; exact h3, by rw [hm.2.2 4 (by omega) (by omega) (by omega)]; exact h4, by rw [hm.1 1 (by omega)]; exact h6, by rw [hm.1 5 (by omega)]; exact h54⟩
theorem putM_CT3 {G : Nat → HS} {Θ Γs Γ : HS} {t u : Nat} {v : Int32} (h : CT3 T N kd vl pl G Θ Γs t Γ) : CT3 T N kd vl pl G Θ Γs t (putM Γ u v) := by
  obtain ⟨hc, h16, hA, h3, h4, h6, h54⟩ := h
  refine ⟨putM_TKc hc, by rw [putM_r (by omega)]; exact h16, ⟨fun k hk => by rw [putM_r (by omega)]; exact hA.1 k hk, by rw [putM_r (by omega)]; exact hA.2⟩, by rw [putM_r (by omega)]; exact h3, by rw [putM_r (by omega)]; exact h4, ?_, by rw [putM_r (by omega)]; exact h54⟩
  exact h6
/-- what a word of a block does, fault or not -/
theorem c_bodyWord (hT : TKE T N kd vl rv pl) {G : Nat → HS} {Θ Γs Γ : HS} {t : Nat} (h : CT3 T N kd vl pl G Θ Γs t Γ) (ht : t < T) (ht1 : 1 ≤ t) (hs : kd t = 2 → kd (t - 1) ≠ 242 → 0 ≤ srt G Θ kd vl t ∧ srt G Θ kd vl t ≤ 7 ∧ (srt G Θ kd vl t = 6 → (if (G t 3).2.1 5 (vl t).toNat = 0 then (Θ 3).2.1 4 (vl t).toNat else (G t 3).2.1 5 (vl t).toNat - 1) = J (nmb G Θ kd vl t : Nat) ∧ nmb G Θ kd vl t < 100)) : (badB G Θ Γs kd vl t → ∃ X, F_X4_bodyWord (J (t : Nat)) Γ = some ((0 : Int32), X) ∧ (X = failS Γ pl 3 t ∨ ∃ v, X = putM (failS Γ pl 3 t) t v)) ∧ (¬ badB G Θ Γs kd vl t → (kd t ≠ 2 → F_X4_bodyWord (J (t : Nat)) Γ = some ((0 : Int32), Γ)) ∧ (kd t = 2 → F_X4_bodyWord (J (t : Nat)) Γ = some ((0 : Int32), putM Γ t (if kd (t - 1) = 242 then 458752 ||| (Γ 3).1 8 else mng (J (srt G Θ kd vl t)) (if (G t 3).2.1 5 (vl t).toNat = 0 then (Θ 3).2.1 4 (vl t).toNat else (G t 3).2.1 5 (vl t).toNat - 1))))) := by
  obtain ⟨n1, n2, n3, n4⟩ := TKE_N hT
  obtain ⟨hc, h16, hA, h3, h4, h6, h54⟩ := id h
  have hk := kd_le hT (show t < N by omega)
  have jk : ∀ c : Int, 0 ≤ c ∧ c ≤ 1000 → (J (kd t) = J c) = (kd t = c) := fun c hc => J255 c hk hc
  have e12 : (Γ 3).1 12 = (G t 3).1 12 := AGR_i hA 12 (by omega)
  have ef : F_X4_fail 3 (J (t : Nat)) Γ = some (J 0, failS Γ pl 3 t) := c_fail4 hT (f := 3) hc h16 (show t < N by omega)
  have e0 : F_X4_bodyWord (J (t : Nat)) Γ = if kd t = 2 then (F_X4_nameInBody (J (t : Nat)) Γ).bind fun u_7 => some ((0 : Int32), u_7.2) else (if kd t = 251 then (if (Γ 3).1 12 = 235 then some (0, Γ) else some (0, failS Γ pl 3 t)) else if kd t = 252 then (if (Γ 3).1 12 = 235 then some (0, failS Γ pl 3 t) else some (0, Γ)) else some (0, Γ)) := by
    unfold F_X4_bodyWord
    rw [c_kindOf hT hc (show t < N by omega), Option.bind_some]
    simp only [bndE]
    rw [mrg1_id, ef, Option.bind_some]
    by_cases q1 : kd t = 2
    · rw [if_pos q1, if_pos (show J (kd t) = 2 by rw [q1]; rfl)]
    rw [if_neg q1, if_neg (show ¬ J (kd t) = 2 by rw [show (2 : Int32) = J 2 from rfl, jk 2 (by omega)]; exact q1)]
    by_cases q2 : kd t = 251
    · rw [if_pos q2, if_pos (show J (kd t) = 251 by rw [q2]; rfl), if_neg (show ¬ J (kd t) = 252 by rw [q2]; decide)]
    rw [if_neg q2, if_neg (show ¬ J (kd t) = 251 by rw [show (251 : Int32) = J 251 from rfl, jk 251 (by omega)]; exact q2)]
    by_cases q3 : kd t = 252
    · rw [if_pos q3, if_pos (show J (kd t) = 252 by rw [q3]; rfl)]
    · rw [if_neg q3, if_neg (show ¬ J (kd t) = 252 by rw [show (252 : Int32) = J 252 from rfl, jk 252 (by omega)]; exact q3)]
  by_cases q1 : kd t = 2
  · rw [e0, if_pos q1]
    by_cases q242 : kd (t - 1) = 242
    · have nb : ¬ badB G Θ Γs kd vl t := badB_let q1 q242
      refine ⟨fun hb => absurd hb nb, fun _ => ⟨fun hh => absurd q1 hh, fun _ => ?_⟩⟩
      unfold F_X4_nameInBody
      rw [show J (t : Nat) - 1 = J (t - 1 : Nat) by rw [J_lit, J_sub]; congr 1; omega, c_kindOf hT hc (show t - 1 < N by omega), Option.bind_some]
      simp only [bndE]
      rw [mrg1_id, q242, if_pos (show J 242 = 242 from rfl), if_pos rfl]
      rfl
    · obtain ⟨s1, s2, s3⟩ := hs q1 q242
      obtain ⟨X, x1, x2, x3⟩ := c_nameB hT h ht ht1 q1 q242 ⟨s1, s2⟩ s3
      rw [x1, Option.bind_some, if_neg q242]
      refine ⟨fun hb => ⟨_, rfl, Or.inr ⟨_, by rw [x2 hb]⟩⟩, fun hb => ⟨fun hh => absurd q1 hh, fun _ => by rw [x3 hb]⟩⟩
  · rw [e0, if_neg q1]
    have b1 := bad_251 (kd := kd) (vl := vl) (G := G) (Θ := Θ) (Γs := Γs) (i := t)
    have b2 := bad_252 (kd := kd) (vl := vl) (G := G) (Θ := Θ) (Γs := Γs) (i := t)
    by_cases q2 : kd t = 251
    · rw [if_pos q2, e12]
      by_cases q : (G t 3).1 12 = 235
      · rw [if_pos q]
        exact ⟨fun hb => absurd q ((b1 q2).mp hb), fun _ => ⟨fun _ => rfl, fun hh => absurd hh q1⟩⟩
      · rw [if_neg q]
        exact ⟨fun _ => ⟨_, rfl, Or.inl rfl⟩, fun hb => absurd ((b1 q2).mpr q) hb⟩
    rw [if_neg q2]
    by_cases q3 : kd t = 252
    · rw [if_pos q3, e12]
      by_cases q : (G t 3).1 12 = 235
      · rw [if_pos q]
        exact ⟨fun _ => ⟨_, rfl, Or.inl rfl⟩, fun hb => absurd ((b2 q3).mpr q) hb⟩
      · rw [if_neg q]
        exact ⟨fun hb => absurd ((b2 q3).mp hb) q, fun _ => ⟨fun _ => rfl, fun hh => absurd hh q1⟩⟩
    · rw [if_neg q3]
      exact ⟨fun hb => absurd hb (badB_no q1 q2 q3), fun _ => ⟨fun _ => rfl, fun hh => absurd hh q1⟩⟩
/-- the step in a block -/
theorem c_bstep (hT : TKE T N kd vl rv pl) {G : Nat → HS} (hG : GRW T N kd vl pl G) {Θ Γs Γ : HS} {t : Nat} (h : CT3 T N kd vl pl G Θ Γs t Γ) (ht : t < T) (ht1 : 1 ≤ t) (hk : kd t ≠ 235) (hb : bodyW G t) (hs : kd t = 2 → kd (t - 1) ≠ 242 → 0 ≤ srt G Θ kd vl t ∧ srt G Θ kd vl t ≤ 7 ∧ (srt G Θ kd vl t = 6 → (if (G t 3).2.1 5 (vl t).toNat = 0 then (Θ 3).2.1 4 (vl t).toNat else (G t 3).2.1 5 (vl t).toNat - 1) = J (nmb G Θ kd vl t : Nat) ∧ nmb G Θ kd vl t < 100)) : (badB G Θ Γs kd vl t → ∃ X, (∀ n, loopF W3 (n + 2) (J (t : Nat), Γ) = some (J 3, X)) ∧ (X 3).1 17 = J (pl t : Nat) ∧ ∀ r, r ≠ 1 → r ≠ 3 → X r = Γ r) ∧ (¬ badB G Θ Γs kd vl t → ∃ Γ', (∀ n, loopF W3 (n + 1) (J (t : Nat), Γ) = loopF W3 n (J (t + 1 : Nat), Γ')) ∧ CT3 T N kd vl pl G Θ Γs (t + 1) Γ' ∧ m3 (if kd t = 2 then putM Γ t (if kd (t - 1) = 242 then 458752 ||| (Γ 3).1 8 else mng (J (srt G Θ kd vl t)) (if (G t 3).2.1 5 (vl t).toNat = 0 then (Θ 3).2.1 4 (vl t).toNat else (G t 3).2.1 5 (vl t).toNat - 1)) else Γ) Γ') := by
  obtain ⟨n1, n2, n3, n4⟩ := TKE_N hT
  obtain ⟨hc, h16, hA, h3, h4, h6, h54⟩ := id h
  obtain ⟨w1, w2⟩ := c_bodyWord hT h ht ht1 hs
  have go : ∀ n, loopF W3 (n + 1) (J (t : Nat), Γ) = (F_X4_bodyWord (J (t : Nat)) Γ).bind fun u => (F_X4_followScope (J (t : Nat)) u.2).bind fun v => loopF W3 n (J (t + 1 : Nat), v.2) := by
    intro n
    rw [W3_go hT hc (show t < N by omega) h16, if_neg (by rw [AGR_i hA 12 (by omega)]; exact hb.1), if_neg (by rw [AGR_i hA 11 (by omega)]; exact hb.2)]
  refine ⟨fun hbad => ?_, fun hnb => ?_⟩
  · obtain ⟨X, x1, x2⟩ := w1 hbad
    have hX : TKc N kd vl pl X ∧ AGR T kd vl (G t) X ∧ (X 3).1 16 = J 3 ∧ (X 3).1 17 = J (pl t : Nat) ∧ ∀ r, r ≠ 1 → r ≠ 3 → X r = Γ r := by
      have hf : TKc N kd vl pl (failS Γ pl 3 t) ∧ AGR T kd vl (G t) (failS Γ pl 3 t) ∧ ((failS Γ pl 3 t) 3).1 16 = J 3 ∧ ((failS Γ pl 3 t) 3).1 17 = J (pl t : Nat) ∧ ∀ r, r ≠ 1 → r ≠ 3 → (failS Γ pl 3 t) r = Γ r := by
        refine ⟨⟨hc.1, hc.2⟩, ⟨fun k hk => ?_, hA.2⟩, rfl, rfl, fun r _ r3 => by unfold failS; rw [cI_r, if_neg r3, cI_r, if_neg r3]⟩
        rw [← hA.1 k hk]
        show upd (upd _ _ _) _ _ _ = _
        unfold scI at hk
        rw [upd_s, if_neg (by omega), upd_s, if_neg (by omega)]
      rcases x2 with x2 | ⟨v, x2⟩
      · rw [x2]; exact hf
      · obtain ⟨f1, f2, f3, f4, f5⟩ := hf
        rw [x2]
        exact ⟨putM_TKc f1, ⟨fun k hk => by rw [putM_r (by omega)]; exact f2.1 k hk, by rw [putM_r (by omega)]; exact f2.2⟩, by rw [putM_r (by omega)]; exact f3, by rw [putM_r (by omega)]; exact f4, fun r r1 r3 => by rw [putM_r r1]; exact f5 r r1 r3⟩
    obtain ⟨y1, y2, y3, y4, y5⟩ := hX
    obtain ⟨x', Γ', z1, z2, z3⟩ := g_next hT hG ht hk y1 y2
    refine ⟨Γ', fun n => ?_, by rw [z3.2.1 17 (by omega) (by omega) (by omega) (by omega) (by omega)]; exact y4, fun r r1 r3 => by rw [z3.1 r r3]; exact y5 r r1 r3⟩
    rw [show n + 2 = n + 1 + 1 from rfl, go, x1, Option.bind_some, z1, Option.bind_some]
    exact W3_fault (by rw [m3_16 z3]; exact y3) (by omega) _ _
  · obtain ⟨v1, v2⟩ := w2 hnb
    by_cases q : kd t = 2
    · rw [if_pos q]
      have e := v2 q
      have h' := putM_CT3 (u := t) (v := (if kd (t - 1) = 242 then 458752 ||| (Γ 3).1 8 else mng (J (srt G Θ kd vl t)) (if (G t 3).2.1 5 (vl t).toNat = 0 then (Θ 3).2.1 4 (vl t).toNat else (G t 3).2.1 5 (vl t).toNat - 1))) h
      obtain ⟨x', Γ', z1, z2, z3⟩ := g_next hT hG ht hk h'.1 h'.2.2.1
      exact ⟨Γ', fun n => by rw [go, e, Option.bind_some, z1, Option.bind_some], CT3_m3 h' z3 z2, z3⟩
    · rw [if_neg q]
      have e := v1 q
      obtain ⟨x', Γ', z1, z2, z3⟩ := g_next hT hG ht hk hc hA
      exact ⟨Γ', fun n => by rw [go, e, Option.bind_some, z1, Option.bind_some], CT3_m3 h z3 z2, z3⟩
