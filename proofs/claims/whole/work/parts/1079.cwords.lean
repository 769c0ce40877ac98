/-! the third going: rooms, things, verbs and vars, word by word, the class -/
variable {T N : Nat} {kd vl rv : Nat → Int} {pl : Nat → Nat}
theorem mrg47 {Γ Δ : HS} (h : ∀ r, r ≠ 4 → r ≠ 5 → r ≠ 6 → r ≠ 7 → Δ r = Γ r) : mrg (fun j => j == 4 || j == 5 || j == 6 || j == 7) Γ Δ = Δ := by
  funext j
  rw [mrg_r]
  by_cases q4 : j = 4
  · subst q4; rfl
  by_cases q5 : j = 5
  · subst q5; rfl
  by_cases q6 : j = 6
  · subst q6; rfl
  by_cases q7 : j = 7
  · subst q7; rfl
  rw [h j q4 q5 q6 q7]
  cases (j == 4 || j == 5 || j == 6 || j == 7) <;> rfl
/-- a room or thing is come to -/
def obS (Γ : HS) (n : Nat) (isR x : Int32) : HS := cA' (cA' (cI' Γ 3 13 (J (n : Nat))) 4 1 (upd ((Γ 4).2.1 1) n (vp_nar .boolean isR))) 4 2 (g_put 121 ((Γ 4).2.1 2) (J (n : Nat)) x)
def dsS (Γ : HS) (x : Int32) : HS := cA' Γ 4 3 (g_put 121 ((Γ 4).2.1 3) ((Γ 3).1 13) x)
def vrS (Γ : HS) (n : Nat) (x : Int32) : HS := cA' Γ 4 11 (g_put 100 ((Γ 4).2.1 11) (J (n : Nat)) x)
theorem c_objW (hT : TKE T N kd vl rv pl) {G : Nat → HS} {Θ Γs Γ : HS} {t n : Nat} {isR : Int32} (h : CT3 T N kd vl pl G Θ Γs t Γ) (ht : t + 2 ≤ T) (hk : kd (t + 1) = 2) (hs0 : (G t 3).2.1 5 (vl (t + 1)).toNat = 0) (hn : (Θ 3).2.1 4 (vl (t + 1)).toNat = J (n : Nat)) (hn2 : n ≤ 120) : IWobj (J (t : Nat)) isR Γ = some ((0 : Int32), obS Γ n isR (J (vl (t + 2)))) := by
  obtain ⟨n1, n2, n3, n4⟩ := TKE_N hT
  unfold IWobj
  rw [show J (t : Nat) + 1 = J (t + 1 : Nat) by rw [J_lit, J_add]; rfl, show J (t : Nat) + 2 = J (t + 2 : Nat) by rw [J_lit, J_add]; rfl, c_numOf hT h (by omega) hk, Option.bind_some, if_pos hs0, hn]
  dsimp only
  have h1 : TKc N kd vl pl (cI' Γ 3 13 (J (n : Nat))) := ⟨h.1.1, h.1.2⟩
  rw [c_worthOf hT h1 (show t + 2 < N by omega), Option.bind_some]
  dsimp only
  rw [mrg1_id, show ((cI' Γ 3 13 (J (n : Nat))) 3).1 13 = J (n : Nat) from rfl]
  unfold F_X7_addObject
  simp only [bndE]
  rw [if_neg (J_nlt0 (by omega) (by omega)), if_neg (show ¬ (121 : Int32) ≤ J (n : Nat) by rw [show (121 : Int32) = J 121 from rfl, J_le (by omega) (by omega) (by omega) (by omega)]; omega), if_neg (show ¬ (J (n : Nat) < 0 ∨ 121 ≤ (J (n : Nat)).toNatClampNeg) by rintro (c | c); exact J_nlt0 (by omega) (by omega) c; rw [J_natN (by omega)] at c; omega), J_natN (by omega), Option.bind_some]
  dsimp only
  rw [mrg47 (fun r r4 _ _ _ => by rw [cA_r, if_neg r4, cA_r, if_neg r4])]
  rfl
theorem c_varW (hT : TKE T N kd vl rv pl) {G : Nat → HS} {Θ Γs Γ : HS} {t n : Nat} (h : CT3 T N kd vl pl G Θ Γs t Γ) (ht : t + 4 ≤ T) (hk : kd (t + 1) = 2) (hs0 : (G t 3).2.1 5 (vl (t + 1)).toNat = 0) (hn : (Θ 3).2.1 4 (vl (t + 1)).toNat = J (n : Nat)) (h3 : kd (t + 3) = 45 ∨ kd (t + 3) = 3) : F_X4_varItem (J (t : Nat)) Γ = some ((0 : Int32), vrS Γ n (if kd (t + 3) = 45 then J (-(vl (t + 4))) else J (vl (t + 3)))) := by
  obtain ⟨n1, n2, n3, n4⟩ := TKE_N hT
  unfold F_X4_varItem
  rw [show J (t : Nat) + 3 = J (t + 3 : Nat) by rw [J_lit, J_add]; rfl, show J (t : Nat) + 1 = J (t + 1 : Nat) by rw [J_lit, J_add]; rfl, show J (t : Nat) + 4 = J (t + 4 : Nat) by rw [J_lit, J_add]; rfl, c_kindOf hT h.1 (show t + 3 < N by omega), Option.bind_some]
  simp only [bndE]
  rw [mrg1_id]
  have n1 : ¬ (1 : Int32) = 0 := by decide
  rcases h3 with h3 | h3
  · rw [h3, if_pos (show J 45 = 45 from rfl), if_neg n1, c_worthOf hT h.1 (show t + 4 < N by omega), Option.bind_some]
    dsimp only
    rw [mrg1_id, c_numOf hT h (by omega) hk, Option.bind_some, if_neg n1, if_pos hs0, hn, if_pos rfl, J_neg]
    rfl
  · rw [h3, if_neg (show ¬ J 3 = 45 by decide), if_pos trivial, c_worthOf hT h.1 (show t + 3 < N by omega), Option.bind_some]
    dsimp only
    rw [mrg1_id, c_numOf hT h (by omega) hk, Option.bind_some, if_pos trivial, if_pos hs0, hn, if_neg (by omega)]
    rfl
/-- a verb's word between its nouns -/
def JNT (kd vl : Nat → Int) (cl : List Int) (n f : Nat) (E F : HS) : Prop := if kd f = 215 then (∀ r, r ≠ 4 → r ≠ 7 → F r = E r) ∧ ∃ (W V : List Int) (m : Int32), DOK E W ∧ DOK F V ∧ (W.length < 1999 → ∃ k : Nat, m = J (k : Nat) ∧ lrnW W (trm cl vl (f + 1)) V k) ∧ F 4 = (cA' E 4 8 (g_put 61 ((E 4).2.1 8) (J (n : Nat)) m)) 4 else F = E
/-- a verb's words -/
def VBW (kd vl : Nat → Int) (cl : List Int) (n t : Nat) (Γ F : HS) : Prop := ∃ (E : HS) (c : Nat), 1 ≤ c ∧ NML kd (t + 2) c ∧ OWN kd vl cl (120 + n) (t + 2) Γ E ∧ JNT kd vl cl n (t + 2 + 2 * c - 1) E F
theorem OWN_D {cl : List Int} {o i : Nat} {Γ E : HS} (h : OWN kd vl cl o i Γ E) (hD : ∃ W, DOK Γ W) : (∃ W, DOK E W) ∧ ∀ r, r ≠ 4 → r ≠ 7 → E r = Γ r := by
  obtain ⟨c, K, -, -, rfl, rfl, h⟩ := h
  have : ∀ e, e ≤ c → (∃ W, DOK (K e) W) ∧ ∀ r, r ≠ 4 → r ≠ 7 → K e r = K 0 r := by
    intro e
    induction e with
    | zero => intro _; exact ⟨hD, fun _ _ _ => rfl⟩
    | succ e ih =>
      intro he
      obtain ⟨a, b⟩ := AWR_D (h e (by omega))
      exact ⟨a, fun r r4 r7 => by rw [b r r4 r7, (ih (by omega)).2 r r4 r7]⟩
  exact this c (Nat.le_refl _)
theorem trm_rng {cl : List Int} {Γ : HS} {t : Nat} (h : cnam cl Γ) (hv : (vl t).toNat < cl.length) : 0 ≤ trm cl vl t ∧ trm cl vl t < 9223372036854775808 := by
  have hb := h.2.1 _ hv
  unfold trm
  exact ⟨Int.ediv_nonneg hb.2.1 (by omega), by have := Int.ediv_le_self (b := 50653) (a := cl.getD (vl t).toNat 0) hb.2.1; omega⟩
theorem c_verbW (hT : TKE T N kd vl rv pl) {cl : List Int} (hcl : cl.length ≤ 4500) (hvl : ∀ u, u ≤ T → kd u = 2 → (vl u).toNat < cl.length) {G : Nat → HS} {Θ Γs Γ : HS} {t n c : Nat} (h : CT3 T N kd vl pl G Θ Γs t Γ) (h2 : cnam cl Γ) (hD : ∃ W, DOK Γ W) (hk : kd (t + 1) = 2) (hs0 : (G t 3).2.1 5 (vl (t + 1)).toNat = 0) (hn : (Θ 3).2.1 4 (vl (t + 1)).toNat = J (n : Nat)) (hn2 : n ≤ 60) (hc : 1 ≤ c) (hm : NML kd (t + 2) c) (hi : t + 2 + 2 * c ≤ T) (hf : kd (t + 2 + 2 * c - 1) = 215 → kd (t + 2 + 2 * c) = 2) : ∃ F, F_X4_verbItem (J (t : Nat)) Γ = some ((0 : Int32), F) ∧ VBW kd vl cl n t Γ F := by
  obtain ⟨n1, n2, n3, n4⟩ := TKE_N hT
  obtain ⟨E, e1, e2⟩ := c_ownWords hT hcl hvl (o := 120 + n) (i := t + 2) (by omega) (by omega) hc hm (by omega) h.1 h2 hD
  obtain ⟨e3, e4⟩ := OWN_D e2 hD
  have hE1 := e4 1 (by omega) (by omega)
  have tE : TKc N kd vl pl E := ⟨by rw [hE1]; exact h.1.1, fun z hz => by rw [hE1]; exact h.1.2 z hz⟩
  have cE : cnam cl E := cnam_congr h2 (by rw [hE1]) (by rw [hE1]) (by rw [hE1])
  unfold F_X4_verbItem
  rw [show J (t : Nat) + 1 = J (t + 1 : Nat) by rw [J_lit, J_add]; rfl, show J (t : Nat) + 2 = J (t + 2 : Nat) by rw [J_lit, J_add]; rfl, c_numOf hT h (by omega) hk, Option.bind_some, if_pos hs0, hn]
  dsimp only
  rw [show (120 : Int32) + J (n : Nat) = J (120 + n : Nat) by rw [show (120 : Int32) = J 120 from rfl, J_add]; rfl, e1, Option.bind_some]
  dsimp only
  have hfN : t + 2 + 2 * c - 1 < N := by omega
  have hkr := kd_le hT hfN
  rw [c_kindOf hT tE hfN, Option.bind_some]
  simp only [bndE]
  rw [mrg1_id]
  by_cases q : kd (t + 2 + 2 * c - 1) = 215
  · rw [if_pos (show J (kd (t + 2 + 2 * c - 1)) = 215 by rw [q]; rfl), show J (t + 2 + 2 * c - 1 : Nat) + 1 = J (t + 2 + 2 * c : Nat) by rw [J_lit, J_add]; congr 1; omega]
    have hk2 := hf q
    have hv := SC_vl hT (show t + 2 + 2 * c ≤ T by omega) hk2
    have hv2 := hvl _ (show t + 2 + 2 * c ≤ T by omega) hk2
    have tb := trm_rng cE hv2
    rw [c_worthOf hT tE (show t + 2 + 2 * c < N by omega), Option.bind_some]
    dsimp only
    rw [mrg1_id, c_termOf cE (by omega) (by omega) hcl, Option.bind_some]
    dsimp only
    rw [mrg1_id]
    obtain ⟨W, hW⟩ := e3
    obtain ⟨V, m, F, f1, f2, f3, f4⟩ := d_learnA hW tb.1 tb.2
    unfold trm at f1
    rw [f1, Option.bind_some]
    dsimp only
    have em : mrg (fun j => j == 7) E F = F := by
      funext j
      rw [mrg_r]
      by_cases q : j = 7
      · subst q; rfl
      · rw [show (j == 7) = false by simpa using q, f2 j q]; rfl
    rw [em]
    refine ⟨_, rfl, E, c, hc, hm, e2, ?_⟩
    unfold JNT
    rw [if_pos q, show t + 2 + 2 * c - 1 + 1 = t + 2 + 2 * c by omega]
    refine ⟨fun r r4 r7 => by rw [cA_r, if_neg r4]; exact f2 r r7, W, V, m, hW, f3, f4, ?_⟩
    have hF4 := f2 4 (by omega)
    show ((F 4).1, updA (F 4).2.1 8 _, (F 4).2.2) = ((E 4).1, _, (E 4).2.2)
    rw [hF4]
  · rw [if_neg (show ¬ J (kd (t + 2 + 2 * c - 1)) = 215 by rw [show (215 : Int32) = J 215 from rfl, J255 215 hkr (by omega)]; exact q)]
    refine ⟨E, rfl, E, c, hc, hm, e2, ?_⟩
    unfold JNT
    rw [if_neg q]
/-- what a word of a room, thing, verb, var or array gives the story -/
def WEF (Θ : HS) (kd vl : Nat → Int) (cl : List Int) (t : Nat) (Γ Δ : HS) : Prop :=
  if kd t = 230 ∨ kd t = 231 then m3 (obS Γ (nsF Θ vl (t + 1)) (if kd t = 230 then 1 else 0) (J (vl (t + 2)))) Δ
  else if kd t = 238 then m3 (dsS Γ (J (vl (t + 1)))) Δ
  else if 206 ≤ kd t ∧ kd t ≤ 212 then m3 (IWtrait (J (kd t)) Γ) Δ
  else if kd t = 239 then m3 (exS Γ (J (kd (t + 1))) (J (nsF Θ vl (t + 2) : Nat))) Δ
  else if kd t = 219 then m3 (inS Γ (if kd (t + 1) = 228 then 1 else J (nsF Θ vl (t + 1) : Nat))) Δ
  else if kd t = 240 then ∃ (o : Nat) (E : HS), 1 ≤ o ∧ o ≤ 120 ∧ (Γ 3).1 13 = J (o : Nat) ∧ OWN kd vl cl o (t + 1) Γ E ∧ m3 E Δ
  else if kd t = 232 then ∃ E : HS, VBW kd vl cl (nsF Θ vl (t + 1)) t Γ E ∧ m3 E Δ
  else if kd t = 233 then m3 (vrS Γ (nsF Θ vl (t + 1)) (if kd (t + 3) = 45 then J (-(vl (t + 4))) else J (vl (t + 3)))) Δ
  else m3 Γ Δ
/-- the words from i to j, one behind the other -/
def FLT (Θ : HS) (kd vl : Nat → Int) (cl : List Int) (i j : Nat) (Γ Δ : HS) : Prop := ∃ H : Nat → HS, H i = Γ ∧ H j = Δ ∧ ∀ t, i ≤ t → t < j → WEF Θ kd vl cl t (H t) (H (t + 1))
