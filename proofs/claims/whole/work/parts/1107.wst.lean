/-! the words that objects and verbs have -/
variable {T N : Nat} {kd vl rv : Nat → Int} {pl : Nat → Nat}
/-- V goes on from W -/
def PRE (W V : List Int) : Prop := W.length ≤ V.length ∧ ∀ k, k < W.length → V.getD k 0 = W.getD k 0
theorem PRE_rfl {W : List Int} : PRE W W := ⟨Nat.le_refl _, fun _ _ => rfl⟩
theorem PRE_trans {U V W : List Int} (h : PRE U V) (i : PRE V W) : PRE U W := ⟨Nat.le_trans h.1 i.1, fun k hk => by rw [i.2 k (Nat.lt_of_lt_of_le hk h.1), h.2 k hk]⟩
theorem lrnW_pre {W V : List Int} {t : Int} {m : Nat} (h : lrnW W t V m) : PRE W V ∧ V.length ≤ W.length + 1 := by
  obtain ⟨-, -, ⟨rfl, -⟩ | ⟨-, rfl, -⟩⟩ := h
  · exact ⟨PRE_rfl, by omega⟩
  · exact ⟨⟨by rw [List.length_append]; omega, fun k hk => getD_app hk⟩, by rw [List.length_append]; exact Nat.le_refl _⟩
/-- owner o has bn o words, of the terms bt o -/
def WST (Γ : HS) (W : List Int) (bn : Nat → Nat) (bt : Nat → Nat → Int) : Prop := DOK Γ W ∧ ∀ o, 1 ≤ o → o ≤ 180 → bn o ≤ 10 ∧ (Γ 4).2.1 10 o = J (bn o : Nat) ∧ ∀ e, e < bn o → ∃ m : Nat, m < W.length ∧ (Γ 4).2.1 9 (10 * o + e) = J (m : Nat) ∧ W.getD m 0 = bt o e
/-- only words of owners and the dictionary have changed -/
def wfr (Γ Δ : HS) : Prop := (∀ r, r ≠ 4 → r ≠ 7 → Δ r = Γ r) ∧ (Δ 4).1 = (Γ 4).1 ∧ ∀ k, k ≠ 9 → k ≠ 10 → (Δ 4).2.1 k = (Γ 4).2.1 k
theorem wfr_rfl {Γ : HS} : wfr Γ Γ := ⟨fun _ _ _ => rfl, rfl, fun _ _ _ => rfl⟩
theorem wfr_trans {Γ Δ Θ : HS} (h : wfr Γ Δ) (i : wfr Δ Θ) : wfr Γ Θ := ⟨fun r a b => by rw [i.1 r a b, h.1 r a b], by rw [i.2.1, h.2.1], fun k a b => by rw [i.2.2 k a b, h.2.2 k a b]⟩
theorem cA4g {Γ : HS} {k j : Nat} {g : Nat → Int32} : ((cA' Γ 4 k g) 4).2.1 j = if j = k then g else (Γ 4).2.1 j := updA_s _ _ _ _
theorem WST_step {Γ Δ : HS} {W : List Int} {bn : Nat → Nat} {bt : Nat → Nat → Int} {o : Nat} {t : Int} (h : WST Γ W bn bt) (ho : 1 ≤ o) (ho2 : o ≤ 180) (hA : AWR o t Γ Δ) (hW : W.length < 1999) (hb : bn o < 10) : (∃ V, WST Δ V (fun x => if x = o then bn o + 1 else bn x) (fun x e => if x = o ∧ e = bn o then t else bt x e) ∧ PRE W V ∧ V.length ≤ W.length + 1) ∧ wfr Γ Δ := by
  obtain ⟨hD, hO⟩ := h
  obtain ⟨a1, W', V, m, a2, a3, a4, a5⟩ := hA
  obtain rfl := DOK_u hD a2
  obtain ⟨k, rfl, hk⟩ := a4 hW
  obtain ⟨p1, p2⟩ := lrnW_pre hk
  obtain ⟨b1, b2, b3⟩ := hO o ho ho2
  rw [b2, if_neg (show ¬ (10 : Int32) ≤ J (bn o : Nat) by rw [show (10 : Int32) = J 10 from rfl, J_le (by omega) (by omega) (by omega) (by omega)]; omega)] at a5
  have e10 : (Δ 4).2.1 10 = upd ((Γ 4).2.1 10) o (J (bn o + 1 : Nat)) := by
    rw [a5, cA4g, if_pos rfl, show J (bn o : Nat) + 1 = J (bn o + 1 : Nat) by rw [J_lit, J_add]; rfl, q_g_put_in (n := 181) (i := (o : Nat)) (by omega) (by omega) (by omega), Int.toNat_natCast]
  have e9 : (Δ 4).2.1 9 = upd ((Γ 4).2.1 9) (10 * o + bn o) (J (k : Nat)) := by
    rw [a5, cA4g, if_neg (by omega), cA4g, if_pos rfl, show J (o : Nat) * 10 + J (bn o : Nat) = J (10 * o + bn o : Nat) by rw [show (10 : Int32) = J 10 from rfl, J_mul, J_add]; congr 1; omega, q_g_put_in (n := 1810) (i := (10 * o + bn o : Nat)) (by omega) (by omega) (by omega), Int.toNat_natCast]
  refine ⟨⟨V, ⟨a3, fun x x1 x2 => ?_⟩, p1, p2⟩, a1, by rw [a5]; rfl, fun k' k9 k10 => by rw [a5, cA4g, if_neg k10, cA4g, if_neg k9]⟩
  obtain ⟨c1, c2, c3⟩ := hO x x1 x2
  dsimp only
  rw [e10, e9, upd_s]
  by_cases q : x = o
  · subst q
    rw [if_pos rfl, if_pos rfl]
    refine ⟨by omega, rfl, fun e he => ?_⟩
    rw [upd_s]
    by_cases q2 : e = bn x
    · rw [if_pos (by omega), if_pos ⟨rfl, q2⟩]
      exact ⟨k, hk.1, rfl, hk.2.1⟩
    · obtain ⟨m, m1, m2, m3⟩ := c3 e (by omega)
      rw [if_neg (by omega), if_neg (fun h => q2 h.2)]
      exact ⟨m, Nat.lt_of_lt_of_le m1 p1.1, m2, by rw [p1.2 m m1]; exact m3⟩
  · rw [if_neg q, if_neg q]
    refine ⟨c1, c2, fun e he => ?_⟩
    obtain ⟨m, m1, m2, m3⟩ := c3 e he
    rw [upd_s, if_neg (by omega), if_neg (fun h => q h.1)]
    exact ⟨m, Nat.lt_of_lt_of_le m1 p1.1, m2, by rw [p1.2 m m1]; exact m3⟩
theorem WST_congr {Γ : HS} {W : List Int} {bn bn' : Nat → Nat} {bt bt' : Nat → Nat → Int} (h : WST Γ W bn bt) (e1 : ∀ o, 1 ≤ o → o ≤ 180 → bn' o = bn o) (e2 : ∀ o e, 1 ≤ o → o ≤ 180 → e < bn o → bt' o e = bt o e) : WST Γ W bn' bt' := ⟨h.1, fun o o1 o2 => by
  obtain ⟨a, b, c⟩ := h.2 o o1 o2
  rw [e1 o o1 o2]
  exact ⟨a, b, fun e he => by rw [e2 o e o1 o2 he]; exact c e he⟩⟩
/-- many words of one owner -/
theorem WST_chain {o : Nat} {t : Nat → Int} {K : Nat → HS} (ho : 1 ≤ o) (ho2 : o ≤ 180) {W : List Int} {bn : Nat → Nat} {bt : Nat → Nat → Int} (h : WST (K 0) W bn bt) : ∀ n, (∀ e, e < n → AWR o (t e) (K e) (K (e + 1))) → W.length + n ≤ 1999 → bn o + n ≤ 10 → (∃ V, WST (K n) V (fun x => if x = o then bn o + n else bn x) (fun x e => if x = o ∧ bn o ≤ e then t (e - bn o) else bt x e) ∧ PRE W V ∧ V.length ≤ W.length + n) ∧ wfr (K 0) (K n) := by
  intro n
  induction n with
  | zero =>
    intro _ _ _
    refine ⟨⟨W, WST_congr h (fun x _ _ => ?_) (fun x e _ _ he => ?_), PRE_rfl, Nat.le_refl _⟩, wfr_rfl⟩
    · by_cases q : x = o
      · rw [if_pos q, q]; rfl
      · rw [if_neg q]
    · rw [if_neg]
      rintro ⟨rfl, h⟩
      omega
  | succ n ih =>
    intro hA hW hb
    obtain ⟨⟨V, i1, i2, i3⟩, i4⟩ := ih (fun e he => hA e (by omega)) (by omega) (by omega)
    obtain ⟨⟨U, j1, j2, j3⟩, j4⟩ := WST_step i1 ho ho2 (hA n (by omega)) (by omega) (by rw [if_pos rfl]; omega)
    refine ⟨⟨U, WST_congr j1 (fun x _ _ => ?_) (fun x e _ _ he => ?_), PRE_trans i2 j2, by omega⟩, wfr_trans i4 j4⟩
    · by_cases q : x = o
      · rw [if_pos q, if_pos q, if_pos rfl]; omega
      · rw [if_neg q, if_neg q, if_neg q]
    · rw [if_pos rfl] at *
      by_cases q : x = o
      · by_cases q2 : e = bn o + n
        · rw [if_pos (show x = o ∧ bn o ≤ e from ⟨q, by omega⟩), if_pos (show x = o ∧ e = bn o + n from ⟨q, q2⟩), show e - bn o = n by omega]
        · rw [if_neg (show ¬ (x = o ∧ e = bn o + n) from fun h => q2 h.2)]
      · rw [if_neg (show ¬ (x = o ∧ e = bn o + n) from fun h => q h.1)]
