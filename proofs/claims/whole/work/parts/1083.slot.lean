/-! which places of the story an item changes -/
variable {T N : Nat} {kd vl rv : Nat → Int} {pl : Nat → Nat}
theorem WEF_m3 {Θ : HS} {cl : List Int} {t : Nat} {Γ Δ E : HS} (h : WEF Θ kd vl cl t Γ Δ) (g : m3 Δ E) : WEF Θ kd vl cl t Γ E := by
  unfold WEF at h ⊢
  split at h
  · rename_i q; rw [if_pos q]; exact m3_trans h g
  rename_i q1; rw [if_neg q1]
  split at h
  · rename_i q; rw [if_pos q]; exact m3_trans h g
  rename_i q2; rw [if_neg q2]
  split at h
  · rename_i q; rw [if_pos q]; exact m3_trans h g
  rename_i q3; rw [if_neg q3]
  split at h
  · rename_i q; rw [if_pos q]; exact m3_trans h g
  rename_i q4; rw [if_neg q4]
  split at h
  · rename_i q; rw [if_pos q]; exact m3_trans h g
  rename_i q5; rw [if_neg q5]
  split at h
  · rename_i q; rw [if_pos q]
    obtain ⟨o, F, a, b, c, d, e⟩ := h
    exact ⟨o, F, a, b, c, d, m3_trans e g⟩
  rename_i q6; rw [if_neg q6]
  split at h
  · rename_i q; rw [if_pos q]
    obtain ⟨F, a, b⟩ := h
    exact ⟨F, a, m3_trans b g⟩
  rename_i q7; rw [if_neg q7]
  split at h
  · rename_i q; rw [if_pos q]; exact m3_trans h g
  rename_i q8; rw [if_neg q8]
  exact m3_trans h g
/-- a word that gives nothing -/
def wno (k : Int) : Prop := ¬ (206 ≤ k ∧ k ≤ 212) ∧ k ≠ 219 ∧ ¬ (230 ≤ k ∧ k ≤ 233) ∧ ¬ (238 ≤ k ∧ k ≤ 240)
theorem WEF_no {Θ : HS} {cl : List Int} {t : Nat} {Γ Δ : HS} (h : WEF Θ kd vl cl t Γ Δ) (hk : wno (kd t)) : m3 Γ Δ := by
  unfold wno at hk
  unfold WEF at h
  rw [if_neg (by omega), if_neg (by omega), if_neg (by omega), if_neg (by omega), if_neg (by omega), if_neg (by omega), if_neg (by omega), if_neg (by omega)] at h
  exact h
theorem seg_no {Θ : HS} {cl : List Int} {H : Nat → HS} {i j : Nat} (h : ∀ t, i ≤ t → t < j → WEF Θ kd vl cl t (H t) (H (t + 1))) (hk : ∀ t, i ≤ t → t < j → wno (kd t)) : ∀ d, i + d ≤ j → m3 (H i) (H (i + d)) := by
  intro d
  induction d with
  | zero => intro _; exact m3_rfl
  | succ d ih => intro hd; exact m3_trans (ih (by omega)) (WEF_no (h (i + d) (by omega) (by omega)) (hk _ (by omega) (by omega)))
/-- a word, and behind it words that give nothing -/
theorem seg_one {Θ : HS} {cl : List Int} {H : Nat → HS} {i j : Nat} (h : ∀ t, i ≤ t → t < j → WEF Θ kd vl cl t (H t) (H (t + 1))) (hij : i < j) (hk : ∀ t, i < t → t < j → wno (kd t)) : WEF Θ kd vl cl i (H i) (H j) := by
  have := seg_no (i := i + 1) (j := j) (fun t t1 t2 => h t (by omega) t2) (fun t t1 t2 => hk t (by omega) t2) (j - (i + 1)) (by omega)
  rw [show i + 1 + (j - (i + 1)) = j by omega] at this
  exact WEF_m3 (h i (Nat.le_refl _) hij) this
/-- the places of the story that an item changes -/
def SLT (kd : Nat → Int) (is : Nat → Nat) (z k x : Nat) : Prop :=
  (230 ≤ kd (is z) ∧ kd (is z) ≤ 231 ∧ ((1 ≤ k ∧ k ≤ 5 ∧ x = inum kd is z) ∨ (k = 6 ∧ 6 * inum kd is z ≤ x ∧ x < 6 * inum kd is z + 6) ∨ (k = 9 ∧ 10 * inum kd is z ≤ x ∧ x < 10 * inum kd is z + 10) ∨ (k = 10 ∧ x = inum kd is z)))
  ∨ (kd (is z) = 232 ∧ ((k = 8 ∧ x = inum kd is z) ∨ (k = 9 ∧ 10 * (120 + inum kd is z) ≤ x ∧ x < 10 * (120 + inum kd is z) + 10) ∨ (k = 10 ∧ x = 120 + inum kd is z)))
  ∨ (kd (is z) = 233 ∧ k = 11 ∧ x = inum kd is z)
  ∨ (kd (is z) = 236 ∧ 13 ≤ k ∧ k ≤ 15 ∧ x = cN kd is 5 z)
theorem cA4 {Γ : HS} {k j : Nat} {g : Nat → Int32} : ((cA' Γ 4 k g) 4).2.1 j = if j = k then g else (Γ 4).2.1 j := updA_s _ _ _ _
/-- each owner has ten words at most -/
def TEN (Γ : HS) : Prop := ∀ o, 1 ≤ o → o ≤ 180 → ∃ n : Nat, n ≤ 10 ∧ (Γ 4).2.1 10 o = J (n : Nat)
theorem TEN_4 {Γ Δ : HS} (h : TEN Γ) (e : (Δ 4).2.1 10 = (Γ 4).2.1 10) : TEN Δ := fun o h1 ho => by rw [e]; exact h o h1 ho
theorem AWR_slot {o : Nat} {t : Int} {Γ Δ : HS} (ho : 1 ≤ o ∧ o ≤ 180) (hten : TEN Γ) (h : AWR o t Γ Δ) : TEN Δ ∧ (∀ x, ¬ (10 * o ≤ x ∧ x < 10 * o + 10) → (Δ 4).2.1 9 x = (Γ 4).2.1 9 x) ∧ (∀ x, x ≠ o → (Δ 4).2.1 10 x = (Γ 4).2.1 10 x) := by
  obtain ⟨-, W, V, m, -, -, -, h⟩ := h
  obtain ⟨n, n1, n2⟩ := hten o ho.1 ho.2
  rw [n2] at h
  by_cases q : n = 10
  · rw [if_pos (show (10 : Int32) ≤ J (n : Nat) by rw [show (10 : Int32) = J 10 from rfl, J_le (by omega) (by omega) (by omega) (by omega)]; omega)] at h
    exact ⟨TEN_4 hten (by rw [h]), fun _ _ => by rw [h], fun _ _ => by rw [h]⟩
  · rw [if_neg (show ¬ (10 : Int32) ≤ J (n : Nat) by rw [show (10 : Int32) = J 10 from rfl, J_le (by omega) (by omega) (by omega) (by omega)]; omega)] at h
    have e9 : (Δ 4).2.1 9 = upd ((Γ 4).2.1 9) (10 * o + n) m := by
      rw [h, cA4, if_neg (by omega), cA4, if_pos rfl, show J (o : Nat) * 10 + J (n : Nat) = J (10 * o + n : Nat) by rw [show (10 : Int32) = J 10 from rfl, J_mul, J_add]; congr 1; omega, q_g_put_in (n := 1810) (i := (10 * o + n : Nat)) (by omega) (by omega) (by omega), Int.toNat_natCast]
    have e10 : (Δ 4).2.1 10 = upd ((Γ 4).2.1 10) o (J (n + 1 : Nat)) := by
      rw [h, cA4, if_pos rfl, q_g_put_in (n := 181) (i := (o : Nat)) (by omega) (by omega) (by omega), Int.toNat_natCast, show J (n : Nat) + 1 = J (n + 1 : Nat) by rw [J_lit, J_add]; rfl]
    refine ⟨fun o' ho1' ho' => ?_, fun x hx => ?_, fun x hx => ?_⟩
    · rw [e10, upd_s]
      by_cases e : o' = o
      · rw [if_pos e]; exact ⟨n + 1, by omega, rfl⟩
      · rw [if_neg e]; exact hten o' ho1' ho'
    · rw [e9, upd_s, if_neg (by omega)]
    · rw [e10, upd_s, if_neg hx]
theorem OWN_slot {cl : List Int} {o i : Nat} {Γ E : HS} (ho : 1 ≤ o ∧ o ≤ 180) (hten : TEN Γ) (h : OWN kd vl cl o i Γ E) : TEN E ∧ (∀ x, ¬ (10 * o ≤ x ∧ x < 10 * o + 10) → (E 4).2.1 9 x = (Γ 4).2.1 9 x) ∧ (∀ x, x ≠ o → (E 4).2.1 10 x = (Γ 4).2.1 10 x) := by
  obtain ⟨c, K, -, -, rfl, rfl, h⟩ := h
  have : ∀ e, e ≤ c → TEN (K e) ∧ (∀ x, ¬ (10 * o ≤ x ∧ x < 10 * o + 10) → (K e 4).2.1 9 x = (K 0 4).2.1 9 x) ∧ (∀ x, x ≠ o → (K e 4).2.1 10 x = (K 0 4).2.1 10 x) := by
    intro e
    induction e with
    | zero => intro _; exact ⟨hten, fun _ _ => rfl, fun _ _ => rfl⟩
    | succ e ih =>
      intro he
      obtain ⟨a, b, c'⟩ := ih (by omega)
      obtain ⟨a', b', c''⟩ := AWR_slot ho a (h e (by omega))
      exact ⟨a', fun x hx => by rw [b' x hx, b x hx], fun x hx => by rw [c'' x hx, c' x hx]⟩
  exact this c (Nat.le_refl _)
def wpl (k : Int) : Prop := k = 230 ∨ k = 231 ∨ (206 ≤ k ∧ k ≤ 212) ∨ k = 219 ∨ (238 ≤ k ∧ k ≤ 240)
theorem wpl_a {k : Int} (h : (k = 230 ∨ k = 231) ∨ k = 238 ∨ (206 ≤ k ∧ k ≤ 212) ∨ k = 239 ∨ k = 219 ∨ k = 240) : wpl k := by unfold wpl; omega
theorem wpl_b {k : Int} (h : k = 238 ∨ (206 ≤ k ∧ k ≤ 212) ∨ k = 239 ∨ k = 219 ∨ k = 240) : (206 ≤ k ∧ k ≤ 212) ∨ k = 219 ∨ (238 ≤ k ∧ k ≤ 240) := by omega
/-- what a word changes, given the object at hand -/
theorem WEF_slot {Θ : HS} {cl : List Int} {t n : Nat} {Γ Δ : HS} (h : WEF Θ kd vl cl t Γ Δ) (hten : TEN Γ) (h13 : (206 ≤ kd t ∧ kd t ≤ 212) ∨ kd t = 219 ∨ (238 ≤ kd t ∧ kd t ≤ 240) → (Γ 3).1 13 = J (n : Nat) ∧ 1 ≤ n ∧ n ≤ 120) (hob : kd t = 230 ∨ kd t = 231 → nsF Θ vl (t + 1) = n ∧ 1 ≤ n ∧ n ≤ 120) (hvb : kd t = 232 → nsF Θ vl (t + 1) = n ∧ 1 ≤ n ∧ n ≤ 60) (hvr : kd t = 233 → nsF Θ vl (t + 1) = n ∧ n < 100) (hex : kd t = 239 → 200 ≤ kd (t + 1) ∧ kd (t + 1) ≤ 205) : TEN Δ ∧ (kd t ≠ 230 → kd t ≠ 231 → (Δ 3).1 13 = (Γ 3).1 13) ∧ ((Δ 3).1 15 = (Γ 3).1 15) ∧ ∀ k x, (wpl (kd t) → ¬ ((1 ≤ k ∧ k ≤ 5 ∧ x = n) ∨ (k = 6 ∧ 6 * n ≤ x ∧ x < 6 * n + 6) ∨ (k = 9 ∧ 10 * n ≤ x ∧ x < 10 * n + 10) ∨ (k = 10 ∧ x = n))) → (kd t = 232 → ¬ ((k = 8 ∧ x = n) ∨ (k = 9 ∧ 10 * (120 + n) ≤ x ∧ x < 10 * (120 + n) + 10) ∨ (k = 10 ∧ x = 120 + n))) → (kd t = 233 → ¬ (k = 11 ∧ x = n)) → (Δ 4).2.1 k x = (Γ 4).2.1 k x := by
  have e15 : ∀ {Γ1 : HS}, m3 Γ1 Δ → (Δ 3).1 15 = (Γ1 3).1 15 := fun hm => hm.2.1 15 (by omega) (by omega) (by omega) (by omega) (by omega)
  have e13 : ∀ {Γ1 : HS}, m3 Γ1 Δ → (Δ 3).1 13 = (Γ1 3).1 13 := fun hm => hm.2.1 13 (by omega) (by omega) (by omega) (by omega) (by omega)
  have one : ∀ {k' : Nat} {g : Nat → Int32}, k' ≠ 10 → m3 (cA' Γ 4 k' g) Δ → TEN Δ ∧ (kd t ≠ 230 → kd t ≠ 231 → (Δ 3).1 13 = (Γ 3).1 13) ∧ ((Δ 3).1 15 = (Γ 3).1 15) ∧ ∀ k x, (k = k' → g x = (Γ 4).2.1 k' x) → (Δ 4).2.1 k x = (Γ 4).2.1 k x := by
    intro k' g h10 hm
    have e4 := hm.1 4 (by omega)
    have ek : ∀ k, (Δ 4).2.1 k = if k = k' then g else (Γ 4).2.1 k := fun k => by rw [e4]; exact updA_s _ _ _ _
    refine ⟨TEN_4 hten (by rw [ek, if_neg (Ne.symm h10)]), fun _ _ => (e13 hm).trans rfl, (e15 hm).trans rfl, fun k x hk => ?_⟩
    rw [ek]
    by_cases q : k = k'
    · rw [if_pos q, hk q, q]
    · rw [if_neg q]
  have pw : ∀ {m : Nat} {f : Nat → Int32} {v : Int32} {x y : Nat}, y < m → m < 100000 → x ≠ y → g_put m f (J (y : Nat)) v x = f x := by
    intro m f v x y hy hm hx
    rw [q_g_put_in (i := (y : Nat)) (by omega) (by omega) (by omega), Int.toNat_natCast, upd_s, if_neg hx]
  unfold WEF at h
  split at h
  · rename_i q
    obtain ⟨b1, b2, b3⟩ := hob q
    have hw := wpl_a (Or.inl q)
    clear hob hvb hvr hex h13
    rw [b1] at h
    have e4 := h.1 4 (by omega)
    have ek : ∀ k, (Δ 4).2.1 k = if k = 2 then g_put 121 ((Γ 4).2.1 2) (J (n : Nat)) (J (vl (t + 2))) else if k = 1 then upd ((Γ 4).2.1 1) n (vp_nar .boolean (if kd t = 230 then 1 else 0)) else (Γ 4).2.1 k := fun k => by
      rw [e4]
      show updA (updA _ _ _) _ _ k = _
      rw [updA_s, updA_s]; rfl
    refine ⟨TEN_4 hten (by rw [ek, if_neg (by omega), if_neg (by omega)]), fun h0 h1 => absurd q (fun hh => hh.elim h0 h1), (e15 h).trans rfl, fun k x hk _ _ => ?_⟩
    have hk := hk hw
    rw [ek]
    by_cases k2 : k = 2
    · rw [if_pos k2, pw (by omega) (by omega) (by omega), k2]
    · rw [if_neg k2]
      by_cases k1 : k = 1
      · rw [if_pos k1, upd_s, if_neg (by omega), k1]
      · rw [if_neg k1]
  split at h
  · rename_i q
    obtain ⟨b1, b2, b3⟩ := h13 (wpl_b (Or.inl q))
    have hw := wpl_a (Or.inr (Or.inl q))
    clear hob hvb hvr hex h13
    unfold dsS at h
    obtain ⟨c1, c2, c3, c4⟩ := one (by omega) h
    refine ⟨c1, c2, c3, fun k x hk _ _ => c4 k x fun e => ?_⟩
    have hk := hk hw
    rw [b1, pw (by omega) (by omega) (by omega)]
  split at h
  · rename_i q
    obtain ⟨b1, b2, b3⟩ := h13 (wpl_b (Or.inr (Or.inl q)))
    have hw := wpl_a (Or.inr (Or.inr (Or.inl q)))
    clear hob hvb hvr hex h13
    unfold IWtrait at h
    obtain ⟨c1, c2, c3, c4⟩ := one (by omega) h
    refine ⟨c1, c2, c3, fun k x hk _ _ => c4 k x fun e => ?_⟩
    have hk := hk hw
    rw [b1, pw (by omega) (by omega) (by omega)]
  split at h
  · rename_i q
    obtain ⟨b1, b2, b3⟩ := h13 (wpl_b (Or.inr (Or.inr (Or.inl q))))
    have hw := wpl_a (Or.inr (Or.inr (Or.inr (Or.inl q))))

    have hx := hex q
    clear hob hvb hvr hex h13
    unfold exS at h
    obtain ⟨c1, c2, c3, c4⟩ := one (by omega) h
    refine ⟨c1, c2, c3, fun k x hk _ _ => c4 k x fun e => ?_⟩
    have hk := hk hw
    rw [b1, show (J (n : Nat) * 6 + J (kd (t + 1)) - 200 : Int32) = J ((6 * n + (kd (t + 1) - 200).toNat : Nat) : Int) by rw [show (6 : Int32) = J 6 from rfl, show (200 : Int32) = J 200 from rfl, J_mul, J_add, J_sub]; congr 1; omega, pw (by omega) (by omega) (by omega)]
  split at h
  · rename_i q
    obtain ⟨b1, b2, b3⟩ := h13 (wpl_b (Or.inr (Or.inr (Or.inr (Or.inl q)))))
    have hw := wpl_a (Or.inr (Or.inr (Or.inr (Or.inr (Or.inl q)))))
    clear hob hvb hvr hex h13
    unfold inS at h
    obtain ⟨c1, c2, c3, c4⟩ := one (by omega) h
    refine ⟨c1, c2, c3, fun k x hk _ _ => c4 k x fun e => ?_⟩
    have hk := hk hw
    rw [b1, pw (by omega) (by omega) (by omega)]
  split at h
  · rename_i q
    obtain ⟨b1, b2, b3⟩ := h13 (wpl_b (Or.inr (Or.inr (Or.inr (Or.inr q)))))
    have hw := wpl_a (Or.inr (Or.inr (Or.inr (Or.inr (Or.inr q)))))
    clear hob hvb hvr hex h13
    obtain ⟨o, E, o1, o2, o3, o4, o5⟩ := h
    have eo : o = n := by
      rw [b1, J_eq (by omega) (by omega) (by omega) (by omega)] at o3; omega
    subst eo
    obtain ⟨a1, a2, a3⟩ := OWN_slot ⟨o1, by omega⟩ hten o4
    obtain ⟨f1, f2⟩ := OWN_fr o4
    have er : E 3 = Γ 3 := by
      obtain ⟨c, K, -, -, rfl, rfl, h⟩ := o4
      have : ∀ e, e ≤ c → K e 3 = K 0 3 := by
        intro e
        induction e with
        | zero => intro _; rfl
        | succ e ih => intro he; rw [(AWR_D (h e (by omega))).2 3 (by omega) (by omega), ih (by omega)]
      exact this c (Nat.le_refl _)
    have e4 := o5.1 4 (by omega)
    refine ⟨TEN_4 a1 (by rw [e4]), fun _ _ => by rw [e13 o5, er], by rw [e15 o5, er], fun k x hk _ _ => ?_⟩
    have hk := hk hw
    rw [e4]
    by_cases k9 : k = 9
    · rw [k9]; exact a2 x (by omega)
    by_cases k10 : k = 10
    · rw [k10]; exact a3 x (by omega)
    · rw [f1 k k9 k10]
  split at h
  · rename_i q
    obtain ⟨b1, b2, b3⟩ := hvb q
    clear hob hvb hvr hex h13
    rw [b1] at h
    obtain ⟨E, ⟨F, c, -, -, o4, g3⟩, o5⟩ := h
    obtain ⟨a1, a2, a3⟩ := OWN_slot ⟨by omega, by omega⟩ hten o4
    obtain ⟨f1, f2⟩ := OWN_fr o4
    obtain ⟨f1', f2'⟩ := JNT_fr g3
    have e8 : ∀ x, x ≠ n → (E 4).2.1 8 x = (F 4).2.1 8 x := by
      intro x hx
      unfold JNT at g3
      by_cases q : kd (t + 2 + 2 * c - 1) = 215
      · rw [if_pos q] at g3
        obtain ⟨-, W, V, m, -, -, -, h⟩ := g3
        rw [h, cA4, if_pos rfl, pw (by omega) (by omega) hx]
      · rw [if_neg q] at g3; rw [g3]
    have er : E 3 = Γ 3 := by
      have e1 : E 3 = F 3 := by
        unfold JNT at g3
        by_cases q : kd (t + 2 + 2 * c - 1) = 215
        · rw [if_pos q] at g3; exact g3.1 3 (by omega) (by omega)
        · rw [if_neg q] at g3; rw [g3]
      rw [e1]
      obtain ⟨c, K, -, -, rfl, rfl, h⟩ := o4
      have : ∀ e, e ≤ c → K e 3 = K 0 3 := by
        intro e
        induction e with
        | zero => intro _; rfl
        | succ e ih => intro he; rw [(AWR_D (h e (by omega))).2 3 (by omega) (by omega), ih (by omega)]
      exact this c (Nat.le_refl _)
    have e4 := o5.1 4 (by omega)
    refine ⟨TEN_4 a1 (by rw [e4, f1' 10 (by omega)]), fun _ _ => by rw [e13 o5, er], by rw [e15 o5, er], fun k x _ hk _ => ?_⟩
    have hk := hk q
    rw [e4]
    by_cases k8 : k = 8
    · rw [k8, e8 x (by omega), f1 8 (by omega) (by omega)]
    rw [f1' k k8]
    by_cases k9 : k = 9
    · rw [k9]; exact a2 x (by omega)
    by_cases k10 : k = 10
    · rw [k10]; exact a3 x (by omega)
    · rw [f1 k k9 k10]
  split at h
  · rename_i q
    obtain ⟨b1, b2⟩ := hvr q
    clear hob hvb hvr hex h13
    rw [b1] at h
    unfold vrS at h
    obtain ⟨c1, c2, c3, c4⟩ := one (by omega) h
    refine ⟨c1, c2, c3, fun k x _ _ hk => c4 k x fun e => ?_⟩
    have hk := hk q
    rw [pw (by omega) (by omega) (by omega)]
  · have e4 := h.1 4 (by omega)
    exact ⟨TEN_4 hten (by rw [e4]), fun _ _ => e13 h, e15 h, fun k x _ _ _ => by rw [e4]⟩
