/-! sound: what the class looks at is so -/
/-- how many of 1 .. m are in h -/
def cntP (P : Nat → Bool) : Nat → Nat
  | 0 => 0
  | m + 1 => cntP P m + if P (m + 1) = true then 1 else 0
theorem cnt_len (P : Nat → Bool) : ∀ (m : Nat) (l : List Nat), l.Nodup → (∀ x, x ∈ l ↔ 1 ≤ x ∧ x ≤ m ∧ P x = true) → l.length = cntP P m := by
  intro m
  induction m with
  | zero =>
    intro l _ h
    cases l with
    | nil => rfl
    | cons a l => have := (h a).mp (List.mem_cons_self ..); omega
  | succ m ih =>
    intro l hn h
    show l.length = cntP P m + if P (m + 1) = true then 1 else 0
    by_cases q : P (m + 1) = true
    · have hm : m + 1 ∈ l := (h (m + 1)).mpr ⟨by omega, by omega, q⟩
      have e := ih (l.erase (m + 1)) (hn.erase _) (fun x => by
        rw [hn.mem_erase_iff, h x]
        exact ⟨fun ⟨a, b, c, d⟩ => ⟨b, by omega, d⟩, fun ⟨a, b, c⟩ => ⟨by omega, a, by omega, c⟩⟩)
      rw [List.length_erase_of_mem hm] at e
      have p : 0 < l.length := List.length_pos_of_mem hm
      rw [if_pos q]; omega
    · rw [if_neg q]
      exact ih l hn (fun x => by
        rw [h x]
        exact ⟨fun ⟨a, b, c⟩ => ⟨a, by
          rcases Nat.lt_or_ge x (m + 1) with r | r
          · omega
          · exact absurd (by rw [show m + 1 = x by omega]; exact c) q, c⟩, fun ⟨a, b, c⟩ => ⟨a, by omega, c⟩⟩)
/-- how many hang below 1 .. k -/
def sumC (ch : Nat → List Nat) : Nat → Nat
  | 0 => 0
  | k + 1 => sumC ch k + (ch (k + 1)).length
def sumP (pa : Nat → Nat) (m : Nat) : Nat → Nat
  | 0 => 0
  | k + 1 => sumP pa m k + cntP (fun x => decide (pa x = k + 1)) m
theorem sumP_m {pa : Nat → Nat} : ∀ (k m : Nat), sumP pa m k = cntP (fun x => decide (1 ≤ pa x ∧ pa x ≤ k)) m := by
  intro k
  induction k with
  | zero =>
    intro m
    induction m with
    | zero => rfl
    | succ m ih =>
      show 0 = cntP _ m + _
      rw [← ih]
      rw [if_neg (by simp; omega)]; rfl
  | succ k ih =>
    intro m
    show sumP pa m k + cntP (fun x => decide (pa x = k + 1)) m = _
    rw [ih m]
    induction m with
    | zero => rfl
    | succ m im =>
      show (cntP _ m + _) + (cntP _ m + _) = cntP _ m + _
      rw [← im]
      simp only [decide_eq_true_eq]
      by_cases q1 : pa (m + 1) = k + 1
      · rw [if_neg (by omega), if_pos q1, if_pos (by omega)]; omega
      · by_cases q2 : 1 ≤ pa (m + 1) ∧ pa (m + 1) ≤ k
        · rw [if_pos q2, if_neg q1, if_pos (by omega)]; omega
        · rw [if_neg q2, if_neg q1, if_neg (by omega)]; omega
theorem sumC_P {n : Nat} {pa fi nx : Nat → Nat} {ch : Nat → List Nat} (t : TR n pa fi nx ch) : ∀ k, k ≤ n → sumC ch k = sumP pa n k := by
  intro k
  induction k with
  | zero => intro _; rfl
  | succ k ih =>
    intro hk
    show sumC ch k + (ch (k + 1)).length = sumP pa n k + _
    rw [ih (by omega), cnt_len (fun x => decide (pa x = k + 1)) n (ch (k + 1)) (t.2.1 (k + 1) (by omega) hk).2 (fun x => by rw [t.2.2.1 (k + 1) x (by omega) hk, decide_eq_true_eq])]
/-- as many hang somewhere as are somewhere -/
theorem TR_cnt {n : Nat} {pa fi nx : Nat → Nat} {ch : Nat → List Nat} (t : TR n pa fi nx ch) : sumC ch n = cntP (fun x => decide (pa x ≠ 0)) n := by
  rw [sumC_P t n (Nat.le_refl _), sumP_m]
  congr 1
  funext x
  have := t.2.2.2.1 x
  rw [decide_eq_decide]; omega
theorem sumC_le {n : Nat} {pa fi nx : Nat → Nat} {ch : Nat → List Nat} (t : TR n pa fi nx ch) : ∀ k, k ≤ n → sumC ch k ≤ 120 * k := by
  intro k
  induction k with
  | zero => intro _; exact Nat.le_refl _
  | succ k ih =>
    intro hk
    have a := ih (by omega)
    have b := TR_len t (k := k + 1) (by omega) hk
    have c := t.1
    show sumC ch k + (ch (k + 1)).length ≤ _
    omega
theorem cntP_le (P : Nat → Bool) : ∀ m, cntP P m ≤ m := by
  intro m
  induction m with
  | zero => exact Nat.le_refl _
  | succ m ih =>
    show cntP P m + _ ≤ _
    split <;> omega
theorem c_endsAbove {n : Nat} {pa fi nx : Nat → Nat} {ch : Nat → List Nat} (t : TR n pa fi nx ch) {Γ : HS} (hC : CTr Γ pa fi nx) {x : Nat} (hx : x ≤ n) : F_X6_endsAbove (J (x : Nat)) Γ = some ((1 : Int32), Γ) := by
  have hn := t.1
  have key : Ok (F_X6_endsAbove (J (x : Nat)) Γ) (fun u => u = ((1 : Int32), Γ)) := by
    unfold F_X6_endsAbove
    refine Ok_loop (P := fun s k => ∃ y c : Nat, s = (J (y : Nat), J (c : Nat), Γ) ∧ y ≤ n ∧ c + k = 121 ∧ upP pa k y = 0) ?_ FU _ 121 (FU_gt (by omega)) ⟨x, 0, rfl, hx, by omega, by
      have e := TR_up t hx
      rw [show 121 = n + (121 - n) by omega, upP_ad, e, upP_z t.2.2.2.2.1.1]⟩
    rintro again s k ⟨y, c, rfl, h1, h2, h3⟩ ih
    dsimp only
    refine Ok_bnd ?_
    refine Ok_ite (fun q => ?_) (fun q => ?_)
    · rw [show (120 : Int32) = J ((120 : Nat) : Int) from rfl, J_ltN (by omega) (by omega)] at q
      obtain rfl : k = 0 := by omega
      have e : y = 0 := h3
      rw [e]
      exact Ok_pos rfl (Ok_some rfl)
    · rw [show (120 : Int32) = J ((120 : Nat) : Int) from rfl, J_ltN (by omega) (by omega)] at q
      refine Ok_ite (fun z => ?_) (fun z => ?_)
      · exact Ok_pos z (Ok_some rfl)
      · refine Ok_bnd ?_
        refine Ok_bnd ?_
        rw [q_g_at_in (by omega) (by omega) (by omega), Int.toNat_natCast, (hC y (by omega)).1, J_suc]
        obtain ⟨k, rfl⟩ : ∃ j, k = j + 1 := ⟨k - 1, by omega⟩
        exact ih _ k (by omega) ⟨pa y, c + 1, rfl, t.2.2.2.1 y, by omega, h3⟩
  obtain ⟨u, hu, rfl⟩ := key
  exact hu
theorem c_isTree {n : Nat} {pa fi nx : Nat → Nat} {ch : Nat → List Nat} (t : TR n pa fi nx ch) {Γ : HS} (hC : CTr Γ pa fi nx) : F_X6_isTree (J (n : Nat)) Γ = some ((1 : Int32), Γ) := by
  have hn := t.1
  have key : Ok (F_X6_isTree (J (n : Nat)) Γ) (fun u => u = ((1 : Int32), Γ)) := by
    unfold F_X6_isTree
    refine Ok_loop (P := fun s k => ∃ i : Nat, s = (J (cntP (fun x => decide (pa x ≠ 0)) i : Nat), J (sumC ch i : Nat), J (i + 1 : Nat), Γ) ∧ i + k = n) ?_ FU _ n (FU_gt (by omega)) ⟨0, rfl, by omega⟩
    rintro again s k ⟨i, rfl, hi⟩ ih
    dsimp only
    refine Ok_bnd ?_
    refine Ok_ite (fun q => ?_) (fun q => ?_)
    · rw [J_ltN (by omega) (by omega)] at q
      obtain rfl : i = n := by omega
      exact Ok_pos (by rw [TR_cnt t]) (Ok_some rfl)
    rw [J_ltN (by omega) (by omega)] at q
    refine Ok_neg (by rw [show (120 : Int32) = J ((120 : Nat) : Int) from rfl, J_ltN (by omega) (by omega)]; omega) ?_
    have c1 := hC (i + 1) (by omega)
    have p1 := t.2.2.2.1 (i + 1)
    have s1 := sumC_le t i (by omega)
    have s2 := cntP_le (fun x => decide (pa x ≠ 0)) i
    have l1 := TR_len t (k := i + 1) (by omega) (by omega)
    obtain ⟨k, rfl⟩ : ∃ j, k = j + 1 := ⟨k - 1, by omega⟩
    have go : ∀ b : Nat, cntP (fun x => decide (pa x ≠ 0)) i + b = cntP (fun x => decide (pa x ≠ 0)) (i + 1) → Ok ((fun (t_20 : Int32) (σ_21 : HS) => (bnd ((J (cntP (fun x => decide (pa x ≠ 0)) i : Nat) + t_20)) fun (x_25 : Int32) => bnd ((g_at 121 ((σ_21 9).2.1 0) (J (i + 1 : Nat)))) fun (x_27 : Int32) => if J (n : Nat) < x_27 then some (0, σ_21) else (F_X6_endsAbove (J (i + 1 : Nat)) σ_21).bind fun u_32 => if u_32.1 = 0 then some (0, u_32.2) else bnd ((g_at 121 ((u_32.2 9).2.1 1) (J (i + 1 : Nat)))) fun (x_37 : Int32) => loopF (fun (again_40 : (Int32 × Int32 × Int32 × HS) → HR) (s_39 : Int32 × Int32 × Int32 × HS) => (bnd (fun  (σ_43 : HS) => (if s_39.2.1 = 0 then bnd (J (i + 1 : Nat) + 1) fun (x_49 : Int32) => again (x_25, s_39.1, x_49, σ_43) else some (0, σ_43)) : HS → HR) fun j_44 => if J (n : Nat) ≤ s_39.2.2.1 then j_44 s_39.2.2.2 else if s_39.2.1 = 0 then j_44 s_39.2.2.2 else bnd ((g_at 121 ((s_39.2.2.2 9).2.1 0) s_39.2.1)) fun (x_58 : Int32) => if x_58 = J (i + 1 : Nat) then bnd (s_39.1 + 1) fun (x_62 : Int32) => bnd ((g_at 121 ((s_39.2.2.2 9).2.1 2) s_39.2.1)) fun (x_64 : Int32) => bnd (s_39.2.2.1 + 1) fun (x_66 : Int32) => again_40 (x_62, x_64, x_66, s_39.2.2.2) else some (0, s_39.2.2.2))) FU (J (sumC ch i : Nat), x_37, 0, u_32.2)) : Int32 → HS → HR) (J (b : Nat)) Γ) (fun u => u = ((1 : Int32), Γ)) := by
      intro b hb
      dsimp only
      rw [J_add, show ((cntP (fun x => decide (pa x ≠ 0)) i : Int) + (b : Int)) = ((cntP (fun x => decide (pa x ≠ 0)) (i + 1) : Nat) : Int) by omega]
      refine Ok_bnd ?_
      refine Ok_bnd ?_
      rw [q_g_at_in (by omega) (by omega) (by omega), Int.toNat_natCast, c1.1]
      refine Ok_neg (by rw [J_ltN (by omega) (by omega)]; omega) ?_
      rw [c_endsAbove t hC (by omega), Option.bind_some]
      dsimp only
      refine Ok_neg (by decide) ?_
      refine Ok_bnd ?_
      rw [q_g_at_in (by omega) (by omega) (by omega), Int.toNat_natCast, c1.2.1]
      refine Ok_loop (P := fun s k => ∃ (l : List Nat) (f c : Nat), s = (J (sumC ch i + c : Nat), J (f : Nat), J (c : Nat), Γ) ∧ chL nx l f ∧ c + l.length = (ch (i + 1)).length ∧ k = l.length ∧ ∀ a, a ∈ l → 1 ≤ a ∧ a ≤ n ∧ pa a = i + 1) ?_ FU _ (ch (i + 1)).length (FU_gt (by omega)) ⟨ch (i + 1), fi (i + 1), 0, rfl, (t.2.1 (i + 1) (by omega) (by omega)).1, by omega, rfl, fun a ha => (t.2.2.1 (i + 1) a (by omega) (by omega)).mp ha⟩
      rintro ag s kk ⟨l, f, c, rfl, h1, h2, h3, h4⟩ ii
      dsimp only
      refine Ok_bnd ?_
      cases l with
      | nil =>
        have e : f = 0 := h1
        have e2 : c = (ch (i + 1)).length := h2
        have fin : Ok (if J (f : Nat) = 0 then bnd (J (i + 1 : Nat) + 1) fun (x_49 : Int32) => again (J (cntP (fun x => decide (pa x ≠ 0)) (i + 1) : Nat), J (sumC ch i + c : Nat), x_49, Γ) else some (0, Γ)) (fun u => u = ((1 : Int32), Γ)) := by
          refine Ok_pos (by rw [e]; rfl) ?_
          refine Ok_bnd ?_
          rw [J_suc]
          exact ih _ k (by omega) ⟨i + 1, by rw [e2]; rfl, by omega⟩
        refine Ok_ite (fun _ => fin) (fun _ => ?_)
        exact Ok_pos (by rw [e]; rfl) fin
      | cons a l =>
        obtain ⟨e1, e2, e3⟩ := h1
        have e4 : c + (l.length + 1) = (ch (i + 1)).length := h2
        have ha := h4 a (List.mem_cons_self ..)
        subst e1
        have ca := hC f (by omega)
        refine Ok_neg (by rw [J_leN (by omega) (by omega)]; omega) ?_
        refine Ok_neg (by rw [J_z0 (by omega)]; exact e2) ?_
        refine Ok_bnd ?_
        rw [q_g_at_in (by omega) (by omega) (by omega), Int.toNat_natCast, ca.1, ha.2.2]
        refine Ok_pos rfl ?_
        refine Ok_bnd ?_
        refine Ok_bnd ?_
        refine Ok_bnd ?_
        rw [q_g_at_in (by omega) (by omega) (by omega), Int.toNat_natCast, ca.2.2, J_suc, J_suc]
        exact ii _ l.length (by rw [h3]; exact Nat.lt_succ_self _) ⟨l, nx f, c + 1, rfl, e3, by omega, rfl, fun b hb => h4 b (List.mem_cons_of_mem _ hb)⟩
    refine Ok_bnd ?_
    rw [q_g_at_in (by omega) (by omega) (by omega), Int.toNat_natCast, c1.1]
    refine Ok_bnd ?_
    refine Ok_ite (fun z => ?_) (fun z => ?_)
    · rw [J_z0 (by omega)] at z
      exact go 0 (by show _ = cntP _ i + _; rw [if_neg (by simp [z])])
    · rw [J_z0 (by omega)] at z
      exact go 1 (by show _ = cntP _ i + _; rw [if_pos (by simp [z])])
  obtain ⟨u, hu, rfl⟩ := key
  exact hu
theorem lgJ_lt {a b : Int} (h1 : 0 ≤ a) (h2 : a < 9223372036854775808) (h3 : 0 ≤ b) (h4 : b < 9223372036854775808) (h : a < b) : lg_cmp (L64 a) (L64 b) < 0 := by
  have e2 : (L64 a = L64 b) = (a = b) := by rw [← Int64.toInt_inj, L_toInt (by omega) h2, L_toInt (by omega) h4]
  have e3 : (L64 a > L64 b) = (b < a) := by show (L64 b < L64 a) = _; rw [Int64.lt_iff_toInt_lt, L_toInt (by omega) h2, L_toInt (by omega) h4]
  unfold lg_cmp
  rw [if_neg (by rw [e3]; omega), if_neg (by rw [e2]; omega)]
  decide
theorem c_inOrder {Γ : HS} {W : List Int} (h : DOK Γ W) : F_X1_isInOrder Γ = some ((1 : Int32), Γ) := by
  obtain ⟨p, h⟩ := h
  obtain ⟨a1, a2, a3, a4, a5, a6⟩ := id h
  have key : Ok (F_X1_isInOrder Γ) (fun u => u = ((1 : Int32), Γ)) := by
    unfold F_X1_isInOrder
    refine Ok_loop (P := fun s k => ∃ i : Nat, s = (J (i + 1 : Nat), Γ) ∧ i + k = 2000) ?_ FU _ 2000 (FU_gt (by omega)) ⟨0, rfl, by omega⟩
    rintro again s k ⟨i, rfl, hi⟩ ih
    dsimp only
    rw [a1]
    refine Ok_ite (fun q => Ok_some rfl) (fun q => ?_)
    rw [J_leN (by omega) (by omega)] at q
    obtain ⟨b1, b2, b3⟩ := a4 i (by omega)
    obtain ⟨c1, c2, c3⟩ := a4 (i + 1) (by omega)
    rw [show J (i + 1 : Nat) - 1 = J (i : Nat) by rw [show (1 : Int32) = J 1 from rfl, J_sub]; congr 1; omega, d_termAt h (by omega), Option.bind_some]
    dsimp only
    rw [d_termAt h (by omega), Option.bind_some]
    dsimp only
    refine Ok_bnd ?_
    refine Ok_pos (lgJ_lt (a3 _ b1).1 (a3 _ b1).2 (a3 _ c1).1 (a3 _ c1).2 (a5 i (i + 1) (by omega) (by omega))) ?_
    refine Ok_bnd ?_
    rw [J_suc]
    obtain ⟨k, rfl⟩ : ∃ j, k = j + 1 := ⟨k - 1, by omega⟩
    exact ih _ k (by omega) ⟨i + 1, rfl, by omega⟩
  obtain ⟨u, hu, rfl⟩ := key
  exact hu
theorem c_waits {Γ : HS} (h : WAI Γ) : F_X3_waits Γ = some ((1 : Int32), Γ) := by
  obtain ⟨h1, h2, h3, h4⟩ := h
  unfold F_X3_waits
  rw [if_neg h1, if_pos h2, if_pos h3, if_pos h4]
