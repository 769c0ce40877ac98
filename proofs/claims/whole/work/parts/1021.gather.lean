/-! the class gathers what items tell: the words -/
variable {T N : Nat} {kd vl rv : Nat → Int} {pl : Nat → Nat}
/-- what stands in the table of places: t n for the name with number n -/
def gaT (kd vl : Nat → Int) (c : Nat) (is : Nat → Nat) (i : Nat) (t : Nat → Nat) : Prop := (∀ n, n < 4500 → (t n = 0 ↔ 1 ≤ vof n)) ∧ (∀ n, n < 4500 → t n = 0 ∨ t n = 16001 ∨ ∃ z, z < c ∧ kd (is z) ≤ 235 ∧ is z < i ∧ t n = is z + 1 ∧ (vl (is z + 1)).toNat = n) ∧ ∀ z, z < c → is z < i → kd (is z) ≤ 235 → t (vl (is z + 1)).toNat ≤ is z + 1
theorem gaT_2 {c i n : Nat} {is t : Nat → Nat} (h : t n = 0 ∨ t n = 16001 ∨ ∃ z, z < c ∧ kd (is z) ≤ 235 ∧ is z < i ∧ t n = is z + 1 ∧ (vl (is z + 1)).toNat = n) : t n = 0 ∨ t n = 16001 ∨ ∃ z, z < c ∧ kd (is z) ≤ 235 ∧ is z < i + 1 ∧ t n = is z + 1 ∧ (vl (is z + 1)).toNat = n := by
  rcases h with h | h | ⟨y, y1, y2, y3, y4⟩
  · exact Or.inl h
  · exact Or.inr (Or.inl h)
  · exact Or.inr (Or.inr ⟨y, y1, y2, by omega, y4⟩)
theorem gb_loop (hT : TKE T N kd vl rv pl) {Γ : HS} {c : Nat} {is : Nat → Nat} (hc : TKc N kd vl pl Γ) (hit : ∀ i, i < N → 230 ≤ kd i → kd i ≤ 235 → ∃ z, z < c ∧ i = is z) (hge : ∀ z, z < c → 230 ≤ kd (is z)) (hk2 : ∀ z, z < c → kd (is z) ≤ 235 → kd (is z + 1) = 2 ∧ is z + 1 ≤ T) (t3 t4 t5 : Nat → Int32) : ∀ (d i n : Nat) (t2 : Nat → Int32) (t : Nat → Nat), i + d = N → d < n → (∀ n, n < 4500 → t2 n = J (t n : Nat)) → gaT kd vl c is i t → ∃ (t2' : Nat → Int32) (t' : Nat → Nat), loopF Gb1 n (J (i : Nat), gaS Γ t2 t3 t4 t5) = some ((0 : Int32), gaS Γ t2' t3 t4 t5) ∧ (∀ n, n < 4500 → t2' n = J (t' n : Nat)) ∧ gaT kd vl c is N t' := by
  obtain ⟨n1, n2, n3, n4⟩ := TKE_N hT
  intro d
  induction d with
  | zero =>
    intro i n t2 t hi hn h2 ht
    obtain ⟨n, rfl⟩ : ∃ e, n = e + 1 := ⟨n - 1, by omega⟩
    refine ⟨t2, t, ?_, h2, by rw [← show i = N by omega]; exact ht⟩
    rw [Gb1_s, if_pos (by show (Γ 1).1 2 ≤ _; rw [hc.1, J_le (by omega) (by omega) (by omega) (by omega)]; omega)]
  | succ d ih =>
    intro i n t2 t hi hn h2 ht
    obtain ⟨n, rfl⟩ : ∃ e, n = e + 1 := ⟨n - 1, by omega⟩
    have hcΔ : ∀ t2 : Nat → Int32, TKc N kd vl pl (gaS Γ t2 t3 t4 t5) := fun t2 => hc
    have hkr := kd_le hT (show i < N by omega)
    obtain ⟨v, hv⟩ := c_worthAny hT (hcΔ t2) (i := i + 1) (by omega)
    have e1 : J (i : Nat) + 1 = J (i + 1 : Nat) := by rw [J_lit, J_add]; rfl
    rw [Gb1_s, if_neg (by show ¬ (Γ 1).1 2 ≤ _; rw [hc.1, J_le (by omega) (by omega) (by omega) (by omega)]; omega), c_kindOf hT (hcΔ t2) (show i < N by omega), Option.bind_some]
    simp only [bndE]
    rw [mrg1_id, e1, hv, Option.bind_some]
    dsimp only
    rw [mrg1_id]
    by_cases q : 230 ≤ kd i ∧ kd i ≤ 235
    · obtain ⟨z, z1, z2⟩ := hit i (by omega) q.1 q.2
      obtain ⟨k2, k3⟩ := hk2 z z1 (by rw [← z2]; exact q.2)
      rw [← z2] at k2 k3
      have hvl := SC_vl hT k3 k2
      have ev : v = J (vl (i + 1)) := by
        have := c_worthOf hT (hcΔ t2) (show i + 1 < N by omega)
        rw [hv] at this
        exact congrArg Prod.fst (Option.some.inj this)
      rw [if_neg (by rw [show (230 : Int32) = J 230 from rfl, J_lt (by omega) (by omega) (by omega) (by omega)]; omega), if_neg (by rw [show (235 : Int32) = J 235 from rfl, J_lt (by omega) (by omega) (by omega) (by omega)]; omega), ev, show ((gaS Γ t2 t3 t4 t5) 3).2.1 2 = t2 from rfl, q_g_at_in (n := 4500) (i := vl (i + 1)) (by omega) (by omega) (by omega), h2 _ (by omega)]
      have hb : t (vl (i + 1)).toNat ≤ 16001 := by
        rcases ht.2.1 (vl (i + 1)).toNat (by omega) with h | h | ⟨y, y1, y2, y0, y3, -⟩
        · omega
        · omega
        · have := (hk2 y y1 y2).2; omega
      by_cases q2 : t (vl (i + 1)).toNat = 16001
      · rw [if_pos (by rw [q2]; rfl), q_g_put_in (n := 4500) (i := vl (i + 1)) (by omega) (by omega) (by omega), gaS_2]
        refine ih (i + 1) n _ (fun n => if n = (vl (i + 1)).toNat then i + 1 else t n) (by omega) (by omega) (fun n hn => ?_) ⟨fun n hn => ?_, fun n hn => ?_, fun y y1 y2 y3 => ?_⟩
        · rw [upd_s]
          by_cases q3 : n = (vl (i + 1)).toNat
          · rw [if_pos q3, if_pos q3]
          · rw [if_neg q3, if_neg q3]; exact h2 n hn
        · dsimp only
          by_cases q3 : n = (vl (i + 1)).toNat
          · rw [if_pos q3]
            have := ht.1 n hn
            rw [q3] at this ⊢
            omega
          · rw [if_neg q3]; exact ht.1 n hn
        · dsimp only
          by_cases q3 : n = (vl (i + 1)).toNat
          · rw [if_pos q3]; exact Or.inr (Or.inr ⟨z, z1, by rw [← z2]; exact q.2, by omega, by omega, by rw [← z2]; exact q3.symm⟩)
          · rw [if_neg q3]
            rcases ht.2.1 n hn with h | h | ⟨y, y1, y2, y3, y4⟩
            · exact Or.inl h
            · exact Or.inr (Or.inl h)
            · exact Or.inr (Or.inr ⟨y, y1, y2, by omega, y4⟩)
        · dsimp only
          by_cases q3 : (vl (is y + 1)).toNat = (vl (i + 1)).toNat
          · rw [if_pos q3]
            by_cases q4 : is y < i
            · have := ht.2.2 y y1 q4 y3
              rw [q3] at this
              have := (hk2 y y1 y3).2
              omega
            · omega
          · rw [if_neg q3]
            have : is y ≠ i := fun e => q3 (by rw [e])
            exact ht.2.2 y y1 (by omega) y3
      · rw [if_neg (by rw [show (16001 : Int32) = J 16001 from rfl, J_eq (by omega) (by omega) (by omega) (by omega)]; omega)]
        refine ih (i + 1) n t2 t (by omega) (by omega) h2 ⟨ht.1, fun n hn => gaT_2 (ht.2.1 n hn), fun y y1 y2 y3 => ?_⟩
        by_cases q4 : is y < i
        · exact ht.2.2 y y1 q4 y3
        · have q5 : is y = i := by omega
          rw [q5]
          rcases ht.2.1 (vl (i + 1)).toNat (by omega) with h | h | ⟨x, x1, x2, x3, x4⟩
          · omega
          · exact absurd h q2
          · have := x4.1; have := x3; omega
    · have key : ∀ X : HR, (if J (kd i) < 230 then loopF Gb1 n (J (i + 1 : Nat), gaS Γ t2 t3 t4 t5) else if 235 < J (kd i) then loopF Gb1 n (J (i + 1 : Nat), gaS Γ t2 t3 t4 t5) else X) = loopF Gb1 n (J (i + 1 : Nat), gaS Γ t2 t3 t4 t5) := by
        intro X
        by_cases q1 : kd i < 230
        · rw [if_pos (by rw [show (230 : Int32) = J 230 from rfl, J_lt (by omega) (by omega) (by omega) (by omega)]; omega)]
        · rw [if_neg (by rw [show (230 : Int32) = J 230 from rfl, J_lt (by omega) (by omega) (by omega) (by omega)]; omega), if_pos (by rw [show (235 : Int32) = J 235 from rfl, J_lt (by omega) (by omega) (by omega) (by omega)]; omega)]
      rw [key]
      refine ih (i + 1) n t2 t (by omega) (by omega) h2 ⟨ht.1, fun n hn => gaT_2 (ht.2.1 n hn), fun y y1 y2 y3 => ht.2.2 y y1 ?_ y3⟩
      by_cases q4 : is y < i
      · exact q4
      · exfalso
        have q5 : is y = i := by omega
        exact q ⟨by rw [← q5]; exact hge y y1, by rw [← q5]; exact y3⟩
