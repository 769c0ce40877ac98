/-! whether there is a room, and no thing is in itself: the reference -/
variable {T N : Nat} {kd vl rv : Nat → Int} {pl : Nat → Nat}
def Ho4 (again16 : Int32 × MS → MR) (i : Int32) : (Int32 × Int32 × MS → MR) → Int32 × Int32 × MS → MR := fun again_29 s_28 => bnd (fun (σ_32 : MS) => (if s_28.1 ≤ 0 then bnd (i + 1) fun (x_38 : Int32) => again16 (x_38, σ_32) else some (0, σ_32) : MR)) fun j_33 => if (s_28.2.2.1 35) < s_28.2.1 then j_33 s_28.2.2 else if s_28.1 ≤ 0 then j_33 s_28.2.2 else if s_28.1 < 0 ∨ 130 ≤ s_28.1.toNatClampNeg then none else bnd ((s_28.2.2.2 85 s_28.1.toNatClampNeg)) fun (x_49 : Int32) => bnd (s_28.2.1 + 1) fun (x_51 : Int32) => again_29 (x_49, x_51, s_28.2.2)
def Ho3 (r : Int32) : (Int32 × MS → MR) → Int32 × MS → MR := fun again_16 s_15 => if (s_15.2.1 35) < s_15.1 then (if ¬ (r = 0 ∨ r = 1) then none else some (r, s_15.2)) else if s_15.1 < 0 ∨ 130 ≤ s_15.1.toNatClampNeg then none else bnd ((s_15.2.2 85 s_15.1.toNatClampNeg)) fun (x_26 : Int32) => loopF (Ho4 again_16 s_15.1) FU (x_26, 0, s_15.2)
def Ho2 : (Int32 × Int32 × MS → MR) → Int32 × Int32 × MS → MR := fun again_10 s_9 => if s_9.2.1 < 0 then loopF (Ho3 s_9.1) FU (1, s_9.2.2) else if s_9.2.1 < 0 ∨ 40000 ≤ s_9.2.1.toNatClampNeg then none else bnd (fun (t_56 : Int32) (σ_57 : MS) => (bnd ((s_9.1 ||| t_56)) fun (x_61 : Int32) => if s_9.2.1 < 0 ∨ 40000 ≤ s_9.2.1.toNatClampNeg then none else bnd (fun (σ_65 : MS) => (if s_9.2.1 < 0 ∨ 40000 ≤ s_9.2.1.toNatClampNeg then none else bnd ((σ_65.2 22 s_9.2.1.toNatClampNeg)) fun (x_71 : Int32) => again_10 (x_61, x_71, σ_65) : MR)) fun j_66 => if (σ_57.2 17 s_9.2.1.toNatClampNeg) = 2 then (if s_9.2.1 < 0 ∨ 40000 ≤ s_9.2.1.toNatClampNeg then none else bnd ((σ_57.2 19 s_9.2.1.toNatClampNeg)) fun (x_77 : Int32) => if x_77 < 0 ∨ 40000 ≤ x_77.toNatClampNeg then none else bnd ((σ_57.2 19 x_77.toNatClampNeg)) fun (x_81 : Int32) => if x_81 < 0 ∨ 8000 ≤ x_81.toNatClampNeg then none else (F_X12_toldPlace s_9.2.1 σ_57).bind fun u_85 => if (σ_57.2 29 x_81.toNatClampNeg) < 0 ∨ 130 ≤ (σ_57.2 29 x_81.toNatClampNeg).toNatClampNeg then none else bnd (mA u_85.2 85 (upd (u_85.2.2 85) (σ_57.2 29 x_81.toNatClampNeg).toNatClampNeg u_85.1)) fun σ_89 => j_66 σ_89) else j_66 σ_57 : MR)) fun j_58 => if (s_9.2.2.2 17 s_9.2.1.toNatClampNeg) = 1 then j_58 1 s_9.2.2 else j_58 0 s_9.2.2
def Ho1 : (Int32 × MS → MR) → Int32 × MS → MR := fun again_2 s_1 => if (s_1.2.1 35) < s_1.1 then (bnd ((s_1.2.1 24)) fun (x_7 : Int32) => loopF Ho2 FU (0, x_7, s_1.2)) else if s_1.1 < 0 ∨ 130 ≤ s_1.1.toNatClampNeg then none else bnd (mA s_1.2 85 (upd (s_1.2.2 85) s_1.1.toNatClampNeg 0)) fun σ_98 => bnd (s_1.1 + 1) fun (x_100 : Int32) => again_2 (x_100, σ_98)
theorem holds_eq (σ : MS) : F_X12_holds σ = loopF Ho1 FU (0, σ) := rfl
theorem g130 {k : Nat} (h : k < 130) : ¬ (J (k : Nat) < 0 ∨ 130 ≤ (J (k : Nat)).toNatClampNeg) := by
  rintro (c | c)
  · exact J_nlt0 (by omega) (by omega) c
  · rw [J_natN (by omega)] at c; omega
/-- the third loop: each way up -/
theorem r_up {υ : MS} {n : Nat} {s : Nat → Nat} {room : Bool} (h35 : υ.1 35 = J (n : Nat)) (hn : n ≤ 120) (h0 : s 0 = 0) (hl : ∀ k, k ≤ n → s k ≤ n) {g : Nat → Int32} (hg : ∀ k, k ≤ n → g k = J (s k : Nat)) : Ok (loopF (Ho3 (if room then 1 else 0)) FU (1, mA υ 85 g)) (fun u => u.2 = mA υ 85 g ∧ ((u.1 = (if room then 1 else 0) ∧ ∀ k, 1 ≤ k → k ≤ n → itn s n k = 0) ∨ (u.1 = 0 ∧ ∃ k, 1 ≤ k ∧ k ≤ n ∧ itn s n k ≠ 0))) := by
  have h35' : (mA υ 85 g).1 35 = J (n : Nat) := h35
  have h85 : (mA υ 85 g).2 85 = g := by rw [mA_2, if_pos rfl]
  refine Ok_loop (P := fun t k => ∃ a : Nat, 1 ≤ a ∧ a ≤ n + 1 ∧ t = (J (a : Nat), mA υ 85 g) ∧ (∀ k, 1 ≤ k → k < a → itn s n k = 0) ∧ k = n + 1 - a) ?_ FU _ n (FU_gt (by omega)) ⟨1, by omega, by omega, rfl, fun k k1 k2 => by omega, by omega⟩
  rintro again t k ⟨a, a1, a2, rfl, a3, rfl⟩ ih
  unfold Ho3
  dsimp only
  rw [h35']
  by_cases q : a ≤ n
  · rw [if_neg (show ¬ J (n : Nat) < J (a : Nat) by rw [J_lt (by omega) (by omega) (by omega) (by omega)]; omega), if_neg (g130 (by omega)), bndE, J_natN (by omega), h85, hg a q]
    refine Ok_loop (P := fun t k => ∃ m : Nat, m ≤ n + 1 ∧ t = (J (itn s (m + 1) a : Nat), J (m : Nat), mA υ 85 g) ∧ k = n + 1 - m) ?_ FU _ (n + 1) (FU_gt (by omega)) ⟨0, by omega, rfl, by omega⟩
    rintro again2 t k ⟨m, m1, rfl, rfl⟩ ih2
    unfold Ho4
    dsimp only
    have hle := itn_le hl (show a ≤ n from q) (m + 1)
    simp only [bndE]
    rw [h35']
    have nxt : itn s n a = 0 → Ok (again (J (a : Nat) + 1, mA υ 85 g)) (fun u => u.2 = mA υ 85 g ∧ ((u.1 = (if room then 1 else 0) ∧ ∀ k, 1 ≤ k → k ≤ n → itn s n k = 0) ∨ (u.1 = 0 ∧ ∃ k, 1 ≤ k ∧ k ≤ n ∧ itn s n k ≠ 0))) := fun e => ih _ (n + 1 - (a + 1)) (by omega) ⟨a + 1, by omega, by omega, by rw [J_lit, J_add]; rfl, fun k k1 k2 => by
        by_cases e2 : k = a
        · rw [e2]; exact e
        · exact a3 k k1 (by omega), rfl⟩
    by_cases e : itn s (m + 1) a = 0
    · have ez : J (itn s (m + 1) a : Nat) ≤ 0 := by rw [e]; decide
      have e2 : itn s n a = 0 := itn_end h0 hl q (m + 1) e
      simp only [if_pos ez]
      split <;> exact nxt e2
    · have enz : ¬ J (itn s (m + 1) a : Nat) ≤ 0 := by
        rw [show (0 : Int32) = J 0 from rfl, J_le (by omega) (by omega) (by omega) (by omega)]; omega
      simp only [if_neg enz]
      by_cases q3 : m = n + 1
      · rw [if_pos (show J (n : Nat) < J (m : Nat) by rw [J_lt (by omega) (by omega) (by omega) (by omega)]; omega)]
        refine Ok_some ⟨rfl, Or.inr ⟨rfl, a, a1, q, fun h => e ?_⟩⟩
        exact itn_keep h0 h (by omega)
      · rw [if_neg (show ¬ J (n : Nat) < J (m : Nat) by rw [J_lt (by omega) (by omega) (by omega) (by omega)]; omega), if_neg (g130 (by omega)), J_natN (by omega), h85, hg _ hle]
        exact ih2 _ (n + 1 - (m + 1)) (by omega) ⟨m + 1, by omega, by rw [show J (m : Nat) + 1 = J (m + 1 : Nat) by rw [J_lit, J_add]; rfl]; rfl, rfl⟩
  · obtain rfl : a = n + 1 := by omega
    rw [if_pos (show J (n : Nat) < J (n + 1 : Nat) by rw [J_lt (by omega) (by omega) (by omega) (by omega)]; omega), if_neg (by cases room <;> decide)]
    exact Ok_some ⟨rfl, Or.inl ⟨rfl, fun k k1 k2 => a3 k k1 (by omega)⟩⟩
theorem r_holds {υ : MS} {n c : Nat} {s : Nat → Nat} {ls is : Nat → Nat} (h35 : υ.1 35 = J (n : Nat)) (hn : n ≤ 120) (h24 : υ.1 24 = J (lsX ls c 0)) (hc : c < 5000) (hls : ∀ z, z < c → ls z < 39980) (h22 : ∀ z, z < c → υ.2 22 (ls z) = J (lsX ls c (z + 1))) (hk : ∀ z, z < c → 230 ≤ kd (is z) ∧ kd (is z) ≤ 237 ∧ υ.2 17 (ls z) = J (kd (is z) - 229)) (hth : ∀ z, z < c → kd (is z) = 231 → υ.2 19 (ls z) = J (ls z + 1 : Nat) ∧ υ.2 19 (ls z + 1) = J (rv (is z + 1)) ∧ (0 ≤ rv (is z + 1) ∧ rv (is z + 1) < 8000) ∧ υ.2 29 (rv (is z + 1)).toNat = J (inum kd is z : Nat) ∧ inum kd is z ≤ n ∧ ∀ g, F_X12_toldPlace (J (ls z : Nat)) (mA υ 85 g) = some (J (s (inum kd is z) : Nat), mA υ 85 g)) (hinj : ∀ z z', z < c → z' < c → kd (is z) = 231 → kd (is z') = 231 → inum kd is z = inum kd is z' → z = z') (hs0 : ∀ k, k ≤ n → (∀ z, z < c → kd (is z) = 231 → inum kd is z ≠ k) → s k = 0) (h0 : s 0 = 0) (hl : ∀ k, k ≤ n → s k ≤ n) : Ok (F_X12_holds υ) (fun u => (∃ g, u.2 = mA υ 85 g) ∧ ((u.1 = 1 ∧ (∃ z, z < c ∧ kd (is z) = 230) ∧ ∀ k, 1 ≤ k → k ≤ n → itn s n k = 0) ∨ (u.1 = 0 ∧ ¬ ((∃ z, z < c ∧ kd (is z) = 230) ∧ ∀ k, 1 ≤ k → k ≤ n → itn s n k = 0)))) := by
  rw [holds_eq]
  -- the second loop
  have loop2 : ∀ g : Nat → Int32, (∀ k, k ≤ n → g k = 0) → Ok (loopF Ho2 FU (0, J (lsX ls c 0), mA υ 85 g)) (fun u => (∃ g, u.2 = mA υ 85 g) ∧ ((u.1 = 1 ∧ (∃ z, z < c ∧ kd (is z) = 230) ∧ ∀ k, 1 ≤ k → k ≤ n → itn s n k = 0) ∨ (u.1 = 0 ∧ ¬ ((∃ z, z < c ∧ kd (is z) = 230) ∧ ∀ k, 1 ≤ k → k ≤ n → itn s n k = 0)))) := by
    intro g hg
    refine Ok_loop (P := fun t k => ∃ (z : Nat) (room : Bool) (g : Nat → Int32), z ≤ c ∧ t = ((if room then 1 else 0), J (lsX ls c z), mA υ 85 g) ∧ (room = true ↔ ∃ z', z' < z ∧ kd (is z') = 230) ∧ (∀ z', z' < z → kd (is z') = 231 → g (inum kd is z') = J (s (inum kd is z') : Nat)) ∧ (∀ k, k ≤ n → (∀ z', z' < z → kd (is z') = 231 → inum kd is z' ≠ k) → g k = 0) ∧ k = c - z) ?_ FU _ c (FU_gt (by omega)) ⟨0, false, g, by omega, rfl, ⟨fun h => (by cases h), fun ⟨z', a, _⟩ => (by omega)⟩, fun z' h => by omega, fun k k1 _ => hg k k1, by omega⟩
    rintro again t k ⟨z, room, g, hz, rfl, r1, r2, r3, rfl⟩ ih
    unfold Ho2
    dsimp only
    by_cases q : z < c
    · obtain ⟨k1, k2, k3⟩ := hk z q
      obtain ⟨en, en2⟩ := en_of (show ls z < 39990 by have := hls z q; omega)
      have el : lsX ls c z = (ls z : Nat) := by unfold lsX; rw [if_pos q]
      rw [el, if_neg (J_nlt0 (by omega) (by have := hls z q; omega))]
      rw [en2] at en
      simp only [bndE, en2, if_neg en]
      have mk : ∀ j, j ≠ 85 → (mA υ 85 g).2 j = υ.2 j := fun j hj => by rw [mA_2, if_neg hj]
      have mk' : ∀ j (g : Nat → Int32), j ≠ 85 → (mA υ 85 g).2 j = υ.2 j := fun j g hj => by rw [mA_2, if_neg hj]
      rw [mk 17 (by omega), k3]
      have step : ∀ (room' : Bool) (g' : Nat → Int32), (room' = true ↔ ∃ z', z' < z + 1 ∧ kd (is z') = 230) → (∀ z', z' < z + 1 → kd (is z') = 231 → g' (inum kd is z') = J (s (inum kd is z') : Nat)) → (∀ k, k ≤ n → (∀ z', z' < z + 1 → kd (is z') = 231 → inum kd is z' ≠ k) → g' k = 0) → Ok (again ((if room' then 1 else 0), υ.2 22 (ls z), mA υ 85 g')) (fun u => (∃ g, u.2 = mA υ 85 g) ∧ ((u.1 = 1 ∧ (∃ z, z < c ∧ kd (is z) = 230) ∧ ∀ k, 1 ≤ k → k ≤ n → itn s n k = 0) ∨ (u.1 = 0 ∧ ¬ ((∃ z, z < c ∧ kd (is z) = 230) ∧ ∀ k, 1 ≤ k → k ≤ n → itn s n k = 0)))) := fun room' g' a b d => ih _ (c - (z + 1)) (by omega) ⟨z + 1, room', g', by omega, by rw [h22 z q], a, b, d, rfl⟩
      by_cases q1 : kd (is z) = 230
      · rw [if_pos (show J (kd (is z) - 229) = 1 by rw [q1]; rfl), if_neg (show ¬ J (kd (is z) - 229) = 2 by rw [q1]; decide)]
        simp only [mk' 22 _ (show (22 : Nat) ≠ 85 by omega), mk' 17 _ (show (17 : Nat) ≠ 85 by omega)]
        rw [show ((if room = true then (1 : Int32) else 0) ||| 1) = (if true = true then 1 else 0) by cases room <;> decide]
        refine step true g ⟨fun _ => ⟨z, by omega, q1⟩, fun _ => rfl⟩ (fun z' a b => r2 z' (by
          by_cases e : z' = z
          · rw [e] at b; omega
          · omega) b) (fun k a b => r3 k a (fun z' c1 c2 => b z' (by omega) c2))
      · rw [if_neg (show ¬ J (kd (is z) - 229) = 1 by rw [show (1 : Int32) = J 1 from rfl, J_eq (by omega) (by omega) (by omega) (by omega)]; omega)]
        rw [show ((if room = true then (1 : Int32) else 0) ||| 0) = (if room = true then 1 else 0) by cases room <;> decide]
        have rr : room = true ↔ ∃ z', z' < z + 1 ∧ kd (is z') = 230 := by
          rw [r1]
          constructor
          · rintro ⟨z', a, b⟩; exact ⟨z', by omega, b⟩
          · rintro ⟨z', a, b⟩
            refine ⟨z', ?_, b⟩
            by_cases e : z' = z
            · rw [e] at b; exact absurd b q1
            · omega
        by_cases q2 : kd (is z) = 231
        · obtain ⟨t1, t2, t3, t4, t5, t6⟩ := hth z q q2
          obtain ⟨gn, gn2⟩ := en_of (show ls z + 1 < 39990 by have := hls z q; omega)
          rw [if_pos (show J (kd (is z) - 229) = 2 by rw [q2]; rfl)]
          simp only [mk' 22 _ (show (22 : Nat) ≠ 85 by omega), mk' 17 _ (show (17 : Nat) ≠ 85 by omega), mk' 19 _ (show (19 : Nat) ≠ 85 by omega), mk' 29 _ (show (29 : Nat) ≠ 85 by omega)]
          rw [t1, if_neg gn, gn2, t2, if_neg (show ¬ (J (rv (is z + 1)) < 0 ∨ 8000 ≤ (J (rv (is z + 1))).toNatClampNeg) by rintro (c | c); exact J_nlt0 (by omega) (by omega) c; rw [J_nat (by omega) (by omega)] at c; omega), J_nat (by omega) (by omega), t6, Option.bind_some, t4, if_neg (g130 (by omega)), J_natN (by omega)]
          dsimp only
          rw [mA_mA, show (mA υ 85 g).2 85 = g by rw [mA_2, if_pos rfl]]
          simp only [mk' 22 _ (show (22 : Nat) ≠ 85 by omega)]
          refine step room _ rr (fun z' a b => ?_) (fun k a b => ?_)
          · rw [upd_s]
            by_cases e : inum kd is z' = inum kd is z
            · rw [if_pos e, e]
            · rw [if_neg e]
              exact r2 z' (by
                by_cases e2 : z' = z
                · rw [e2] at e; exact absurd rfl e
                · omega) b
          · rw [upd_s, if_neg (Ne.symm (b z (by omega) q2))]
            exact r3 k a (fun z' c1 c2 => b z' (by omega) c2)
        · rw [if_neg (show ¬ J (kd (is z) - 229) = 2 by rw [show (2 : Int32) = J 2 from rfl, J_eq (by omega) (by omega) (by omega) (by omega)]; omega)]
          simp only [mk' 22 _ (show (22 : Nat) ≠ 85 by omega)]
          refine step room g rr (fun z' a b => r2 z' (by
            by_cases e : z' = z
            · rw [e] at b; exact absurd b q2
            · omega) b) (fun k a b => r3 k a (fun z' c1 c2 => b z' (by omega) c2))
    · obtain rfl : z = c := by omega
      have el : lsX ls z z = -1 := by unfold lsX; rw [if_neg (by omega)]
      rw [el, if_pos (by decide)]
      have hg2 : ∀ k, k ≤ n → g k = J (s k : Nat) := by
        intro k hk2
        by_cases e : ∃ z', z' < z ∧ kd (is z') = 231 ∧ inum kd is z' = k
        · obtain ⟨z', a, b, d⟩ := e
          rw [← d]; exact r2 z' a b
        · have hno : ∀ z', z' < z → kd (is z') = 231 → inum kd is z' ≠ k := fun z' a b d => e ⟨z', a, b, d⟩
          rw [r3 k hk2 hno, hs0 k hk2 hno]; rfl
      refine Ok_mono (r_up (room := room) h35 hn h0 hl hg2) (fun u hu => ⟨⟨g, hu.1⟩, ?_⟩)
      rcases hu.2 with ⟨a, b⟩ | ⟨a, k', b1, b2, b3⟩
      · cases hr : room
        · right
          rw [hr] at a
          exact ⟨a, fun h => by have := r1.mpr h.1; rw [hr] at this; cases this⟩
        · left
          rw [hr] at a
          exact ⟨a, r1.mp hr, b⟩
      · exact Or.inr ⟨a, fun h => b3 (h.2 k' b1 b2)⟩
  refine Ok_loop (P := fun t k => ∃ (a : Nat) (g : Nat → Int32), a ≤ n + 1 ∧ t = (J (a : Nat), mA υ 85 g) ∧ (∀ j, j < a → g j = 0) ∧ k = n + 1 - a) ?_ FU _ (n + 1) (FU_gt (by omega)) ⟨0, υ.2 85, by omega, by rw [mA_id]; rfl, fun j hj => by omega, by omega⟩
  rintro again t k ⟨a, g, a1, rfl, a2, rfl⟩ ih
  unfold Ho1
  dsimp only
  rw [show (mA υ 85 g).1 35 = J (n : Nat) from h35]
  by_cases q : a ≤ n
  · rw [if_neg (show ¬ J (n : Nat) < J (a : Nat) by rw [J_lt (by omega) (by omega) (by omega) (by omega)]; omega), if_neg (g130 (by omega))]
    simp only [bndE]
    rw [J_natN (by omega), mA_mA]
    refine ih _ (n + 1 - (a + 1)) (by omega) ⟨a + 1, upd ((mA υ 85 g).2 85) a 0, by omega, by rw [J_lit, J_add]; rfl, fun j hj => ?_, rfl⟩
    rw [upd_s, mA_2, if_pos rfl]
    by_cases e : j = a
    · rw [if_pos e]
    · rw [if_neg e]; exact a2 j (by omega)
  · obtain rfl : a = n + 1 := by omega
    rw [if_pos (show J (n : Nat) < J (n + 1 : Nat) by rw [J_lt (by omega) (by omega) (by omega) (by omega)]; omega), bndE, show (mA υ 85 g).1 24 = J (lsX ls c 0) from h24]
    exact loop2 g (fun k hk2 => a2 k (by omega))
