/-! every item has its meaning -/
variable {T N : Nat} {kd vl rv : Nat → Int} {pl : Nat → Nat}
def bodyW (G : Nat → HS) (t : Nat) : Prop := (G t 3).1 12 ≠ 0 ∧ ¬ (G t 3).1 11 ≤ 0
/-- the bad words of all -/
def badW (G : Nat → HS) (Θ Γs : HS) (kd vl : Nat → Int) (c : Nat) (is : Nat → Nat) (t : Nat) : Prop := (bodyW G t ∧ badB G Θ Γs kd vl t) ∨ (¬ bodyW G t ∧ ∃ z, z < c ∧ is z ≤ t ∧ t < is (z + 1) ∧ badA Θ kd vl (is z) t)
theorem NT_congr {bad bad' : Nat → Prop} {i j : Nat} {a b : Int32 × Int32} (h : NT pl bad i j a b) (e : ∀ w, i ≤ w → w < j → (bad w ↔ bad' w)) : NT pl bad' i j a b := ⟨h.1, fun w w1 w2 w3 w4 w5 => h.2.1 w w1 w2 ((e w w1 w2).mpr w3) (fun v v1 v2 hb => w4 v v1 v2 ((e v v1 (by omega)).mp hb)) w5, fun hn => h.2.2 (fun w w1 w2 hb => hn w w1 w2 ((e w w1 w2).mp hb))⟩
theorem badW_A {G : Nat → HS} {Θ Γs : HS} {c z t : Nat} {is : Nat → Nat} (hm : ∀ z, z < c → is z < is (z + 1)) (hz : z < c) (h1 : is z ≤ t) (h2 : t < is (z + 1)) (hb : ¬ bodyW G t) : badW G Θ Γs kd vl c is t ↔ badA Θ kd vl (is z) t := by
  constructor
  · rintro (h | ⟨-, z', a1, a2, a3, a4⟩)
    · exact absurd h.1 hb
    · have e : z' = z := by
        rcases Nat.lt_trichotomy z' z with q | q | q
        · have := is_le hm (a := z' + 1) (b := z) (by omega) (by omega); omega
        · exact q
        · have := is_le hm (a := z + 1) (b := z') (by omega) (by omega); omega
      rw [← e]; exact a4
  · intro h; exact Or.inr ⟨hb, z, hz, h1, h2, h⟩
theorem badW_B {G : Nat → HS} {Θ Γs : HS} {c t : Nat} {is : Nat → Nat} (hb : bodyW G t) : badW G Θ Γs kd vl c is t ↔ badB G Θ Γs kd vl t := by
  constructor
  · rintro (h | h)
    · exact h.2
    · exact absurd hb h.1
  · intro h; exact Or.inl ⟨hb, h⟩
/-- where an item's block begins -/
def HBZ (T : Nat) (vl : Nat → Int) (G : Nat → HS) (kd : Nat → Int) (is : Nat → Nat) (z b : Nat) : Prop := is z ≤ b ∧ b ≤ is (z + 1) ∧ (∀ t, is z ≤ t → t ≤ b → t < is (z + 1) → ¬ bodyW G t) ∧ (∀ t, b < t → t < is (z + 1) → bodyW G t ∧ DPT T kd vl 1 (G t)) ∧ (kd (is z) ≤ 234 → b = is (z + 1))
def PRM (R : Nat → Nat → Int32) (x hi : Nat) : Prop := ∃ C : Nat, C ≤ 6 ∧ x + 2 + C ≤ hi ∧ R 20 x = J (if 0 < C then ((x + 2 : Nat) : Int) else -1) ∧ ∀ t, t < C → R 21 (x + 2 + t) = J (t : Nat) ∧ R 22 (x + 2 + t) = J (if t + 1 < C then ((x + 2 + t + 1 : Nat) : Int) else -1)
theorem PRM_R {R S : Nat → Nat → Int32} {x lo hi : Nat} (h : PRM R x hi) (hx : lo ≤ x ∧ x < hi) (hR : ∀ k y, k ≤ 22 → lo ≤ y → y < hi → S k y = R k y) : PRM S x hi := by
  obtain ⟨C, a1, a2, a3, a4⟩ := h
  exact ⟨C, a1, a2, by rw [hR 20 x (by omega) hx.1 hx.2]; exact a3, fun t ht => by rw [hR 21 _ (by omega) (by omega) (by omega), hR 22 _ (by omega) (by omega) (by omega)]; exact a4 t ht⟩
def RTQ (O1 : Nat → Int → Prop) (O3 : Nat → Int → Int → Prop) (R : Nat → Nat → Int32) (DN : Nat → Nat → Nat → Prop) (TX : Nat → Int → Int → Prop) (Dq : Prop) (x lo hi p q : Nat) : Prop := ∃ h y m r lo' : Nat, lo ≤ lo' ∧ hi = m + 1 ∧ h ≤ 93 ∧ q = r + 1 ∧ STQ O1 O3 R DN TX Dq h 1 lo' m y p r ∧ R 21 x = J (m : Nat) ∧ R 17 m = J 34 ∧ R 19 m = J (y : Nat) ∧ O1 r 0 ∧ (Dq → PRM R x hi)
theorem RTQ_R {O1 : Nat → Int → Prop} {O3 : Nat → Int → Int → Prop} {R S : Nat → Nat → Int32} {DN : Nat → Nat → Nat → Prop} {TX : Nat → Int → Int → Prop} {Dq : Prop} {x lo hi p q : Nat} (h : RTQ O1 O3 R DN TX Dq x lo hi p q) (hx : lo ≤ x ∧ x < hi) (hR : ∀ k y, k ≤ 22 → lo ≤ y → y < hi → S k y = R k y) : RTQ O1 O3 S DN TX Dq x lo hi p q := by
  obtain ⟨hh, y, m, r, lo', a1, a2, a3, a4, a5, a6, a7, a8, a9⟩ := h
  have r1 := STQ_rng a5
  exact ⟨hh, y, m, r, lo', a1, a2, a3, a4, STQ_R _ _ _ _ _ _ _ a5 (fun k y' h1 h2 h3 => hR k y' h1 (by omega) (by omega)), by rw [hR 21 x (by omega) hx.1 hx.2]; exact a6, by rw [hR 17 m (by omega) (by omega) (by omega)]; exact a7, by rw [hR 19 m (by omega) (by omega) (by omega)]; exact a8, a9.1, fun h => PRM_R (a9.2 h) hx hR⟩
def rz (τ : MS) (t : Int32) : MS := mI (mI (mI τ 43 t) 33 0) 34 0
theorem rz_flt {τ : MS} {t : Int32} : flt (rz τ t) = flt τ := rfl
theorem rz_rJ {lo hi : Nat} {τ : MS} {t : Int32} : rJ lo hi τ (rz τ t) := rJ_trans (rJ_mI (Or.inr (Or.inr rfl))) (rJ_trans (rJ_mI (Or.inl rfl)) (rJ_mI (Or.inr (Or.inl rfl))))
theorem rz_WS {τ : MS} {t : Int32} {ts sl : Nat → Nat} : WS3 rv (rz τ t) 0 0 ts sl := ⟨rfl, rfl, Nat.le_refl _, by omega, fun k hk => by omega⟩
/-- a routine's block: from the words to the meanings -/
theorem r_blk {G : Nat → HS} {Θ Γs : HS} {σs σK : MS} {DN : Nat → Nat → Nat → Prop} (hE : MEN T N kd vl rv pl G Θ Γs σs σK DN) {TX : Nat → Int → Int → Prop} {Dq : Prop} (hTX : ∀ t, t ≤ T → kd t = 4 → TX (pl t) (rv t) (vl t)) {a x lo hi b j p q : Nat} {w : Int} (hR : RTN kd vl rv pl σs Γs a x lo hi b j p q) (hw : σs.2 17 x = J w) (hw6 : 6 ≤ w ∧ w ≤ 8) (hx : x < lo) (hhi : hi ≤ 39000) (hj : j ≤ T) (hb1 : 1 ≤ b) {s m0 : Nat} {ts sl : Nat → Nat} {τ : MS} (hM : MID T kd vl rv G σs σK Dq b s m0 0 ts sl τ) (hPm : Dq → PRM τ.2 x lo) : ∃ (m y : Nat) (υ : MS), σs.2 21 x = J (m : Nat) ∧ m < 39990 ∧ σs.2 19 m = J (y : Nat) ∧ (∀ K : MS → MR, ((G_X12_meanBlock (J (y : Nat)) τ).bind fun u => K u.2) = K υ) ∧ rB lo hi τ υ ∧ AGM σs υ ∧ NT pl (badB G Θ Γs kd vl) b j (flt τ) (flt υ) ∧ GZ T kd vl (G j) ∧ (∀ t, b < t → t < j → DPT T kd vl 1 (G t) ∧ (G t 3).1 12 = (G b 3).1 12) ∧ b < j ∧ kd b = 123 ∧ ((∀ w, b ≤ w → w < j → ¬ badB G Θ Γs kd vl w) → RTQ (op1 Γs) (lk3 G Θ Γs kd vl) υ.2 DN TX Dq x lo hi p q) := by
  obtain ⟨h, y, m, r, ⟨a1, a1'⟩, a2, a3, a4, a5, a6, a7, a8, a9⟩ := hR
  have rr := STX_rng a3
  obtain ⟨u, u0, u1, u2, u3, u4, u5, u6⟩ := mst0 hE hTX a3 a1' (by omega) hj hb1 hM
  refine ⟨m, y, u.2, a4, by omega, a7, fun K => by rw [u0]; rfl, rB_wide u1 (Nat.le_refl _) (by omega), u2, u3, u4, u5, rr.2.2.1, STX_first _ _ _ _ _ _ _ _ _ a3 (Or.inl rfl), fun hn => ⟨h, y, m, r, lo, Nat.le_refl _, a1, a1', a2, u6 hn, ?_, ?_, ?_, a8, fun h => ?_⟩⟩
  · rw [ag_21 u2 hw (by omega)]; exact a4
  · rw [ag_k u2 (by omega)]; exact a5
  · rw [ag_k u2 (by omega)]; exact a7
  · obtain ⟨C, z1, z2, z3, z4⟩ := hPm h
    exact ⟨C, z1, by omega, by rw [u1.2.2 20 x (by omega) (by omega) (Or.inl hx)]; exact z3, fun t ht => by rw [u1.2.2 21 _ (by omega) (by omega) (Or.inl (by omega)), u1.2.2 22 _ (by omega) (by omega) (Or.inl (by omega))]; exact z4 t ht⟩
/-- what an item's resolving gives -/
def rRes (T : Nat) (kd vl : Nat → Int) (pl : Nat → Nat) (σs : MS) (G : Nat → HS) (Θ Γs : HS) (DN : Nat → Nat → Nat → Prop) (TX : Nat → Int → Int → Prop) (c : Nat) (ls is ps : Nat → Nat) (z : Nat) (τ υ : MS) : Prop := (∀ n, loopF Rs1 (n + 1) (J (ls z : Nat), τ) = loopF Rs1 n (σs.2 22 (ls z), υ)) ∧ rJ (ls z) (ls (z + 1)) τ υ ∧ AGM σs υ ∧ NT pl (badW G Θ Γs kd vl c is) (is z) (is (z + 1)) (flt τ) (flt υ) ∧ GZ T kd vl (G (is (z + 1))) ∧ (∃ b, HBZ T vl G kd is z b) ∧ ((∀ w, is z ≤ w → w < is (z + 1) → ¬ badW G Θ Γs kd vl c is w) → 235 ≤ kd (is z) → RTQ (op1 Γs) (lk3 G Θ Γs kd vl) υ.2 DN TX (kd (is z) = 235) (ls z) (ls z) (ls (z + 1)) (ps z) (ps (z + 1)))
theorem body_of {G : Nat → HS} {t b : Nat} {k : Int} (h : DPT T kd vl 1 (G t)) (h2 : (G t 3).1 12 = (G b 3).1 12) (hb : (G b 3).1 12 = J k) (hk : 235 ≤ k ∧ k ≤ 237) : bodyW G t := by
  obtain ⟨e, e1, s, m, ts, sl, hs⟩ := h
  have e2 := hs.2.2.2.2.2.1
  have e3 := hs.2.2.1
  refine ⟨?_, ?_⟩
  · rw [h2, hb, show (0 : Int32) = J 0 from rfl, Ne, J_eq (by omega) (by omega) (by omega) (by omega)]; omega
  · rw [e3, show (0 : Int32) = J 0 from rfl, J_le (by omega) (by omega) (by omega) (by omega)]; omega
theorem nbody_12 {G : Nat → HS} {t : Nat} (h : (G t 3).1 12 = J 0) : ¬ bodyW G t := fun hb => hb.1 h
theorem nbody_11 {G : Nat → HS} {t : Nat} (h : (G t 3).1 11 = J 0) : ¬ bodyW G t := fun hb => hb.2 (by rw [h]; decide)
/-- items without a block of statements -/
theorem r_flat {G : Nat → HS} {Θ Γs : HS} {σs : MS} {DN : Nat → Nat → Nat → Prop} {TX : Nat → Int → Int → Prop} {c z : Nat} {ls is ps : Nat → Nat} {τ : MS} {b : Int32 × Int32} (hm : ∀ z, z < c → is z < is (z + 1)) (hz : z < c) (hA : AGM σs τ) (hk : kd (is z) ≤ 234) (e : ∀ n, loopF Rs1 (n + 1) (J (ls z : Nat), τ) = loopF Rs1 n (σs.2 22 (ls z), noF τ b)) (hN : NT pl (badA Θ kd vl (is z)) (is z) (is (z + 1)) (flt τ) b) (hG : GZ T kd vl (G (is (z + 1))) ∧ ∀ t, is z ≤ t → t ≤ is (z + 1) → (G t 3).1 12 = J 0) : rRes T kd vl pl σs G Θ Γs DN TX c ls is ps z τ (noF τ b) := ⟨e, rJ_noF, AGM_noF hA, NT_congr hN (fun w w1 w2 => (badW_A hm hz w1 w2 (nbody_12 (hG.2 w w1 (by omega)))).symm), hG.1, ⟨is (z + 1), Nat.le_of_lt (hm z hz), Nat.le_refl _, fun t t1 t2 t3 => nbody_12 (hG.2 t t1 (by omega)), fun t t1 t2 => by omega, fun _ => rfl⟩, fun _ h => by omega⟩
/-- the loop's step by the kind of the item's node -/
theorem rs_step {x : Nat} (hx : x < 39990) {σs τ : MS} (hA : AGM σs τ) {w : Int} (hw : σs.2 17 x = J w) (hw2 : 0 ≤ w ∧ w < 1000) (n : Nat) : loopF Rs1 (n + 1) (J (x : Nat), τ) = if w = 1 ∨ w = 2 then Rj84 (Rnx (loopF Rs1 n) (J (x : Nat))) (J (x : Nat)) (J w) τ else Rj13 (Rnx (loopF Rs1 n) (J (x : Nat))) (J (x : Nat)) (J w) τ := by
  obtain ⟨en, en2⟩ := en_of hx
  have e : ∀ c : Int, 0 ≤ c ∧ c < 1000 → (J w = J c) = (w = c) := fun c hc => J_eq (by omega) (by omega) (by omega) (by omega)
  rw [Rs1_s, if_neg (J_nlt0 (by omega) (by omega)), if_neg en, bndE, en2, ag_k hA (by omega), hw]
  by_cases q1 : w = 1
  · rw [if_pos (Or.inl q1), if_pos (show J w = 1 from (by rw [q1]; rfl))]
  · rw [if_neg (show ¬ J w = 1 from fun h => q1 ((e 1 (by omega)).mp h))]
    by_cases q2 : w = 2
    · rw [if_pos (Or.inr q2), if_pos (show J w = 2 from (by rw [q2]; rfl))]
    · rw [if_neg (show ¬ J w = 2 from fun h => q2 ((e 2 (by omega)).mp h)), if_neg (show ¬ (w = 1 ∨ w = 2) by omega)]
theorem rnx_go {x : Nat} (hx : x < 39990) {σs υ : MS} (hA : AGM σs υ) (n : Nat) : Rnx (loopF Rs1 n) (J (x : Nat)) υ = loopF Rs1 n (σs.2 22 x, υ) := by
  obtain ⟨en, en2⟩ := en_of hx
  unfold Rnx
  rw [if_neg en, bndE, en2, ag_k hA (by omega)]
theorem rj_no {K : MS → MR} {X : Int32} {w : Int} (hw : 0 ≤ w ∧ w < 6) (τ : MS) : Rj13 K X (J w) τ = K τ := by
  unfold Rj13 Rj17
  rw [if_neg (show ¬ J w = 7 from J_n (v := 7) (by omega) (by omega) (by omega)), if_neg (show ¬ 6 ≤ J w by rw [show (6 : Int32) = J 6 from rfl, J_le (by omega) (by omega) (by omega) (by omega)]; omega)]
theorem rj_rule {K : MS → MR} {x m y : Nat} (hx : x < 39990) (hm : m < 39990) {σs τ : MS} (hA : AGM σs τ) {w : Int} (hw : w = 7 ∨ w = 8) (h17 : σs.2 17 x = J w) (h21 : σs.2 21 x = J (m : Nat)) (h19 : σs.2 19 m = J (y : Nat)) : Rj17 K (J (x : Nat)) (J w) τ = (G_X12_meanBlock (J (y : Nat)) (rz τ 0)).bind fun u => K u.2 := by
  obtain ⟨en, en2⟩ := en_of hx
  obtain ⟨gn, gn2⟩ := en_of hm
  have hA2 : AGM σs (rz τ 0) := hA
  obtain ⟨F, hF, -⟩ := FU_1
  unfold Rj17 R31
  rw [if_pos (show 6 ≤ J w by rw [show (6 : Int32) = J 6 from rfl, J_le (by omega) (by omega) (by omega) (by omega)]; omega), if_neg (show ¬ J w = 6 from J_n (v := 6) (by omega) (by omega) (by omega)), if_neg (by decide), bndE, bndE, bndE]
  rw [if_pos (show (mI (mI (mI τ 43 0) 33 0) 34 0).1 43 = 0 from rfl), hF]
  rw [show mI (mI (mI τ 43 0) 33 0) 34 0 = rz τ 0 from rfl, L49_s, if_pos (by decide), if_neg en, bndE, en2, ag_21 hA2 h17 (by omega), h21, if_neg gn, gn2, ag_k hA2 (by omega), h19]
