/-! begin, whole, in both -/
variable {R : Nat → Nat → Int32} {nO nV nC nA ln : Nat} {room : Nat → Bool} {en : Nat → Nat} {TX : Nat → Int → Int → Prop} {DN : Nat → Nat → Nat → Prop}
theorem bgA (p0 : Int32) (σ : MS) : ∃ τ, loopF (BgA p0) FU (0, σ) = loopF (BgB p0) FU (0, τ) ∧ frA (fun k => k = 87 ∨ k = 88 ∨ k = 89) σ τ ∧ ∀ x, x < 121 → τ.2 87 x = 0 ∧ τ.2 88 x = 0 ∧ τ.2 89 x = 0 := by
  obtain ⟨τ, e, h⟩ := cnt_loop (F := BgA p0) (n := 121) (nx := fun τ => loopF (BgB p0) FU (0, τ)) (P := fun k τ => frA (fun k => k = 87 ∨ k = 88 ∨ k = 89) σ τ ∧ ∀ x, x < k → τ.2 87 x = 0 ∧ τ.2 88 x = 0 ∧ τ.2 89 x = 0) (by omega) (fun again τ _ => by
    unfold BgA
    rw [if_pos (show (121 : Int32) ≤ J ((121 : Nat) : Int) by decide)]) (fun again k τ hk ⟨h1, h2⟩ => by
    unfold BgA
    dsimp only
    rw [if_neg (show ¬ (121 : Int32) ≤ J (k : Nat) from Jle_no (n := 121) hk (by omega)), if_neg (gNn (n := 121) hk (by omega)), bndE, if_neg (gNn (n := 121) hk (by omega)), bndE, if_neg (gNn (n := 121) hk (by omega)), bndE, bndE, J_suc, J_natN (by omega)]
    refine ⟨_, rfl, frA_mA (frA_mA (frA_mA h1 (Or.inl rfl)) (Or.inr (Or.inl rfl))) (Or.inr (Or.inr rfl)), fun x hx => ?_⟩
    show upd (τ.2 87) k 0 x = 0 ∧ upd (τ.2 88) k 0 x = 0 ∧ upd (τ.2 89) k 0 x = 0
    rw [upd_s, upd_s, upd_s]
    by_cases q : x = k
    · rw [if_pos q, if_pos q, if_pos q]; exact ⟨rfl, rfl, rfl⟩
    · rw [if_neg q, if_neg q, if_neg q]; exact h2 x (by omega)) (τ := σ) ⟨frA_rfl, fun x hx => absurd hx (by omega)⟩
  exact ⟨τ, e, h⟩
def bgBn (p0 : Int32) (τ : MS) : MR := (F_X12_putIn 1 (τ.1 63) τ).bind fun u_28 => loopF (BgC p0) FU (2, u_28.2)
theorem bgB (p0 : Int32) (σ : MS) : ∃ τ, loopF (BgB p0) FU (0, σ) = bgBn p0 τ ∧ frA (fun k => k = 90) σ τ ∧ ∀ x, x < 847 → τ.2 90 x = vp_nar .boolean (σ.2 53 x) := by
  obtain ⟨τ, e, h⟩ := cnt_loop (F := BgB p0) (n := 847) (nx := bgBn p0) (P := fun k τ => frA (fun k => k = 90) σ τ ∧ ∀ x, x < k → τ.2 90 x = vp_nar .boolean (σ.2 53 x)) (by omega) (fun again τ _ => by
    unfold BgB
    dsimp only
    rw [if_pos (show (847 : Int32) ≤ J ((847 : Nat) : Int) by decide)]
    rfl) (fun again k τ hk ⟨h1, h2⟩ => by
    unfold BgB
    dsimp only
    rw [if_neg (show ¬ (847 : Int32) ≤ J (k : Nat) from Jle_no (n := 847) hk (by omega)), if_neg (gNn (n := 847) hk (by omega)), bndE, if_neg (gNn (n := 847) hk (by omega)), bndE, bndE, J_suc, J_natN (by omega), h1.2 53 (by omega)]
    refine ⟨_, rfl, frA_mA h1 rfl, fun x hx => ?_⟩
    show upd (τ.2 90) k _ x = _
    rw [upd_s]
    by_cases q : x = k
    · rw [if_pos q, q]
    · rw [if_neg q]; exact h2 x (by omega)) (τ := σ) ⟨frA_rfl, fun x hx => absurd hx (by omega)⟩
  exact ⟨τ, e, h⟩
theorem bgD (p0 : Int32) (σ : MS) (hn : nV ≤ 100) (h80 : σ.1 80 = J (nV : Nat)) : ∃ τ, loopF (BgD p0) FU (0, σ) = loopF (BgE p0) FU (0, τ) ∧ frA (fun k => k = 91) σ τ ∧ ∀ x, x < nV → τ.2 91 x = σ.2 76 x := by
  obtain ⟨τ, e, h⟩ := cnt_loop (F := BgD p0) (n := nV) (nx := fun τ => loopF (BgE p0) FU (0, τ)) (P := fun k τ => frA (fun k => k = 91) σ τ ∧ ∀ x, x < k → τ.2 91 x = σ.2 76 x) (by omega) (fun again τ h => by
    unfold BgD
    dsimp only
    rw [h.1.1, h80, if_pos (show J (nV : Nat) ≤ J (nV : Nat) by rw [J_leN (by omega) (by omega)]; exact Nat.le_refl _)]) (fun again k τ hk ⟨h1, h2⟩ => by
    unfold BgD
    dsimp only
    rw [h1.1, h80, if_neg (show ¬ J (nV : Nat) ≤ J (k : Nat) from Jle_no (n := nV) hk (by omega)), if_neg (gNn (n := 100) (by omega) (by omega)), bndE, if_neg (gNn (n := 100) (by omega) (by omega)), bndE, bndE, J_suc, J_natN (by omega), h1.2 76 (by omega)]
    refine ⟨_, rfl, frA_mA h1 rfl, fun x hx => ?_⟩
    show upd (τ.2 91) k _ x = _
    rw [upd_s]
    by_cases q : x = k
    · rw [if_pos q, q]
    · rw [if_neg q]; exact h2 x (by omega)) (τ := σ) ⟨frA_rfl, fun x hx => absurd hx (by omega)⟩
  exact ⟨τ, e, h⟩
def bgI (p0 : Int32) (τ : MS) : MS := mI (mI (mI (mI (mI τ 93 p0) 94 0) 95 0) 96 0) 98 (-1)
def bgEn (p0 : Int32) (τ : MS) : MR := (F_X12_look (bgI p0 τ)).bind fun u_58 => some (0, u_58.2)
theorem bgE (p0 : Int32) (σ : MS) : ∃ τ, loopF (BgE p0) FU (0, σ) = bgEn p0 τ ∧ frA (fun k => k = 92) σ τ ∧ ∀ x, x < 1000 → τ.2 92 x = 0 := by
  obtain ⟨τ, e, h⟩ := cnt_loop (F := BgE p0) (n := 1000) (nx := bgEn p0) (P := fun k τ => frA (fun k => k = 92) σ τ ∧ ∀ x, x < k → τ.2 92 x = 0) (by omega) (fun again τ _ => by
    unfold BgE
    dsimp only
    rw [if_pos (show (1000 : Int32) ≤ J ((1000 : Nat) : Int) by decide), bndE, bndE, bndE, bndE, bndE]
    rfl) (fun again k τ hk ⟨h1, h2⟩ => by
    unfold BgE
    dsimp only
    rw [if_neg (show ¬ (1000 : Int32) ≤ J (k : Nat) from Jle_no (n := 1000) hk (by omega)), if_neg (gNn (n := 1000) hk (by omega)), bndE, bndE, J_suc, J_natN (by omega)]
    refine ⟨_, rfl, frA_mA h1 rfl, fun x hx => ?_⟩
    show upd (τ.2 92) k _ x = _
    rw [upd_s]
    by_cases q : x = k
    · rw [if_pos q]
    · rw [if_neg q]; exact h2 x (by omega)) (τ := σ) ⟨frA_rfl, fun x hx => absurd hx (by omega)⟩
  exact ⟨τ, e, h⟩
/-- the class's start behind its clearing -/
def stK : HS → HR := fun σ_25 => (F_X7_firstRoom σ_25).bind fun u_27 => bnd (mrg (fun j => j == 4 || j == 5 || j == 6 || j == 7) σ_25 u_27.2) fun σ_29 => (F_X6_moveInto 1 u_27.1 σ_29).bind fun u_31 => bnd (mrg (fun j => j == 9) σ_29 u_31.2) fun σ_33 => loopF BgM FU (2, σ_33)
theorem c_start0 (p : Int32) (Γ : HS) : ∃ Δ, F_X6_start p Γ = stK Δ ∧ (∀ r, r ≠ 9 → Δ r = Γ r) ∧ ((Δ 9).1 7 = 0 ∧ (Δ 9).1 8 = p ∧ (Δ 9).1 9 = 0 ∧ (Δ 9).1 10 = 0 ∧ (Δ 9).1 11 = 0) ∧ (∀ i, i ≤ 120 → (Δ 9).2.1 0 i = 0 ∧ (Δ 9).2.1 1 i = 0 ∧ (Δ 9).2.1 2 i = 0) ∧ (∀ i, i < 121 → (Δ 9).2.1 3 i = (Γ 4).2.1 5 i) ∧ (∀ i, i < 100 → (Δ 9).2.1 4 i = (Γ 4).2.1 11 i) ∧ ∀ i, i < 1000 → (Δ 9).2.1 5 i = 0 := by
  rw [start_eq, bndE, bndE, bndE, if_neg (by decide), bndE, if_neg (by decide), bndE, bndE, bndE, bndE, bndE, bndE, bndE]
  refine ⟨_, rfl, fun r hr => ?_, ⟨rfl, rfl, rfl, rfl, rfl⟩, fun i hi => ⟨?_, ?_, ?_⟩, fun i hi => ?_, fun i hi => ?_, fun i hi => ?_⟩
  · rw [cI_r, if_neg hr, cI_r, if_neg hr, cI_r, if_neg hr, cI_r, if_neg hr, cI_r, if_neg hr, cA_r, if_neg hr, cA_r, if_neg hr, cA_r, if_neg hr, cA_r, if_neg hr, cA_r, if_neg hr, cA_r, if_neg hr]
  · exact if_pos (by omega)
  · exact if_pos (by omega)
  · exact if_pos (by omega)
  · exact va_cpy0 hi
  · exact va_cpy0 hi
  · exact if_pos hi
/-- what begin rests on -/
def BGF (nO nV : Nat) (room : Nat → Bool) (fr : Nat) (wh at0 : Nat → Nat) (σ : MS) (Γ : HS) : Prop := (σ.1 63 = J (fr : Nat) ∧ 1 ≤ fr ∧ fr ≤ nO ∧ room fr = true ∧ ∀ k, 1 ≤ k → k < fr → room k = false) ∧ room 1 = false ∧ WHR nO wh ∧ wh 1 = fr ∧ (∀ x, room x = true → wh x = 0) ∧ (∀ x, 2 ≤ x → x ≤ nO → σ.2 52 x = J (wh x : Nat) ∧ (Γ 4).2.1 4 x = J (wh x : Nat)) ∧ (∀ x, x ≤ 120 → at0 x < 128 ∧ (Γ 4).2.1 5 x = J (at0 x : Nat) ∧ ∀ a, a < 7 → σ.2 53 (7 * x + a) = if (at0 x).testBit a = true then 1 else 0) ∧ (∀ x, x = 0 ∨ nO < x → at0 x = 0) ∧ ∀ k, k < nV → (Γ 4).2.1 11 k = σ.2 76 k ∧ VL (σ.2 76 k)
theorem bg_nar {b : Bool} : vp_nar .boolean (if b = true then (1 : Int32) else 0) = if b = true then 1 else 0 := by cases b <;> rfl
def rBg (σ τ : MS) : Prop := (∀ k, k ≠ 86 → ¬ (93 ≤ k ∧ k ≤ 98) → τ.1 k = σ.1 k) ∧ ∀ k, ¬ (87 ≤ k ∧ k ≤ 92) → τ.2 k = σ.2 k
/-- the play is laid out, by both, up to the look -/
theorem W_start0 {fr : Nat} {wh at0 : Nat → Nat} {σ : MS} {Γ : HS} (p0 : Int32) (hB : BGF nO nV room fr wh at0 σ Γ) (hn : nO ≤ 120) (hV : nV ≤ 100) (hC : nC ≤ 1000) (h78 : σ.1 78 = J (nO : Nat)) (h80 : σ.1 80 = J (nV : Nat)) (h40 : (Γ 4).2.1 0 0 = J (nO : Nat)) (hr : ∀ x, x ≤ 120 → (Γ 4).2.1 1 x = if room x = true then 1 else 0) : ∃ τ Δ, loopF (BgA p0) FU (0, σ) = bgEn p0 τ ∧ F_X6_start p0 Γ = some ((0 : Int32), Δ) ∧ frA (fun k => 87 ≤ k ∧ k ≤ 92) σ τ ∧ (∀ r, r ≠ 9 → Δ r = Γ r) ∧ PL nO room nV nC (bgI p0 τ) Δ := by
  obtain ⟨⟨b1, b2, b3, b4, b5⟩, r1, hW, w1, wr, b6, b7, b8, b9⟩ := hB
  obtain ⟨τ1, e1, f1, g1⟩ := bgA p0 σ
  obtain ⟨τ2, e2, f2, g2⟩ := bgB p0 τ1
  obtain ⟨Δ1, c1, c2, c3, c4, c5, c6, c7⟩ := c_start0 p0 Γ
  have M1 : MVI nO wh 1 τ2 Δ1 := MVI_1 hn (fun i hi => by rw [f2.2 87 (by omega), f2.2 88 (by omega), f2.2 89 (by omega)]; exact g1 i (by omega)) c4
  have i2 : τ2.1 = σ.1 := by rw [f2.1, f1.1]
  obtain ⟨τ3, Δ3, p1, p2, p3, p4, p5⟩ := mv_step (i := 1) hW (by omega) (by rw [w1]; exact b2) M1
  rw [w1] at p1 p2
  have h41 : (Δ1 4) = Γ 4 := c2 4 (by omega)
  obtain ⟨q, q1, q2⟩ := c_firstRoom (Γ := Δ1) (n := nO) (by rw [h41]; exact h40) hn
  have eq : q = fr := by
    rw [h41] at q2
    rcases q2 with ⟨_, q3⟩ | ⟨q3, q4, q5, q6⟩
    · have z := q3 fr b2 b3
      rw [hr fr (by omega), if_pos b4] at z
      exact absurd z (by decide)
    · rcases Nat.lt_trichotomy q fr with l | l | l
      · rw [hr q (by omega), b5 q q3 l] at q5
        exact absurd rfl q5
      · exact l
      · have z := q6 fr b2 l
        rw [hr fr (by omega), if_pos b4] at z
        exact absurd z (by decide)
  subst eq
  have rows : ∀ x, 2 ≤ x → x ≤ nO → τ3.2 52 x = J (wh x : Nat) ∧ (Δ3 4).2.1 4 x = J (wh x : Nat) := fun x x2 xn => by
    rw [p3.2 52 (by omega) (by omega) (by omega), f2.2 52 (by omega), f1.2 52 (by omega), p4.1 4 (by omega), h41]
    exact b6 x x2 xn
  obtain ⟨τ4, Δ4, s1, s2, s3, s4, fi, nx, ch, s5, s6, s7⟩ := mv_all p0 hn hW (nO - 1) 2 FU FU τ3 Δ3 (by omega) (by omega) (by have : 200 < FU := (by decide); omega) (by have : 200 < FU := (by decide); omega) (by rw [p3.1, i2]; exact h78) (by rw [p4.1 4 (by omega), h41]; exact h40) rows p5
  obtain ⟨τ5, t1, t2, t3⟩ := bgD (nV := nV) p0 τ4 hV (by rw [s3.1, p3.1, i2]; exact h80)
  obtain ⟨τ6, u1, u2, u3⟩ := bgE p0 τ5
  have iI : τ6.1 = σ.1 := by rw [u2.1, t2.1, s3.1, p3.1, i2]
  have aA : ∀ k, ¬ (87 ≤ k ∧ k ≤ 92) → τ6.2 k = σ.2 k := fun k hk => by
    rw [u2.2 k (by omega), t2.2 k (by omega), s3.2 k (by omega) (by omega) (by omega), p3.2 k (by omega) (by omega) (by omega), f2.2 k (by omega), f1.2 k (by omega)]
  have cR : ∀ r, r ≠ 9 → Δ4 r = Γ r := fun r hr => by rw [s4.1 r hr, p4.1 r hr, c2 r hr]
  have c9 : (Δ4 9).1 = (Δ1 9).1 := by rw [s4.2.1, p4.2.1]
  have c9a : ∀ k, 3 ≤ k → (Δ4 9).2.1 k = (Δ1 9).2.1 k := fun k hk => by rw [s4.2.2 k hk, p4.2.2 k hk]
  refine ⟨τ6, Δ4, ?_, ?_, ⟨iI, aA⟩, cR, _, fi, nx, ch, at0, s5, ?_, s7, ?_, ?_, ?_, ?_, ⟨0, rfl, by omega, by omega⟩, ⟨0, rfl, Nat.zero_le _⟩, fun x hx => ?_, ?_, Or.inl ⟨rfl, by rw [c9]; exact c3.1⟩, b8⟩
  · rw [e1, e2]
    unfold bgBn
    rw [show τ2.1 63 = J (q : Nat) by rw [i2]; exact b1, show F_X12_putIn 1 (J (q : Nat)) τ2 = _ from p1, Option.bind_some]
    dsimp only
    rw [show loopF (BgC p0) FU (2, τ3) = _ from s1, t1, u1]
  · rw [c1]
    unfold stK
    rw [q1, Option.bind_some]
    dsimp only
    rw [mrgE (fun _ _ => rfl), bndE, show F_X6_moveInto 1 (J (q : Nat)) Δ1 = _ from p2, Option.bind_some]
    dsimp only
    rw [mrgE (fun r hr => p4.1 r (by rintro rfl; exact absurd hr (by decide))), bndE]
    exact s2
  · intro i hi
    show τ6.2 87 i = _ ∧ τ6.2 88 i = _ ∧ τ6.2 89 i = _
    rw [u2.2 87 (by omega), u2.2 88 (by omega), u2.2 89 (by omega), t2.2 87 (by omega), t2.2 88 (by omega), t2.2 89 (by omega)]
    exact s6 i hi
  · intro x hx
    obtain ⟨x1, x2, x3⟩ := b7 x hx
    refine ⟨x1, by rw [c9a 3 (by omega), c5 x (by omega)]; exact x2, fun a ha => ?_⟩
    show τ6.2 90 (7 * x + a) = _
    rw [u2.2 90 (by omega), t2.2 90 (by omega), s3.2 90 (by omega) (by omega) (by omega), p3.2 90 (by omega) (by omega) (by omega), g2 _ (by omega), f1.2 53 (by omega), x3 a ha, bg_nar]
  · intro k hk
    show (Δ4 9).2.1 4 k = τ6.2 91 k ∧ VL (τ6.2 91 k)
    rw [u2.2 91 (by omega), t3 k hk, s3.2 76 (by omega) (by omega) (by omega), p3.2 76 (by omega) (by omega) (by omega), f2.2 76 (by omega), f1.2 76 (by omega), c9a 4 (by omega), c6 k (by omega)]
    exact b9 k hk
  · intro k hk
    show (Δ4 9).2.1 5 k = τ6.2 92 k ∧ VL (τ6.2 92 k)
    rw [u3 k (by omega), c9a 5 (by omega), c7 k (by omega)]
    exact ⟨rfl, 0, rfl, by omega, by omega⟩
  · rw [c9]; exact ⟨c3.2.1, c3.2.2.1, c3.2.2.2.1, c3.2.2.2.2⟩
  · show (if 1 ≤ x ∧ x < nO + 1 then wh x else 0) = 0
    split
    · exact wr x hx
    · rfl
  · have e : pw wh (nO + 1) 1 = q := by rw [← w1]; exact if_pos (by omega)
    rw [e]; exact ⟨by omega, b4, r1, b2⟩
