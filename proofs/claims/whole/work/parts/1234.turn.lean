/-! a command is done, whole, in both -/
variable {R : Nat → Nat → Int32} {nO nV nC nA ln : Nat} {room : Nat → Bool} {en : Nat → Nat} {TX : Nat → Int → Int → Prop} {DN : Nat → Nat → Nat → Prop}
/-- the class's head of a command: the line is kept -/
def actH (X : HS) : HS := cI' (cA' (cI' (cI' X 10 5 0) 10 13 0) 9 6 (va_cpy ((X 11).2.1 4) ((X 9).2.1 6) 0 0 120)) 9 7 ((X 11).1 5)
theorem act8_h (X : HS) : F_X8_act X = if ((X 11).1 12) = 0 then (F_X8_perform (actH X)).bind (fun u_23 => acT u_23.1 u_23.2) else loopF (AaC acT) FU (1, 0, actH X) := by
  rw [act8_eq]
  unfold F_X3_ready
  rw [bndE, bndE, Option.bind_some]
  dsimp only
  rw [mrgE (fun r hr => by
    have : r ≠ 10 := by rintro rfl; exact absurd hr (by decide)
    rw [cI_r, if_neg this, cI_r, if_neg this]), bndE, if_neg (by decide), bndE, bndE, bndE]
  rfl
/-- what both come to behind a command but for its end -/
def TRO (τ : MS) (Δ : HS) : Prop := (τ.1 104 = J 3 ∧ ∃ n : Int, 1 ≤ n ∧ n ≤ 6 ∧ τ.1 105 = J n ∧ (Δ 10).1 5 = J n) ∨ (τ.1 104 ≠ J 3 ∧ (Δ 10).1 5 = J 0)
/-- the world of a turn: also the line and the slots -/
def rTn (σ τ : MS) : Prop := (∀ k, ¬ (93 ≤ k ∧ k ≤ 96) → k ≠ 98 → ¬ (103 ≤ k ∧ k ≤ 110) → k ≠ 113 → k ≠ 115 → τ.1 k = σ.1 k) ∧ ∀ k, ¬ (87 ≤ k ∧ k ≤ 92) → k ≠ 97 → k ≠ 99 → k ≠ 102 → k ≠ 111 → k ≠ 112 → k ≠ 114 → k ≠ 121 → τ.2 k = σ.2 k
theorem rTn_rfl {σ : MS} : rTn σ σ := ⟨fun _ _ _ _ _ _ => rfl, fun _ _ _ _ _ _ _ _ _ => rfl⟩
theorem rTn_trans {σ τ υ : MS} (h : rTn σ τ) (g : rTn τ υ) : rTn σ υ := ⟨fun k a b c d e => by rw [g.1 k a b c d e, h.1 k a b c d e], fun k a b c d e f i j => by rw [g.2 k a b c d e f i j, h.2 k a b c d e f i j]⟩
theorem rTn_n {σ τ : MS} (h : rWn σ τ) : rTn σ τ := ⟨fun k a b c d e => h.1 k a c d e, fun k a b c d e f i j => h.2 k a d e f i⟩
theorem rSt_T {σ τ : MS} (h : rTn σ τ) : rSt σ τ := ⟨fun k a b => h.1 k (by omega) (by omega) (by omega) (by omega) (by omega), fun k a => h.2 k (by omega) (by omega) (by omega) (by omega) (by omega) (by omega) (by omega) (by omega)⟩
/-- the slots as they were, but for the one of the play ahead -/
def SL9 (nO : Nat) (room : Nat → Bool) (nV nC : Nat) (σ : MS) (P : CS) (τ : MS) : Prop := SLOT nO room nV nC (τ.2 99) 23400 P ∧ ∀ y, y < 23400 → τ.2 99 y = σ.2 99 y
/-- both begin a command -/
theorem W_starts {σ : MS} {Γ : HS} {n : Nat} (hP : PL nO room nV nC σ Γ) (hC : CNT3 σ nO nV nC) (hL : LNE σ Γ n) : ∃ τ, F_X12_starts σ = some (0, τ) ∧ PL nO room nV nC τ (actH Γ) ∧ (τ.1 104 = 0 ∧ τ.1 106 = 0 ∧ τ.1 107 = 0) ∧ (∀ k, k ≠ 98 → k ≠ 104 → k ≠ 106 → k ≠ 107 → τ.1 k = σ.1 k) ∧ (∀ k, k ≠ 97 → k ≠ 99 → τ.2 k = σ.2 k) ∧ SL9 nO room nV nC σ (Γ 9) τ := by
  obtain ⟨pa, fi, nx, ch, tr, P⟩ := hP
  obtain ⟨l, l1, l2, l3, l4⟩ := LAT_l P.2.2.2.2.2.2.2.2.2.2.2.1
  obtain ⟨c1, c2, c3, c4, c5, c6⟩ := hC
  obtain ⟨τ, e1, ⟨e2, e3, e4, e5⟩, e6, e7, e8, e9, e10⟩ := r_starts (nO := nO) (nV := nV) (nC := nC) (tr := tr) (l := l) ⟨c1, c2, c3, ⟨l2, l3⟩, l1, c4, c5, c6, fun x hx => ⟨(P.2.2.2.1 x hx).1, (P.2.2.2.1 x hx).2.2⟩⟩ hL
  have hLAT : LAT τ (actH Γ) := LAT_line (σ := σ) (Γ := Γ) hL e5 e9 hL.2.2.2.1 rfl
  refine ⟨τ, e1, ⟨pa, fi, nx, ch, tr, ?_⟩, ⟨e2, e3, e4⟩, e6, e7, ⟨σ, Γ, pa, fi, nx, ch, tr, l, P, CPE_rfl _, e10, l1, ⟨l2, l3⟩, l4⟩, e8⟩
  obtain ⟨a1, a2, a3, a4, a5, a6, a7, a8, a9, a10, a11, a12, a13⟩ := P
  have f9 : ∀ k, k ≠ 6 → ((actH Γ) 9).2.1 k = (Γ 9).2.1 k := fun k hk => by
    show updA (Γ 9).2.1 6 _ k = _
    rw [updA_s, if_neg hk]
  have g9 : ∀ k, k ≠ 7 → ((actH Γ) 9).1 k = (Γ 9).1 k := fun k hk => if_neg hk
  refine ⟨a1, RT_congr a2 (e7 87 (by omega) (by omega)) (e7 88 (by omega) (by omega)) (e7 89 (by omega) (by omega)), CT_congr a3 (fun k hk => f9 k (by omega)), ?_, ?_, ?_, ?_, ?_, ?_, a10, a11, hLAT, a13⟩
  · rw [f9 3 (by omega), e7 90 (by omega) (by omega)]; exact a4
  · rw [f9 4 (by omega), e7 91 (by omega) (by omega)]; exact a5
  · rw [f9 5 (by omega), e7 92 (by omega) (by omega)]; exact a6
  · rw [g9 8 (by omega), g9 9 (by omega), g9 10 (by omega), g9 11 (by omega), e6 93 (by omega) (by omega) (by omega) (by omega), e6 94 (by omega) (by omega) (by omega) (by omega), e6 95 (by omega) (by omega) (by omega) (by omega), e6 96 (by omega) (by omega) (by omega) (by omega)]; exact a7
  · rw [e6 95 (by omega) (by omega) (by omega) (by omega)]; exact a8
  · rw [e6 96 (by omega) (by omega) (by omega) (by omega)]; exact a9
theorem ite_run {b : Int32} {Δ : HS} : acT 0 Δ = some (0, Δ) := by unfold acT; rw [if_pos rfl]
/-- the end of a turn: time, if it goes on -/
theorem W_tail {Γ0 : HS} {F : Nat → Nat} {no ne nv : Nat} {ow : Nat → List (List Int)} {W : List Int} {τ : MS} {Δ : HS} {b : Int32} (hS : PSR R nO nV nC nA room en ln TX DN Γ0 F no ne nv ow W τ Δ) (hP : PL nO room nV nC τ Δ) (hO : OUT τ Δ) (hN : NOU τ Δ) (h1 : τ.1 113 = J 0 ∧ τ.1 115 = J 0) (hb : (b = 1 ∧ ∃ pw : Nat, pw ≤ 20000 ∧ τ.1 104 = J 0 ∧ τ.1 107 = J 0 ∧ τ.1 106 = J (pw : Nat) ∧ (Δ 10).1 13 = J (pw : Nat) ∧ (Δ 10).1 5 = J 0) ∨ (b = 0 ∧ ((τ.1 104 = J 3 ∧ ∃ n : Int, 1 ≤ n ∧ n ≤ 6 ∧ τ.1 105 = J n ∧ (Δ 10).1 5 = J n) ∨ (τ.1 104 = J 2 ∧ (Δ 10).1 5 = J 0)))) : ∃ υ Θ, F_X12_ends τ = enK υ ∧ acT b Δ = some (0, Θ) ∧ PL nO room nV nC υ Θ ∧ OUT υ Θ ∧ NOU υ Θ ∧ (WAI Δ → WAI Θ) ∧ rWn τ υ ∧ cWa Δ Θ ∧ (υ.1 113 = J 0 ∧ υ.1 115 = J 0) ∧ TRO υ Θ := by
  have eR := ends_eq τ
  rw [bndE] at eR
  rcases hb with ⟨rfl, pw, p1, p2, p3, p4, p5, p6⟩ | ⟨rfl, hb⟩
  · obtain ⟨h0, s1, s2, s3, s4, s5, s6, s7, -⟩ := hS
    obtain ⟨υ, Θ, b, e1, e2, e3⟩ := W_pass (pw := pw) h0.1 s1 ⟨hP, hO, hN.1, hN.2.1, hN.2.2.1, hN.2.2.2, Or.inr p6⟩ ⟨p2, p3, p4, h1.1, h1.2⟩ p5 p1 p6 s7 s5 s6
    obtain ⟨v1, v2, v3, v4, v5, v6⟩ := e3
    refine ⟨υ, Θ, ?_, ?_, v1.1, v1.2.1, NOU_R v1, v5.2, rWn_W v2, cWa_W v3, ⟨v4, v5.1⟩, ?_⟩
    · rw [eR, if_pos (show τ.1 104 = 0 from p2), bndE]; exact e1 _
    · unfold acT
      rw [if_neg (by decide), e2]; rfl
    · rcases v6 with ⟨-, pw', -, q1, -, -, -, q2⟩ | ⟨-, q | ⟨q1, q2⟩⟩
      · exact Or.inr ⟨by rw [q1]; decide, q2⟩
      · exact Or.inl q
      · exact Or.inr ⟨by rw [q1]; decide, q2⟩
  · refine ⟨τ, Δ, ?_, ite_run (b := 0), hP, hO, hN, fun h => h, rWn_rfl, cWa_rfl, h1, ?_⟩
    · have h104 : ¬ τ.1 104 = 0 := by
        rcases hb with ⟨h, -⟩ | ⟨h, -⟩ <;> rw [h] <;> decide
      rw [eR, if_neg h104]
    · rcases hb with h | ⟨h, h'⟩
      · exact Or.inl h
      · exact Or.inr ⟨by rw [h]; decide, h'⟩
/-- what a command leaves, up to its end -/
def TRN (nO : Nat) (room : Nat → Bool) (nV nC : Nat) (σ : MS) (X : HS) (υ : MS) (Θ : HS) : Prop := PL nO room nV nC υ Θ ∧ OUT υ Θ ∧ NOU υ Θ ∧ (WAI X → WAI Θ) ∧ rTn σ υ ∧ cWa X Θ ∧ SL9 nO room nV nC σ (X 9) υ ∧ (υ.1 113 = J 0 ∧ υ.1 115 = J 0) ∧ TRO υ Θ
theorem actH_9 {X : HS} : ∀ r, r ≠ 9 → r ≠ 10 → (actH X) r = X r := fun r h9 h10 => by
  unfold actH
  rw [cI_r, if_neg h9, cA_r, if_neg h9, cI_r, if_neg h10, cI_r, if_neg h10]
theorem SL9_n {σ τ υ : MS} {P : CS} (h : SL9 nO room nV nC σ P τ) (e : υ.2 99 = τ.2 99) : SL9 nO room nV nC σ P υ := by
  unfold SL9; rw [e]; exact h
/-- one command -/
theorem W_turn {Γ0 : HS} {F : Nat → Nat} {no ne nv n : Nat} {ow : Nat → List (List Int)} {W : List Int} {σ : MS} {X : HS} (hS : PSR R nO nV nC nA room en ln TX DN Γ0 F no ne nv ow W σ X) (hP : PL nO room nV nC σ X) (hO : OUT σ X) (h1 : σ.1 113 = J 0 ∧ σ.1 115 = J 0) (hL : LNE σ X n) {a x y : Nat} (h8 : (X 11).1 8 = J (a : Nat)) (h10 : (X 11).1 10 = J (x : Nat)) (h11 : (X 11).1 11 = J (y : Nat)) (h12 : (X 11).1 12 = 0) (ha : a ≤ 60) (hx : x ≤ 120) (hy : y ≤ 120) (hx2 : 4 ≤ a → a ≤ 10 → 1 ≤ x ∧ x ≤ nO ∧ room x = false) (hy2 : a = 9 ∨ a = 10 → 1 ≤ y ∧ y ≤ nO) (hd2 : a = 11 → 1 ≤ x ∧ x ≤ 6) (hf0 : F a = 0 → x = 0) (hf1 : 1 ≤ F a → a ≠ 11 → 1 ≤ x ∧ x ≤ nO) : ∃ υ Θ, F_X12_command (J (a : Nat)) (J (F a : Nat)) (J (x : Nat)) (J (y : Nat)) σ = enK υ ∧ F_X8_act X = some (0, Θ) ∧ TRN nO room nV nC σ X υ Θ := by
  have hC : CNT3 σ nO nV nC := hS.2.2.2.2.2.2.2.2.2.2.2.2.2
  obtain ⟨τ1, e1, e2, ⟨e3, e4, e5⟩, e6, e7, e8⟩ := W_starts hP hC hL
  have fr1 : rTn σ τ1 := ⟨fun k a b c d e => e6 k b (by omega) (by omega) (by omega), fun k a b c d e f g i => e7 k b c⟩
  have S1 : PSR R nO nV nC nA room en ln TX DN Γ0 F no ne nv ow W τ1 (actH X) := PSR_keep hS (rSt_T fr1) (fun r r4 r7 => actH_9 r (by omega) (by omega))
  have O1 : OUT τ1 (actH X) := by
    obtain ⟨w, o1, o2⟩ := hO
    exact ⟨w, OL_congr o1 (e7 102 (by omega) (by omega)) (e6 103 (by omega) (by omega) (by omega) (by omega)), OL_congr o2 (by rw [actH_9 8 (by omega) (by omega)]) (by rw [actH_9 8 (by omega) (by omega)])⟩
  have V1 : RVw τ1 0 0 0 0 := ⟨e3, e5, e4, by rw [e6 113 (by omega) (by omega) (by omega) (by omega)]; exact h1.1, by rw [e6 115 (by omega) (by omega) (by omega) (by omega)]; exact h1.2⟩
  have S1' := S1
  obtain ⟨⟨z1, z2, z3⟩, s1, s2, s3, s4, s5, s6, s7, -⟩ := S1'
  have c11 : (actH X) 11 = X 11 := actH_9 11 (by omega) (by omega)
  obtain ⟨τ, Δ, b, w1, w2, w3⟩ := W_perform (F := F) (a := a) (x := x) (y := y) (no := no) (pw := 0) z1 (by omega) (by omega) (by omega) (by have := z2.2.2.2 a; omega) hx2 hy2 hd2 hf0 hf1 s1 e2 O1 V1 rfl (by omega) rfl s7 s2 s3 s4 (by rw [c11]; exact h8) (by rw [c11]; exact h10) (by rw [c11]; exact h11)
  obtain ⟨v1, v2, v3, v4, v5, v6⟩ := w3
  have fr0 : rWn τ1 (mI (mI (itS a (F a) x τ1) 108 (J (x : Nat))) 109 (J (y : Nat))) := by
    refine rWn_trans (rWn_trans ?_ (rWn_i (by omega))) (rWn_i (by omega))
    unfold itS
    split
    · exact rWn_i (by omega)
    · exact rWn_rfl
  have fr2 : rWn τ1 τ := rWn_trans fr0 (rWn_W v2)
  have S2 : PSR R nO nV nC nA room en ln TX DN Γ0 F no ne nv ow W τ Δ := PSR_keep S1 (rSt_n fr2) (fun r r4 r7 => v3 r (by omega) (by omega) (by omega))
  obtain ⟨υ, Θ, t1, t2, t3, t4, t5, t6, t7, t8, t9, t10⟩ := W_tail (b := b) S2 v1.1 v1.2.1 (NOU_R v1) ⟨v4, v5.1⟩ v6
  refine ⟨υ, Θ, ?_, ?_, t3, t4, t5, fun h => t6 (v5.2 (show WAI (actH X) from h)), rTn_trans fr1 (rTn_n (rWn_trans fr2 t7)), ?_, ?_, t9, t10⟩
  · have en' : ∀ ρ : MS, ρ = itS a (F a) x τ1 → ((F_X12_act (J (a : Nat)) (J (F a : Nat)) (J (x : Nat)) (J (y : Nat)) ρ).bind fun u_7 => (F_X12_ends u_7.2).bind fun u_9 => some (u_9.1, u_9.2)) = enK υ := fun ρ hρ => by
      rw [hρ, w1, Option.bind_some, bind_id]; exact t1
    rw [cmd_eq, e1, Option.bind_some, bndE]
    have f2 := z2.2.2.2 a
    by_cases q : F a = 0
    · rw [if_pos (by rw [q]; decide)]
      exact en' _ (by unfold itS; rw [if_neg (by omega)])
    · rw [if_neg (by rw [show (0 : Int32) = J ((0 : Nat) : Int) from rfl, J_le (by omega) (by omega) (by omega) (by omega)]; omega)]
      by_cases q2 : a = 11
      · rw [if_pos (by rw [q2]; rfl)]
        exact en' _ (by unfold itS; rw [if_neg (by omega)])
      · rw [if_neg (by rw [show (11 : Int32) = J ((11 : Nat) : Int) from rfl, J_eqN (by omega) (by omega)]; exact q2), bndE]
        exact en' _ (by unfold itS; rw [if_pos ⟨by omega, q2⟩])
  · rw [act8_h, if_pos h12, w2, Option.bind_some]; exact t2
  · exact fun r r8 r9 r10 r11 => by rw [t8 r r8 r9 r10 r11, v3 r r8 r9 r10, actH_9 r r9 r10]
  · exact SL9_n e8 (by rw [t7.2 99 (by omega) (by omega) (by omega) (by omega) (by omega), fr2.2 99 (by omega) (by omega) (by omega) (by omega) (by omega)])
/-- a command for all that can be done -/
theorem W_turnA {Γ0 : HS} {F : Nat → Nat} {no ne nv n : Nat} {ow : Nat → List (List Int)} {W : List Int} {σ : MS} {X : HS} (hS : PSR R nO nV nC nA room en ln TX DN Γ0 F no ne nv ow W σ X) (hP : PL nO room nV nC σ X) (hO : OUT σ X) (hN : NOU σ X) (h1 : σ.1 113 = J 0 ∧ σ.1 115 = J 0) (hL : LNE σ X n) {a t : Nat} (ha : a = 4 ∨ a = 5) (h8 : (X 11).1 8 = J (a : Nat)) (h11 : (X 11).1 11 = 0) (h12 : (X 11).1 12 = 1) (h13 : (X 11).1 13 = J (t : Nat)) (ht : t ≤ 120) {L : List Nat} (hG : GAL σ X L) (hm : ∀ x, x ∈ L → 1 ≤ x ∧ x ≤ nO ∧ room x = false) (hl : L.length ≤ 120) : ∃ υ Θ, ((F_X12_starts σ).bind fun u_23 => loopF (PaB (J (a : Nat)) (J (t : Nat)) (J (L.length : Nat))) FU (0, u_23.2)) = enK υ ∧ F_X8_act X = some (0, Θ) ∧ TRN nO room nV nC σ X υ Θ := by
  have hC : CNT3 σ nO nV nC := hS.2.2.2.2.2.2.2.2.2.2.2.2.2
  obtain ⟨τ1, e1, e2, ⟨e3, e4, e5⟩, e6, e7, e8⟩ := W_starts hP hC hL
  have fr1 : rTn σ τ1 := ⟨fun k a b c d e => e6 k b (by omega) (by omega) (by omega), fun k a b c d e f g i => e7 k b c⟩
  have S1 : PSR R nO nV nC nA room en ln TX DN Γ0 F no ne nv ow W τ1 (actH X) := PSR_keep hS (rSt_T fr1) (fun r r4 r7 => actH_9 r (by omega) (by omega))
  have O1 : OUT τ1 (actH X) := by
    obtain ⟨w, o1, o2⟩ := hO
    exact ⟨w, OL_congr o1 (e7 102 (by omega) (by omega)) (e6 103 (by omega) (by omega) (by omega) (by omega)), OL_congr o2 (by rw [actH_9 8 (by omega) (by omega)]) (by rw [actH_9 8 (by omega) (by omega)])⟩
  have V1 : RVw τ1 0 0 0 0 := ⟨e3, e5, e4, by rw [e6 113 (by omega) (by omega) (by omega) (by omega)]; exact h1.1, by rw [e6 115 (by omega) (by omega) (by omega) (by omega)]; exact h1.2⟩
  have S1' := S1
  obtain ⟨⟨z1, z2, z3⟩, s1, s2, s3, s4, s5, s6, s7, -⟩ := S1'
  have c11 : (actH X) 11 = X 11 := actH_9 11 (by omega) (by omega)
  have hf : F a = 1 := z2.2.1 a (by omega) (by omega)
  have M1 : MNY R nO nV nC nA room en ln TX DN Γ0 F a no t 0 L τ1 (actH X) := by
    refine ⟨s1, e2, O1, V1, rfl, by omega, s7, s2, s3, s4, by rw [c11]; exact h8, by rw [c11]; exact h11, by rw [c11]; exact h13, ⟨by rw [c11]; exact hG.1, fun j hj => ?_⟩, ?_, rfl⟩
    · rw [c11, e7 121 (by omega) (by omega)]; exact hG.2 j hj
    · unfold NOU at hN ⊢
      rw [e6 108 (by omega) (by omega) (by omega) (by omega), e6 109 (by omega) (by omega) (by omega) (by omega)]; exact hN
  obtain ⟨τ, Δ, b, w1, w2, w3, w4, w5, w6, w7, w8, w9, w10⟩ := W_many z1 ha hf ht hm hl L.length 0 (Nat.zero_add _) FU 0 τ1 (actH X) (FU_gt (by omega)) M1
  have S2 : PSR R nO nV nC nA room en ln TX DN Γ0 F no ne nv ow W τ Δ := PSR_keep S1 (rSt_n w6) (fun r r4 r7 => w7 r (by omega) (by omega) (by omega) (by omega))
  obtain ⟨υ, Θ, t1, t2, t3, t4, t5, t6, t7, t8, t9, t10⟩ := W_tail (b := b) S2 w3 w4 w9 w8 (by
    rcases w10 with ⟨rfl, pw', m1, m2, m3, m4, m5, m6, m7, m8, m9, m10, m11, m12, m13, m14, m15, m16⟩ | h
    · exact Or.inl ⟨rfl, pw', m6, m4.1, m4.2.1, m4.2.2.1, m5, m16⟩
    · exact Or.inr h)
  refine ⟨υ, Θ, ?_, ?_, t3, t4, t5, fun h => t6 (w5 (show WAI (actH X) from h)), rTn_trans fr1 (rTn_n (rWn_trans w6 t7)), ?_, ?_, t9, t10⟩
  · rw [e1, Option.bind_some]
    refine (show loopF (PaB (J (a : Nat)) (J (t : Nat)) (J (L.length : Nat))) FU (0, τ1) = PaE τ from w1).trans ?_
    unfold PaE
    rw [bind_id]; exact t1
  · rw [act8_h, if_neg (by rw [h12]; decide)]
    exact (w2 acT).trans t2
  · exact fun r r8 r9 r10 r11 => by rw [t8 r r8 r9 r10 r11, w7 r r8 r9 r10 r11, actH_9 r r9 r10]
  · exact SL9_n e8 (by rw [t7.2 99 (by omega) (by omega) (by omega) (by omega) (by omega), w6.2 99 (by omega) (by omega) (by omega) (by omega) (by omega)])
