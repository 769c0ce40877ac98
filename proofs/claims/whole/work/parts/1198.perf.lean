/-! a command is performed, in both -/
variable {R : Nat → Nat → Int32} {nO nV nC nA ln : Nat} {room : Nat → Bool} {en : Nat → Nat} {TX : Nat → Int → Int → Prop} {DN : Nat → Nat → Nat → Prop}
theorem act_eq (p0 p1 p2 p3 : Int32) (σ : MS) : F_X12_act p0 p1 p2 p3 σ = loopF (LaB p0 p1 p2 p3) FU (0, mI (mI σ 108 p2) 109 p3) := by
  unfold F_X12_act
  rw [bndE, bndE]; rfl
def itS (a f : Nat) (x : Nat) (σ : MS) : MS := if 1 ≤ f ∧ a ≠ 11 then mI σ 96 (J (x : Nat)) else σ
def itC (a f : Nat) (x : Nat) (Γ : HS) : HS := if 1 ≤ f ∧ a ≠ 11 then cI' Γ 9 11 (J (x : Nat)) else Γ
theorem perf_eq {Γ : HS} {a f x y no : Nat} (h8 : (Γ 11).1 8 = J (a : Nat)) (h10 : (Γ 11).1 10 = J (x : Nat)) (h11 : (Γ 11).1 11 = J (y : Nat)) (hn : (Γ 4).2.1 0 5 = J (no : Nat)) (ha : a < 1000) (hx : x ≤ 1000) (hf0 : f = 0 → x = 0) (hf1 : 1 ≤ f → a ≠ 11 → 1 ≤ x) : F_X8_perform Γ = loopF (PfC (J (no : Nat))) FU (0, itC a f x (cI' (cI' Γ 10 3 (J (x : Nat))) 10 4 (J (y : Nat)))) := by
  unfold F_X8_perform
  rw [h10, bndE, show ((cI' Γ 10 3 (J (x : Nat))) 11).1 11 = J (y : Nat) from h11, bndE, bndE, show ((cI' (cI' Γ 10 3 (J (x : Nat))) 10 4 (J (y : Nat))) 11).1 8 = J (a : Nat) from h8, show ((cI' (cI' Γ 10 3 (J (x : Nat))) 10 4 (J (y : Nat))) 11).1 10 = J (x : Nat) from h10]
  have tail : ∀ Θ : HS, (Θ 4).2.1 0 5 = J (no : Nat) → (bnd (g_at 7 ((Θ 4).2.1 0) 5) fun (x_9 : Int32) => loopF (PfC x_9) FU (0, Θ)) = loopF (PfC (J (no : Nat))) FU (0, Θ) := fun Θ h => by
    rw [show (5 : Int32) = J ((5 : Nat) : Int) from rfl, q_g_at_in (by omega) (by omega) (by omega), Int.toNat_natCast, h, bndE]
  unfold itC
  by_cases q1 : a = 11
  · rw [if_pos (show J (a : Nat) = 11 by rw [q1]; rfl), if_neg (by omega)]
    exact tail _ hn
  · rw [if_neg (show ¬ J (a : Nat) = 11 by rw [show (11 : Int32) = J ((11 : Nat) : Int) from rfl, J_eqN (by omega) (by omega)]; exact q1)]
    by_cases q2 : x = 0
    · rw [if_pos (show J (x : Nat) = 0 by rw [q2]; rfl), if_neg (fun h => by have := hf1 h.1 h.2; omega)]
      exact tail _ hn
    · have f1 : 1 ≤ f := by
        rcases Nat.eq_zero_or_pos f with h | h
        · exact absurd (hf0 h) q2
        · exact h
      rw [if_neg (show ¬ J (x : Nat) = 0 by rw [J_z0 (by omega)]; exact q2), if_pos ⟨f1, q1⟩, bndE]
      exact tail _ hn
theorem PL_it {σ : MS} {Γ : HS} (h : PL nO room nV nC σ Γ) {a f x : Nat} (hx : 1 ≤ f → a ≠ 11 → x ≤ nO) : PL nO room nV nC (itS a f x σ) (itC a f x Γ) := by
  unfold itS itC
  by_cases q : 1 ≤ f ∧ a ≠ 11
  · rw [if_pos q, if_pos q]
    obtain ⟨pa, fi, nx, ch, tr, t, r, c, p4, p5, p6, ⟨p7, p8, p9, p10⟩, p11, p12, p13, p14, p15⟩ := h
    exact ⟨pa, fi, nx, ch, tr, t, r, c, p4, p5, p6, ⟨p7, p8, p9, rfl⟩, p11, ⟨x, rfl, hx q.1 q.2⟩, p13, p14, p15⟩
  · rw [if_neg q, if_neg q]; exact h
theorem W_perform {Γ0 : HS} {F : Nat → Nat} {a x y no : Nat} (hDN : DNF R nV nA ln TX DN Γ0) (ha : a < 1000) (hx : x ≤ 1000) (hy : y ≤ 1000) (hF : F a ≤ 10) (hx2 : 4 ≤ a → a ≤ 10 → 1 ≤ x ∧ x ≤ nO ∧ room x = false) (hy2 : a = 9 ∨ a = 10 → 1 ≤ y ∧ y ≤ nO) (hd2 : a = 11 → 1 ≤ x ∧ x ≤ 6) (hf0 : F a = 0 → x = 0) (hf1 : 1 ≤ F a → a ≠ 11 → 1 ≤ x ∧ x ≤ nO) {σ : MS} {Γ : HS} {pw : Nat} (hS : STA R nO nV nC nA room en ln TX σ Γ) (hP : PL nO room nV nC σ Γ) (hO : OUT σ Γ) (hσ : RVw σ 0 0 0 pw) (h13 : (Γ 10).1 13 = J (pw : Nat)) (hpw : pw ≤ 20000) (hb5 : (Γ 10).1 5 = J 0) (h5 : Γ 5 = Γ0 5) (hL : SLK σ Γ nO room) (hN : ONS R nV nA ln TX DN Γ0 F σ Γ no) (hn : (Γ 4).2.1 0 5 = J (no : Nat)) (h8 : (Γ 11).1 8 = J (a : Nat)) (h10 : (Γ 11).1 10 = J (x : Nat)) (h11 : (Γ 11).1 11 = J (y : Nat)) : ∃ τ Δ b, F_X12_act (J (a : Nat)) (J (F a : Nat)) (J (x : Nat)) (J (y : Nat)) (itS a (F a) x σ) = some ((0 : Int32), τ) ∧ F_X8_perform Γ = some (b, Δ) ∧ AOC nO nV nC room (mI (mI (itS a (F a) x σ) 108 (J (x : Nat))) 109 (J (y : Nat))) Γ τ Δ b := by
  have e1 := act_eq (J (a : Nat)) (J (F a : Nat)) (J (x : Nat)) (J (y : Nat)) (itS a (F a) x σ)
  have e2 := perf_eq (f := F a) h8 h10 h11 hn ha hx hf0 (fun h1 h2 => (hf1 h1 h2).1)
  have cI : cWk Γ (itC a (F a) x (cI' (cI' Γ 10 3 (J (x : Nat))) 10 4 (J (y : Nat)))) := fun r r8 r9 r10 => by
    unfold itC
    split
    · rw [cI_r, if_neg r9, cI_r, if_neg r10, cI_r, if_neg r10]
    · rw [cI_r, if_neg r10, cI_r, if_neg r10]
  have e10 : (itC a (F a) x (cI' (cI' Γ 10 3 (J (x : Nat))) 10 4 (J (y : Nat)))) 10 = (cI' (cI' Γ 10 3 (J (x : Nat))) 10 4 (J (y : Nat))) 10 := by unfold itC; split <;> rfl
  have e8 : (itC a (F a) x (cI' (cI' Γ 10 3 (J (x : Nat))) 10 4 (J (y : Nat)))) 8 = Γ 8 := by unfold itC; split <;> rfl
  have sI : ∀ k, k ≠ 96 → (itS a (F a) x σ).1 k = σ.1 k := fun k hk => by unfold itS; split; rw [mI_1, if_neg hk]; rfl
  have sA : (itS a (F a) x σ).2 = σ.2 := by unfold itS; split <;> rfl
  have hPi : PL nO room nV nC (mI (mI (itS a (F a) x σ) 108 (J (x : Nat))) 109 (J (y : Nat))) (itC a (F a) x (cI' (cI' Γ 10 3 (J (x : Nat))) 10 4 (J (y : Nat)))) := by
    refine PL_keep (PL_it (a := a) (f := F a) (x := x) hP (fun h1 h2 => (hf1 h1 h2).2)) (fun _ _ => rfl) (fun k hk => ?_) ?_
    · rw [mI_1, if_neg (by omega), mI_1, if_neg (by omega)]
    · unfold itC; split <;> rfl
  -- the state ahead of the rules: the same but for it, noun and second
  have keepS : STA R nO nV nC nA room en ln TX (mI (mI (itS a (F a) x σ) 108 (J (x : Nat))) 109 (J (y : Nat))) (itC a (F a) x (cI' (cI' Γ 10 3 (J (x : Nat))) 10 4 (J (y : Nat)))) := by
    obtain ⟨s1, s2, s3, s4, s5, s6, s7⟩ := hS
    have c4 := cI 4 (by omega) (by omega) (by omega)
    have c5 := cI 5 (by omega) (by omega) (by omega)
    have c6 := cI 6 (by omega) (by omega) (by omega)
    have r2 : (mI (mI (itS a (F a) x σ) 108 (J (x : Nat))) 109 (J (y : Nat))).2 = σ.2 := sA
    refine ⟨fun k k1 k2 => by rw [r2]; exact s1 k k1 k2, ?_, ?_, ?_, CAL_keep s5 (fun k _ => by rw [r2]) c4 c6, ?_, fun w r v h => TXR_keep (s7 w r v h) (by rw [r2]) c6⟩
    · rw [c4, mI_1, if_neg (by omega), mI_1, if_neg (by omega), sI 78 (by omega)]; exact s2
    · rw [c4, r2]; exact s3
    · unfold REND AEND; rw [c4, r2]; exact s4
    · rw [c5]; exact s6
  have keepL : SLK (mI (mI (itS a (F a) x σ) 108 (J (x : Nat))) 109 (J (y : Nat))) (itC a (F a) x (cI' (cI' Γ 10 3 (J (x : Nat))) 10 4 (J (y : Nat)))) nO room := by
    obtain ⟨a1, a2, a3, a4, a5, a6⟩ := hL
    have c4 := cI 4 (by omega) (by omega) (by omega)
    have c6 := cI 6 (by omega) (by omega) (by omega)
    have r2 : (mI (mI (itS a (F a) x σ) 108 (J (x : Nat))) 109 (J (y : Nat))).2 = σ.2 := sA
    refine ⟨CAL_keep a1 (fun k _ => by rw [r2]) c4 c6, DSC_keep a2 (fun k _ => by rw [r2]) c4 c6, by rw [r2]; exact a3, by rw [mI_1, if_neg (by omega), mI_1, if_neg (by omega), sI 78 (by omega)]; exact a4, a5, ?_⟩
    intro r d h1 h2 h3
    rw [r2, c4]; exact a6 r d h1 h2 h3
  have keepN : ONS R nV nA ln TX DN Γ0 F (mI (mI (itS a (F a) x σ) 108 (J (x : Nat))) 109 (J (y : Nat))) (itC a (F a) x (cI' (cI' Γ 10 3 (J (x : Nat))) 10 4 (J (y : Nat)))) no := by
    have c4 := cI 4 (by omega) (by omega) (by omega)
    have r2 : (mI (mI (itS a (F a) x σ) 108 (J (x : Nat))) 109 (J (y : Nat))).2 = σ.2 := sA
    refine ⟨by rw [mI_1, if_neg (by omega), mI_1, if_neg (by omega), sI 83 (by omega)]; exact hN.1, hN.2.1, fun i hi => ?_⟩
    obtain ⟨vb, c, A, B, hV, hF', z, lo, hi', p, q, m, y', D, Dq, k1, k2⟩ := hN.2.2 i hi
    refine ⟨vb, c, A, B, ?_, hF', z, lo, hi', p, q, m, y', D, Dq, by rw [r2]; exact k1, k2⟩
    unfold ONV
    rw [r2, c4]; exact hV
  obtain ⟨w, o1, o2⟩ := hO
  have hRR : RRl nO room nV nC (mI (mI (itS a (F a) x σ) 108 (J (x : Nat))) 109 (J (y : Nat))) (itC a (F a) x (cI' (cI' Γ 10 3 (J (x : Nat))) 10 4 (J (y : Nat)))) := by
    refine ⟨hPi, ⟨w, OL_congr o1 (by show (itS a (F a) x σ).2 102 = _; rw [sA]) (by show (itS a (F a) x σ).1 103 = _; exact sI 103 (by omega)), OL_congr o2 (by rw [e8]) (by rw [e8])⟩, ?_⟩
    rw [e10]
    exact ⟨rfl, VL_J (by omega) (by omega), rfl, VL_J (by omega) (by omega), Or.inr (by rw [e10]; exact hb5)⟩
  have hV : RVw (mI (mI (itS a (F a) x σ) 108 (J (x : Nat))) 109 (J (y : Nat))) 0 0 0 pw := by
    unfold RVw
    simp only [mI_1]
    refine ⟨?_, ?_, ?_, ?_, ?_⟩
    · rw [if_neg (by omega), if_neg (by omega), sI 104 (by omega)]; exact hσ.1
    · rw [if_neg (by omega), if_neg (by omega), sI 107 (by omega)]; exact hσ.2.1
    · rw [if_neg (by omega), if_neg (by omega), sI 106 (by omega)]; exact hσ.2.2.1
    · rw [if_neg (by omega), if_neg (by omega), sI 113 (by omega)]; exact hσ.2.2.2.1
    · rw [if_neg (by omega), if_neg (by omega), sI 115 (by omega)]; exact hσ.2.2.2.2
  have c11 := cI 11 (by omega) (by omega) (by omega)
  obtain ⟨τ, Δ, b, w1, w2, w3⟩ := W_rules hDN ha hx hy hF hN.2.1 hx2 hy2 hd2 no 0 (by omega) FU _ _ pw (FU_gt (by have := hN.2.1; omega)) keepS hRR hV (by rw [e10]; exact h13) hpw (by rw [e10]; exact hb5) ((cI 5 (by omega) (by omega) (by omega)).trans h5) keepL keepN (by rw [c11]; exact h8) (by rw [c11]; exact h10) (by rw [c11]; exact h11)
  exact ⟨τ, Δ, b, e1.trans w1, e2.trans w2, AOC_pre rWk_rfl cI (fun h => by unfold WAI at h ⊢; rw [e10]; exact h) w3⟩
