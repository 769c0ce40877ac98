/-! go; what a command does by itself, whole -/
variable {nO nV nC : Nat} {room : Nat → Bool}
def EXI (σ : MS) (Γ : HS) (nO : Nat) (room : Nat → Bool) : Prop := ∀ r d : Nat, r ≤ 120 → 1 ≤ d → d ≤ 6 → ∃ e : Nat, σ.2 51 (7 * r + d) = J (e : Nat) ∧ (Γ 4).2.1 6 (r * 6 + d - 1) = J (e : Nat) ∧ (e = 0 ∨ (1 ≤ e ∧ e ≤ nO ∧ room e = true))
def SLK (σ : MS) (Γ : HS) (nO : Nat) (room : Nat → Bool) : Prop := CAL σ Γ nO ∧ DSC σ Γ nO ∧ (∀ x, x ≤ 120 → σ.2 50 x = if room x = true then 1 else 0) ∧ σ.1 78 = J (nO : Nat) ∧ nO ≤ 120 ∧ EXI σ Γ nO room
theorem CAL_keep {σ τ : MS} {Γ Δ : HS} (h : CAL σ Γ nO) (hr : ∀ k, k = 45 ∨ k = 46 ∨ k = 47 → τ.2 k = σ.2 k) (h4 : Δ 4 = Γ 4) (h6 : Δ 6 = Γ 6) : CAL τ Δ nO := by
  intro x x1 x2
  obtain ⟨w, r, v, b1, b2, b3, b4⟩ := h x x1 x2
  exact ⟨w, r, v, TXR_keep b1 (hr 45 (by omega)) h6, by rw [hr 46 (by omega)]; exact b2, by rw [hr 47 (by omega)]; exact b3, by rw [h4]; exact b4⟩
theorem SLK_keep {σ τ : MS} {Γ Δ : HS} (h : SLK σ Γ nO room) (hr : rDo σ τ) (hc : cDo Γ Δ) : SLK τ Δ nO room := by
  obtain ⟨a1, a2, a3, a4, a5, a6⟩ := h
  have h4 : Δ 4 = Γ 4 := hc.1 4 (by omega) (by omega) (by omega)
  have h6 : Δ 6 = Γ 6 := hc.1 6 (by omega) (by omega) (by omega)
  refine ⟨CAL_keep a1 (fun k hk => hr.2 k (by omega) (by omega)) h4 h6, DSC_keep a2 (fun k hk => hr.2 k (by omega) (by omega)) h4 h6, by rw [hr.2 50 (by omega) (by omega)]; exact a3, by rw [hr.1 78 (by omega)]; exact a4, a5, ?_⟩
  intro r d h1 h2 h3
  rw [hr.2 51 (by omega) (by omega), h4]
  exact a6 r d h1 h2 h3
/-- what is done, and the look behind it -/
def DOL (nO nV nC : Nat) (room : Nat → Bool) (σ : MS) (Γ : HS) (r : MR) (c : HR) : Prop := ∃ τ Θ b, r = some ((0 : Int32), τ) ∧ c = some (b, Θ) ∧ ((b = 0 ∧ DOS nO nV nC room σ Γ τ Θ) ∨ (b = 1 ∧ ∃ Δ, F_X8_look Θ = some ((0 : Int32), Δ) ∧ DOS nO nV nC room σ Γ τ Δ))
theorem DOL_R {σ : MS} {Γ : HS} {r : MR} {c : HR} (h : DOR nO nV nC room σ Γ r c) : DOL nO nV nC room σ Γ r (c.bind fun u => some (0, u.2)) := by
  obtain ⟨τ, Δ, a1, a2, a3⟩ := h
  exact ⟨τ, Δ, 0, a1, by rw [a2]; rfl, Or.inl ⟨rfl, a3⟩⟩
theorem D_go {σ : MS} {Γ : HS} (hP : PL nO room nV nC σ Γ) (hO : OUT σ Γ) (hS : SLK σ Γ nO room) {d : Nat} {p0 p2 : Int32} (hd : 1 ≤ d ∧ d ≤ 6) (h10 : (Γ 11).1 10 = J (d : Nat)) : DOL nO nV nC room σ Γ (DoGo p0 (J (d : Nat)) p2 σ) ((F_X8_go Γ).bind fun u_51 => if ¬ (u_51.1 = 0 ∨ u_51.1 = 1) then none else some (u_51.1, u_51.2)) := by
  have hP' := hP
  obtain ⟨pa, fi, nx, ch, tr, P⟩ := hP'
  have t := P.1
  have tn := t.1
  have p1 := P.2.2.2.2.2.2.2.2.2.2.1
  have pn := t.2.2.2.1 1
  obtain ⟨s1, s2, s3, s4, s5, s6⟩ := hS
  obtain ⟨e, e1, e2, e3⟩ := s6 (pa 1) d (by omega) hd.1 hd.2
  have eR : DoGo p0 (J (d : Nat)) p2 σ = DoGo p0 (J (d : Nat)) p2 σ := rfl
  have eC : F_X8_go Γ = F_X8_go Γ := rfl
  conv at eR => rhs; unfold DoGo
  conv at eC => rhs; unfold F_X8_go F_X6_here F_X7_exitOf
  have g : ¬ (J (7 * pa 1 + d : Nat) < 0 ∨ 847 ≤ (J (7 * pa 1 + d : Nat)).toNatClampNeg) := by rw [J_natN (by omega)]; rintro (h | h); exact J_nlt0 (by omega) (by omega) h; omega
  rw [show (1 : Int32).toNatClampNeg = 1 from rfl, (P.2.1 1 (by omega)).1, show (7 : Int32) = J 7 from rfl, J_mul, J_add, show (7 : Int) * (pa 1 : Nat) + (d : Nat) = ((7 * pa 1 + d : Nat) : Int) by omega, bndE, if_neg g, J_natN (by omega), e1] at eR
  rw [show (1 : Int32).toNatClampNeg = 1 from rfl, (P.2.2.1 1 (by omega)).1, Option.bind_some] at eC
  dsimp only at eC
  rw [mrgS, bndE, h10, if_neg (by rw [show (1 : Int32) = J 1 from rfl, J_lt (by omega) (by omega) (by omega) (by omega)]; omega), if_neg (by rw [show (6 : Int32) = J 6 from rfl, J_lt (by omega) (by omega) (by omega) (by omega)]; omega), show (6 : Int32) = J 6 from rfl, J_mul, J_add, show (1 : Int32) = J 1 from rfl, J_sub, show ((pa 1 : Nat) : Int) * 6 + (d : Nat) - 1 = ((pa 1 * 6 + d - 1 : Nat) : Int) by omega, bndE, q_g_at_in (by omega) (by omega) (by omega), Int.toNat_natCast, e2, bndE, Option.bind_some] at eC
  dsimp only at eC
  rw [mrgS, bndE, bndE] at eC
  have elt : e ≤ nO := by omega
  by_cases q : e = 0
  · have z : J (e : Nat) = 0 := by rw [q]; rfl
    obtain ⟨τ, Δ, a1, a2, a3⟩ := D_line txl_cantgo hP hO
    obtain ⟨υ, Θ, b1, b2, b3, b4⟩ := W_line txl_cantgo hO
    rw [if_pos z, b1, Option.bind_some] at eR
    rw [if_pos z, b2, Option.bind_some] at eC
    dsimp only at eC
    rw [b3, bndE, if_pos z] at eC
    refine ⟨υ, Θ, 0, eR, ?_, Or.inl ⟨rfl, DOS_T hP b4⟩⟩
    rw [eC]; rfl
  · have z : ¬ J (e : Nat) = 0 := by rw [J_z0 (by omega)]; exact q
    have er : 1 ≤ e ∧ e ≤ nO ∧ room e = true := by rcases e3 with h | h; exact absurd h q; exact h
    obtain ⟨τ, Δ, a1, a2, a3, a4, a5⟩ := W_move P (x := 1) (h := e) ⟨Nat.le_refl _, p1.1⟩ ⟨er.1, er.2.1⟩ p1.2.2.1 (fun _ => er.2.2) (wi_no t (Nat.le_refl _) er.2.1 (fun h => by
      have := er.2.2
      rw [← h, p1.2.2.1] at this; cases this) (Or.inl (P.2.2.2.2.2.2.2.2.2.1 _ er.2.2)))
    have hd1 : DOS nO nV nC room σ Γ τ Δ := ⟨a5, OUT_T hO a3 a4, rDo_T a3, cDo_T a4⟩
    obtain ⟨k1, k2, k3, k4, k5, k6⟩ := SLK_keep (room := room) (nO := nO) (σ := σ) (Γ := Γ) ⟨s1, s2, s3, s4, s5, s6⟩ hd1.2.2.1 hd1.2.2.2
    obtain ⟨υ, Θ, l1, l2, l3⟩ := W_look a5 hd1.2.1 k1 k2 k3 k4
    rw [if_neg z, bndE, if_neg g, J_natN (by omega), e1, show F_X12_putIn 1 (J (e : Nat)) σ = some ((0 : Int32), τ) from a1, Option.bind_some] at eR
    dsimp only at eR
    rw [l1, Option.bind_some] at eR
    rw [if_neg z, show F_X6_moveInto (J 1) (J (e : Nat)) Γ = some ((0 : Int32), Δ) from a2, Option.bind_some] at eC
    dsimp only at eC
    rw [mrg9 a4.1, bndE, if_neg z] at eC
    refine ⟨υ, Δ, 1, eR, ?_, Or.inr ⟨rfl, Θ, l2, DOS_trans hd1 (DOS_T a5 l3)⟩⟩
    rw [eC]; rfl
/-- a command's own doing, in both -/
theorem W_does {σ : MS} {Γ : HS} (hP : PL nO room nV nC σ Γ) (hO : OUT σ Γ) (hS : SLK σ Γ nO room) {a : Int} {x y : Nat} (ha : 0 ≤ a ∧ a < 1000) (h8 : (Γ 11).1 8 = J a) (h10 : (Γ 11).1 10 = J (x : Nat)) (h11 : (Γ 11).1 11 = J (y : Nat)) (hx : 4 ≤ a → a ≤ 10 → 1 ≤ x ∧ x ≤ nO ∧ room x = false) (hy : a = 9 ∨ a = 10 → 1 ≤ y ∧ y ≤ nO) (hd : a = 11 → 1 ≤ x ∧ x ≤ 6) : DOL nO nV nC room σ Γ (F_X12_does (J a) (J (x : Nat)) (J (y : Nat)) σ) (F_X8_doing Γ) := by
  have hS' := hS
  obtain ⟨s1, s2, s3, s4, s5, s6⟩ := hS'
  have ne : ∀ c : Int, 0 ≤ c → c < 1000 → a ≠ c → ¬ J a = J c := fun c h1 h2 h3 => by rw [J_eq (by omega) (by omega) (by omega) (by omega)]; exact h3
  rw [does_eq]
  unfold F_X8_doing
  rw [h8, bndE]
  by_cases q1 : a = 1
  · subst q1
    obtain ⟨υ, Θ, l1, l2, l3⟩ := W_look hP hO s1 s2 s3 s4
    rw [if_pos (show J 1 = 1 from rfl), if_pos (show J 1 = 1 from rfl), l1]
    exact ⟨υ, Γ, 1, rfl, rfl, Or.inr ⟨rfl, Θ, l2, DOS_T hP l3⟩⟩
  rw [if_neg (show ¬ J a = 1 from ne 1 (by omega) (by omega) q1), if_neg (show ¬ J a = 1 from ne 1 (by omega) (by omega) q1)]
  by_cases q2 : a = 2
  · subst q2
    have hP' := hP
    obtain ⟨pa, fi, nx, ch, tr, P⟩ := hP'
    have t := P.1
    have tn := t.1
    have h1 := P.2.2.2.2.2.2.2.2.2.2.1.1
    obtain ⟨c1, c2⟩ := t.2.1 1 (Nat.le_refl _) h1
    obtain ⟨τ, Δ, a1, a2, a3⟩ := W_inv (ch 1) (fi 1) 0 0 σ Γ P s1 hO c1 (fun x hx => by
      have := (t.2.2.1 1 x (Nat.le_refl _) h1).mp hx; omega) (by have := TR_len t (Nat.le_refl _) h1; omega) (Or.inl rfl) FU (FU_gt (by have := TR_len t (Nat.le_refl _) h1; omega))
    have i1 : F_X12_inventory σ = some ((0 : Int32), τ) := by
      rw [inv_eq, show (1 : Int32).toNatClampNeg = 1 from rfl, (P.2.1 1 (by omega)).2.1]; exact a1
    have i2 : F_X8_inventory Γ = some ((0 : Int32), Δ) := by
      rw [cinv_eq, show (1 : Int32) = J ((1 : Nat) : Int) from rfl, q_g_at_in (by omega) (by omega) (by omega), Int.toNat_natCast, (P.2.2.1 1 (by omega)).2.1]; exact a2
    rw [if_pos (show J 2 = 2 from rfl), if_pos (show J 2 = 2 from rfl), i1, i2]
    exact ⟨τ, Δ, 0, rfl, rfl, Or.inl ⟨rfl, DOS_T hP a3⟩⟩
  rw [if_neg (show ¬ J a = 2 from ne 2 (by omega) (by omega) q2), if_neg (show ¬ J a = 2 from ne 2 (by omega) (by omega) q2)]
  by_cases q3 : a = 3
  · subst q3
    rw [if_pos (show J 3 = 3 from rfl), if_pos (show J 3 = 3 from rfl)]
    obtain ⟨υ, Θ, b1, b2, b3, b4⟩ := W_line txl_time hO
    rw [b1, b2, Option.bind_some, Option.bind_some]
    dsimp only
    rw [b3, bndE]
    exact ⟨υ, Θ, 0, rfl, rfl, Or.inl ⟨rfl, DOS_T hP b4⟩⟩
  rw [if_neg (show ¬ J a = 3 from ne 3 (by omega) (by omega) q3), if_neg (show ¬ J a = 3 from ne 3 (by omega) (by omega) q3)]
  by_cases q4 : a = 4
  · subst q4
    obtain ⟨x1, x2, x3⟩ := hx (by omega) (by omega)
    rw [if_pos (show J 4 = 4 from rfl), if_pos (show J 4 = 4 from rfl)]
    exact DOL_R (D_take hP hO ⟨x1, x2⟩ x3 h10)
  rw [if_neg (show ¬ J a = 4 from ne 4 (by omega) (by omega) q4), if_neg (show ¬ J a = 4 from ne 4 (by omega) (by omega) q4)]
  by_cases q5 : a = 5
  · subst q5
    obtain ⟨x1, x2, x3⟩ := hx (by omega) (by omega)
    rw [if_pos (show J 5 = 5 from rfl), if_pos (show J 5 = 5 from rfl)]
    exact DOL_R (D_drop hP hO ⟨x1, x2⟩ x3 h10)
  rw [if_neg (show ¬ J a = 5 from ne 5 (by omega) (by omega) q5), if_neg (show ¬ J a = 5 from ne 5 (by omega) (by omega) q5)]
  by_cases q6 : a = 6
  · subst q6
    obtain ⟨x1, x2, x3⟩ := hx (by omega) (by omega)
    rw [if_pos (show J 6 = 6 from rfl), if_pos (show J 6 = 6 from rfl)]
    exact DOL_R (D_exam hP hO s2 s5 ⟨x1, x2⟩ h10)
  rw [if_neg (show ¬ J a = 6 from ne 6 (by omega) (by omega) q6), if_neg (show ¬ J a = 6 from ne 6 (by omega) (by omega) q6)]
  by_cases q7 : a = 7
  · subst q7
    obtain ⟨x1, x2, x3⟩ := hx (by omega) (by omega)
    rw [if_pos (show J 7 = 7 ∨ J 7 = 8 from Or.inl rfl), if_pos (show J 7 = 7 from rfl)]
    exact DOL_R (D_open hP hO x2 h10)
  by_cases q8 : a = 8
  · subst q8
    obtain ⟨x1, x2, x3⟩ := hx (by omega) (by omega)
    rw [if_pos (show J 8 = 7 ∨ J 8 = 8 from Or.inr rfl), if_neg (show ¬ J 8 = 7 by decide), if_pos (show J 8 = 8 from rfl)]
    exact DOL_R (D_close hP hO x2 h10)
  rw [if_neg (show ¬ (J a = 7 ∨ J a = 8) by rintro (h | h); exact ne 7 (by omega) (by omega) q7 h; exact ne 8 (by omega) (by omega) q8 h), if_neg (show ¬ J a = 7 from ne 7 (by omega) (by omega) q7), if_neg (show ¬ J a = 8 from ne 8 (by omega) (by omega) q8)]
  by_cases q9 : a = 9 ∨ a = 10
  · obtain ⟨x1, x2, x3⟩ := hx (by omega) (by omega)
    have e9 : J a = 9 ∨ J a = 10 := by rcases q9 with rfl | rfl; exact Or.inl rfl; exact Or.inr rfl
    rw [if_pos e9, if_pos e9]
    exact DOL_R (D_put hP hO q9 ⟨x1, x2⟩ x3 (hy q9) h8 h10 h11)
  have e9 : ¬ (J a = 9 ∨ J a = 10) := by rintro (h | h); exact ne 9 (by omega) (by omega) (fun e => q9 (Or.inl e)) h; exact ne 10 (by omega) (by omega) (fun e => q9 (Or.inr e)) h
  rw [if_neg e9, if_neg e9]
  by_cases q11 : a = 11
  · subst q11
    rw [if_pos (show J 11 = 11 from rfl), if_pos (show J 11 = 11 from rfl)]
    exact D_go hP hO hS (hd rfl) h10
  rw [if_neg (show ¬ J a = 11 from ne 11 (by omega) (by omega) q11), if_neg (show ¬ J a = 11 from ne 11 (by omega) (by omega) q11)]
  obtain ⟨υ, Θ, b1, b2, b3, b4⟩ := W_line txl_nothing hO
  rw [b1, b2, Option.bind_some, Option.bind_some]
  dsimp only
  rw [b3, bndE]
  exact ⟨υ, Θ, 0, rfl, rfl, Or.inl ⟨rfl, DOS_T hP b4⟩⟩
