/-! a room is looked at, by both -/
variable {nO nV nC : Nat} {room : Nat → Bool}
theorem look_eq (σ : MS) : F_X12_look σ = (F_X12_isLight σ).bind fun u_1 => if u_1.1 = 0 then ( (F_X12_line ([73, 116, 32, 105, 115, 32, 100, 97, 114, 107, 46] : List Int32) u_1.2).bind fun u_6 => some (0, u_6.2) ) else ( bnd ((u_1.2.2 87 (1 : Int32).toNatClampNeg)) fun (x_9 : Int32) => (F_X12_sayName x_9 u_1.2).bind fun u_11 => (F_X12_put 10 u_11.2).bind fun u_13 => if x_9 < 0 ∨ 121 ≤ x_9.toNatClampNeg then none else bnd (fun  (σ_17 : MS) => ( if x_9 < 0 ∨ 121 ≤ x_9.toNatClampNeg then none else bnd ((σ_17.2 88 x_9.toNatClampNeg)) fun (x_23 : Int32) => loopF LkB FU (x_23, σ_17) ) : MS → MR) fun j_18 => if (u_13.2.2 122 x_9.toNatClampNeg) = 0 then ( j_18  u_13.2 ) else ( if x_9 < 0 ∨ 121 ≤ x_9.toNatClampNeg then none else if x_9 < 0 ∨ 121 ≤ x_9.toNatClampNeg then none else (F_X12_sayText (u_13.2.2 48 x_9.toNatClampNeg) (u_13.2.2 49 x_9.toNatClampNeg) u_13.2).bind fun u_123 => (F_X12_put 10 u_123.2).bind fun u_125 => j_18  u_125.2 ) ) := rfl
theorem clook_eq (Γ : HS) : F_X8_look Γ = (F_X6_isLight Γ).bind fun u_1 => bnd (mrg (fun j => j == 9) Γ u_1.2) fun σ_3 => if u_1.1 = 0 then ( (F_X5_line ([73, 116, 32, 105, 115, 32, 100, 97, 114, 107, 46] : List Int32) σ_3).bind fun u_8 => bnd (mrg (fun j => j == 8) σ_3 u_8.2) fun σ_10 => some (0, σ_10) ) else ( (F_X6_here σ_3).bind fun u_13 => bnd (mrg (fun j => j == 9) σ_3 u_13.2) fun σ_15 => (F_X3_sayName u_13.1 σ_15).bind fun u_17 => bnd (mrg (fun j => j == 10 || j == 9 || j == 8 || j == 4 || j == 5 || j == 6 || j == 7) σ_15 u_17.2) fun σ_19 => (F_X5_line ([] : List Int32) σ_19).bind fun u_22 => bnd (mrg (fun j => j == 8) σ_19 u_22.2) fun σ_24 => bnd ((g_at 121 ((σ_24 4).2.1 3) u_13.1)) fun (x_26 : Int32) => bnd (fun  (σ_28 : HS) => ( bnd ((g_at 121 ((σ_28 9).2.1 1) u_13.1)) fun (x_32 : Int32) => loopF LkC FU (x_32, 0, σ_28) ) : HS → HR) fun j_29 => if x_26 = (-1) then ( j_29  σ_24 ) else ( bnd ((g_at 121 ((σ_24 4).2.1 3) u_13.1)) fun (x_81 : Int32) => (F_X3_sayText x_81 σ_24).bind fun u_83 => bnd (mrg (fun j => j == 10 || j == 9 || j == 8 || j == 4 || j == 5 || j == 6 || j == 7) σ_24 u_83.2) fun σ_85 => (F_X5_line ([] : List Int32) σ_85).bind fun u_88 => bnd (mrg (fun j => j == 8) σ_85 u_88.2) fun σ_90 => j_29  σ_90 ) ) := rfl
theorem cti_eq (p0 : Int32) (Γ : HS) : F_X8_tellInside p0 Γ = (F_X6_showsInside p0 Γ).bind fun u_1 => bnd (mrg (fun j => j == 9) Γ u_1.2) fun σ_3 => bnd (fun (t_5 : Int32) (σ_6 : HS) => ( loopF (InC p0) FU (t_5, 0, σ_6) ) : Int32 → HS → HR) fun j_7 => if u_1.1 = 0 then ( j_7 0 σ_3 ) else ( bnd ((g_at 121 ((σ_3 9).2.1 1) p0)) fun (x_91 : Int32) => j_7 x_91 σ_3 ) := rfl
def TiR (K : MS → MR) (y : Int32) (σ : MS) : MR := (F_X12_lets y σ).bind fun u_55 => if u_55.1 = 0 then K u_55.2 else if y < 0 ∨ 121 ≤ y.toNatClampNeg then none else bnd ((u_55.2.2 88 y.toNatClampNeg)) fun (x_62 : Int32) => loopF (InB K y) FU (x_62, u_55.2)
theorem ch_ok {n : Nat} {pa fi nx : Nat → Nat} {ch : Nat → List Nat} (t : TR n pa fi nx ch) {y : Nat} (hy : 1 ≤ y ∧ y ≤ n) : chL nx (ch y) (fi y) ∧ (∀ x, x ∈ ch y → 1 ≤ x ∧ x ≤ n) ∧ (ch y).length ≤ n := ⟨(t.2.1 y hy.1 hy.2).1, fun x hx => by have := (t.2.2.1 y x hy.1 hy.2).mp hx; omega, TR_len t hy.1 hy.2⟩
theorem W_tellIn {σ : MS} {Γ : HS} {pa fi nx : Nat → Nat} {ch : Nat → List Nat} {tr : Nat → Nat} (P : PLT nO room nV nC σ Γ pa fi nx ch tr) (hC : CAL σ Γ nO) (hO : OUT σ Γ) {y : Nat} (hy : 1 ≤ y ∧ y ≤ nO) : ∃ τ Δ, (∀ K : MS → MR, TiR K (J (y : Nat)) σ = K τ) ∧ F_X8_tellInside (J (y : Nat)) Γ = some ((0 : Int32), Δ) ∧ TLS σ Γ τ Δ := by
  have t := P.1
  have tn := t.1
  obtain ⟨c1, c2, c3⟩ := ch_ok t hy
  rw [cti_eq, c_shows P (by omega), Option.bind_some]
  dsimp only
  rw [mrgS, bndE]
  by_cases q : shB tr y = true
  · obtain ⟨τ, Δ, a1, a2, a3⟩ := W_ins hy (ch y) (fi y) 0 σ Γ P hC hO c1 c2 (by omega) FU (FU_gt (by omega))
    refine ⟨τ, Δ, fun K => ?_, ?_, a3⟩
    · unfold TiR
      rw [r_lets P (by omega), Option.bind_some, if_pos q]
      dsimp only
      rw [if_neg (by decide), if_neg (g121 (by omega)), J_natN (by omega), (P.2.1 y (by omega)).2.1, bndE]
      exact a1 K
    · rw [if_pos q, bndE, if_neg (by decide), q_g_at_in (by omega) (by omega) (by omega), Int.toNat_natCast, (P.2.2.1 y (by omega)).2.1, bndE]
      exact a2
  · obtain ⟨τ, Δ, a1, a2, a3⟩ := W_ins hy [] 0 0 σ Γ P hC hO rfl (fun x hx => by cases hx) (by decide) FU (FU_gt (by decide))
    have eτ : τ = σ ∧ Δ = Γ := by
      obtain ⟨m, hm⟩ : ∃ m, FU = m + 1 := ⟨FU - 1, by have := FU_gt (k := 1) (by omega); omega⟩
      have b1 := a1 (fun σ => some (0, σ))
      rw [hm, InB_s, if_pos (show J ((0 : Nat) : Int) = 0 from rfl)] at b1
      rw [hm, InC_s, if_pos (show J ((0 : Nat) : Int) = 0 from rfl), ite_self] at a2
      injection b1 with b1
      injection b1 with b1 b2
      injection a2 with a2
      injection a2 with a2 a4
      exact ⟨b2.symm, a4.symm⟩
    refine ⟨τ, Δ, fun K => ?_, ?_, a3⟩
    · unfold TiR
      rw [r_lets P (by omega), Option.bind_some, if_neg q]
      dsimp only
      rw [if_pos rfl, eτ.1]
    · rw [if_neg q, bndE, if_pos rfl]
      exact a2
/-- what the player sees in the room, thing by thing -/
theorem W_here {pa fi nx : Nat → Nat} {ch : Nat → List Nat} {tr : Nat → Nat} : ∀ (l : List Nat) (f c : Nat) (σ : MS) (Γ : HS), PLT nO room nV nC σ Γ pa fi nx ch tr → CAL σ Γ nO → OUT σ Γ → chL nx l f → (∀ x, x ∈ l → 1 ≤ x ∧ x ≤ nO) → c + l.length ≤ 120 → ∀ n, l.length < n → ∃ τ Δ, loopF LkB n (J (f : Nat), σ) = some ((0 : Int32), τ) ∧ loopF LkC n (J (f : Nat), J (c : Nat), Γ) = some ((0 : Int32), Δ) ∧ TLS σ Γ τ Δ := by
  intro l
  induction l with
  | nil =>
    intro f c σ Γ hP hC hO hl hm hc n hn
    obtain ⟨n, rfl⟩ : ∃ m, n = m + 1 := ⟨n - 1, by omega⟩
    have hf : f = 0 := hl
    subst hf
    exact ⟨σ, Γ, by rw [LkB_s, if_pos (show J ((0 : Nat) : Int) = 0 from rfl)], by rw [LkC_s, if_pos (show J ((0 : Nat) : Int) = 0 from rfl), ite_self], TLS_rfl hO⟩
  | cons x l ih =>
    intro f c σ Γ hP hC hO hl hm hc n hn
    obtain ⟨n, rfl⟩ : ∃ m, n = m + 1 := ⟨n - 1, by omega⟩
    have tn := hP.1.1
    obtain ⟨rfl, x0, hl⟩ := hl
    have hx := hm f (List.mem_cons_self ..)
    rw [List.length_cons] at hc hn
    have hx0 : ¬ J (f : Nat) = 0 := by rw [J_z0 (by omega)]; exact x0
    have nxR : ∀ {τ : MS} {Δ : HS}, PLT nO room nV nC τ Δ pa fi nx ch tr → τ.2 89 f = J (nx f : Nat) ∧ (Δ 9).2.1 2 f = J (nx f : Nat) := fun h => ⟨(h.2.1 f (by omega)).2.2, (h.2.2.1 f (by omega)).2.2⟩
    have go : ∀ (τ : MS) (Δ : HS), TLS σ Γ τ Δ → ∃ υ Θ, loopF LkB n (J (nx f : Nat), τ) = some ((0 : Int32), υ) ∧ loopF LkC n (J (nx f : Nat), J (c + 1 : Nat), Δ) = some ((0 : Int32), Θ) ∧ TLS σ Γ υ Θ := fun τ Δ hT => by
      obtain ⟨υ, Θ, e1, e2, e3⟩ := ih (nx f) (c + 1) τ Δ (TLS_PLT hP hT) (TLS_CAL hC hT) hT.2.2 hl (fun y hy => hm y (List.mem_cons_of_mem _ hy)) (by omega) n (by omega)
      exact ⟨υ, Θ, e1, e2, TLS_trans hT e3⟩
    have g := g121 (x := f) (by omega)
    have sB := LkB_s n (J (f : Nat)) σ
    have sC := LkC_s n (J (f : Nat)) (J (c : Nat)) Γ
    rw [if_neg hx0, bndE] at sB
    rw [if_neg (by rw [show (120 : Int32) = J 120 from rfl, J_le (by omega) (by omega) (by omega) (by omega)]; omega), if_neg hx0, bndE] at sC
    -- on to the next
    have jB : ∀ {τ : MS} {Δ : HS}, PLT nO room nV nC τ Δ pa fi nx ch tr → (if J (f : Nat) < 0 ∨ 121 ≤ (J (f : Nat)).toNatClampNeg then none else bnd (τ.2 89 (J (f : Nat)).toNatClampNeg) fun (x_38 : Int32) => loopF LkB n (x_38, τ)) = loopF LkB n (J (nx f : Nat), τ) := fun h => by
      rw [if_neg g, J_natN (by omega), (nxR h).1, bndE]
    have jC : ∀ {τ : MS} {Δ : HS}, PLT nO room nV nC τ Δ pa fi nx ch tr → (bnd (g_at 121 ((Δ 9).2.1 2) (J (f : Nat))) fun (x_48 : Int32) => bnd (J (c : Nat) + 1) fun (x_50 : Int32) => loopF LkC n (x_48, x_50, Δ)) = loopF LkC n (J (nx f : Nat), J (c + 1 : Nat), Δ) := fun h => by
      rw [q_g_at_in (by omega) (by omega) (by omega), Int.toNat_natCast, (nxR h).2, bndE, J_suc, bndE]
    by_cases q1 : f = 1
    · have e1 : J (f : Nat) = 1 := by rw [q1]; rfl
      rw [if_pos e1] at sB sC
      dsimp only at sB sC
      rw [jB hP] at sB
      rw [jC hP] at sC
      rw [sB, sC]
      exact go σ Γ (TLS_rfl hO)
    have e1 : ¬ J (f : Nat) = 1 := by rw [show (1 : Int32) = J ((1 : Nat) : Int) from rfl, J_eqN (by omega) (by omega)]; exact q1
    rw [if_neg e1, show (2 : Int32) = J ((2 : Nat) : Int) from rfl, r_has hP (by omega) (by omega), Option.bind_some] at sB
    rw [if_neg e1, show (2 : Int32) = J ((2 : Nat) : Int) from rfl, c_bears hP (by omega) (by omega), Option.bind_some] at sC
    dsimp only at sB sC
    rw [mrgS, bndE] at sC
    by_cases q : trB tr 2 f = true
    · rw [if_pos q, if_neg (by decide), jB hP] at sB
      rw [if_pos q, if_neg (by decide), jC hP] at sC
      rw [sB, sC]
      exact go σ Γ (TLS_rfl hO)
    · rw [if_neg q, if_pos rfl] at sB sC
      obtain ⟨τ1, Δ1, a1, a2, a3, a4⟩ := W_say txl_thi hO
      obtain ⟨τ2, Δ2, b1, b2, b3, b4⟩ := W_nm (by omega) (TLS_CAL hC a4) hx a4.2.2
      have t2 := TLS_trans a4 b4
      obtain ⟨τ3, Δ3, c1, c2, c3, c4⟩ := W_line txl_here t2.2.2
      have t3 := TLS_trans t2 c4
      obtain ⟨τ4, Δ4, d1, d2, d3⟩ := W_tellIn (TLS_PLT hP t3) (TLS_CAL hC t3) t3.2.2 hx
      have t4 := TLS_trans t3 d3
      have hP4 := TLS_PLT hP t4
      have dB := d1 (fun σ_32 => if J (f : Nat) < 0 ∨ 121 ≤ (J (f : Nat)).toNatClampNeg then none else bnd (σ_32.2 89 (J (f : Nat)).toNatClampNeg) fun (x_38 : Int32) => loopF LkB n (x_38, σ_32))
      unfold TiR at dB
      dsimp only at dB
      rw [a1, Option.bind_some, b1, Option.bind_some, c1, Option.bind_some] at sB
      dsimp only at sB
      rw [dB, jB hP4] at sB
      rw [a2, Option.bind_some] at sC
      dsimp only at sC
      rw [a3, bndE, b2, Option.bind_some] at sC
      dsimp only at sC
      rw [b3, bndE, c2, Option.bind_some] at sC
      dsimp only at sC
      rw [c3, bndE, d2, Option.bind_some] at sC
      dsimp only at sC
      rw [jC hP4] at sC
      rw [sB, sC]
      exact go τ4 Δ4 t4
