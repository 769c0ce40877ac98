/-! what the player carries, told by both -/
variable {nO nV nC : Nat} {room : Nat → Bool}
theorem IvB_s (n : Nat) (a b : Int32) (X : MS) : loopF IvB (n + 1) (a, b, X) = ( if b = 0 then ( if a = 0 then ( (F_X12_line ([89, 111, 117, 32, 99, 97, 114, 114, 121, 32, 110, 111, 116, 104, 105, 110, 103, 46] : List Int32) X).bind fun u_12 => some (0, u_12.2) ) else ( some (0, X) ) ) else ( (F_X12_has b 2 1 X).bind fun u_16 => bnd (fun (v1_18 : Int32) (σ_19 : MS) => ( if b < 0 ∨ 121 ≤ b.toNatClampNeg then none else bnd ((σ_19.2 89 b.toNatClampNeg)) fun (x_25 : Int32) => loopF IvB n (v1_18, x_25, σ_19) ) : Int32 → MS → MR) fun j_20 => if u_16.1 = 0 then ( bnd (fun  (σ_29 : MS) => ( (F_X12_say ([32, 32] : List Int32) σ_29).bind fun u_34 => (F_X12_sayName b u_34.2).bind fun u_36 => (F_X12_put 10 u_36.2).bind fun u_38 => j_20 1 u_38.2 ) : MS → MR) fun j_30 => if a = 0 then ( (F_X12_line ([89, 111, 117, 32, 99, 97, 114, 114, 121, 58] : List Int32) u_16.2).bind fun u_43 => j_30  u_43.2 ) else ( j_30  u_16.2 ) ) else ( j_20 a u_16.2 ) ) ) := rfl
def IvC : ((Int32 × Int32 × Int32 × HS) → HR) → Int32 × Int32 × Int32 × HS → HR := (fun (again_4 : (Int32 × Int32 × Int32 × HS) → HR) (s_3 : Int32 × Int32 × Int32 × HS) => ( bnd (fun  (σ_7 : HS) => ( if s_3.1 = 0 then ( (F_X5_line ([89, 111, 117, 32, 99, 97, 114, 114, 121, 32, 110, 111, 116, 104, 105, 110, 103, 46] : List Int32) σ_7).bind fun u_14 => bnd (mrg (fun j => j == 8) σ_7 u_14.2) fun σ_16 => some (0, σ_16) ) else ( some (0, σ_7) ) ) : HS → HR) fun j_8 => if 120 ≤ s_3.2.2.1 then ( j_8  s_3.2.2.2 ) else ( if s_3.2.1 = 0 then ( j_8  s_3.2.2.2 ) else ( (F_X6_bears s_3.2.1 2 s_3.2.2.2).bind fun u_25 => bnd (mrg (fun j => j == 9) s_3.2.2.2 u_25.2) fun σ_27 => bnd (fun (v1_29 : Int32) (σ_30 : HS) => ( bnd ((g_at 121 ((σ_30 9).2.1 2) s_3.2.1)) fun (x_34 : Int32) => bnd (s_3.2.2.1 + 1) fun (x_36 : Int32) => again_4 (v1_29, x_34, x_36, σ_30) ) : Int32 → HS → HR) fun j_31 => if u_25.1 = 0 then ( if s_3.1 = 0 then ( (F_X5_text ([89, 111, 117, 32, 99, 97, 114, 114, 121, 58, 10, 32, 32] : List Int32) σ_27).bind fun u_43 => bnd (mrg (fun j => j == 8) σ_27 u_43.2) fun σ_45 => (F_X3_sayName s_3.2.1 σ_45).bind fun u_47 => bnd (mrg (fun j => j == 10 || j == 9 || j == 8 || j == 4 || j == 5 || j == 6 || j == 7) σ_45 u_47.2) fun σ_49 => (F_X5_line ([] : List Int32) σ_49).bind fun u_52 => bnd (mrg (fun j => j == 8) σ_49 u_52.2) fun σ_54 => j_31 1 σ_54 ) else ( (F_X5_text ([32, 32] : List Int32) σ_27).bind fun u_58 => bnd (mrg (fun j => j == 8) σ_27 u_58.2) fun σ_60 => (F_X3_sayName s_3.2.1 σ_60).bind fun u_62 => bnd (mrg (fun j => j == 10 || j == 9 || j == 8 || j == 4 || j == 5 || j == 6 || j == 7) σ_60 u_62.2) fun σ_64 => (F_X5_line ([] : List Int32) σ_64).bind fun u_67 => bnd (mrg (fun j => j == 8) σ_64 u_67.2) fun σ_69 => j_31 1 σ_69 ) ) else ( j_31 s_3.1 σ_27 ) ) ) ))
theorem cinv_eq (Γ : HS) : F_X8_inventory Γ = loopF IvC FU (0, g_at 121 ((Γ 9).2.1 1) 1, 0, Γ) := by
  unfold F_X8_inventory
  rw [bndE]; rfl
theorem IvC_s (n : Nat) (a b c : Int32) (X : HS) : loopF IvC (n + 1) (a, b, c, X) = ( bnd (fun  (σ_7 : HS) => ( if a = 0 then ( (F_X5_line ([89, 111, 117, 32, 99, 97, 114, 114, 121, 32, 110, 111, 116, 104, 105, 110, 103, 46] : List Int32) σ_7).bind fun u_14 => bnd (mrg (fun j => j == 8) σ_7 u_14.2) fun σ_16 => some (0, σ_16) ) else ( some (0, σ_7) ) ) : HS → HR) fun j_8 => if 120 ≤ c then ( j_8  X ) else ( if b = 0 then ( j_8  X ) else ( (F_X6_bears b 2 X).bind fun u_25 => bnd (mrg (fun j => j == 9) X u_25.2) fun σ_27 => bnd (fun (v1_29 : Int32) (σ_30 : HS) => ( bnd ((g_at 121 ((σ_30 9).2.1 2) b)) fun (x_34 : Int32) => bnd (c + 1) fun (x_36 : Int32) => loopF IvC n (v1_29, x_34, x_36, σ_30) ) : Int32 → HS → HR) fun j_31 => if u_25.1 = 0 then ( if a = 0 then ( (F_X5_text ([89, 111, 117, 32, 99, 97, 114, 114, 121, 58, 10, 32, 32] : List Int32) σ_27).bind fun u_43 => bnd (mrg (fun j => j == 8) σ_27 u_43.2) fun σ_45 => (F_X3_sayName b σ_45).bind fun u_47 => bnd (mrg (fun j => j == 10 || j == 9 || j == 8 || j == 4 || j == 5 || j == 6 || j == 7) σ_45 u_47.2) fun σ_49 => (F_X5_line ([] : List Int32) σ_49).bind fun u_52 => bnd (mrg (fun j => j == 8) σ_49 u_52.2) fun σ_54 => j_31 1 σ_54 ) else ( (F_X5_text ([32, 32] : List Int32) σ_27).bind fun u_58 => bnd (mrg (fun j => j == 8) σ_27 u_58.2) fun σ_60 => (F_X3_sayName b σ_60).bind fun u_62 => bnd (mrg (fun j => j == 10 || j == 9 || j == 8 || j == 4 || j == 5 || j == 6 || j == 7) σ_60 u_62.2) fun σ_64 => (F_X5_line ([] : List Int32) σ_64).bind fun u_67 => bnd (mrg (fun j => j == 8) σ_64 u_67.2) fun σ_69 => j_31 1 σ_69 ) ) else ( j_31 a σ_27 ) ) ) ) := rfl
theorem txl_carry0 : TXL [89, 111, 117, 32, 99, 97, 114, 114, 121, 32, 110, 111, 116, 104, 105, 110, 103, 46] [89, 111, 117, 32, 99, 97, 114, 114, 121, 32, 110, 111, 116, 104, 105, 110, 103, 46] := by unfold TXL; decide +kernel
theorem txl_carry1 : TXL [89, 111, 117, 32, 99, 97, 114, 114, 121, 58] [89, 111, 117, 32, 99, 97, 114, 114, 121, 58] := by unfold TXL; decide +kernel
theorem txl_carry2 : TXL [89, 111, 117, 32, 99, 97, 114, 114, 121, 58, 10, 32, 32] [89, 111, 117, 32, 99, 97, 114, 114, 121, 58, 10, 32, 32] := by unfold TXL; decide +kernel
theorem txl_two : TXL [32, 32] [32, 32] := by unfold TXL; decide +kernel
/-- the words ahead of a name -/
theorem W_carry {σ : MS} {Γ : HS} (h : OUT σ Γ) : ∃ τ1 τ Δ, F_X12_line [89, 111, 117, 32, 99, 97, 114, 114, 121, 58] σ = some ((0 : Int32), τ1) ∧ F_X12_say [32, 32] τ1 = some ((0 : Int32), τ) ∧ F_X5_text [89, 111, 117, 32, 99, 97, 114, 114, 121, 58, 10, 32, 32] Γ = some ((0 : Int32), Δ) ∧ mrg (fun j => j == 8) Γ Δ = Δ ∧ TLS σ Γ τ Δ := by
  obtain ⟨w, h1, h2⟩ := h
  obtain ⟨τ1, a1, a2, a3⟩ := rt_line txl_carry1 h1
  obtain ⟨τ, b1, b2, b3⟩ := rt_say txl_two a3
  obtain ⟨Δ, c1, c2, c3⟩ := ot_text txl_carry2 h2
  rw [apO_apO] at b3
  exact ⟨τ1, τ, Δ, a1, b1, c1, mrg8 c2, oR3_trans a2 b2, SYF_8 c2, _, b3, c3⟩
theorem W_inv {pa fi nx : Nat → Nat} {ch : Nat → List Nat} {tr : Nat → Nat} : ∀ (l : List Nat) (f c : Nat) (a : Int32) (σ : MS) (Γ : HS), PLT nO room nV nC σ Γ pa fi nx ch tr → CAL σ Γ nO → OUT σ Γ → chL nx l f → (∀ x, x ∈ l → 1 ≤ x ∧ x ≤ nO) → c + l.length ≤ 120 → (a = 0 ∨ a = 1) → ∀ n, l.length < n → ∃ τ Δ, loopF IvB n (a, J (f : Nat), σ) = some ((0 : Int32), τ) ∧ loopF IvC n (a, J (f : Nat), J (c : Nat), Γ) = some ((0 : Int32), Δ) ∧ TLS σ Γ τ Δ := by
  intro l
  induction l with
  | nil =>
    intro f c a σ Γ hP hC hO hl hm hc ha n hn
    obtain ⟨n, rfl⟩ : ∃ m, n = m + 1 := ⟨n - 1, by omega⟩
    have hf : f = 0 := hl
    subst hf
    rw [IvB_s, IvC_s, if_pos (show J ((0 : Nat) : Int) = 0 from rfl), bndE, if_pos (show J ((0 : Nat) : Int) = 0 from rfl), ite_self]
    dsimp only
    rcases ha with rfl | rfl
    rotate_left
    · exact ⟨σ, Γ, if_neg (by decide), if_neg (by decide), TLS_rfl hO⟩
    · obtain ⟨τ, Δ, a1, a2, a3, a4⟩ := W_line txl_carry0 hO
      refine ⟨τ, Δ, ?_, ?_, a4⟩
      · rw [if_pos rfl, a1]; rfl
      · rw [if_pos rfl, a2, Option.bind_some]
        dsimp only
        rw [a3, bndE]
  | cons x l ih =>
    intro f c a σ Γ hP hC hO hl hm hc ha n hn
    obtain ⟨n, rfl⟩ : ∃ m, n = m + 1 := ⟨n - 1, by omega⟩
    have tn := hP.1.1
    obtain ⟨rfl, x0, hl⟩ := hl
    have hx := hm f (List.mem_cons_self ..)
    rw [List.length_cons] at hc hn
    have hx0 : ¬ J (f : Nat) = 0 := by rw [J_z0 (by omega)]; exact x0
    -- what is next
    have nxR : ∀ {τ : MS} {Δ : HS}, PLT nO room nV nC τ Δ pa fi nx ch tr → τ.2 89 f = J (nx f : Nat) ∧ (Δ 9).2.1 2 f = J (nx f : Nat) := fun h => ⟨(h.2.1 f (by omega)).2.2, (h.2.2.1 f (by omega)).2.2⟩
    have go : ∀ (τ : MS) (Δ : HS) (b : Int32), (b = 0 ∨ b = 1) → TLS σ Γ τ Δ → ∃ υ Θ, loopF IvB n (b, J (nx f : Nat), τ) = some ((0 : Int32), υ) ∧ loopF IvC n (b, J (nx f : Nat), J (c + 1 : Nat), Δ) = some ((0 : Int32), Θ) ∧ TLS σ Γ υ Θ := fun τ Δ b hb hT => by
      obtain ⟨υ, Θ, e1, e2, e3⟩ := ih (nx f) (c + 1) b τ Δ (TLS_PLT hP hT) (TLS_CAL hC hT) hT.2.2 hl (fun y hy => hm y (List.mem_cons_of_mem _ hy)) (by omega) hb n (by omega)
      exact ⟨υ, Θ, e1, e2, TLS_trans hT e3⟩
    have g := g121 (x := f) (by omega)
    have sB := IvB_s n a (J (f : Nat)) σ
    have sC := IvC_s n a (J (f : Nat)) (J (c : Nat)) Γ
    rw [if_neg hx0, show (2 : Int32) = J ((2 : Nat) : Int) from rfl, r_has hP (by omega) (by omega), Option.bind_some, bndE] at sB
    rw [bndE, if_neg (by rw [show (120 : Int32) = J 120 from rfl, J_le (by omega) (by omega) (by omega) (by omega)]; omega), if_neg hx0, show (2 : Int32) = J ((2 : Nat) : Int) from rfl, c_bears hP (by omega) (by omega), Option.bind_some] at sC
    dsimp only at sB sC
    rw [mrgS, bndE, bndE] at sC
    by_cases q : trB tr 2 f = true
    · rw [if_pos q, if_neg (by decide)] at sB
      rw [if_pos q, if_neg (by decide)] at sC
      dsimp only at sB sC
      rw [if_neg g, J_natN (by omega), (nxR hP).1, bndE] at sB
      rw [q_g_at_in (by omega) (by omega) (by omega), Int.toNat_natCast, (nxR hP).2, bndE, J_suc, bndE] at sC
      rw [sB, sC]
      exact go σ Γ a ha (TLS_rfl hO)
    · rw [if_neg q, if_pos rfl, bndE] at sB
      rw [if_neg q, if_pos rfl] at sC
      -- the words, the name, the end of the line
      have fin : ∀ (τ : MS) (Δ : HS), TLS σ Γ τ Δ → ∃ τ2 τ3 Δ2 Δ3, F_X12_sayName (J (f : Nat)) τ = some ((0 : Int32), τ2) ∧ F_X12_put 10 τ2 = some ((0 : Int32), τ3) ∧ F_X3_sayName (J (f : Nat)) Δ = some ((0 : Int32), Δ2) ∧ mrg (fun j => j == 10 || j == 9 || j == 8 || j == 4 || j == 5 || j == 6 || j == 7) Δ Δ2 = Δ2 ∧ F_X5_line [] Δ2 = some ((0 : Int32), Δ3) ∧ mrg (fun j => j == 8) Δ2 Δ3 = Δ3 ∧ TLS σ Γ τ3 Δ3 := fun τ Δ hT => by
        obtain ⟨τ2, Δ2, a1, a2, a3, a4⟩ := W_nm (by omega) (TLS_CAL hC hT) hx hT.2.2
        obtain ⟨τ3, Δ3, b1, b2, b3, b4⟩ := W_nl a4.2.2
        exact ⟨τ2, τ3, Δ2, Δ3, a1, b1, a2, a3, b2, b3, TLS_trans hT (TLS_trans a4 b4)⟩
      rcases ha with rfl | rfl
      rotate_left
      · obtain ⟨τ1, Δ1, a1, a2, a3, a4⟩ := W_say txl_two hO
        obtain ⟨τ2, τ3, Δ2, Δ3, f1, f2, f3, f4, f5, f6, f7⟩ := fin τ1 Δ1 a4
        have hP3 := TLS_PLT hP f7
        rw [if_neg (by decide)] at sB
        rw [if_neg (by decide), a2, Option.bind_some] at sC
        dsimp only at sB sC
        rw [a1, Option.bind_some, f1, Option.bind_some, f2, Option.bind_some] at sB
        rw [a3, bndE, f3, Option.bind_some] at sC
        dsimp only at sB sC
        rw [if_neg g, J_natN (by omega), (nxR hP3).1, bndE] at sB
        rw [f4, bndE, f5, Option.bind_some] at sC
        dsimp only at sC
        rw [f6, bndE, q_g_at_in (by omega) (by omega) (by omega), Int.toNat_natCast, (nxR hP3).2, bndE, J_suc, bndE] at sC
        rw [sB, sC]
        exact go τ3 Δ3 1 (Or.inr rfl) f7
      · obtain ⟨τ0, τ1, Δ1, a0, a1, a2, a3, a4⟩ := W_carry hO
        obtain ⟨τ2, τ3, Δ2, Δ3, f1, f2, f3, f4, f5, f6, f7⟩ := fin τ1 Δ1 a4
        have hP3 := TLS_PLT hP f7
        rw [if_pos rfl, a0, Option.bind_some] at sB
        rw [if_pos rfl, a2, Option.bind_some] at sC
        dsimp only at sB sC
        rw [a1, Option.bind_some, f1, Option.bind_some, f2, Option.bind_some] at sB
        rw [a3, bndE, f3, Option.bind_some] at sC
        dsimp only at sB sC
        rw [if_neg g, J_natN (by omega), (nxR hP3).1, bndE] at sB
        rw [f4, bndE, f5, Option.bind_some] at sC
        dsimp only at sC
        rw [f6, bndE, q_g_at_in (by omega) (by omega) (by omega), Int.toNat_natCast, (nxR hP3).2, bndE, J_suc, bndE] at sC
        rw [sB, sC]
        exact go τ3 Δ3 1 (Or.inr rfl) f7
theorem W_inventory {σ : MS} {Γ : HS} (hR : RRl nO room nV nC σ Γ) (hC : CAL σ Γ nO) : ∃ τ Δ, F_X12_inventory σ = some ((0 : Int32), τ) ∧ F_X8_inventory Γ = some ((0 : Int32), Δ) ∧ TLS σ Γ τ Δ := by
  obtain ⟨⟨pa, fi, nx, ch, tr, P⟩, hO, -⟩ := hR
  have t := P.1
  have tn := t.1
  have h1 := P.2.2.2.2.2.2.2.2.2.2.1.1
  obtain ⟨c1, c2⟩ := t.2.1 1 (Nat.le_refl _) h1
  obtain ⟨τ, Δ, a1, a2, a3⟩ := W_inv (ch 1) (fi 1) 0 0 σ Γ P hC hO c1 (fun x hx => by
    have := (t.2.2.1 1 x (Nat.le_refl _) h1).mp hx; omega) (by have := TR_len t (Nat.le_refl _) h1; omega) (Or.inl rfl) FU (FU_gt (by have := TR_len t (Nat.le_refl _) h1; omega))
  rw [inv_eq, cinv_eq, show (1 : Int32).toNatClampNeg = 1 from rfl, (P.2.1 1 (by omega)).2.1, show (1 : Int32) = J ((1 : Nat) : Int) from rfl, q_g_at_in (by omega) (by omega) (by omega), Int.toNat_natCast, (P.2.2.1 1 (by omega)).2.1]
  exact ⟨τ, Δ, a1, a2, a3⟩
