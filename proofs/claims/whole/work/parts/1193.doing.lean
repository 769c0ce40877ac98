/-! close, put, go -/
variable {nO nV nC : Nat} {room : Nat → Bool}
theorem D_close {σ : MS} {Γ : HS} (hP : PL nO room nV nC σ Γ) (hO : OUT σ Γ) {x : Nat} {p2 : Int32} (hx : x ≤ nO) (h10 : (Γ 11).1 10 = J (x : Nat)) : DOR nO nV nC room σ Γ (DoOpen 8 (J (x : Nat)) p2 σ) (F_X8_close Γ) := by
  have hP' := hP
  obtain ⟨pa, fi, nx, ch, tr, P⟩ := hP'
  have tn := P.1.1
  have n8 : ¬ (8 : Int32) = 7 := by decide
  unfold DoOpen F_X8_close
  rw [h10, show F_X12_has (J (x : Nat)) 0 1 σ = _ from r_has (a := 0) P (by omega) (by omega) 1, show F_X6_bears (J (x : Nat)) 0 Γ = _ from c_bears (a := 0) P (by omega) (by omega), Option.bind_some, Option.bind_some]
  dsimp only
  rw [mrgS, bndE]
  by_cases q : trB tr 0 x = true
  · rw [if_pos q, if_neg (by decide), if_neg (by decide), h10, show F_X12_has (J (x : Nat)) 4 1 σ = _ from r_has (a := 4) P (by omega) (by omega) 1, show F_X6_bears (J (x : Nat)) 4 Γ = _ from c_bears (a := 4) P (by omega) (by omega), Option.bind_some, Option.bind_some]
    dsimp only
    rw [mrgS, bndE, bndE, if_neg n8]
    dsimp only
    by_cases q4 : trB tr 4 x = true
    · obtain ⟨Δ, g1, g2, g3⟩ := D_give hP hO (x := x) (a := 4) (trB_pos P q) (by omega) (by omega) false
      obtain ⟨υ, Θ, a1, a2, a3, a4⟩ := D_then txl_closed g3
      have g1 : F_X6_give (J (x : Nat)) 4 0 Γ = some ((0 : Int32), Δ) := g1
      have a1 : F_X12_line [67, 108, 111, 115, 101, 100, 46] (mA σ 90 (upd (σ.2 90) (7 * x + 4) 0)) = some ((0 : Int32), υ) := a1
      rw [if_pos q4, if_neg (show ¬ (1 : Int32) = 0 by decide), bndE, if_neg n8, if_neg (show ¬ (1 : Int32) = 0 by decide), h10, g1, Option.bind_some]
      dsimp only
      rw [show (7 : Int32) = J 7 from rfl, J_mul, show (4 : Int32) = J 4 from rfl, J_add, show (7 : Int) * (x : Nat) + 4 = ((7 * x + 4 : Nat) : Int) by omega, if_neg (by rw [J_natN (by omega)]; rintro (h | h); exact J_nlt0 (by omega) (by omega) h; omega), J_natN (by omega), bndE, if_neg (show ¬ (8 : Int32) = J 7 by decide), show vp_nar .boolean (0 : Int32) = 0 from rfl, a1, mrg9 g2, bndE, a2]
      refine ⟨υ, Θ, rfl, ?_, a4⟩
      rw [Option.bind_some]
      dsimp only
      rw [a3, bndE]
    · rw [if_neg q4, if_pos (show (0 : Int32) = 0 from rfl), if_neg n8, if_pos (show (0 : Int32) = 0 from rfl)]
      exact D_line txl_isclosed hP hO
  · rw [if_neg q, if_pos rfl, if_neg n8, if_pos rfl]
    exact D_line txl_cantclose hP hO
theorem D_put {σ : MS} {Γ : HS} (hP : PL nO room nV nC σ Γ) (hO : OUT σ Γ) {x y : Nat} {a : Int} (ha : a = 9 ∨ a = 10) (hx : 1 ≤ x ∧ x ≤ nO) (hxr : room x = false) (hy : 1 ≤ y ∧ y ≤ nO) (h8 : (Γ 11).1 8 = J a) (h10 : (Γ 11).1 10 = J (x : Nat)) (h11 : (Γ 11).1 11 = J (y : Nat)) : DOR nO nV nC room σ Γ (DoPut (J a) (J (x : Nat)) (J (y : Nat)) σ) (F_X8_putThere Γ) := by
  have hP' := hP
  obtain ⟨pa, fi, nx, ch, tr, P⟩ := hP'
  have t := P.1
  have tn := t.1
  have p1 := P.2.2.2.2.2.2.2.2.2.2.1
  have e := r_par1 P hx.2
  have eR : DoPut (J a) (J (x : Nat)) (J (y : Nat)) σ = DoPut (J a) (J (x : Nat)) (J (y : Nat)) σ := rfl
  have eC : F_X8_putThere Γ = F_X8_putThere Γ := rfl
  conv at eR => rhs; unfold DoPut
  conv at eC => rhs; unfold F_X8_putThere
  rw [if_neg (g121 (by omega)), J_natN (by omega)] at eR
  rw [h8, bndE] at eC
  -- the class, whichever it is
  have eC2 : ∀ t1 : Int32, (t1 = if a = 9 then 1 else 0) → F_X8_putThere Γ = (F_X8_playerHas ((Γ 11).1 10) Γ).bind fun u_6 => if u_6.1 = 0 then ( (F_X5_line ([89, 111, 117, 32, 100, 111, 32, 110, 111, 116, 32, 104, 97, 118, 101, 32, 116, 104, 97, 116, 46] : List Int32) u_6.2).bind fun u_11 => bnd (mrg (fun j => j == 8) u_6.2 u_11.2) fun σ_13 => some (0, σ_13) ) else ( (F_X6_isWithin ((u_6.2 11).1 11) ((u_6.2 11).1 10) u_6.2).bind fun u_16 => bnd (mrg (fun j => j == 9) u_6.2 u_16.2) fun σ_18 => bnd (fun  (σ_20 : HS) => ( (F_X5_line ([89, 111, 117, 32, 99, 97, 110, 32, 110, 111, 116, 32, 100, 111, 32, 116, 104, 97, 116, 46] : List Int32) σ_20).bind fun u_25 => bnd (mrg (fun j => j == 8) σ_20 u_25.2) fun σ_27 => some (0, σ_27) ) : HS → HR) fun j_21 => if u_16.1 = 0 then ( bnd (fun (t_31 : Int32) (σ_32 : HS) => ( (F_X6_bears ((σ_18 11).1 11) t_31 σ_32).bind fun u_36 => bnd (mrg (fun j => j == 9) σ_32 u_36.2) fun σ_38 => if u_36.1 = 0 then ( j_21  σ_38 ) else ( bnd (fun  (σ_43 : HS) => ( (F_X6_moveInto ((σ_43 11).1 10) ((σ_43 11).1 11) σ_43).bind fun u_47 => bnd (mrg (fun j => j == 9) σ_43 u_47.2) fun σ_49 => (F_X5_line ([68, 111, 110, 101, 46] : List Int32) σ_49).bind fun u_52 => bnd (mrg (fun j => j == 8) σ_49 u_52.2) fun σ_54 => some (0, σ_54) ) : HS → HR) fun j_44 => if t1 = 0 then ( j_44  σ_38 ) else ( (F_X6_bears ((σ_38 11).1 11) 4 σ_38).bind fun u_59 => bnd (mrg (fun j => j == 9) σ_38 u_59.2) fun σ_61 => if u_59.1 = 0 then ( (F_X5_line ([84, 104, 97, 116, 32, 105, 115, 32, 99, 108, 111, 115, 101, 100, 46] : List Int32) σ_61).bind fun u_66 => bnd (mrg (fun j => j == 8) σ_61 u_66.2) fun σ_68 => some (0, σ_68) ) else ( j_44  σ_61 ) ) ) ) : Int32 → HS → HR) fun j_33 => if t1 = 0 then ( j_33 5 σ_18 ) else ( j_33 0 σ_18 ) ) else ( j_21  σ_18 ) ) := fun t1 ht => by
    rw [eC, ht]
    rcases ha with rfl | rfl
    · rw [if_pos (show J 9 = 9 from rfl)]; rfl
    · rw [if_neg (show ¬ J 10 = 9 by decide)]; rfl
  have eC3 := eC2 _ rfl
  rw [h10, c_phas P hx.2, Option.bind_some] at eC3
  dsimp only at eC3
  by_cases q : pa x = 1
  · have wr := r_within t (x := y) (y := x) hy.2 hx P.2.1
    have wc := c_isWithin t (x := y) (y := x) hy.2 hx P.2.2.1
    rw [if_pos (by rw [e]; exact q), wr, Option.bind_some, bndE] at eR
    rw [if_pos q, if_neg (by decide), h11, h10, wc, Option.bind_some] at eC3
    dsimp only at eR eC3
    rw [mrgS, bndE, bndE] at eC3
    by_cases qw : wiN pa x (nO + 1) y = true
    · rw [if_pos qw, if_neg (by decide)] at eR
      rw [if_pos qw, if_neg (by decide)] at eC3
      rw [eR, eC3]
      exact D_line txl_cantdo hP hO
    · rw [if_neg qw, if_pos rfl, bndE] at eR
      rw [if_neg qw, if_pos rfl, bndE] at eC3
      have x1 : x ≠ 1 := fun e => by
        rw [e] at q
        have := p1.2.1
        rw [q, p1.2.2.1] at this; cases this
      have mv := D_move txl_done P hO hx hy hxr x1 qw
      rcases ha with rfl | rfl
      · rw [if_pos (show J 9 = 9 from rfl)] at eR
        dsimp only at eR
        rw [show F_X12_has (J (y : Nat)) 0 1 σ = _ from r_has (a := 0) P (by omega) (by omega) 1, Option.bind_some] at eR
        rw [if_pos (show (9 : Int) = 9 from rfl), if_neg (show ¬ (1 : Int32) = 0 by decide)] at eC3
        dsimp only at eC3
        rw [h11, show F_X6_bears (J (y : Nat)) 0 Γ = _ from c_bears (a := 0) P (by omega) (by omega), Option.bind_some] at eC3
        dsimp only at eR eC3
        rw [mrgS, bndE, bndE] at eC3
        by_cases q0 : trB tr 0 y = true
        · rw [if_pos q0, if_neg (by decide), bndE, if_pos (show J 9 = 9 from rfl), show F_X12_has (J (y : Nat)) 4 1 σ = _ from r_has (a := 4) P (by omega) (by omega) 1, Option.bind_some] at eR
          rw [if_pos q0, if_neg (by decide), if_neg (show ¬ (1 : Int32) = 0 by decide), h11, show F_X6_bears (J (y : Nat)) 4 Γ = _ from c_bears (a := 4) P (by omega) (by omega), Option.bind_some] at eC3
          dsimp only at eR eC3
          rw [mrgS, bndE] at eC3
          by_cases q4 : trB tr 4 y = true
          · rw [if_pos q4, if_neg (by decide)] at eR
            rw [if_pos q4, if_neg (by decide), h10, h11] at eC3
            rw [eR, eC3]; exact mv
          · rw [if_neg q4, if_pos rfl] at eR
            rw [if_neg q4, if_pos rfl] at eC3
            rw [eR, eC3]
            exact D_line txl_isclosed hP hO
        · rw [if_neg q0, if_pos rfl] at eR
          rw [if_neg q0, if_pos rfl] at eC3
          rw [eR, eC3]
          exact D_line txl_cantdo hP hO
      · rw [if_neg (show ¬ J 10 = 9 by decide)] at eR
        dsimp only at eR
        rw [show F_X12_has (J (y : Nat)) 5 1 σ = _ from r_has (a := 5) P (by omega) (by omega) 1, Option.bind_some] at eR
        rw [if_neg (show ¬ (10 : Int) = 9 by decide), if_pos (show (0 : Int32) = 0 from rfl)] at eC3
        dsimp only at eC3
        rw [h11, show F_X6_bears (J (y : Nat)) 5 Γ = _ from c_bears (a := 5) P (by omega) (by omega), Option.bind_some] at eC3
        dsimp only at eR eC3
        rw [mrgS, bndE, bndE] at eC3
        by_cases q0 : trB tr 5 y = true
        · rw [if_pos q0, if_neg (by decide), bndE, if_neg (show ¬ J 10 = 9 by decide)] at eR
          rw [if_pos q0, if_neg (by decide), if_pos (show (0 : Int32) = 0 from rfl)] at eC3
          dsimp only at eR eC3
          rw [h10, h11] at eC3
          rw [eR, eC3]; exact mv
        · rw [if_neg q0, if_pos rfl] at eR
          rw [if_neg q0, if_pos rfl] at eC3
          rw [eR, eC3]
          exact D_line txl_cantdo hP hO
  · rw [if_neg (by rw [e]; exact q)] at eR
    rw [if_neg q, if_pos rfl] at eC3
    rw [eR, eC3]
    exact D_line txl_nothave hP hO
