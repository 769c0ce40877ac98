/-! a line is understood, by both -/
variable {nO nV nC : Nat} {room : Nat → Bool}
/-- what verbs want -/
def FRMV (F : Nat → Nat) : Prop := (∀ v, v ≤ 3 → F v = 0) ∧ (∀ v, 4 ≤ v → v ≤ 8 → F v = 1) ∧ (F 9 = 2 ∧ F 10 = 2 ∧ F 11 = 1) ∧ ∀ v, F v ≤ 2
/-- understood: a command, one for all, or it is told why not -/
def UNO (nO : Nat) (room : Nat → Bool) (F : Nat → Nat) (σ : MS) (Γ : HS) (mR : MR) (mC : HR) : Prop := (∃ τ Δ Γ', mR = some (0, τ) ∧ mC = some (0, Δ) ∧ cUn Γ Γ' ∧ TLS σ Γ' τ Δ) ∨ (∃ (a x y : Nat) (Δ : HS), mC = some (1, Δ) ∧ cUn Γ Δ ∧ (Δ 11).1 8 = J (a : Nat) ∧ (Δ 11).1 10 = J (x : Nat) ∧ (Δ 11).1 11 = J (y : Nat) ∧ (Δ 11).1 12 = 0 ∧ mR = F_X12_command (J (a : Nat)) (J (F a : Nat)) (J (x : Nat)) (J (y : Nat)) σ ∧ 1 ≤ a ∧ a ≤ 60 ∧ x ≤ 120 ∧ y ≤ 120 ∧ (4 ≤ a → a ≤ 10 → 1 ≤ x ∧ x ≤ nO ∧ room x = false) ∧ (a = 9 ∨ a = 10 → 1 ≤ y ∧ y ≤ nO) ∧ (a = 11 → 1 ≤ x ∧ x ≤ 6) ∧ (F a = 0 → x = 0) ∧ (1 ≤ F a → a ≠ 11 → 1 ≤ x ∧ x ≤ nO)) ∨ ∃ (a : Nat) (Δ : HS), (a = 4 ∨ a = 5) ∧ mC = F_X8_chooseAll Δ ∧ cUn Γ Δ ∧ (Δ 11).1 8 = J (a : Nat) ∧ (Δ 11).1 11 = 0 ∧ (Δ 11).1 12 = 1 ∧ mR = F_X12_all (J (a : Nat)) σ
theorem UNO_pre {F : Nat → Nat} {σ : MS} {Γ : HS} {mR mR' : MR} {mC mC' : HR} (h : UNO nO room F σ Γ mR mC) (e1 : mR' = mR) (e2 : mC' = mC) : UNO nO room F σ Γ mR' mC' := by rw [e1, e2]; exact h
/-- all is meant -/
theorem r_all {ws : List (List Int)} {σ : MS} {Γ : HS} (hP : PL nO room nV nC σ Γ) (hr : ∀ x, x ≤ 120 → σ.2 50 x = if room x = true then 1 else 0) (h78 : σ.1 78 = J (nO : Nat)) (hT : TRr σ ws) {f t : Nat} (hf : f < t) (ht : t ≤ ws.length) {v : Int32} (h1 : t - artN ws f t = 1) (h2 : ws.getD (artN ws f t) [] = [97, 108, 108]) (hv : v = 4 ∨ v = 5) : F_X12_nounOf v (J (f : Nat)) (J (t : Nat)) σ = some (J (-3), σ) := by
  obtain ⟨pa, fi, nx, ch, tr, P⟩ := hP
  have h12 := hT.2.1
  obtain ⟨b, b1, b2⟩ := W_lightI P hr h78
  obtain ⟨k1, k2⟩ := artN_rng ws hf
  have eR := noR_eq v (J (f : Nat)) (J (t : Nat)) σ
  rw [r_art hT hf ht _] at eR
  generalize artN ws f t = k at k1 k2 h1 h2 eR
  have e1 : J (t : Nat) - J (k : Nat) = 1 := by
    rw [J_sub, show ((t : Nat) : Int) - ((k : Nat) : Int) = ((t - k : Nat) : Int) by omega, h1]; rfl
  rw [b1, Option.bind_some] at eR
  dsimp only at eR
  rw [bndE, if_pos e1, r_isL hT (by omega) lts_2, Option.bind_some, if_neg (show ¬ ws.getD k [] = [105, 116] by rw [h2]; decide)] at eR
  dsimp only at eR
  rw [if_pos rfl, bndE, if_pos e1, r_isL hT (by omega) lts_3, Option.bind_some, if_pos h2] at eR
  dsimp only at eR
  rw [if_neg (by decide)] at eR
  rw [eR]
  rcases hv with rfl | rfl
  · rw [if_pos rfl]; rfl
  · rw [if_neg (by decide), if_pos rfl]; rfl
/-- what the class does behind its first noun -/
def fnK (x3 : Int32) (Θ : HS) : HR := if ((Θ 11).1 10) = 0 then ( some (0, Θ) ) else ( if x3 = 1 then ( some (1, Θ) ) else ( if ((Θ 11).1 11) = 0 then ( some (0, Θ) ) else ( some (1, Θ) ) ) )
def fnN (x3 k : Int32) (Γ : HS) : HR := (F_X8_nounOf k ((Γ 11).1 9) Γ).bind fun u_16 => bnd (cI' u_16.2 11 10 u_16.1) fun σ_18 => bnd (fun  (σ_20 : HS) => fnK x3 σ_20 : HS → HR) fun j_21 => if ((σ_18 11).1 10) = 0 then ( j_21  σ_18 ) else ( if x3 = 2 then ( (F_X8_behindArticle (((σ_18 11).1 9) + 1) ((σ_18 11).1 7) σ_18).bind fun u_38 => (F_X8_nounOf u_38.1 ((u_38.2 11).1 7) u_38.2).bind fun u_40 => bnd (cI' u_40.2 11 11 u_40.1) fun σ_42 => j_21  σ_42 ) else ( j_21  σ_18 ) )
theorem fn_eq (Γ : HS) : F_X8_findNouns Γ = bnd (((Γ 11).1 8)) fun (x_1 : Int32) => bnd ((g_at 61 ((Γ 4).2.1 7) x_1)) fun (x_3 : Int32) => if x_3 = 0 then ( some (1, Γ) ) else ( (F_X8_behindArticle 1 ((Γ 11).1 9) Γ).bind fun u_8 => (F_X8_term u_8.1 u_8.2).bind fun u_10 => bnd (fun  (σ_12 : HS) => fnN x_3 u_8.1 σ_12 : HS → HR) fun j_13 => if u_10.1 = 3 then ( if (((u_10.2 11).1 9) - u_8.1) = 1 then ( bnd (fun  (σ_49 : HS) => ( bnd (cI' σ_49 11 12 1) fun σ_53 => (F_X8_chooseAll σ_53).bind fun u_55 => if ¬ (u_55.1 = 0 ∨ u_55.1 = 1) then none else some (u_55.1, u_55.2) ) : HS → HR) fun j_50 => if ((u_10.2 11).1 8) = 4 then ( j_50  u_10.2 ) else ( if ((u_10.2 11).1 8) = 5 then ( j_50  u_10.2 ) else ( j_13  u_10.2 ) ) ) else ( j_13  u_10.2 ) ) else ( j_13  u_10.2 ) ) := rfl
/-- up to the first noun: all, or on to it -/
theorem c_fnHead {ow : Nat → List (List Int)} {W : List Int} {ws : List (List Int)} {F : Nat → Nat} {nv : Nat} {σ : MS} {X : HS} (hN : NCX nO room nV nC ow W ws σ X) (hV : VRBB ow W F nv σ X) {u p : Nat} (u1 : 1 ≤ u) (u2 : u ≤ nv) (u3 : u ≠ 11) (h8 : (X 11).1 8 = J (u : Nat)) (h9 : (X 11).1 9 = J (p : Nat)) (hp : 1 < p) (hpn : p ≤ ws.length) (hF : 1 ≤ F u) : (p - artN ws 1 p = 1 ∧ ws.getD (artN ws 1 p) [] = [97, 108, 108] ∧ (u = 4 ∨ u = 5) ∧ F_X8_findNouns X = (F_X8_chooseAll (cI' X 11 12 1)).bind fun u_55 => if ¬ (u_55.1 = 0 ∨ u_55.1 = 1) then none else some (u_55.1, u_55.2)) ∨ (¬ (p - artN ws 1 p = 1 ∧ ws.getD (artN ws 1 p) [] = [97, 108, 108] ∧ (u = 4 ∨ u = 5)) ∧ F_X8_findNouns X = fnN (J (F u : Nat)) (J (artN ws 1 p : Nat)) X) := by
  obtain ⟨x1, x2, x3, x4, x5, x6, x7, x8, x9, x10, x11⟩ := hN
  obtain ⟨v1, v2, v3, v4, v5⟩ := hV
  obtain ⟨b1, b2, b3, b4, b5⟩ := v5 u u1 u2 u3
  have h12 := x10.2.1
  have hw := fun t ht => (x10.2.2 t ht).1
  obtain ⟨k1, k2⟩ := artN_rng ws hp
  have ha := c_article x8 x11 hw h12 hp hpn
  obtain ⟨z, z1, z2⟩ := c_term x11 h12 (t := artN ws 1 p) (by omega)
  have e := fn_eq X
  rw [bndE, h8, q_g_at_in (by omega) (by omega) (by omega), Int.toNat_natCast, b4, bndE, if_neg (by rw [J_z0 (by omega)]; omega), h9, show F_X8_behindArticle 1 (J (p : Nat)) X = some (J (artN ws 1 p : Nat), X) from ha, Option.bind_some] at e
  dsimp only at e
  rw [z1, Option.bind_some] at e
  dsimp only at e
  rw [bndE, h9, h8] at e
  have e3 : (J z = 3) = (ws.getD (artN ws 1 p) [] = [97, 108, 108]) := by
    rw [show (3 : Int32) = J ((3 : Nat) : Int) from rfl, fx_J x8 z2 (hw _ (by omega)) (by omega)]; rfl
  have e1 : (J (p : Nat) - J (artN ws 1 p : Nat) = 1) = (p - artN ws 1 p = 1) := by
    rw [J_sub, show ((p : Nat) : Int) - ((artN ws 1 p : Nat) : Int) = ((p - artN ws 1 p : Nat) : Int) by omega, show (1 : Int32) = J ((1 : Nat) : Int) from rfl, J_eqN (by omega) (by omega)]
  by_cases q3 : ws.getD (artN ws 1 p) [] = [97, 108, 108]
  · rw [if_pos (by rw [e3]; exact q3)] at e
    by_cases q1 : p - artN ws 1 p = 1
    · rw [if_pos (by rw [e1]; exact q1), bndE] at e
      by_cases q4 : u = 4
      · rw [if_pos (by rw [q4]; rfl)] at e
        dsimp only at e
        rw [bndE] at e
        exact Or.inl ⟨q1, q3, Or.inl q4, e⟩
      · rw [if_neg (by rw [show (4 : Int32) = J ((4 : Nat) : Int) from rfl, J_eqN (by omega) (by omega)]; exact q4)] at e
        by_cases q5 : u = 5
        · rw [if_pos (by rw [q5]; rfl)] at e
          dsimp only at e
          rw [bndE] at e
          exact Or.inl ⟨q1, q3, Or.inr q5, e⟩
        · rw [if_neg (by rw [show (5 : Int32) = J ((5 : Nat) : Int) from rfl, J_eqN (by omega) (by omega)]; exact q5)] at e
          exact Or.inr ⟨fun h => by omega, e⟩
    · rw [if_neg (by rw [e1]; exact q1)] at e
      exact Or.inr ⟨fun h => q1 h.1, e⟩
  · rw [if_neg (by rw [e3]; exact q3)] at e
    exact Or.inr ⟨fun h => q3 h.2.1, e⟩
/-- what chooseAll answers is a truth -/
theorem chAll_01 {X : HS} : ∀ m : HR, (∃ v Δ, m = some (v, Δ) ∧ (v = 0 ∨ v = 1)) → (m.bind fun u_55 => if ¬ (u_55.1 = 0 ∨ u_55.1 = 1) then none else some (u_55.1, u_55.2)) = m := by
  rintro m ⟨v, Δ, rfl, h⟩
  rw [Option.bind_some]
  dsimp only
  rw [if_neg (fun c => c h)]
theorem chEnd_01 {Γ Δ : HS} {σ : MS} (hO : OUT σ Δ) (h : F_X8_chooseAll Γ = chEnd Δ) : ∃ v Θ, F_X8_chooseAll Γ = some (v, Θ) ∧ (v = 0 ∨ v = 1) := by
  rw [h]
  unfold chEnd
  by_cases q : 0 < (Δ 11).1 15
  · rw [if_pos q]; exact ⟨_, _, rfl, Or.inr rfl⟩
  · rw [if_neg q]
    obtain ⟨τ, Θ, -, a2, -⟩ := W_no (S := [84, 104, 101, 114, 101, 32, 105, 115, 32, 110, 111, 116, 104, 105, 110, 103, 32, 116, 111, 32, 100, 111, 46]) (w := [84, 104, 101, 114, 101, 32, 105, 115, 32, 110, 111, 116, 104, 105, 110, 103, 32, 116, 111, 32, 100, 111, 46]) (by unfold TXL; decide +kernel) hO
    rw [a2, Option.bind_some]
    dsimp only
    rw [if_pos rfl]
    exact ⟨_, _, rfl, Or.inl rfl⟩
theorem W_all01 {ow : Nat → List (List Int)} {W : List Int} {ws : List (List Int)} {σ : MS} {X : HS} (hN : NCX nO room nV nC ow W ws σ X) {u : Nat} (hu : u = 4 ∨ u = 5) (h8 : (X 11).1 8 = J (u : Nat)) : ((F_X8_chooseAll X).bind fun u_55 => if ¬ (u_55.1 = 0 ∨ u_55.1 = 1) then none else some (u_55.1, u_55.2)) = F_X8_chooseAll X := by
  obtain ⟨⟨pa, fi, nx, ch, tr, P⟩, x2, x3, x4, x5, x6, x7, x8, x9, x10, x11⟩ := hN
  obtain ⟨t, L, τ, Δ, e1, e2, e3, e4, e5, e6, e7, e8, e9⟩ := W_all hu P x3 x4 h8
  exact chAll_01 (X := X) _ (chEnd_01 (OUT_r x2 (e9.1 8 (by omega))) e2)
theorem TLS_11 {σ τ : MS} {X Δ : HS} (h : TLS σ X τ Δ) {k : Nat} {v : Int32} : TLS σ (cI' X 11 k v) τ (cI' Δ 11 k v) := by
  obtain ⟨s1, s2, s3⟩ := h.2.1
  have e11 := s1 11 (by omega) (by omega)
  refine ⟨h.1, ⟨fun r h8 h10 => ?_, by rw [cI_r, if_neg (by omega), cI_r, if_neg (by omega)]; exact s2, fun k hk => by rw [cI_r, if_neg (by omega), cI_r, if_neg (by omega)]; exact s3 k hk⟩, OUT_r h.2.2 (by rw [cI_r, if_neg (by omega)])⟩
  rw [cI_r, cI_r]
  by_cases q : r = 11
  · rw [if_pos q, if_pos q, e11]
  · rw [if_neg q, if_neg q]; exact s1 r h8 h10
/-- a noun's outcome, its number written down by the class -/
theorem W_one {ow : Nat → List (List Int)} {W : List Int} {ws : List (List Int)} {F : Nat → Nat} {nv : Nat} {σ : MS} {Γ X : HS} (hN : NCX nO room nV nC ow W ws σ Γ) (hV : VRBB ow W F nv σ Γ) (hF : FRMV F) (hX : cUn Γ X) {u : Nat} (u1 : 1 ≤ u) (u2 : u ≤ nv) (u3 : u ≠ 11) (h8 : (X 11).1 8 = J (u : Nat)) (h9 : (X 11).1 9 = J (ws.length : Nat)) (h11 : (X 11).1 11 = 0) (h12 : (X 11).1 12 = 0) (hn : 1 < ws.length) (hf : F u = 1) : UNO nO room F σ Γ (F_X12_one (J (u : Nat)) σ) (F_X8_findNouns X) := by
  have hNX := NCX_un hN hX
  have hVX := VRBB_un hV hX
  have hNX' := hNX
  obtain ⟨x1, x2, x3, x4, x5, x6, x7, x8, x9, x10, x11⟩ := hNX'
  have n60 := hV.2.2.1
  have hl := x10.2.1
  obtain ⟨pa, fi, nx, ch, tr, P⟩ := id x1
  have tn := P.1.1
  rcases c_fnHead hNX hVX u1 u2 u3 h8 h9 hn (Nat.le_refl _) (by omega) with ⟨a1, a2, a3, a4⟩ | ⟨a1, a2⟩
  · -- all
    have eR : F_X12_nounOf (J (u : Nat)) 1 (J (ws.length : Nat)) σ = some (J (-3), σ) := r_all x1 x3 x4 x10 (f := 1) (t := ws.length) hn (Nat.le_refl _) a1 a2 (by rcases a3 with rfl | rfl; exact Or.inl rfl; exact Or.inr rfl)
    refine Or.inr (Or.inr ⟨u, cI' X 11 12 1, a3, ?_, cUn_trans hX (cUn_i (by omega)), h8, h11, rfl, ?_⟩)
    · rw [a4]; exact W_all01 (NCX_un hNX (cUn_i (by omega))) a3 h8
    · unfold F_X12_one
      rw [x10.1, eR, Option.bind_some]
      dsimp only
      rw [if_pos (show J (-3) = -3 from rfl), bind_id]
  · obtain ⟨r, r1, r2⟩ := W_noun hNX hn (Nat.le_refl _) (v := J (u : Nat)) (fun c => a1 ⟨c.1, c.2.1, by
      rcases c.2.2 with c | c
      · rw [show (4 : Int32) = J ((4 : Nat) : Int) from rfl, J_eqN (by omega) (by omega)] at c; exact Or.inl c
      · rw [show (5 : Int32) = J ((5 : Nat) : Int) from rfl, J_eqN (by omega) (by omega)] at c; exact Or.inr c⟩)
    have eR : F_X12_one (J (u : Nat)) σ = if J r = -3 then ((F_X12_all (J (u : Nat)) σ).bind fun u_5 => some (u_5.1, u_5.2)) else if 0 ≤ J r then ((F_X12_command (J (u : Nat)) 1 (J r) 0 σ).bind fun u_10 => some (u_10.1, u_10.2)) else ((F_X12_refused (J r) σ).bind fun u_13 => some (u_13.1, u_13.2)) := by
      unfold F_X12_one
      rw [x10.1, show F_X12_nounOf (J (u : Nat)) 1 (J (ws.length : Nat)) σ = some (J r, σ) from r1, Option.bind_some]
    rw [a2]
    unfold fnN
    rw [h9]
    rcases r2 with ⟨x, rfl, c1, c2, c3, c4⟩ | ⟨c1, τ, Δ, c2, c3, c4⟩
    · rw [c4, Option.bind_some]
      dsimp only
      rw [bndE, bndE, show ((cI' X 11 10 (J (x : Nat))) 11).1 10 = J (x : Nat) from rfl, if_neg (by rw [J_z0 (by omega)]; omega), hf, if_neg (by decide)]
      refine Or.inr (Or.inl ⟨u, x, 0, cI' X 11 10 (J (x : Nat)), ?_, cUn_trans hX (cUn_i (by omega)), h8, rfl, h11, h12, ?_, u1, by omega, by omega, by omega, fun _ _ => ⟨c1, c2, c3⟩, fun h => ?_, fun h => absurd h u3, fun h => by omega, fun _ _ => ⟨c1, c2⟩⟩)
      · unfold fnK
        dsimp only
        rw [show ((cI' X 11 10 (J (x : Nat))) 11).1 10 = J (x : Nat) from rfl, if_neg (by rw [J_z0 (by omega)]; omega), if_pos (show J ((1 : Nat) : Int) = 1 from rfl)]
      · rw [eR, if_neg (by rw [show (-3 : Int32) = J (-3) from rfl, J_eq (by omega) (by omega) (by omega) (by omega)]; omega), if_pos (by rw [show (0 : Int32) = J 0 from rfl, J_le (by omega) (by omega) (by omega) (by omega)]; omega), bind_id, hf]; rfl
      · have := hF.2.2.1; rcases h with rfl | rfl <;> omega
    · rw [c3, Option.bind_some]
      dsimp only
      rw [bndE, bndE, show ((cI' Δ 11 10 0) 11).1 10 = 0 from rfl, if_pos rfl]
      refine Or.inl ⟨τ, cI' Δ 11 10 0, cI' X 11 10 0, ?_, ?_, cUn_trans hX (cUn_i (by omega)), TLS_11 c4⟩
      · rw [eR, if_neg (by rw [show (-3 : Int32) = J (-3) from rfl, J_eq (by omega) (by omega) (by omega) (by omega)]; omega), if_neg (by rw [show (0 : Int32) = J 0 from rfl, J_le (by omega) (by omega) (by omega) (by omega)]; omega), c2]; rfl
      · unfold fnK
        dsimp only
        rw [show ((cI' Δ 11 10 0) 11).1 10 = 0 from rfl, if_pos rfl]
theorem W_two {ow : Nat → List (List Int)} {W : List Int} {ws : List (List Int)} {F : Nat → Nat} {nv : Nat} {σ : MS} {Γ X : HS} (hN : NCX nO room nV nC ow W ws σ Γ) (hV : VRBB ow W F nv σ Γ) (hF : FRMV F) (hX : cUn Γ X) {u p : Nat} (u1 : 1 ≤ u) (u2 : u ≤ nv) (u3 : u ≠ 11) (h8 : (X 11).1 8 = J (u : Nat)) (h9 : (X 11).1 9 = J (p : Nat)) (h11 : (X 11).1 11 = 0) (h12 : (X 11).1 12 = 0) (hp : 2 ≤ p) (hn : p + 1 < ws.length) (hf : F u = 2) : UNO nO room F σ Γ (F_X12_two_ (J (u : Nat)) (J (p : Nat)) σ) (F_X8_findNouns X) := by
  have hNX := NCX_un hN hX
  have hVX := VRBB_un hV hX
  have hNX' := hNX
  obtain ⟨x1, x2, x3, x4, x5, x6, x7, x8, x9, x10, x11⟩ := hNX'
  have n60 := hV.2.2.1
  have hl := x10.2.1
  have hw := fun t ht => (x10.2.2 t ht).1
  obtain ⟨pa, fi, nx, ch, tr, P⟩ := id x1
  have tn := P.1.1
  have n4 : u ≠ 4 := by rintro rfl; have := hF.2.1 4 (by omega) (by omega); omega
  have n5 : u ≠ 5 := by rintro rfl; have := hF.2.1 5 (by omega) (by omega); omega
  have hall : ∀ {c : Prop}, ¬ (c ∧ (J (u : Nat) = 4 ∨ J (u : Nat) = 5)) := by
    rintro c ⟨-, c | c⟩
    · rw [show (4 : Int32) = J ((4 : Nat) : Int) from rfl, J_eqN (by omega) (by omega)] at c; exact n4 c
    · rw [show (5 : Int32) = J ((5 : Nat) : Int) from rfl, J_eqN (by omega) (by omega)] at c; exact n5 c
  rcases c_fnHead hNX hVX u1 u2 u3 h8 h9 (by omega) (by omega) (by omega) with ⟨a1, a2, a3, a4⟩ | ⟨a1, a2⟩
  · exfalso; rcases a3 with h | h <;> omega
  obtain ⟨r, r1, r2⟩ := W_noun hNX (f := 1) (t := p) (by omega) (by omega) (v := J (u : Nat)) (fun c => hall ⟨c.2.1, c.2.2⟩)
  have eR := show F_X12_two_ (J (u : Nat)) (J (p : Nat)) σ = (F_X12_nounOf (J (u : Nat)) 1 (J (p : Nat)) σ).bind (fun u_1 => if 0 ≤ u_1.1 then ( (F_X12_nounOf (J (u : Nat)) (J (p : Nat) + 1) (u_1.2.1 120) u_1.2).bind fun u_5 => if 0 ≤ u_5.1 then ( (F_X12_command (J (u : Nat)) 2 u_1.1 u_5.1 u_5.2).bind fun u_9 => some (u_9.1, u_9.2) ) else ( (F_X12_refused u_5.1 u_5.2).bind fun u_12 => some (u_12.1, u_12.2) ) ) else ( (F_X12_refused u_1.1 u_1.2).bind fun u_15 => some (u_15.1, u_15.2) )) from rfl
  rw [show F_X12_nounOf (J (u : Nat)) 1 (J (p : Nat)) σ = some (J r, σ) from r1, Option.bind_some] at eR
  dsimp only at eR
  rw [x10.1, J_suc] at eR
  rw [a2]
  unfold fnN
  rw [h9]
  rcases r2 with ⟨x, rfl, c1, c2, c3, c4⟩ | ⟨c1, τ, Δ, c2, c3, c4⟩
  · -- the first one is known
    have hY : cUn X (cI' X 11 10 (J (x : Nat))) := cUn_i (by omega)
    obtain ⟨r', s1, s2⟩ := W_noun (NCX_un hNX hY) (f := p + 1) (t := ws.length) hn (Nat.le_refl _) (v := J (u : Nat)) (fun c => hall ⟨c.2.1, c.2.2⟩)
    have ha := c_article (FXW_r x8 (hY.1 7 (by omega))) (TRc_un x11 hY) hw hl (f := p + 1) hn (Nat.le_refl _)
    rw [if_pos (by rw [show (0 : Int32) = J 0 from rfl, J_le (by omega) (by omega) (by omega) (by omega)]; omega), s1, Option.bind_some] at eR
    dsimp only at eR
    rw [c4, Option.bind_some]
    dsimp only
    rw [bndE, bndE, show ((cI' X 11 10 (J (x : Nat))) 11).1 10 = J (x : Nat) from rfl, if_neg (by rw [J_z0 (by omega)]; omega), hf, if_pos (show J ((2 : Nat) : Int) = 2 from rfl), show ((cI' X 11 10 (J (x : Nat))) 11).1 9 = J (p : Nat) from h9, show ((cI' X 11 10 (J (x : Nat))) 11).1 7 = J (ws.length : Nat) from x11.1, J_suc, ha, Option.bind_some]
    dsimp only
    rw [show ((cI' X 11 10 (J (x : Nat))) 11).1 7 = J (ws.length : Nat) from x11.1]
    rcases s2 with ⟨y, rfl, d1, d2, d3, d4⟩ | ⟨d1, τ, Δ, d2, d3, d4⟩
    · rw [d4, Option.bind_some]
      dsimp only
      rw [bndE]
      refine Or.inr (Or.inl ⟨u, x, y, cI' (cI' X 11 10 (J (x : Nat))) 11 11 (J (y : Nat)), ?_, cUn_trans hX (cUn_trans hY (cUn_i (by omega))), h8, rfl, rfl, h12, ?_, u1, by omega, by omega, by omega, fun _ _ => ⟨c1, c2, c3⟩, fun _ => ⟨d1, d2⟩, fun h => absurd h u3, fun h => by omega, fun _ _ => ⟨c1, c2⟩⟩)
      · unfold fnK
        rw [show ((cI' (cI' X 11 10 (J (x : Nat))) 11 11 (J (y : Nat))) 11).1 10 = J (x : Nat) from rfl, if_neg (by rw [J_z0 (by omega)]; omega), if_neg (by decide), show ((cI' (cI' X 11 10 (J (x : Nat))) 11 11 (J (y : Nat))) 11).1 11 = J (y : Nat) from rfl, if_neg (by rw [J_z0 (by omega)]; omega)]
      · rw [eR, if_pos (by rw [show (0 : Int32) = J 0 from rfl, J_le (by omega) (by omega) (by omega) (by omega)]; omega), bind_id, hf]; rfl
    · rw [d3, Option.bind_some]
      dsimp only
      rw [bndE]
      refine Or.inl ⟨τ, cI' Δ 11 11 0, cI' (cI' X 11 10 (J (x : Nat))) 11 11 0, ?_, ?_, cUn_trans hX (cUn_trans hY (cUn_i (by omega))), TLS_11 d4⟩
      · rw [eR, if_neg (by rw [show (0 : Int32) = J 0 from rfl, J_le (by omega) (by omega) (by omega) (by omega)]; omega), d2]; rfl
      · unfold fnK
        rw [show ((cI' Δ 11 11 0) 11).1 10 = J (x : Nat) from by
          show (Δ 11).1 10 = _
          rw [d4.2.1.1 11 (by omega) (by omega)]; rfl, if_neg (by rw [J_z0 (by omega)]; omega), if_neg (by decide), show ((cI' Δ 11 11 0) 11).1 11 = 0 from rfl, if_pos rfl]
  · rw [c3, Option.bind_some]
    dsimp only
    rw [bndE, bndE, show ((cI' Δ 11 10 0) 11).1 10 = 0 from rfl, if_pos rfl]
    refine Or.inl ⟨τ, cI' Δ 11 10 0, cI' X 11 10 0, ?_, ?_, cUn_trans hX (cUn_i (by omega)), TLS_11 c4⟩
    · rw [eR, if_neg (by rw [show (0 : Int32) = J 0 from rfl, J_le (by omega) (by omega) (by omega) (by omega)]; omega), c2]; rfl
    · unfold fnK
      dsimp only
      rw [show ((cI' Δ 11 10 0) 11).1 10 = 0 from rfl, if_pos rfl]
