/-! the fixed words, directions, articles: in both -/
/-- the fixed words stand first in the dictionary -/
def FXW (Γ : HS) (W : List Int) : Prop := DOK Γ W ∧ 21 ≤ W.length ∧ ∀ e, e < 21 → W.getD e 0 = tm9 (OFXw.getD e [])
theorem TW_OFX : ∀ j, j < 21 → TW (OFXw.getD j []) := by unfold TW; decide +kernel
theorem tm9_TW {w v : List Int} (hw : TW w) (hv : TW v) (h : tm9 w = tm9 v) : w = v := by
  have e := eqT_iff.mp ((eqT_tm (TW_nmW hw) hv).mpr h)
  have hs := wsz_or w
  have h1 := hw.2.1
  have h2 := hv.1
  have hl : w.length = v.length := by
    have : wmn w = w.length := by unfold wmn; split <;> omega
    rcases hs with hs | ⟨hs, -⟩ <;> omega
  exact list_ext hl (fun k hk => e.2 k (by omega))
theorem fx_no {Γ : HS} {W : List Int} (h : FXW Γ W) {z : Int} {v : List Int} (hz : TNO W z (tm9 v)) (hv : TW v) {j : Nat} (hj : j < 21) : z = (j : Int) ↔ v = OFXw.getD j [] := by
  rw [TNO_eq h.1 hz (show j < W.length by have := h.2.1; omega), h.2.2 j hj]
  exact ⟨fun e => (tm9_TW (TW_OFX j hj) hv e).symm, fun e => by rw [e]⟩
theorem c_term {Γ : HS} {W : List Int} {ws : List (List Int)} (h : TRc Γ W ws) (h12 : ws.length ≤ 12) {t : Nat} (ht : t < ws.length) : ∃ z : Int, F_X8_term (J (t : Nat)) Γ = some (J z, Γ) ∧ TNO W z (tm9 (ws.getD t [])) := by
  obtain ⟨h1, h2⟩ := h
  obtain ⟨z, z1, z2⟩ := h2 t ht
  refine ⟨z, ?_, z2⟩
  unfold F_X8_term
  rw [if_neg (J_nlt0 (by omega) (by omega)), h1, if_neg (by rw [J_le (by omega) (by omega) (by omega) (by omega)]; omega), q_g_at_in (by omega) (by omega) (by omega), Int.toNat_natCast, z1, bndE]
/-- whether a term is the fixed word j, as the class asks -/
theorem fx_J {Γ : HS} {W : List Int} (h : FXW Γ W) {z : Int} {v : List Int} (hz : TNO W z (tm9 v)) (hv : TW v) {j : Nat} (hj : j < 21) : (J z = J (j : Nat)) = (v = OFXw.getD j []) := by
  have := TNO_rng hz (DOK_len h.1)
  rw [J_eq (by omega) (by omega) (by omega) (by omega)]
  exact propext (fx_no h hz hv hj)
/-- a term as a direction -/
def dirN (w : List Int) : Nat := if w = [110, 111, 114, 116, 104] then 1 else if w = [110] then 1 else if w = [115, 111, 117, 116, 104] then 2 else if w = [115] then 2 else if w = [101, 97, 115, 116] then 3 else if w = [101] then 3 else if w = [119, 101, 115, 116] then 4 else if w = [119] then 4 else if w = [117, 112] then 5 else if w = [117] then 5 else if w = [100, 111, 119, 110] then 6 else if w = [100] then 6 else 0
theorem dirN_le (w : List Int) : dirN w ≤ 6 := by
  unfold dirN
  repeat' split
  all_goals omega
theorem lts_0 : LTW [97, 103, 97, 105, 110] [97, 103, 97, 105, 110] := by unfold LTW; decide +kernel
theorem lts_1 : LTW [103] [103] := by unfold LTW; decide +kernel
theorem lts_2 : LTW [105, 116] [105, 116] := by unfold LTW; decide +kernel
theorem lts_3 : LTW [97, 108, 108] [97, 108, 108] := by unfold LTW; decide +kernel
theorem lts_4 : LTW [116, 104, 101] [116, 104, 101] := by unfold LTW; decide +kernel
theorem lts_5 : LTW [97] [97] := by unfold LTW; decide +kernel
theorem lts_6 : LTW [97, 110] [97, 110] := by unfold LTW; decide +kernel
theorem lts_7 : LTW [109, 101] [109, 101] := by unfold LTW; decide +kernel
theorem lts_8 : LTW [103, 111] [103, 111] := by unfold LTW; decide +kernel
theorem lts_9 : LTW [110, 111, 114, 116, 104] [110, 111, 114, 116, 104] := by unfold LTW; decide +kernel
theorem lts_10 : LTW [115, 111, 117, 116, 104] [115, 111, 117, 116, 104] := by unfold LTW; decide +kernel
theorem lts_11 : LTW [101, 97, 115, 116] [101, 97, 115, 116] := by unfold LTW; decide +kernel
theorem lts_12 : LTW [119, 101, 115, 116] [119, 101, 115, 116] := by unfold LTW; decide +kernel
theorem lts_13 : LTW [117, 112] [117, 112] := by unfold LTW; decide +kernel
theorem lts_14 : LTW [100, 111, 119, 110] [100, 111, 119, 110] := by unfold LTW; decide +kernel
theorem lts_15 : LTW [110] [110] := by unfold LTW; decide +kernel
theorem lts_16 : LTW [115] [115] := by unfold LTW; decide +kernel
theorem lts_17 : LTW [101] [101] := by unfold LTW; decide +kernel
theorem lts_18 : LTW [119] [119] := by unfold LTW; decide +kernel
theorem lts_19 : LTW [117] [117] := by unfold LTW; decide +kernel
theorem lts_20 : LTW [100] [100] := by unfold LTW; decide +kernel
theorem r_dir {σ : MS} {ws : List (List Int)} {t : Nat} (h : TRr σ ws) (ht : t < ws.length) : F_X12_directionOf (J (t : Nat)) σ = some (J (dirN (ws.getD t []) : Nat), σ) := by
  unfold F_X12_directionOf dirN
  rw [r_isL h ht lts_9, Option.bind_some]
  by_cases q9 : ws.getD t [] = [110, 111, 114, 116, 104]
  · rw [if_pos q9, if_pos q9]; rfl
  rw [if_neg q9, if_neg q9, if_pos rfl]
  rw [r_isL h ht lts_15, Option.bind_some]
  by_cases q15 : ws.getD t [] = [110]
  · rw [if_pos q15, if_pos q15]; rfl
  rw [if_neg q15, if_neg q15, if_pos rfl]
  rw [r_isL h ht lts_10, Option.bind_some]
  by_cases q10 : ws.getD t [] = [115, 111, 117, 116, 104]
  · rw [if_pos q10, if_pos q10]; rfl
  rw [if_neg q10, if_neg q10, if_pos rfl]
  rw [r_isL h ht lts_16, Option.bind_some]
  by_cases q16 : ws.getD t [] = [115]
  · rw [if_pos q16, if_pos q16]; rfl
  rw [if_neg q16, if_neg q16, if_pos rfl]
  rw [r_isL h ht lts_11, Option.bind_some]
  by_cases q11 : ws.getD t [] = [101, 97, 115, 116]
  · rw [if_pos q11, if_pos q11]; rfl
  rw [if_neg q11, if_neg q11, if_pos rfl]
  rw [r_isL h ht lts_17, Option.bind_some]
  by_cases q17 : ws.getD t [] = [101]
  · rw [if_pos q17, if_pos q17]; rfl
  rw [if_neg q17, if_neg q17, if_pos rfl]
  rw [r_isL h ht lts_12, Option.bind_some]
  by_cases q12 : ws.getD t [] = [119, 101, 115, 116]
  · rw [if_pos q12, if_pos q12]; rfl
  rw [if_neg q12, if_neg q12, if_pos rfl]
  rw [r_isL h ht lts_18, Option.bind_some]
  by_cases q18 : ws.getD t [] = [119]
  · rw [if_pos q18, if_pos q18]; rfl
  rw [if_neg q18, if_neg q18, if_pos rfl]
  rw [r_isL h ht lts_13, Option.bind_some]
  by_cases q13 : ws.getD t [] = [117, 112]
  · rw [if_pos q13, if_pos q13]; rfl
  rw [if_neg q13, if_neg q13, if_pos rfl]
  rw [r_isL h ht lts_19, Option.bind_some]
  by_cases q19 : ws.getD t [] = [117]
  · rw [if_pos q19, if_pos q19]; rfl
  rw [if_neg q19, if_neg q19, if_pos rfl]
  rw [r_isL h ht lts_14, Option.bind_some]
  by_cases q14 : ws.getD t [] = [100, 111, 119, 110]
  · rw [if_pos q14, if_pos q14]; rfl
  rw [if_neg q14, if_neg q14, if_pos rfl]
  rw [r_isL h ht lts_20, Option.bind_some]
  by_cases q20 : ws.getD t [] = [100]
  · rw [if_pos q20, if_pos q20]; rfl
  rw [if_neg q20, if_neg q20, if_pos rfl]
  rfl
theorem dirTab : ∀ j, j < 12 → dirN (OFXw.getD (9 + j) []) = j % 6 + 1 := by decide +kernel
theorem dirN_0 {w : List Int} (h : ∀ j, j < 12 → w ≠ OFXw.getD (9 + j) []) : dirN w = 0 := by
  unfold dirN
  rw [if_neg (show ¬ w = [110, 111, 114, 116, 104] from h 0 (by omega)), if_neg (show ¬ w = [110] from h 6 (by omega)), if_neg (show ¬ w = [115, 111, 117, 116, 104] from h 1 (by omega)), if_neg (show ¬ w = [115] from h 7 (by omega)), if_neg (show ¬ w = [101, 97, 115, 116] from h 2 (by omega)), if_neg (show ¬ w = [101] from h 8 (by omega)), if_neg (show ¬ w = [119, 101, 115, 116] from h 3 (by omega)), if_neg (show ¬ w = [119] from h 9 (by omega)), if_neg (show ¬ w = [117, 112] from h 4 (by omega)), if_neg (show ¬ w = [117] from h 10 (by omega)), if_neg (show ¬ w = [100, 111, 119, 110] from h 5 (by omega)), if_neg (show ¬ w = [100] from h 11 (by omega))]
theorem c_dir {Γ : HS} {W : List Int} (h : FXW Γ W) {z : Int} {v : List Int} (hz : TNO W z (tm9 v)) (hv : TW v) : F_X8_directionOf (J z) Γ = some (J (dirN v : Nat), Γ) := by
  have r := TNO_rng hz (DOK_len h.1)
  unfold F_X8_directionOf
  rw [show (9 : Int32) = J 9 from rfl, J_sub]
  by_cases q : 9 ≤ z ∧ z < 21
  · obtain ⟨j, rfl⟩ : ∃ j : Nat, z = ((9 + j : Nat) : Int) := ⟨(z - 9).toNat, by omega⟩
    have hj : j < 12 := by omega
    have e := (fx_no h hz hv (by omega)).mp rfl
    rw [e, dirTab j hj, if_neg (J_nlt0 (by omega) (by omega)), if_neg (by rw [show (12 : Int32) = J 12 from rfl, J_le (by omega) (by omega) (by omega) (by omega)]; omega), show (((9 + j : Nat) : Int) - 9) = (j : Nat) by omega]
    have t : ∀ j, j < 12 → (J (j : Nat) - J (j : Nat) / 6 * 6) + 1 = J (j % 6 + 1 : Nat) := by decide +kernel
    rw [bndE, t j hj]
  · have e : dirN v = 0 := dirN_0 (fun j hj e => q (by have := (fx_no h hz hv (j := 9 + j) (by omega)).mpr e; omega))
    rw [e]
    by_cases q2 : z < 9
    · rw [if_pos (by rw [show (0 : Int32) = J 0 from rfl, J_lt (by omega) (by omega) (by omega) (by omega)]; omega)]; rfl
    · rw [if_neg (by rw [show (0 : Int32) = J 0 from rfl, J_lt (by omega) (by omega) (by omega) (by omega)]; omega), if_pos (by rw [show (12 : Int32) = J 12 from rfl, J_le (by omega) (by omega) (by omega) (by omega)]; omega)]; rfl
/-- an article is left out -/
def artB (w : List Int) : Bool := decide (w = [116, 104, 101] ∨ w = [97] ∨ w = [97, 110])
def artN (ws : List (List Int)) (f t : Nat) : Nat := if 1 < t - f ∧ artB (ws.getD f []) = true then f + 1 else f
theorem artN_rng (ws : List (List Int)) {f t : Nat} (h : f < t) : f ≤ artN ws f t ∧ artN ws f t < t := by
  unfold artN; split <;> omega
theorem c_article {Γ : HS} {W : List Int} {ws : List (List Int)} (hF : FXW Γ W) (h : TRc Γ W ws) (hT : ∀ t, t < ws.length → TW (ws.getD t [])) (h12 : ws.length ≤ 12) {f t : Nat} (hf : f < t) (ht : t ≤ ws.length) : F_X8_behindArticle (J (f : Nat)) (J (t : Nat)) Γ = some (J (artN ws f t : Nat), Γ) := by
  obtain ⟨z, z1, z2⟩ := c_term h h12 (t := f) (by omega)
  have r := TNO_rng z2 (DOK_len hF.1)
  have hv := hT f (by omega)
  have a4 := fx_no hF z2 hv (j := 4) (by omega)
  have a5 := fx_no hF z2 hv (j := 5) (by omega)
  have a6 := fx_no hF z2 hv (j := 6) (by omega)
  have hart : artB (ws.getD f []) = true ↔ 4 ≤ z ∧ z ≤ 6 := by
    unfold artB
    rw [decide_eq_true_iff]
    constructor
    · rintro (e | e | e)
      · have := a4.mpr e; omega
      · have := a5.mpr e; omega
      · have := a6.mpr e; omega
    · intro hz
      obtain e | e | e : z = ((4 : Nat) : Int) ∨ z = ((5 : Nat) : Int) ∨ z = ((6 : Nat) : Int) := by omega
      · exact Or.inl (a4.mp e)
      · exact Or.inr (Or.inl (a5.mp e))
      · exact Or.inr (Or.inr (a6.mp e))
  unfold F_X8_behindArticle
  rw [z1, Option.bind_some]
  dsimp only
  rw [bndE, bndE]
  by_cases q : 4 ≤ z
  · rw [if_neg (by rw [show (4 : Int32) = J 4 from rfl, J_lt (by omega) (by omega) (by omega) (by omega)]; omega), z1, Option.bind_some]
    dsimp only
    by_cases q2 : z ≤ 6
    · rw [if_neg (by rw [show (6 : Int32) = J 6 from rfl, J_lt (by omega) (by omega) (by omega) (by omega)]; omega), if_neg (show ¬ (1 : Int32) = 0 by decide), J_sub, show ((t : Nat) : Int) - ((f : Nat) : Int) = ((t - f : Nat) : Int) by omega, show (1 : Int32) = J ((1 : Nat) : Int) from rfl]
      unfold artN
      by_cases q3 : 1 < t - f
      · rw [if_neg (by rw [J_le (by omega) (by omega) (by omega) (by omega)]; omega), if_pos ⟨q3, hart.mpr ⟨q, q2⟩⟩, J_add]; rfl
      · rw [if_pos (by rw [J_le (by omega) (by omega) (by omega) (by omega)]; omega), if_neg (fun c => q3 c.1)]
    · rw [if_pos (by rw [show (6 : Int32) = J 6 from rfl, J_lt (by omega) (by omega) (by omega) (by omega)]; omega), if_pos rfl]
      unfold artN
      rw [if_neg (fun c => q2 (hart.mp c.2).2)]
  · rw [if_pos (by rw [show (4 : Int32) = J 4 from rfl, J_lt (by omega) (by omega) (by omega) (by omega)]; omega)]
    dsimp only
    rw [if_pos rfl]
    unfold artN
    rw [if_neg (fun c => q (hart.mp c.2).1)]
