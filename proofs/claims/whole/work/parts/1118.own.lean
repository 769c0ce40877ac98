/-! the reference's own verbs, all -/
variable {T N : Nat} {kd vl rv : Nat → Int} {pl : Nat → Nat}
def jnW (v : Nat) : List Int := if v = 9 then [105, 110] else if v = 10 then [111, 110] else []
/-- what stands when the own verbs were laid -/
def LYV (σ τ : MS) : Prop := τ.1 = σ.1 ∧ (∀ k, ¬ (54 ≤ k ∧ k ≤ 62) → τ.2 k = σ.2 k) ∧ (∀ v, 1 ≤ v → v ≤ 10 → VBR τ v (vwL.getD (v - 1) []) (bform v) (jnW v)) ∧ τ.2 59 11 = 0 ∧ τ.2 60 11 = J (-1) ∧ τ.2 54 90 = J 109 ∧ τ.2 54 91 = J 101 ∧ τ.2 55 10 = J 2 ∧ τ.2 56 = upd (σ.2 56) 1 1
theorem lts_no : LTS [] [] := by unfold LTS; decide +kernel
theorem lts_close : LTS [99, 108, 111, 115, 101] [99, 108, 111, 115, 101] := by unfold LTS; decide +kernel
theorem lts_drop : LTS [100, 114, 111, 112] [100, 114, 111, 112] := by unfold LTS; decide +kernel
theorem lts_examine : LTS [101, 120, 97, 109, 105, 110, 101] [101, 120, 97, 109, 105, 110, 101] := by unfold LTS; decide +kernel
theorem lts_get : LTS [103, 101, 116] [103, 101, 116] := by unfold LTS; decide +kernel
theorem lts_i : LTS [105] [105] := by unfold LTS; decide +kernel
theorem lts_in : LTS [105, 110] [105, 110] := by unfold LTS; decide +kernel
theorem lts_inventory : LTS [105, 110, 118, 101, 110, 116, 111, 114, 121] [105, 110, 118, 101, 110, 116, 111, 114, 121] := by unfold LTS; decide +kernel
theorem lts_l : LTS [108] [108] := by unfold LTS; decide +kernel
theorem lts_look : LTS [108, 111, 111, 107] [108, 111, 111, 107] := by unfold LTS; decide +kernel
theorem lts_on : LTS [111, 110] [111, 110] := by unfold LTS; decide +kernel
theorem lts_open : LTS [111, 112, 101, 110] [111, 112, 101, 110] := by unfold LTS; decide +kernel
theorem lts_put : LTS [112, 117, 116] [112, 117, 116] := by unfold LTS; decide +kernel
theorem lts_take : LTS [116, 97, 107, 101] [116, 97, 107, 101] := by unfold LTS; decide +kernel
theorem lts_wait : LTS [119, 97, 105, 116] [119, 97, 105, 116] := by unfold LTS; decide +kernel
theorem lts_x : LTS [120] [120] := by unfold LTS; decide +kernel
theorem lts_z : LTS [122] [122] := by unfold LTS; decide +kernel
theorem vwL_ok : ∀ k, k < 10 → (vwL.getD k []).length ≤ 10 := by decide +kernel
theorem jnW_ok : ∀ v, v < 12 → (jnW v).length ≤ 9 := by decide +kernel
theorem r_ownAll (σ : MS) : ∃ τ, LyI σ = loopF LyJ FU (τ.1 24, τ) ∧ LYV σ τ := by
  obtain ⟨τ1, e1, f1, g1⟩ := r_ownVerb (σ := σ) (v := 1) (f := 0) (by omega) lts_look lts_l lts_no
  obtain ⟨τ2, e2, f2, g2⟩ := r_ownVerb (σ := τ1) (v := 2) (f := 0) (by omega) lts_inventory lts_i lts_no
  obtain ⟨τ3, e3, f3, g3⟩ := r_ownVerb (σ := τ2) (v := 3) (f := 0) (by omega) lts_wait lts_z lts_no
  obtain ⟨τ4, e4, f4, g4⟩ := r_ownVerb (σ := τ3) (v := 4) (f := 1) (by omega) lts_take lts_get lts_no
  obtain ⟨τ5, e5, f5, g5⟩ := r_ownVerb (σ := τ4) (v := 5) (f := 1) (by omega) lts_drop lts_no lts_no
  obtain ⟨τ6, e6, f6, g6⟩ := r_ownVerb (σ := τ5) (v := 6) (f := 1) (by omega) lts_examine lts_x lts_no
  obtain ⟨τ7, e7, f7, g7⟩ := r_ownVerb (σ := τ6) (v := 7) (f := 1) (by omega) lts_open lts_no lts_no
  obtain ⟨τ8, e8, f8, g8⟩ := r_ownVerb (σ := τ7) (v := 8) (f := 1) (by omega) lts_close lts_no lts_no
  obtain ⟨τ9, e9, f9, g9⟩ := r_ownVerb (σ := τ8) (v := 9) (f := 2) (by omega) lts_put lts_no lts_in
  obtain ⟨τ10, e10, f10, g10⟩ := r_ownVerb (σ := τ9) (v := 10) (f := 2) (by omega) lts_put lts_no lts_on
  generalize hυ : mA (mA (mA (mA (mA (mA τ10 59 (upd (τ10.2 59) 11 0)) 60 (upd (τ10.2 60) 11 (-1))) 54 (upd (τ10.2 54) 90 (J 109))) 54 (upd (upd (τ10.2 54) 90 (J 109)) 91 (J 101))) 55 (upd (τ10.2 55) 10 2)) 56 (upd (τ10.2 56) 1 1) = υ
  have u59 : υ.2 59 = upd (τ10.2 59) 11 0 := by rw [← hυ]; rfl
  have u60 : υ.2 60 = upd (τ10.2 60) 11 (-1) := by rw [← hυ]; rfl
  have u54 : υ.2 54 = upd (upd (τ10.2 54) 90 (J 109)) 91 (J 101) := by rw [← hυ]; rfl
  have u55 : υ.2 55 = upd (τ10.2 55) 10 2 := by rw [← hυ]; rfl
  have u56 : υ.2 56 = upd (τ10.2 56) 1 1 := by rw [← hυ]; rfl
  have uo : ∀ k, k ≠ 54 → k ≠ 55 → k ≠ 56 → k ≠ 59 → k ≠ 60 → υ.2 k = τ10.2 k := fun k a b c d e => by
    rw [← hυ, mA_2, if_neg c, mA_2, if_neg b, mA_2, if_neg a, mA_2, if_neg a, mA_2, if_neg e, mA_2, if_neg d]
  have u1 : υ.1 = τ10.1 := by rw [← hυ]; rfl
  have all : ∀ k, ¬ (57 ≤ k ∧ k ≤ 62) → τ10.2 k = σ.2 k := fun k hk => by
    rw [f10.2.1 k hk, f9.2.1 k hk, f8.2.1 k hk, f7.2.1 k hk, f6.2.1 k hk, f5.2.1 k hk, f4.2.1 k hk, f3.2.1 k hk, f2.2.1 k hk, f1.2.1 k hk]
  have all1 : τ10.1 = σ.1 := by rw [f10.1, f9.1, f8.1, f7.1, f6.1, f5.1, f4.1, f3.1, f2.1, f1.1]
  have keep : ∀ (v : Nat) (ws : List (List Int)) (f : Int) (jw : List Int), VBR τ10 v ws f jw → v ≠ 11 → ws.length ≤ 10 → VBR υ v ws f jw := by
    rintro v ws f jw ⟨a, b, c, d, e⟩ hv hl
    refine ⟨by rw [u59, upd_s, if_neg hv]; exact a, fun k hk => ⟨by rw [uo 58 (by omega) (by omega) (by omega) (by omega) (by omega)]; exact (b k hk).1, fun q hq => by rw [uo 57 (by omega) (by omega) (by omega) (by omega) (by omega)]; exact (b k hk).2 q hq⟩, by rw [u60, upd_s, if_neg hv]; exact c, by rw [uo 62 (by omega) (by omega) (by omega) (by omega) (by omega)]; exact d, fun k hk => by rw [uo 61 (by omega) (by omega) (by omega) (by omega) (by omega)]; exact e k hk⟩
  have h1 : VBR υ 1 (vwL.getD (1 - 1) []) (bform 1) (jnW 1) := keep _ _ _ _ (VBR_keep (VBR_keep (VBR_keep (VBR_keep (VBR_keep (VBR_keep (VBR_keep (VBR_keep (VBR_keep g1 f2 (by omega) (by decide) (by decide)) f3 (by omega) (by decide) (by decide)) f4 (by omega) (by decide) (by decide)) f5 (by omega) (by decide) (by decide)) f6 (by omega) (by decide) (by decide)) f7 (by omega) (by decide) (by decide)) f8 (by omega) (by decide) (by decide)) f9 (by omega) (by decide) (by decide)) f10 (by omega) (by decide) (by decide)) (by omega) (by decide)
  have h2 : VBR υ 2 (vwL.getD (2 - 1) []) (bform 2) (jnW 2) := keep _ _ _ _ (VBR_keep (VBR_keep (VBR_keep (VBR_keep (VBR_keep (VBR_keep (VBR_keep (VBR_keep g2 f3 (by omega) (by decide) (by decide)) f4 (by omega) (by decide) (by decide)) f5 (by omega) (by decide) (by decide)) f6 (by omega) (by decide) (by decide)) f7 (by omega) (by decide) (by decide)) f8 (by omega) (by decide) (by decide)) f9 (by omega) (by decide) (by decide)) f10 (by omega) (by decide) (by decide)) (by omega) (by decide)
  have h3 : VBR υ 3 (vwL.getD (3 - 1) []) (bform 3) (jnW 3) := keep _ _ _ _ (VBR_keep (VBR_keep (VBR_keep (VBR_keep (VBR_keep (VBR_keep (VBR_keep g3 f4 (by omega) (by decide) (by decide)) f5 (by omega) (by decide) (by decide)) f6 (by omega) (by decide) (by decide)) f7 (by omega) (by decide) (by decide)) f8 (by omega) (by decide) (by decide)) f9 (by omega) (by decide) (by decide)) f10 (by omega) (by decide) (by decide)) (by omega) (by decide)
  have h4 : VBR υ 4 (vwL.getD (4 - 1) []) (bform 4) (jnW 4) := keep _ _ _ _ (VBR_keep (VBR_keep (VBR_keep (VBR_keep (VBR_keep (VBR_keep g4 f5 (by omega) (by decide) (by decide)) f6 (by omega) (by decide) (by decide)) f7 (by omega) (by decide) (by decide)) f8 (by omega) (by decide) (by decide)) f9 (by omega) (by decide) (by decide)) f10 (by omega) (by decide) (by decide)) (by omega) (by decide)
  have h5 : VBR υ 5 (vwL.getD (5 - 1) []) (bform 5) (jnW 5) := keep _ _ _ _ (VBR_keep (VBR_keep (VBR_keep (VBR_keep (VBR_keep g5 f6 (by omega) (by decide) (by decide)) f7 (by omega) (by decide) (by decide)) f8 (by omega) (by decide) (by decide)) f9 (by omega) (by decide) (by decide)) f10 (by omega) (by decide) (by decide)) (by omega) (by decide)
  have h6 : VBR υ 6 (vwL.getD (6 - 1) []) (bform 6) (jnW 6) := keep _ _ _ _ (VBR_keep (VBR_keep (VBR_keep (VBR_keep g6 f7 (by omega) (by decide) (by decide)) f8 (by omega) (by decide) (by decide)) f9 (by omega) (by decide) (by decide)) f10 (by omega) (by decide) (by decide)) (by omega) (by decide)
  have h7 : VBR υ 7 (vwL.getD (7 - 1) []) (bform 7) (jnW 7) := keep _ _ _ _ (VBR_keep (VBR_keep (VBR_keep g7 f8 (by omega) (by decide) (by decide)) f9 (by omega) (by decide) (by decide)) f10 (by omega) (by decide) (by decide)) (by omega) (by decide)
  have h8 : VBR υ 8 (vwL.getD (8 - 1) []) (bform 8) (jnW 8) := keep _ _ _ _ (VBR_keep (VBR_keep g8 f9 (by omega) (by decide) (by decide)) f10 (by omega) (by decide) (by decide)) (by omega) (by decide)
  have h9 : VBR υ 9 (vwL.getD (9 - 1) []) (bform 9) (jnW 9) := keep _ _ _ _ (VBR_keep g9 f10 (by omega) (by decide) (by decide)) (by omega) (by decide)
  have h10 : VBR υ 10 (vwL.getD (10 - 1) []) (bform 10) (jnW 10) := keep _ _ _ _ g10 (by omega) (by decide)
  refine ⟨υ, ?_, by rw [u1, all1], fun k hk => by rw [uo k (by omega) (by omega) (by omega) (by omega) (by omega), all k (by omega)], fun v v1 v2 => ?_, by rw [u59, upd_s, if_pos rfl], by rw [u60, upd_s, if_pos rfl]; rfl, by rw [u54, upd_s, if_neg (by omega), upd_s, if_pos rfl], by rw [u54, upd_s, if_pos rfl], by rw [u55, upd_s, if_pos rfl]; rfl, by rw [u56, all 56 (by omega)]⟩
  · unfold LyI
    have e1' : F_X12_ownVerb 1 ([108, 111, 111, 107] : List Int32) ([108] : List Int32) ([] : List Int32) 0 ([] : List Int32) σ = some ((0 : Int32), τ1) := e1
    rw [e1', Option.bind_some]
    dsimp only
    have e2' : F_X12_ownVerb 2 ([105, 110, 118, 101, 110, 116, 111, 114, 121] : List Int32) ([105] : List Int32) ([] : List Int32) 0 ([] : List Int32) τ1 = some ((0 : Int32), τ2) := e2
    rw [e2', Option.bind_some]
    dsimp only
    have e3' : F_X12_ownVerb 3 ([119, 97, 105, 116] : List Int32) ([122] : List Int32) ([] : List Int32) 0 ([] : List Int32) τ2 = some ((0 : Int32), τ3) := e3
    rw [e3', Option.bind_some]
    dsimp only
    have e4' : F_X12_ownVerb 4 ([116, 97, 107, 101] : List Int32) ([103, 101, 116] : List Int32) ([] : List Int32) 1 ([] : List Int32) τ3 = some ((0 : Int32), τ4) := e4
    rw [e4', Option.bind_some]
    dsimp only
    have e5' : F_X12_ownVerb 5 ([100, 114, 111, 112] : List Int32) ([] : List Int32) ([] : List Int32) 1 ([] : List Int32) τ4 = some ((0 : Int32), τ5) := e5
    rw [e5', Option.bind_some]
    dsimp only
    have e6' : F_X12_ownVerb 6 ([101, 120, 97, 109, 105, 110, 101] : List Int32) ([120] : List Int32) ([] : List Int32) 1 ([] : List Int32) τ5 = some ((0 : Int32), τ6) := e6
    rw [e6', Option.bind_some]
    dsimp only
    have e7' : F_X12_ownVerb 7 ([111, 112, 101, 110] : List Int32) ([] : List Int32) ([] : List Int32) 1 ([] : List Int32) τ6 = some ((0 : Int32), τ7) := e7
    rw [e7', Option.bind_some]
    dsimp only
    have e8' : F_X12_ownVerb 8 ([99, 108, 111, 115, 101] : List Int32) ([] : List Int32) ([] : List Int32) 1 ([] : List Int32) τ7 = some ((0 : Int32), τ8) := e8
    rw [e8', Option.bind_some]
    dsimp only
    have e9' : F_X12_ownVerb 9 ([112, 117, 116] : List Int32) ([] : List Int32) ([] : List Int32) 2 ([105, 110] : List Int32) τ8 = some ((0 : Int32), τ9) := e9
    rw [e9', Option.bind_some]
    dsimp only
    have e10' : F_X12_ownVerb 10 ([112, 117, 116] : List Int32) ([] : List Int32) ([] : List Int32) 2 ([111, 110] : List Int32) τ9 = some ((0 : Int32), τ10) := e10
    rw [e10', Option.bind_some]
    dsimp only
    simp only [bndE]
    rw [← hυ]
    rfl
  · have hv : v = 1 ∨ v = 2 ∨ v = 3 ∨ v = 4 ∨ v = 5 ∨ v = 6 ∨ v = 7 ∨ v = 8 ∨ v = 9 ∨ v = 10 := by omega
    rcases hv with rfl | rfl | rfl | rfl | rfl | rfl | rfl | rfl | rfl | rfl
    · exact h1
    · exact h2
    · exact h3
    · exact h4
    · exact h5
    · exact h6
    · exact h7
    · exact h8
    · exact h9
    · exact h10
