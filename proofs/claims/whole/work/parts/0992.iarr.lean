/-! arrays are told and declared alike -/
variable {T N : Nat} {kd vl rv : Nat → Int} {pl : Nat → Nat}
def arS (Γ : HS) (m : Int) (v : Int32) : HS := cA' Γ 4 12 (g_put 20 ((Γ 4).2.1 12) (J m) v)
theorem c_arr (hT : TKE T N kd vl rv pl) {Γ Γ1 : HS} {i c1 : Nat} {s : Int32} (hc : TKc N kd vl pl Γ1) (hi : i + 3 < N) (h : F_X4_tellItem (J (i + 1 : Nat)) 5 3 20 Γ = some (J 0, Γ1)) (hcc : (Γ1 4).2.1 0 3 = J (c1 : Nat)) (hc5 : c1 ≤ 5000) (hb : -1000000000 ≤ vl (i + 3) ∧ vl (i + 3) ≤ 1000000000) (hs : s = if (c1 : Int) - 1 ≤ 0 then 0 else g_at 20 ((Γ1 4).2.1 12) (J ((c1 : Int) - 1 - 1))) : (¬ (vl (i + 3) < 1 ∨ 400 < vl (i + 3) ∨ ¬ (s + J (vl (i + 3)) ≤ 1000)) → F_X4_tellArray (J (i : Nat)) Γ = some ((0 : Int32), arS Γ1 ((c1 : Int) - 1) (s + J (vl (i + 3))))) ∧ (∀ Γ2, F_X4_fail 5 (J (i + 3 : Nat)) Γ1 = some (J 0, Γ2) → (vl (i + 3) < 1 ∨ 400 < vl (i + 3) ∨ ¬ (s + J (vl (i + 3)) ≤ 1000)) → F_X4_tellArray (J (i : Nat)) Γ = some ((0 : Int32), arS Γ2 ((c1 : Int) - 1) (s + J (vl (i + 3))))) := by
  have e1 : J (i : Nat) + 1 = J (i + 1 : Nat) := by rw [J_lit, J_add]; rfl
  have e3 : J (i : Nat) + 3 = J (i + 3 : Nat) := by rw [J_lit, J_add]; rfl
  have em : J (c1 : Nat) - 1 = J ((c1 : Int) - 1) := by rw [show (1 : Int32) = J 1 from rfl, J_sub]
  have em2 : J ((c1 : Int) - 1) - 1 = J ((c1 : Int) - 1 - 1) := by rw [show (1 : Int32) = J 1 from rfl, J_sub]
  have key : ∀ t9 : Int32, t9 = s → ∀ E : HR, E = (bnd (fun (σ_14 : HS) => (bnd ((t9 + J (vl (i + 3)))) fun (x_18 : Int32) => bnd (cA' σ_14 4 12 (g_put 20 ((σ_14 4).2.1 12) (J ((c1 : Int) - 1)) x_18)) fun σ_20 => some ((0 : Int32), σ_20) : HR)) fun j_15 => bnd (fun (σ_22 : HS) => ((F_X4_fail 5 (J (i + 3 : Nat)) σ_22).bind fun u_26 => j_15 u_26.2 : HR)) fun j_23 => if J (vl (i + 3)) < 1 then j_23 Γ1 else if 400 < J (vl (i + 3)) then j_23 Γ1 else if (t9 + J (vl (i + 3))) ≤ 1000 then j_15 Γ1 else j_23 Γ1) → (¬ (vl (i + 3) < 1 ∨ 400 < vl (i + 3) ∨ ¬ (s + J (vl (i + 3)) ≤ 1000)) → E = some ((0 : Int32), arS Γ1 ((c1 : Int) - 1) (s + J (vl (i + 3))))) ∧ (∀ Γ2, F_X4_fail 5 (J (i + 3 : Nat)) Γ1 = some (J 0, Γ2) → (vl (i + 3) < 1 ∨ 400 < vl (i + 3) ∨ ¬ (s + J (vl (i + 3)) ≤ 1000)) → E = some ((0 : Int32), arS Γ2 ((c1 : Int) - 1) (s + J (vl (i + 3))))) := by
    rintro t9 rfl E rfl
    simp only [bndE]
    have j1 : J (vl (i + 3)) < (1 : Int32) ↔ vl (i + 3) < 1 := by rw [show (1 : Int32) = J 1 from rfl, J_lt (by omega) (by omega) (by omega) (by omega)]
    have j4 : (400 : Int32) < J (vl (i + 3)) ↔ 400 < vl (i + 3) := by rw [show (400 : Int32) = J 400 from rfl, J_lt (by omega) (by omega) (by omega) (by omega)]
    constructor
    · intro hn
      rw [if_neg (fun h => hn (Or.inl (j1.1 h))), if_neg (fun h => hn (Or.inr (Or.inl (j4.1 h))))]
      by_cases q : t9 + J (vl (i + 3)) ≤ 1000
      · rw [if_pos q]; rfl
      · exact absurd (Or.inr (Or.inr q)) hn
    · intro Γ2 e hbad
      rw [e]
      by_cases q1 : vl (i + 3) < 1
      · rw [if_pos (j1.2 q1)]; rfl
      · rw [if_neg (fun h => q1 (j1.1 h))]
        by_cases q2 : 400 < vl (i + 3)
        · rw [if_pos (j4.2 q2)]; rfl
        · rw [if_neg (fun h => q2 (j4.1 h))]
          by_cases q3 : t9 + J (vl (i + 3)) ≤ 1000
          · rcases hbad with h | h | h
            · exact absurd h q1
            · exact absurd h q2
            · exact absurd q3 h
          · rw [if_neg q3]; rfl
  have ea : g_at 7 ((Γ1 4).2.1 0) 3 = J (c1 : Nat) := by
    rw [show (3 : Int32) = J 3 from rfl, q_g_at_in (n := 7) (i := 3) (by omega) (by omega) (by omega)]; exact hcc
  by_cases q : (c1 : Int) - 1 ≤ 0
  · rw [if_pos q] at hs
    refine key 0 hs.symm _ ?_
    unfold F_X4_tellArray
    rw [e1, h, Option.bind_some, e3, c_worthOf hT hc hi, Option.bind_some, bndE, mrg1_id, bndE, ea, em, bndE, if_pos (by rw [show (0 : Int32) = J 0 from rfl, J_le (by omega) (by omega) (by omega) (by omega)]; exact q)]
  · rw [if_neg q] at hs
    refine key _ hs.symm _ ?_
    unfold F_X4_tellArray
    rw [e1, h, Option.bind_some, e3, c_worthOf hT hc hi, Option.bind_some, bndE, mrg1_id, bndE, ea, em, bndE, if_neg (by rw [show (0 : Int32) = J 0 from rfl, J_le (by omega) (by omega) (by omega) (by omega)]; exact q), bndE, em2, bndE]
