/-! the heads of a command for all -/
variable {nO nV nC : Nat} {room : Nat → Bool}
theorem PLT_9 {σ : MS} {Γ Δ : HS} {pa fi nx : Nat → Nat} {ch : Nat → List Nat} {tr : Nat → Nat} (h : PLT nO room nV nC σ Γ pa fi nx ch tr) (e : Δ 9 = Γ 9) : PLT nO room nV nC σ Δ pa fi nx ch tr := by
  unfold PLT CTr LAT at *
  rw [e]; exact h
/-- what the class does behind the gathering -/
def chEnd (Γ : HS) : HR := if 0 < (Γ 11).1 15 then some (1, Γ) else (F_X8_refuse ([84, 104, 101, 114, 101, 32, 105, 115, 32, 110, 111, 116, 104, 105, 110, 103, 32, 116, 111, 32, 100, 111, 46] : List Int32) Γ).bind fun u_18 => if u_18.1 = 0 then some (0, u_18.2) else some (1, u_18.2)
/-- what the reference does behind it -/
def alK (p0 t_1 a : Int32) (X : MS) : MR := if a = 0 then ( (F_X12_no ([84, 104, 101, 114, 101, 32, 105, 115, 32, 110, 111, 116, 104, 105, 110, 103, 32, 116, 111, 32, 100, 111, 46] : List Int32) X).bind fun u_20 => some (u_20.1, u_20.2) ) else ( (F_X12_starts X).bind fun u_23 => loopF (PaB p0 t_1 a) FU (0, u_23.2) )
theorem all_eq (p0 : Int32) (σ : MS) : F_X12_all p0 σ = bnd (fun (t_1 : Int32) (σ_2 : MS) => ( bnd (fun (t_6 : Int32) (σ_7 : MS) => loopF (GaB p0 (alK p0 t_1)) FU (0, t_6, σ_7)) fun j_8 => bnd (fun  (σ_101 : MS) => ( if t_1 < 0 ∨ 121 ≤ t_1.toNatClampNeg then none else j_8 (σ_101.2 88 t_1.toNatClampNeg) σ_101 ) : MS → MR) fun j_102 => if p0 = 4 then ( (F_X12_isLight σ_2).bind fun u_109 => if u_109.1 = 0 then ( j_8 0 u_109.2 ) else ( j_102  u_109.2 ) ) else ( j_102  σ_2 ) ) : Int32 → MS → MR) fun j_3 => if p0 = 4 then ( j_3 (σ.2 87 (1 : Int32).toNatClampNeg) σ ) else ( j_3 1 σ ) := rfl
theorem chooseAll_eq (Γ : HS) : F_X8_chooseAll Γ = bnd (cI' Γ 11 15 0) fun σ_1 => bnd (fun (t_3 : Int32) (σ_4 : HS) => ( bnd (cI' σ_4 11 13 t_3) fun σ_8 => bnd (fun  (σ_23 : HS) => ( bnd (((σ_23 11).1 13)) fun (x_27 : Int32) => bnd ((g_at 121 ((σ_23 9).2.1 1) x_27)) fun (x_29 : Int32) => loopF (GaC chEnd) FU (x_29, 0, σ_23) ) : HS → HR) fun j_24 => if ((σ_8 11).1 8) = 5 then ( j_24  σ_8 ) else ( (F_X6_isLight σ_8).bind fun u_88 => bnd (mrg (fun j => j == 9) σ_8 u_88.2) fun σ_90 => if u_88.1 = 0 then ( chEnd  σ_90 ) else ( j_24  σ_90 ) ) ) : Int32 → HS → HR) fun j_5 => if ((σ_1 11).1 8) = 4 then ( (F_X6_here σ_1).bind fun u_97 => bnd (mrg (fun j => j == 9) σ_1 u_97.2) fun σ_99 => j_5 u_97.1 σ_99 ) else ( j_5 1 σ_1 ) := rfl
/-- only what a command for all writes down changed -/
def cGh (Γ Δ : HS) : Prop := (∀ r, r ≠ 11 → Δ r = Γ r) ∧ (∀ k, k ≠ 15 → k ≠ 13 → (Δ 11).1 k = (Γ 11).1 k) ∧ ∀ k, k ≠ 14 → (Δ 11).2.1 k = (Γ 11).2.1 k
theorem W_all {σ : MS} {Γ : HS} {pa fi nx : Nat → Nat} {ch : Nat → List Nat} {tr : Nat → Nat} {a : Nat} (ha : a = 4 ∨ a = 5) (hP : PLT nO room nV nC σ Γ pa fi nx ch tr) (hr : ∀ x, x ≤ 120 → σ.2 50 x = if room x = true then 1 else 0) (h78 : σ.1 78 = J (nO : Nat)) (h8 : (Γ 11).1 8 = J (a : Nat)) : ∃ (t : Nat) (L : List Nat) (τ : MS) (Δ : HS), F_X12_all (J (a : Nat)) σ = alK (J (a : Nat)) (J (t : Nat)) (J (L.length : Nat)) τ ∧ F_X8_chooseAll Γ = chEnd Δ ∧ GAL τ Δ L ∧ (Δ 11).1 13 = J (t : Nat) ∧ t ≤ 120 ∧ (∀ x, x ∈ L → 1 ≤ x ∧ x ≤ nO ∧ room x = false) ∧ L.length ≤ 120 ∧ rGa σ τ ∧ cGh Γ Δ := by
  have tn := hP.1.1
  have h1 := (hP.2.1 1 (by omega)).1
  have c1 := (hP.2.2.1 1 (by omega)).1
  have q11 := hP.2.2.2.2.2.2.2.2.2.2.1
  have q10 := hP.2.2.2.2.2.2.2.2.2.1
  have px := hP.1.2.2.2.1 1
  -- all that t has
  have main : ∀ (t : Nat), 1 ≤ t → t ≤ nO → ∃ (L : List Nat) (τ : MS) (Δ : HS), loopF (GaB (J (a : Nat)) (alK (J (a : Nat)) (J (t : Nat)))) FU (0, J (fi t : Nat), σ) = alK (J (a : Nat)) (J (t : Nat)) (J (L.length : Nat)) τ ∧ loopF (GaC chEnd) FU (J (fi t : Nat), 0, cI' (cI' Γ 11 15 0) 11 13 (J (t : Nat))) = chEnd Δ ∧ GAL τ Δ L ∧ (Δ 11).1 13 = J (t : Nat) ∧ (∀ x, x ∈ L → 1 ≤ x ∧ x ≤ nO ∧ room x = false) ∧ L.length ≤ 120 ∧ rGa σ τ ∧ cGh Γ Δ := by
    intro t t1 t2
    have hm : ∀ x, x ∈ ch t → 1 ≤ x ∧ x ≤ nO ∧ pa x = t := fun x hx => (hP.1.2.2.1 t x t1 t2).mp hx
    have hl := TR_len hP.1 t1 t2
    have hP2 : PLT nO room nV nC σ (cI' (cI' Γ 11 15 0) 11 13 (J (t : Nat))) pa fi nx ch tr := PLT_9 hP rfl
    obtain ⟨τ, Δ, e1, e2, e3, e4, e5⟩ := W_gather (a := a) (by omega) (ch t) (fi t) 0 [] σ (cI' (cI' Γ 11 15 0) 11 13 (J (t : Nat))) hP2 ⟨rfl, fun j hj => absurd hj (Nat.not_lt_zero _)⟩ h8 (hP.1.2.1 t t1 t2).1 (fun x hx => ⟨(hm x hx).1, (hm x hx).2.1⟩) (by omega) (by rw [List.length_nil]; omega) FU (FU_gt (by omega))
    rw [List.nil_append] at e1 e3
    refine ⟨_, τ, Δ, e1 _, e2 _, e3, ?_, ?_, ?_, e4, ?_⟩
    · rw [e5.2.1 13 (by omega)]; rfl
    · intro x hx
      obtain ⟨m1, m2, m3⟩ := hm x (List.mem_filter.mp hx).1
      refine ⟨m1, m2, ?_⟩
      by_cases q : room x = true
      · have := q10 x q; omega
      · exact Bool.eq_false_iff.mpr q
    · exact Nat.le_trans (List.length_filter_le ..) (by omega)
    · refine ⟨fun r hr => ?_, fun k k1 k2 => ?_, fun k k1 => ?_⟩
      · rw [e5.1 r hr, cI_r, if_neg hr, cI_r, if_neg hr]
      · rw [e5.2.1 k k1]; exact (if_neg k2).trans (if_neg k1)
      · rw [e5.2.2 k k1]; rfl
  have gt : ∀ t : Nat, t ≤ nO → (σ.2 88 t = J (fi t : Nat)) ∧ g_at 121 ((Γ 9).2.1 1) (J (t : Nat)) = J (fi t : Nat) := fun t ht => ⟨(hP.2.1 t (by omega)).2.1, by rw [q_g_at_in (by omega) (by omega) (by omega), Int.toNat_natCast]; exact (hP.2.2.1 t (by omega)).2.1⟩
  rcases ha with rfl | rfl
  · -- take
    obtain ⟨L, τ, Δ, e1, e2, e3, e4, e5, e6, e7, e8⟩ := main (pa 1) q11.2.2.2 px
    obtain ⟨b, b1, b2⟩ := W_light (Γ := cI' (cI' Γ 11 15 0) 11 13 (J (pa 1 : Nat))) (PLT_9 hP rfl) hr h78
    have eR := all_eq (J ((4 : Nat) : Int)) σ
    rw [bndE, if_pos (show J ((4 : Nat) : Int) = 4 from rfl), show (1 : Int32).toNatClampNeg = 1 from rfl, h1] at eR
    dsimp only at eR
    rw [bndE, bndE, if_pos (show J ((4 : Nat) : Int) = 4 from rfl), b1, Option.bind_some] at eR
    dsimp only at eR
    have eC := chooseAll_eq Γ
    rw [bndE, bndE, if_pos (show ((cI' Γ 11 15 0) 11).1 8 = 4 from h8), show F_X6_here (cI' Γ 11 15 0) = some (J (pa 1 : Nat), cI' Γ 11 15 0) from by rw [← c1]; rfl, Option.bind_some] at eC
    dsimp only at eC
    rw [bndE, mrgE (fun _ _ => rfl), bndE, bndE, if_neg (show ¬ ((cI' (cI' Γ 11 15 0) 11 13 (J (pa 1 : Nat))) 11).1 8 = 5 from by rw [show ((cI' (cI' Γ 11 15 0) 11 13 (J (pa 1 : Nat))) 11).1 8 = (Γ 11).1 8 from rfl, h8]; decide), b2, Option.bind_some] at eC
    dsimp only at eC
    rw [bndE, mrgE (fun _ _ => rfl)] at eC
    cases b with
    | false =>
      rw [if_pos (show (if false = true then (1 : Int32) else 0) = 0 by decide)] at eR eC
      refine ⟨pa 1, [], σ, cI' (cI' Γ 11 15 0) 11 13 (J (pa 1 : Nat)), ?_, eC, ⟨rfl, fun j hj => absurd hj (Nat.not_lt_zero _)⟩, rfl, by omega, fun x hx => absurd hx List.not_mem_nil, Nat.zero_le _, ⟨rfl, fun _ _ => rfl⟩, ?_⟩
      · rw [eR]
        obtain ⟨m, hm⟩ : ∃ m, FU = m + 1 := ⟨FU - 1, by have := FU_gt (k := 0) (by omega); omega⟩
        rw [hm, GaB_s, if_pos rfl]; rfl
      · refine ⟨fun r hr => ?_, fun k k1 k2 => ?_, fun k k1 => rfl⟩
        · rw [cI_r, if_neg hr, cI_r, if_neg hr]
        · exact (if_neg k2).trans (if_neg k1)
    | true =>
      rw [if_neg (show ¬ (if true = true then (1 : Int32) else 0) = 0 by decide)] at eR eC
      rw [if_neg (g121 (by omega)), J_natN (by omega), (gt (pa 1) px).1] at eR
      rw [bndE, show ((cI' (cI' Γ 11 15 0) 11 13 (J (pa 1 : Nat))) 11).1 13 = J (pa 1 : Nat) from rfl, show ((cI' (cI' Γ 11 15 0) 11 13 (J (pa 1 : Nat))) 9).2.1 1 = (Γ 9).2.1 1 from rfl, (gt (pa 1) px).2, bndE] at eC
      exact ⟨pa 1, L, τ, Δ, by rw [eR]; exact e1, by rw [eC]; exact e2, e3, e4, by omega, e5, e6, e7, e8⟩
  · -- drop
    obtain ⟨L, τ, Δ, e1, e2, e3, e4, e5, e6, e7, e8⟩ := main 1 (by omega) q11.1
    have eR := all_eq (J ((5 : Nat) : Int)) σ
    rw [bndE, if_neg (show ¬ J ((5 : Nat) : Int) = 4 by decide)] at eR
    dsimp only at eR
    rw [bndE, bndE, if_neg (show ¬ J ((5 : Nat) : Int) = 4 by decide)] at eR
    dsimp only at eR
    rw [show (1 : Int32) = J ((1 : Nat) : Int) from rfl, if_neg (g121 (by omega)), J_natN (by omega), (gt 1 q11.1).1] at eR
    have eC := chooseAll_eq Γ
    rw [bndE, bndE, if_neg (show ¬ ((cI' Γ 11 15 0) 11).1 8 = 4 from by rw [show ((cI' Γ 11 15 0) 11).1 8 = (Γ 11).1 8 from rfl, h8]; decide)] at eC
    dsimp only at eC
    rw [bndE, bndE, if_pos (show ((cI' (cI' Γ 11 15 0) 11 13 1) 11).1 8 = 5 from h8)] at eC
    dsimp only at eC
    rw [bndE, show (1 : Int32) = J ((1 : Nat) : Int) from rfl, show ((cI' (cI' Γ 11 15 0) 11 13 (J ((1 : Nat) : Int))) 11).1 13 = J ((1 : Nat) : Int) from rfl, show ((cI' (cI' Γ 11 15 0) 11 13 (J ((1 : Nat) : Int))) 9).2.1 1 = (Γ 9).2.1 1 from rfl, (gt 1 q11.1).2, bndE] at eC
    exact ⟨1, L, τ, Δ, by rw [eR]; exact e1, by rw [eC]; exact e2, e3, e4, by omega, e5, e6, e7, e8⟩
