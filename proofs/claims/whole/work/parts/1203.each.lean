/-! a command for all: one thing after another, in both -/
variable {R : Nat → Nat → Int32} {nO nV nC nA ln : Nat} {room : Nat → Bool} {en : Nat → Nat} {TX : Nat → Int → Int → Prop} {DN : Nat → Nat → Nat → Prop}
def PaB (p0 t_1 N : Int32) : ((Int32 × MS) → MR) → Int32 × MS → MR := (fun (again_26 : (Int32 × MS) → MR) (s_25 : Int32 × MS) => ( bnd (fun  (σ_29 : MS) => ( (F_X12_ends σ_29).bind fun u_33 => some (u_33.1, u_33.2) ) : MS → MR) fun j_30 => if N ≤ s_25.1 then ( j_30  s_25.2 ) else ( if (s_25.2.1 104) = 0 then ( if s_25.1 < 0 ∨ 121 ≤ s_25.1.toNatClampNeg then none else bnd ((s_25.2.2 121 s_25.1.toNatClampNeg)) fun (x_42 : Int32) => if x_42 < 0 ∨ 121 ≤ x_42.toNatClampNeg then none else bnd (fun  (σ_46 : MS) => ( bnd (s_25.1 + 1) fun (x_50 : Int32) => again_26 (x_50, σ_46) ) : MS → MR) fun j_47 => if (s_25.2.2 87 x_42.toNatClampNeg) = t_1 then ( bnd (mI s_25.2 96 x_42) fun σ_54 => (F_X12_sayName x_42 σ_54).bind fun u_56 => (F_X12_say ([58, 32] : List Int32) u_56.2).bind fun u_59 => (F_X12_act p0 1 x_42 0 u_59.2).bind fun u_61 => j_47  u_61.2 ) else ( j_47  s_25.2 ) ) else ( j_30  s_25.2 ) ) ))
theorem PaB_s (p0 t_1 N : Int32) (n : Nat) (a : Int32) (X : MS) : loopF (PaB p0 t_1 N) (n + 1) (a, X) = ( bnd (fun  (σ_29 : MS) => ( (F_X12_ends σ_29).bind fun u_33 => some (u_33.1, u_33.2) ) : MS → MR) fun j_30 => if N ≤ a then ( j_30  X ) else ( if (X.1 104) = 0 then ( if a < 0 ∨ 121 ≤ a.toNatClampNeg then none else bnd ((X.2 121 a.toNatClampNeg)) fun (x_42 : Int32) => if x_42 < 0 ∨ 121 ≤ x_42.toNatClampNeg then none else bnd (fun  (σ_46 : MS) => ( bnd (a + 1) fun (x_50 : Int32) => loopF (PaB p0 t_1 N) n (x_50, σ_46) ) : MS → MR) fun j_47 => if (X.2 87 x_42.toNatClampNeg) = t_1 then ( bnd (mI X 96 x_42) fun σ_54 => (F_X12_sayName x_42 σ_54).bind fun u_56 => (F_X12_say ([58, 32] : List Int32) u_56.2).bind fun u_59 => (F_X12_act p0 1 x_42 0 u_59.2).bind fun u_61 => j_47  u_61.2 ) else ( j_47  X ) ) else ( j_30  X ) ) ) := rfl
def AaC (K : Int32 → HS → HR) : ((Int32 × Int32 × HS) → HR) → Int32 × Int32 × HS → HR := (fun (again_27 : (Int32 × Int32 × HS) → HR) (s_26 : Int32 × Int32 × HS) => ( bnd (fun  (σ_30 : HS) => ( K s_26.1 σ_30 ) : HS → HR) fun j_31 => if ((s_26.2.2 11).1 15) ≤ s_26.2.1 then ( j_31  s_26.2.2 ) else ( if s_26.1 = 0 then ( j_31  s_26.2.2 ) else ( bnd ((g_at 120 ((s_26.2.2 11).2.1 14) s_26.2.1)) fun (x_40 : Int32) => bnd (cI' s_26.2.2 11 10 x_40) fun σ_42 => bnd (((σ_42 11).1 10)) fun (x_44 : Int32) => bnd ((g_at 121 ((σ_42 9).2.1 0) x_44)) fun (x_46 : Int32) => bnd (fun (v1_48 : Int32) (σ_49 : HS) => ( bnd (s_26.2.1 + 1) fun (x_53 : Int32) => again_27 (v1_48, x_53, σ_49) ) : Int32 → HS → HR) fun j_50 => if x_46 = ((σ_42 11).1 13) then ( (F_X3_sayName ((σ_42 11).1 10) σ_42).bind fun u_57 => bnd (mrg (fun j => j == 10 || j == 9 || j == 8 || j == 4 || j == 5 || j == 6 || j == 7) σ_42 u_57.2) fun σ_59 => (F_X5_text ([58, 32] : List Int32) σ_59).bind fun u_62 => bnd (mrg (fun j => j == 8) σ_59 u_62.2) fun σ_64 => (F_X8_perform σ_64).bind fun u_66 => j_50 u_66.1 u_66.2 ) else ( j_50 s_26.1 σ_42 ) ) ) ))
theorem AaC_s (K : Int32 → HS → HR) (n : Nat) (a b : Int32) (X : HS) : loopF (AaC K) (n + 1) (a, b, X) = ( bnd (fun  (σ_30 : HS) => ( K a σ_30 ) : HS → HR) fun j_31 => if ((X 11).1 15) ≤ b then ( j_31  X ) else ( if a = 0 then ( j_31  X ) else ( bnd ((g_at 120 ((X 11).2.1 14) b)) fun (x_40 : Int32) => bnd (cI' X 11 10 x_40) fun σ_42 => bnd (((σ_42 11).1 10)) fun (x_44 : Int32) => bnd ((g_at 121 ((σ_42 9).2.1 0) x_44)) fun (x_46 : Int32) => bnd (fun (v1_48 : Int32) (σ_49 : HS) => ( bnd (b + 1) fun (x_53 : Int32) => loopF (AaC K) n (v1_48, x_53, σ_49) ) : Int32 → HS → HR) fun j_50 => if x_46 = ((σ_42 11).1 13) then ( (F_X3_sayName ((σ_42 11).1 10) σ_42).bind fun u_57 => bnd (mrg (fun j => j == 10 || j == 9 || j == 8 || j == 4 || j == 5 || j == 6 || j == 7) σ_42 u_57.2) fun σ_59 => (F_X5_text ([58, 32] : List Int32) σ_59).bind fun u_62 => bnd (mrg (fun j => j == 8) σ_59 u_62.2) fun σ_64 => (F_X8_perform σ_64).bind fun u_66 => j_50 u_66.1 u_66.2 ) else ( j_50 a σ_42 ) ) ) ) := rfl
theorem STA_i {σ τ : MS} {Γ Δ : HS} (h : STA R nO nV nC nA room en ln TX σ Γ) (h2 : τ.2 = σ.2) (h78 : τ.1 78 = σ.1 78) (hc : ∀ r, r = 4 ∨ r = 5 ∨ r = 6 → Δ r = Γ r) : STA R nO nV nC nA room en ln TX τ Δ := by
  obtain ⟨s1, s2, s3, s4, s5, s6, s7⟩ := h
  have c4 := hc 4 (by omega)
  have c5 := hc 5 (by omega)
  have c6 := hc 6 (by omega)
  refine ⟨fun k k1 k2 => by rw [h2]; exact s1 k k1 k2, by rw [c4, h78]; exact s2, by rw [c4, h2]; exact s3, ?_, CAL_keep s5 (fun k _ => by rw [h2]) c4 c6, by rw [c5]; exact s6, fun w r v h => TXR_keep (s7 w r v h) (by rw [h2]) c6⟩
  unfold REND AEND; rw [c4, h2]; exact s4
theorem SLK_i {σ τ : MS} {Γ Δ : HS} (h : SLK σ Γ nO room) (h2 : τ.2 = σ.2) (h78 : τ.1 78 = σ.1 78) (hc : ∀ r, r = 4 ∨ r = 5 ∨ r = 6 → Δ r = Γ r) : SLK τ Δ nO room := by
  obtain ⟨a1, a2, a3, a4, a5, a6⟩ := h
  have c4 := hc 4 (by omega)
  have c6 := hc 6 (by omega)
  refine ⟨CAL_keep a1 (fun k _ => by rw [h2]) c4 c6, DSC_keep a2 (fun k _ => by rw [h2]) c4 c6, by rw [h2]; exact a3, by rw [h78]; exact a4, a5, ?_⟩
  intro r d x1 x2 x3
  rw [h2, c4]; exact a6 r d x1 x2 x3
theorem ONS_i {Γ0 : HS} {F : Nat → Nat} {σ τ : MS} {Γ Δ : HS} {no : Nat} (h : ONS R nV nA ln TX DN Γ0 F σ Γ no) (h2 : τ.2 = σ.2) (h83 : τ.1 83 = σ.1 83) (hc : ∀ r, r = 4 ∨ r = 5 ∨ r = 6 → Δ r = Γ r) : ONS R nV nA ln TX DN Γ0 F τ Δ no := by
  refine ⟨by rw [h83]; exact h.1, h.2.1, fun i hi => ?_⟩
  obtain ⟨vb, c, A, B, hV, hF', z, lo, hi', p, q, m, y', D, Dq, k1, k2⟩ := h.2.2 i hi
  refine ⟨vb, c, A, B, ?_, hF', z, lo, hi', p, q, m, y', D, Dq, by rw [h2]; exact k1, k2⟩
  unfold ONV
  rw [h2, hc 4 (by omega)]; exact hV
theorem itS_o {a f x : Nat} {σ : MS} : (itS a f x σ).2 = σ.2 ∧ ∀ k, k ≠ 96 → (itS a f x σ).1 k = σ.1 k := by
  unfold itS
  split
  · exact ⟨rfl, fun k hk => by rw [mI_1, if_neg hk]⟩
  · exact ⟨rfl, fun _ _ => rfl⟩
/-- it is put back and set again: nothing is lost -/
theorem it_back {a f x : Nat} {τ : MS} {v : Int32} (hf : 1 ≤ f) (ha : a ≠ 11) (h : τ.1 96 = J (x : Nat)) : itS a f x (mI τ 96 v) = τ := by
  unfold itS
  rw [if_pos ⟨hf, ha⟩]
  refine Prod.ext (funext fun k => ?_) rfl
  show (mI (mI τ 96 v) 96 (J (x : Nat))).1 k = τ.1 k
  rw [mI_1, mI_1]
  by_cases e : k = 96
  · rw [if_pos e, e, h]
  · rw [if_neg e, if_neg e]
