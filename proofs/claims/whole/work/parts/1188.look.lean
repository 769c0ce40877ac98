/-! looking about: what is here -/
variable {nO nV nC : Nat} {room : Nat → Bool}
def InB (K : MS → MR) (Y : Int32) : ((Int32 × MS) → MR) → Int32 × MS → MR := (fun (again_65 : (Int32 × MS) → MR) (s_64 : Int32 × MS) => ( if s_64.1 = 0 then ( K  s_64.2 ) else ( (F_X12_has s_64.1 2 1 s_64.2).bind fun u_71 => bnd (fun  (σ_73 : MS) => ( if s_64.1 < 0 ∨ 121 ≤ s_64.1.toNatClampNeg then none else bnd ((σ_73.2 89 s_64.1.toNatClampNeg)) fun (x_79 : Int32) => again_65 (x_79, σ_73) ) : MS → MR) fun j_74 => if u_71.1 = 0 then ( (F_X12_has Y 5 1 u_71.2).bind fun u_83 => if u_83.1 = 0 then ( (F_X12_say ([73, 110, 32] : List Int32) u_83.2).bind fun u_88 => (F_X12_sayName Y u_88.2).bind fun u_90 => (F_X12_say ([32, 116, 104, 101, 114, 101, 32, 105, 115, 32] : List Int32) u_90.2).bind fun u_93 => (F_X12_sayName s_64.1 u_93.2).bind fun u_95 => (F_X12_line ([46] : List Int32) u_95.2).bind fun u_98 => j_74  u_98.2 ) else ( (F_X12_say ([79, 110, 32] : List Int32) u_83.2).bind fun u_102 => (F_X12_sayName Y u_102.2).bind fun u_104 => (F_X12_say ([32, 116, 104, 101, 114, 101, 32, 105, 115, 32] : List Int32) u_104.2).bind fun u_107 => (F_X12_sayName s_64.1 u_107.2).bind fun u_109 => (F_X12_line ([46] : List Int32) u_109.2).bind fun u_112 => j_74  u_112.2 ) ) else ( j_74  u_71.2 ) ) ))
theorem InB_s (K : MS → MR) (Y : Int32) (n : Nat) (a : Int32) (X : MS) : loopF (InB K Y) (n + 1) (a, X) = ( if a = 0 then ( K  X ) else ( (F_X12_has a 2 1 X).bind fun u_71 => bnd (fun  (σ_73 : MS) => ( if a < 0 ∨ 121 ≤ a.toNatClampNeg then none else bnd ((σ_73.2 89 a.toNatClampNeg)) fun (x_79 : Int32) => loopF (InB K Y) n (x_79, σ_73) ) : MS → MR) fun j_74 => if u_71.1 = 0 then ( (F_X12_has Y 5 1 u_71.2).bind fun u_83 => if u_83.1 = 0 then ( (F_X12_say ([73, 110, 32] : List Int32) u_83.2).bind fun u_88 => (F_X12_sayName Y u_88.2).bind fun u_90 => (F_X12_say ([32, 116, 104, 101, 114, 101, 32, 105, 115, 32] : List Int32) u_90.2).bind fun u_93 => (F_X12_sayName a u_93.2).bind fun u_95 => (F_X12_line ([46] : List Int32) u_95.2).bind fun u_98 => j_74  u_98.2 ) else ( (F_X12_say ([79, 110, 32] : List Int32) u_83.2).bind fun u_102 => (F_X12_sayName Y u_102.2).bind fun u_104 => (F_X12_say ([32, 116, 104, 101, 114, 101, 32, 105, 115, 32] : List Int32) u_104.2).bind fun u_107 => (F_X12_sayName a u_107.2).bind fun u_109 => (F_X12_line ([46] : List Int32) u_109.2).bind fun u_112 => j_74  u_112.2 ) ) else ( j_74  u_71.2 ) ) ) := rfl
def LkB  : ((Int32 × MS) → MR) → Int32 × MS → MR := (fun (again_26 : (Int32 × MS) → MR) (s_25 : Int32 × MS) => ( if s_25.1 = 0 then ( some (0, s_25.2) ) else ( bnd (fun  (σ_32 : MS) => ( if s_25.1 < 0 ∨ 121 ≤ s_25.1.toNatClampNeg then none else bnd ((σ_32.2 89 s_25.1.toNatClampNeg)) fun (x_38 : Int32) => again_26 (x_38, σ_32) ) : MS → MR) fun j_33 => if s_25.1 = 1 then ( j_33  s_25.2 ) else ( (F_X12_has s_25.1 2 1 s_25.2).bind fun u_43 => if u_43.1 = 0 then ( (F_X12_say ([84, 104, 101, 114, 101, 32, 105, 115, 32] : List Int32) u_43.2).bind fun u_48 => (F_X12_sayName s_25.1 u_48.2).bind fun u_50 => (F_X12_line ([32, 104, 101, 114, 101, 46] : List Int32) u_50.2).bind fun u_53 => (F_X12_lets s_25.1 u_53.2).bind fun u_55 => if u_55.1 = 0 then ( j_33  u_55.2 ) else ( if s_25.1 < 0 ∨ 121 ≤ s_25.1.toNatClampNeg then none else bnd ((u_55.2.2 88 s_25.1.toNatClampNeg)) fun (x_62 : Int32) => loopF (InB j_33 s_25.1) FU (x_62, u_55.2) ) ) else ( j_33  u_43.2 ) ) ) ))
theorem LkB_s  (n : Nat) (a : Int32) (X : MS) : loopF LkB (n + 1) (a, X) = ( if a = 0 then ( some (0, X) ) else ( bnd (fun  (σ_32 : MS) => ( if a < 0 ∨ 121 ≤ a.toNatClampNeg then none else bnd ((σ_32.2 89 a.toNatClampNeg)) fun (x_38 : Int32) => loopF LkB n (x_38, σ_32) ) : MS → MR) fun j_33 => if a = 1 then ( j_33  X ) else ( (F_X12_has a 2 1 X).bind fun u_43 => if u_43.1 = 0 then ( (F_X12_say ([84, 104, 101, 114, 101, 32, 105, 115, 32] : List Int32) u_43.2).bind fun u_48 => (F_X12_sayName a u_48.2).bind fun u_50 => (F_X12_line ([32, 104, 101, 114, 101, 46] : List Int32) u_50.2).bind fun u_53 => (F_X12_lets a u_53.2).bind fun u_55 => if u_55.1 = 0 then ( j_33  u_55.2 ) else ( if a < 0 ∨ 121 ≤ a.toNatClampNeg then none else bnd ((u_55.2.2 88 a.toNatClampNeg)) fun (x_62 : Int32) => loopF (InB j_33 a) FU (x_62, u_55.2) ) ) else ( j_33  u_43.2 ) ) ) ) := rfl
def InC (Y : Int32) : ((Int32 × Int32 × HS) → HR) → Int32 × Int32 × HS → HR := (fun (again_11 : (Int32 × Int32 × HS) → HR) (s_10 : Int32 × Int32 × HS) => ( if 120 ≤ s_10.2.1 then ( some (0, s_10.2.2) ) else ( if s_10.1 = 0 then ( some (0, s_10.2.2) ) else ( (F_X6_bears s_10.1 2 s_10.2.2).bind fun u_20 => bnd (mrg (fun j => j == 9) s_10.2.2 u_20.2) fun σ_22 => bnd (fun  (σ_24 : HS) => ( bnd ((g_at 121 ((σ_24 9).2.1 2) s_10.1)) fun (x_28 : Int32) => bnd (s_10.2.1 + 1) fun (x_30 : Int32) => again_11 (x_28, x_30, σ_24) ) : HS → HR) fun j_25 => if u_20.1 = 0 then ( (F_X6_bears Y 5 σ_22).bind fun u_34 => bnd (mrg (fun j => j == 9) σ_22 u_34.2) fun σ_36 => if u_34.1 = 0 then ( (F_X5_text ([73, 110, 32] : List Int32) σ_36).bind fun u_41 => bnd (mrg (fun j => j == 8) σ_36 u_41.2) fun σ_43 => (F_X3_sayName Y σ_43).bind fun u_45 => bnd (mrg (fun j => j == 10 || j == 9 || j == 8 || j == 4 || j == 5 || j == 6 || j == 7) σ_43 u_45.2) fun σ_47 => (F_X5_text ([32, 116, 104, 101, 114, 101, 32, 105, 115, 32] : List Int32) σ_47).bind fun u_50 => bnd (mrg (fun j => j == 8) σ_47 u_50.2) fun σ_52 => (F_X3_sayName s_10.1 σ_52).bind fun u_54 => bnd (mrg (fun j => j == 10 || j == 9 || j == 8 || j == 4 || j == 5 || j == 6 || j == 7) σ_52 u_54.2) fun σ_56 => (F_X5_line ([46] : List Int32) σ_56).bind fun u_59 => bnd (mrg (fun j => j == 8) σ_56 u_59.2) fun σ_61 => j_25  σ_61 ) else ( (F_X5_text ([79, 110, 32] : List Int32) σ_36).bind fun u_65 => bnd (mrg (fun j => j == 8) σ_36 u_65.2) fun σ_67 => (F_X3_sayName Y σ_67).bind fun u_69 => bnd (mrg (fun j => j == 10 || j == 9 || j == 8 || j == 4 || j == 5 || j == 6 || j == 7) σ_67 u_69.2) fun σ_71 => (F_X5_text ([32, 116, 104, 101, 114, 101, 32, 105, 115, 32] : List Int32) σ_71).bind fun u_74 => bnd (mrg (fun j => j == 8) σ_71 u_74.2) fun σ_76 => (F_X3_sayName s_10.1 σ_76).bind fun u_78 => bnd (mrg (fun j => j == 10 || j == 9 || j == 8 || j == 4 || j == 5 || j == 6 || j == 7) σ_76 u_78.2) fun σ_80 => (F_X5_line ([46] : List Int32) σ_80).bind fun u_83 => bnd (mrg (fun j => j == 8) σ_80 u_83.2) fun σ_85 => j_25  σ_85 ) ) else ( j_25  σ_22 ) ) ) ))
theorem InC_s (Y : Int32) (n : Nat) (a b : Int32) (X : HS) : loopF (InC Y) (n + 1) (a, b, X) = ( if 120 ≤ b then ( some (0, X) ) else ( if a = 0 then ( some (0, X) ) else ( (F_X6_bears a 2 X).bind fun u_20 => bnd (mrg (fun j => j == 9) X u_20.2) fun σ_22 => bnd (fun  (σ_24 : HS) => ( bnd ((g_at 121 ((σ_24 9).2.1 2) a)) fun (x_28 : Int32) => bnd (b + 1) fun (x_30 : Int32) => loopF (InC Y) n (x_28, x_30, σ_24) ) : HS → HR) fun j_25 => if u_20.1 = 0 then ( (F_X6_bears Y 5 σ_22).bind fun u_34 => bnd (mrg (fun j => j == 9) σ_22 u_34.2) fun σ_36 => if u_34.1 = 0 then ( (F_X5_text ([73, 110, 32] : List Int32) σ_36).bind fun u_41 => bnd (mrg (fun j => j == 8) σ_36 u_41.2) fun σ_43 => (F_X3_sayName Y σ_43).bind fun u_45 => bnd (mrg (fun j => j == 10 || j == 9 || j == 8 || j == 4 || j == 5 || j == 6 || j == 7) σ_43 u_45.2) fun σ_47 => (F_X5_text ([32, 116, 104, 101, 114, 101, 32, 105, 115, 32] : List Int32) σ_47).bind fun u_50 => bnd (mrg (fun j => j == 8) σ_47 u_50.2) fun σ_52 => (F_X3_sayName a σ_52).bind fun u_54 => bnd (mrg (fun j => j == 10 || j == 9 || j == 8 || j == 4 || j == 5 || j == 6 || j == 7) σ_52 u_54.2) fun σ_56 => (F_X5_line ([46] : List Int32) σ_56).bind fun u_59 => bnd (mrg (fun j => j == 8) σ_56 u_59.2) fun σ_61 => j_25  σ_61 ) else ( (F_X5_text ([79, 110, 32] : List Int32) σ_36).bind fun u_65 => bnd (mrg (fun j => j == 8) σ_36 u_65.2) fun σ_67 => (F_X3_sayName Y σ_67).bind fun u_69 => bnd (mrg (fun j => j == 10 || j == 9 || j == 8 || j == 4 || j == 5 || j == 6 || j == 7) σ_67 u_69.2) fun σ_71 => (F_X5_text ([32, 116, 104, 101, 114, 101, 32, 105, 115, 32] : List Int32) σ_71).bind fun u_74 => bnd (mrg (fun j => j == 8) σ_71 u_74.2) fun σ_76 => (F_X3_sayName a σ_76).bind fun u_78 => bnd (mrg (fun j => j == 10 || j == 9 || j == 8 || j == 4 || j == 5 || j == 6 || j == 7) σ_76 u_78.2) fun σ_80 => (F_X5_line ([46] : List Int32) σ_80).bind fun u_83 => bnd (mrg (fun j => j == 8) σ_80 u_83.2) fun σ_85 => j_25  σ_85 ) ) else ( j_25  σ_22 ) ) ) ) := rfl
def LkC  : ((Int32 × Int32 × HS) → HR) → Int32 × Int32 × HS → HR := (fun (again_35 : (Int32 × Int32 × HS) → HR) (s_34 : Int32 × Int32 × HS) => ( if 120 ≤ s_34.2.1 then ( some (0, s_34.2.2) ) else ( if s_34.1 = 0 then ( some (0, s_34.2.2) ) else ( bnd (fun  (σ_44 : HS) => ( bnd ((g_at 121 ((σ_44 9).2.1 2) s_34.1)) fun (x_48 : Int32) => bnd (s_34.2.1 + 1) fun (x_50 : Int32) => again_35 (x_48, x_50, σ_44) ) : HS → HR) fun j_45 => if s_34.1 = 1 then ( j_45  s_34.2.2 ) else ( (F_X6_bears s_34.1 2 s_34.2.2).bind fun u_55 => bnd (mrg (fun j => j == 9) s_34.2.2 u_55.2) fun σ_57 => if u_55.1 = 0 then ( (F_X5_text ([84, 104, 101, 114, 101, 32, 105, 115, 32] : List Int32) σ_57).bind fun u_62 => bnd (mrg (fun j => j == 8) σ_57 u_62.2) fun σ_64 => (F_X3_sayName s_34.1 σ_64).bind fun u_66 => bnd (mrg (fun j => j == 10 || j == 9 || j == 8 || j == 4 || j == 5 || j == 6 || j == 7) σ_64 u_66.2) fun σ_68 => (F_X5_line ([32, 104, 101, 114, 101, 46] : List Int32) σ_68).bind fun u_71 => bnd (mrg (fun j => j == 8) σ_68 u_71.2) fun σ_73 => (F_X8_tellInside s_34.1 σ_73).bind fun u_75 => j_45  u_75.2 ) else ( j_45  σ_57 ) ) ) ) ))
theorem LkC_s  (n : Nat) (a b : Int32) (X : HS) : loopF LkC (n + 1) (a, b, X) = ( if 120 ≤ b then ( some (0, X) ) else ( if a = 0 then ( some (0, X) ) else ( bnd (fun  (σ_44 : HS) => ( bnd ((g_at 121 ((σ_44 9).2.1 2) a)) fun (x_48 : Int32) => bnd (b + 1) fun (x_50 : Int32) => loopF LkC n (x_48, x_50, σ_44) ) : HS → HR) fun j_45 => if a = 1 then ( j_45  X ) else ( (F_X6_bears a 2 X).bind fun u_55 => bnd (mrg (fun j => j == 9) X u_55.2) fun σ_57 => if u_55.1 = 0 then ( (F_X5_text ([84, 104, 101, 114, 101, 32, 105, 115, 32] : List Int32) σ_57).bind fun u_62 => bnd (mrg (fun j => j == 8) σ_57 u_62.2) fun σ_64 => (F_X3_sayName a σ_64).bind fun u_66 => bnd (mrg (fun j => j == 10 || j == 9 || j == 8 || j == 4 || j == 5 || j == 6 || j == 7) σ_64 u_66.2) fun σ_68 => (F_X5_line ([32, 104, 101, 114, 101, 46] : List Int32) σ_68).bind fun u_71 => bnd (mrg (fun j => j == 8) σ_68 u_71.2) fun σ_73 => (F_X8_tellInside a σ_73).bind fun u_75 => j_45  u_75.2 ) else ( j_45  σ_57 ) ) ) ) ) := rfl
theorem txl_in : TXL [73, 110, 32] [73, 110, 32] := by unfold TXL; decide +kernel
theorem txl_on : TXL [79, 110, 32] [79, 110, 32] := by unfold TXL; decide +kernel
theorem txl_ti : TXL [32, 116, 104, 101, 114, 101, 32, 105, 115, 32] [32, 116, 104, 101, 114, 101, 32, 105, 115, 32] := by unfold TXL; decide +kernel
theorem txl_dot : TXL [46] [46] := by unfold TXL; decide +kernel
theorem txl_thi : TXL [84, 104, 101, 114, 101, 32, 105, 115, 32] [84, 104, 101, 114, 101, 32, 105, 115, 32] := by unfold TXL; decide +kernel
theorem txl_here : TXL [32, 104, 101, 114, 101, 46] [32, 104, 101, 114, 101, 46] := by unfold TXL; decide +kernel
/-- a line of five pieces -/
theorem W_five {S : List Int32} {v : List Int} (hS : TXL S v) {σ : MS} {Γ : HS} {y x : Nat} (hn : nO ≤ 120) (hC : CAL σ Γ nO) (hO : OUT σ Γ) (hy : 1 ≤ y ∧ y ≤ nO) (hx : 1 ≤ x ∧ x ≤ nO) : ∃ τ1 τ2 τ3 τ4 τ5 Δ1 Δ2 Δ3 Δ4 Δ5, (F_X12_say S σ = some ((0 : Int32), τ1) ∧ F_X12_sayName (J (y : Nat)) τ1 = some ((0 : Int32), τ2) ∧ F_X12_say [32, 116, 104, 101, 114, 101, 32, 105, 115, 32] τ2 = some ((0 : Int32), τ3) ∧ F_X12_sayName (J (x : Nat)) τ3 = some ((0 : Int32), τ4) ∧ F_X12_line [46] τ4 = some ((0 : Int32), τ5)) ∧ (F_X5_text S Γ = some ((0 : Int32), Δ1) ∧ F_X3_sayName (J (y : Nat)) Δ1 = some ((0 : Int32), Δ2) ∧ F_X5_text [32, 116, 104, 101, 114, 101, 32, 105, 115, 32] Δ2 = some ((0 : Int32), Δ3) ∧ F_X3_sayName (J (x : Nat)) Δ3 = some ((0 : Int32), Δ4) ∧ F_X5_line [46] Δ4 = some ((0 : Int32), Δ5)) ∧ (mrg (fun j => j == 8) Γ Δ1 = Δ1 ∧ mrg (fun j => j == 10 || j == 9 || j == 8 || j == 4 || j == 5 || j == 6 || j == 7) Δ1 Δ2 = Δ2 ∧ mrg (fun j => j == 8) Δ2 Δ3 = Δ3 ∧ mrg (fun j => j == 10 || j == 9 || j == 8 || j == 4 || j == 5 || j == 6 || j == 7) Δ3 Δ4 = Δ4 ∧ mrg (fun j => j == 8) Δ4 Δ5 = Δ5) ∧ TLS σ Γ τ5 Δ5 := by
  obtain ⟨τ1, Δ1, a1, a2, a3, a4⟩ := W_say hS hO
  obtain ⟨τ2, Δ2, b1, b2, b3, b4⟩ := W_nm hn (TLS_CAL hC a4) hy a4.2.2
  have t2 := TLS_trans a4 b4
  obtain ⟨τ3, Δ3, c1, c2, c3, c4⟩ := W_say txl_ti t2.2.2
  have t3 := TLS_trans t2 c4
  obtain ⟨τ4, Δ4, d1, d2, d3, d4⟩ := W_nm hn (TLS_CAL hC t3) hx t3.2.2
  have t4 := TLS_trans t3 d4
  obtain ⟨τ5, Δ5, e1, e2, e3, e4⟩ := W_line txl_dot t4.2.2
  exact ⟨τ1, τ2, τ3, τ4, τ5, Δ1, Δ2, Δ3, Δ4, Δ5, ⟨a1, b1, c1, d1, e1⟩, ⟨a2, b2, c2, d2, e2⟩, ⟨a3, b3, c3, d3, e3⟩, TLS_trans t4 e4⟩
theorem W_ins {pa fi nx : Nat → Nat} {ch : Nat → List Nat} {tr : Nat → Nat} {y : Nat} (hy : 1 ≤ y ∧ y ≤ nO) : ∀ (l : List Nat) (f c : Nat) (σ : MS) (Γ : HS), PLT nO room nV nC σ Γ pa fi nx ch tr → CAL σ Γ nO → OUT σ Γ → chL nx l f → (∀ x, x ∈ l → 1 ≤ x ∧ x ≤ nO) → c + l.length ≤ 120 → ∀ n, l.length < n → ∃ τ Δ, (∀ K : MS → MR, loopF (InB K (J (y : Nat))) n (J (f : Nat), σ) = K τ) ∧ loopF (InC (J (y : Nat))) n (J (f : Nat), J (c : Nat), Γ) = some ((0 : Int32), Δ) ∧ TLS σ Γ τ Δ := by
  intro l
  induction l with
  | nil =>
    intro f c σ Γ hP hC hO hl hm hc n hn
    obtain ⟨n, rfl⟩ : ∃ m, n = m + 1 := ⟨n - 1, by omega⟩
    have hf : f = 0 := hl
    subst hf
    refine ⟨σ, Γ, fun K => ?_, ?_, TLS_rfl hO⟩
    · rw [InB_s, if_pos (show J ((0 : Nat) : Int) = 0 from rfl)]
    · rw [InC_s, if_pos (show J ((0 : Nat) : Int) = 0 from rfl), ite_self]
  | cons x l ih =>
    intro f c σ Γ hP hC hO hl hm hc n hn
    obtain ⟨n, rfl⟩ : ∃ m, n = m + 1 := ⟨n - 1, by omega⟩
    have tn := hP.1.1
    obtain ⟨rfl, x0, hl⟩ := hl
    have hx := hm f (List.mem_cons_self ..)
    rw [List.length_cons] at hc hn
    have hx0 : ¬ J (f : Nat) = 0 := by rw [J_z0 (by omega)]; exact x0
    have nxR : ∀ {τ : MS} {Δ : HS}, PLT nO room nV nC τ Δ pa fi nx ch tr → τ.2 89 f = J (nx f : Nat) ∧ (Δ 9).2.1 2 f = J (nx f : Nat) := fun h => ⟨(h.2.1 f (by omega)).2.2, (h.2.2.1 f (by omega)).2.2⟩
    have go : ∀ (τ : MS) (Δ : HS), TLS σ Γ τ Δ → ∃ υ Θ, (∀ K : MS → MR, loopF (InB K (J (y : Nat))) n (J (nx f : Nat), τ) = K υ) ∧ loopF (InC (J (y : Nat))) n (J (nx f : Nat), J (c + 1 : Nat), Δ) = some ((0 : Int32), Θ) ∧ TLS σ Γ υ Θ := fun τ Δ hT => by
      obtain ⟨υ, Θ, e1, e2, e3⟩ := ih (nx f) (c + 1) τ Δ (TLS_PLT hP hT) (TLS_CAL hC hT) hT.2.2 hl (fun y hy => hm y (List.mem_cons_of_mem _ hy)) (by omega) n (by omega)
      exact ⟨υ, Θ, e1, e2, TLS_trans hT e3⟩
    have g := g121 (x := f) (by omega)
    have sB := fun K : MS → MR => InB_s K (J (y : Nat)) n (J (f : Nat)) σ
    have sC := InC_s (J (y : Nat)) n (J (f : Nat)) (J (c : Nat)) Γ
    have sB := fun K : MS → MR => by
      have := sB K
      rw [if_neg hx0, show (2 : Int32) = J ((2 : Nat) : Int) from rfl, r_has hP (by omega) (by omega), Option.bind_some, bndE] at this
      dsimp only at this
      exact this
    rw [if_neg (by rw [show (120 : Int32) = J 120 from rfl, J_le (by omega) (by omega) (by omega) (by omega)]; omega), if_neg hx0, show (2 : Int32) = J ((2 : Nat) : Int) from rfl, c_bears hP (by omega) (by omega), Option.bind_some] at sC
    dsimp only at sC
    rw [mrgS, bndE, bndE] at sC
    by_cases q : trB tr 2 f = true
    · have eB : ∀ K : MS → MR, loopF (InB K (J (y : Nat))) (n + 1) (J (f : Nat), σ) = loopF (InB K (J (y : Nat))) n (J (nx f : Nat), σ) := fun K => by
        rw [sB K, if_pos q, if_neg (by decide), if_neg g, J_natN (by omega), (nxR hP).1, bndE]
      rw [if_pos q, if_neg (by decide)] at sC
      dsimp only at sC
      rw [q_g_at_in (by omega) (by omega) (by omega), Int.toNat_natCast, (nxR hP).2, bndE, J_suc, bndE] at sC
      obtain ⟨υ, Θ, e1, e2, e3⟩ := go σ Γ (TLS_rfl hO)
      exact ⟨υ, Θ, fun K => by rw [eB K, e1 K], by rw [sC, e2], e3⟩
    · rw [if_neg q, if_pos rfl, show (5 : Int32) = J ((5 : Nat) : Int) from rfl, c_bears hP (by omega) (by omega), Option.bind_some] at sC
      dsimp only at sC
      rw [mrgS, bndE] at sC
      by_cases q5 : trB tr 5 y = true
      · obtain ⟨τ1, τ2, τ3, τ4, τ5, Δ1, Δ2, Δ3, Δ4, Δ5, ⟨a1, a2, a3, a4, a5⟩, ⟨b1, b2, b3, b4, b5⟩, ⟨m1, m2, m3, m4, m5⟩, hT⟩ := W_five txl_on (by omega) hC hO hy hx
        have hP5 := TLS_PLT hP hT
        have eB : ∀ K : MS → MR, loopF (InB K (J (y : Nat))) (n + 1) (J (f : Nat), σ) = loopF (InB K (J (y : Nat))) n (J (nx f : Nat), τ5) := fun K => by
          rw [sB K, if_neg q, if_pos rfl, show (5 : Int32) = J ((5 : Nat) : Int) from rfl, r_has hP (by omega) (by omega), Option.bind_some]
          dsimp only
          rw [if_pos q5, if_neg (by decide), a1, Option.bind_some, a2, Option.bind_some, a3, Option.bind_some, a4, Option.bind_some, a5, Option.bind_some]
          dsimp only
          rw [if_neg g, J_natN (by omega), (nxR hP5).1, bndE]
        rw [if_pos q5, if_neg (by decide), b1, Option.bind_some] at sC
        dsimp only at sC
        rw [m1, bndE, b2, Option.bind_some] at sC
        dsimp only at sC
        rw [m2, bndE, b3, Option.bind_some] at sC
        dsimp only at sC
        rw [m3, bndE, b4, Option.bind_some] at sC
        dsimp only at sC
        rw [m4, bndE, b5, Option.bind_some] at sC
        dsimp only at sC
        rw [m5, bndE, q_g_at_in (by omega) (by omega) (by omega), Int.toNat_natCast, (nxR hP5).2, bndE, J_suc, bndE] at sC
        obtain ⟨υ, Θ, e1, e2, e3⟩ := go τ5 Δ5 hT
        exact ⟨υ, Θ, fun K => by rw [eB K, e1 K], by rw [sC, e2], e3⟩
      · obtain ⟨τ1, τ2, τ3, τ4, τ5, Δ1, Δ2, Δ3, Δ4, Δ5, ⟨a1, a2, a3, a4, a5⟩, ⟨b1, b2, b3, b4, b5⟩, ⟨m1, m2, m3, m4, m5⟩, hT⟩ := W_five txl_in (by omega) hC hO hy hx
        have hP5 := TLS_PLT hP hT
        have eB : ∀ K : MS → MR, loopF (InB K (J (y : Nat))) (n + 1) (J (f : Nat), σ) = loopF (InB K (J (y : Nat))) n (J (nx f : Nat), τ5) := fun K => by
          rw [sB K, if_neg q, if_pos rfl, show (5 : Int32) = J ((5 : Nat) : Int) from rfl, r_has hP (by omega) (by omega), Option.bind_some]
          dsimp only
          rw [if_neg q5, if_pos rfl, a1, Option.bind_some, a2, Option.bind_some, a3, Option.bind_some, a4, Option.bind_some, a5, Option.bind_some]
          dsimp only
          rw [if_neg g, J_natN (by omega), (nxR hP5).1, bndE]
        rw [if_neg q5, if_pos rfl, b1, Option.bind_some] at sC
        dsimp only at sC
        rw [m1, bndE, b2, Option.bind_some] at sC
        dsimp only at sC
        rw [m2, bndE, b3, Option.bind_some] at sC
        dsimp only at sC
        rw [m3, bndE, b4, Option.bind_some] at sC
        dsimp only at sC
        rw [m4, bndE, b5, Option.bind_some] at sC
        dsimp only at sC
        rw [m5, bndE, q_g_at_in (by omega) (by omega) (by omega), Int.toNat_natCast, (nxR hP5).2, bndE, J_suc, bndE] at sC
        obtain ⟨υ, Θ, e1, e2, e3⟩ := go τ5 Δ5 hT
        exact ⟨υ, Θ, fun K => by rw [eB K, e1 K], by rw [sC, e2], e3⟩
