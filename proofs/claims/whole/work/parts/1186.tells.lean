/-! both tell: one step -/
variable {nO nV nC : Nat} {room : Nat → Bool}
/-- only what is told changed, in both -/
def TLS (σ : MS) (Γ : HS) (τ : MS) (Δ : HS) : Prop := oR3 σ τ ∧ SYF Γ Δ ∧ OUT τ Δ
theorem SYF_rfl {Γ : HS} : SYF Γ Γ := ⟨fun _ _ _ => rfl, rfl, fun _ _ => rfl⟩
theorem SYF_trans {Γ Δ Θ : HS} (h : SYF Γ Δ) (g : SYF Δ Θ) : SYF Γ Θ := ⟨fun r a b => by rw [g.1 r a b, h.1 r a b], g.2.1.trans h.2.1, fun k hk => by rw [g.2.2 k hk, h.2.2 k hk]⟩
theorem TLS_rfl {σ : MS} {Γ : HS} (h : OUT σ Γ) : TLS σ Γ σ Γ := ⟨oR3_rfl, SYF_rfl, h⟩
theorem TLS_trans {σ τ υ : MS} {Γ Δ Θ : HS} (h : TLS σ Γ τ Δ) (g : TLS τ Δ υ Θ) : TLS σ Γ υ Θ := ⟨oR3_trans h.1 g.1, SYF_trans h.2.1 g.2.1, g.2.2⟩
theorem mrgS8 {Γ Δ : HS} (h : SYF Γ Δ) : mrg (fun j => j == 10 || j == 9 || j == 8 || j == 4 || j == 5 || j == 6 || j == 7) Γ Δ = Δ := mrgE (fun r hr => h.1 r (by rintro rfl; exact absurd hr (by decide)) (by rintro rfl; exact absurd hr (by decide)))
theorem W_line {S : List Int32} {v : List Int} (hS : TXL S v) {σ : MS} {Γ : HS} (h : OUT σ Γ) : ∃ τ Δ, F_X12_line S σ = some ((0 : Int32), τ) ∧ F_X5_line S Γ = some ((0 : Int32), Δ) ∧ mrg (fun j => j == 8) Γ Δ = Δ ∧ TLS σ Γ τ Δ := by
  obtain ⟨w, h1, h2⟩ := h
  obtain ⟨τ, a1, a2, a3⟩ := rt_line hS h1
  obtain ⟨Δ, b1, b2, b3⟩ := ot_line hS h2
  exact ⟨τ, Δ, a1, b1, mrg8 b2, a2, SYF_8 b2, _, a3, b3⟩
theorem W_say {S : List Int32} {v : List Int} (hS : TXL S v) {σ : MS} {Γ : HS} (h : OUT σ Γ) : ∃ τ Δ, F_X12_say S σ = some ((0 : Int32), τ) ∧ F_X5_text S Γ = some ((0 : Int32), Δ) ∧ mrg (fun j => j == 8) Γ Δ = Δ ∧ TLS σ Γ τ Δ := by
  obtain ⟨w, h1, h2⟩ := h
  obtain ⟨τ, a1, a2, a3⟩ := rt_say hS h1
  obtain ⟨Δ, b1, b2, b3⟩ := ot_text hS h2
  exact ⟨τ, Δ, a1, b1, mrg8 b2, a2, SYF_8 b2, _, a3, b3⟩
theorem txl_nil : TXL [] [] := by unfold TXL; exact ⟨rfl, by decide, fun k hk => absurd hk (by simp)⟩
theorem W_nl {σ : MS} {Γ : HS} (h : OUT σ Γ) : ∃ τ Δ, F_X12_put 10 σ = some ((0 : Int32), τ) ∧ F_X5_line [] Γ = some ((0 : Int32), Δ) ∧ mrg (fun j => j == 8) Γ Δ = Δ ∧ TLS σ Γ τ Δ := by
  obtain ⟨w, h1, h2⟩ := h
  obtain ⟨τ, a1, a2, a3⟩ := rt_put (c := 10) h1 (by omega)
  obtain ⟨Δ, b1, b2, b3⟩ := ot_line txl_nil h2
  exact ⟨τ, Δ, a1, b1, mrg8 b2, a2, SYF_8 b2, _, a3, b3⟩
theorem W_nm {σ : MS} {Γ : HS} (hn : nO ≤ 120) (hC : CAL σ Γ nO) {x : Nat} (hx : 1 ≤ x ∧ x ≤ nO) (h : OUT σ Γ) : ∃ τ Δ, F_X12_sayName (J (x : Nat)) σ = some ((0 : Int32), τ) ∧ F_X3_sayName (J (x : Nat)) Γ = some ((0 : Int32), Δ) ∧ mrg (fun j => j == 10 || j == 9 || j == 8 || j == 4 || j == 5 || j == 6 || j == 7) Γ Δ = Δ ∧ TLS σ Γ τ Δ := by
  obtain ⟨w, h1, h2⟩ := h
  obtain ⟨L, τ, Δ, a1, a2, a3, a4, a5, a6⟩ := W_name hn hC hx h1 h2
  exact ⟨τ, Δ, a1, a2, mrgS8 a4, a3, a4, _, a5, a6⟩
theorem W_st {σ : MS} {Γ : HS} {w : Nat} {r v : Int} (hT : TXR σ Γ w r v) (h : OUT σ Γ) : ∃ τ Δ, F_X12_sayText (J (w + 1 : Nat)) (J r) σ = some ((0 : Int32), τ) ∧ F_X3_sayText (J v) Γ = some ((0 : Int32), Δ) ∧ mrg (fun j => j == 10 || j == 9 || j == 8 || j == 4 || j == 5 || j == 6 || j == 7) Γ Δ = Δ ∧ TLS σ Γ τ Δ := by
  obtain ⟨w0, h1, h2⟩ := h
  obtain ⟨L, Δ, rfl, b1, b2, b3, b4⟩ := ot_sayText hT h2
  obtain ⟨τ, a1, a2, a3⟩ := rt_text b1 h1
  exact ⟨τ, Δ, a1, b2, mrgS8 b3, a2, b3, _, a3, b4⟩
theorem TLS_CAL {σ τ : MS} {Γ Δ : HS} (h : CAL σ Γ nO) (g : TLS σ Γ τ Δ) : CAL τ Δ nO := by
  intro x x1 x2
  obtain ⟨w, r, v, b1, b2, b3, b4⟩ := h x x1 x2
  exact ⟨w, r, v, TXR_keep b1 (g.1.2 45 (by omega)) (g.2.1.1 6 (by omega) (by omega)), by rw [g.1.2 46 (by omega)]; exact b2, by rw [g.1.2 47 (by omega)]; exact b3, by rw [g.2.1.1 4 (by omega) (by omega)]; exact b4⟩
theorem TLS_PLT {σ τ : MS} {Γ Δ : HS} {pa fi nx : Nat → Nat} {ch : Nat → List Nat} {tr : Nat → Nat} (h : PLT nO room nV nC σ Γ pa fi nx ch tr) (g : TLS σ Γ τ Δ) : PLT nO room nV nC τ Δ pa fi nx ch tr := by
  have e9 : Δ 9 = Γ 9 := g.2.1.1 9 (by omega) (by omega)
  obtain ⟨t, r, c, p4, p5, p6, p7, p8, p9, p10, p11, p12⟩ := h
  have k2 : ∀ k, k ≠ 102 → τ.2 k = σ.2 k := g.1.2
  have k1 : ∀ k, k ≠ 103 → τ.1 k = σ.1 k := g.1.1
  refine ⟨t, RT_congr r (k2 87 (by omega)) (k2 88 (by omega)) (k2 89 (by omega)), fun i hi => by rw [e9]; exact c i hi, ?_, ?_, ?_, ?_, ?_, ?_, p10, p11, ?_⟩
  · rw [e9, k2 90 (by omega)]; exact p4
  · rw [e9, k2 91 (by omega)]; exact p5
  · rw [e9, k2 92 (by omega)]; exact p6
  · rw [e9, k1 93 (by omega), k1 94 (by omega), k1 95 (by omega), k1 96 (by omega)]; exact p7
  · rw [k1 95 (by omega)]; exact p8
  · rw [k1 96 (by omega)]; exact p9
  · refine ⟨?_, p12.2⟩
    unfold LAT
    rw [e9, k1 98 (by omega), k2 97 (by omega)]; exact p12.1
/-! what the player carries -/
def IvB : ((Int32 × Int32 × MS) → MR) → Int32 × Int32 × MS → MR := (fun (again_4 : (Int32 × Int32 × MS) → MR) (s_3 : Int32 × Int32 × MS) => ( if s_3.2.1 = 0 then ( if s_3.1 = 0 then ( (F_X12_line ([89, 111, 117, 32, 99, 97, 114, 114, 121, 32, 110, 111, 116, 104, 105, 110, 103, 46] : List Int32) s_3.2.2).bind fun u_12 => some (0, u_12.2) ) else ( some (0, s_3.2.2) ) ) else ( (F_X12_has s_3.2.1 2 1 s_3.2.2).bind fun u_16 => bnd (fun (v1_18 : Int32) (σ_19 : MS) => ( if s_3.2.1 < 0 ∨ 121 ≤ s_3.2.1.toNatClampNeg then none else bnd ((σ_19.2 89 s_3.2.1.toNatClampNeg)) fun (x_25 : Int32) => again_4 (v1_18, x_25, σ_19) ) : Int32 → MS → MR) fun j_20 => if u_16.1 = 0 then ( bnd (fun  (σ_29 : MS) => ( (F_X12_say ([32, 32] : List Int32) σ_29).bind fun u_34 => (F_X12_sayName s_3.2.1 u_34.2).bind fun u_36 => (F_X12_put 10 u_36.2).bind fun u_38 => j_20 1 u_38.2 ) : MS → MR) fun j_30 => if s_3.1 = 0 then ( (F_X12_line ([89, 111, 117, 32, 99, 97, 114, 114, 121, 58] : List Int32) u_16.2).bind fun u_43 => j_30  u_43.2 ) else ( j_30  u_16.2 ) ) else ( j_20 s_3.1 u_16.2 ) ) ))
theorem inv_eq (σ : MS) : F_X12_inventory σ = loopF IvB FU (0, σ.2 88 (1 : Int32).toNatClampNeg, σ) := by
  unfold F_X12_inventory
  rw [bndE]; rfl
