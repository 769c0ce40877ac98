/-! items without names of their own; on, each: seen -/
variable {T N : Nat} {kd vl rv : Nat → Int} {pl : Nat → Nat}
theorem ds_skip {x : Nat} {w : Int} {τ : MS} (hx : x < 39990) (h17 : τ.2 17 x = J w) (hw : 0 ≤ w ∧ w < 6) (n : Nat) : loopF Ds1 (n + 1) (J (x : Nat), τ) = loopF Ds1 n (τ.2 22 x, τ) := by
  have en := g_en (n := x) (by omega)
  have en2 := (ng (n := x) (by omega)).2
  rw [Ds1_s, if_neg (J_nlt0 (by omega) (by omega)), if_neg en, bndE, en2, h17, if_neg (by rw [show (6 : Int32) = J 6 from rfl, J_le (by omega) (by omega) (by omega) (by omega)]; omega)]
  rw [en2] at en
  dsimp only
  rw [if_neg en, bndE]
def ds0 (τ : MS) : MS := mI (mI τ 33 0) 34 0
theorem ds0_rS {τ : MS} : rS τ (ds0 τ) := rS_trans (rS_mI (Or.inl rfl)) (rS_mI (Or.inr rfl))
theorem ds0_WS {τ : MS} : WS (ds0 τ) 0 0 := ⟨rfl, by omega, rfl, by omega⟩
theorem ds0_flt {τ : MS} : flt (ds0 τ) = flt τ := rfl
/-- the list is at its end: the block -/
theorem lq_end {K : MS → MR} {x m y : Nat} {z l : Int32} {τ : MS} (hx : x < 39990) (hm : m < 39990) (h21 : τ.2 21 x = J (m : Nat)) (h19 : τ.2 19 m = J (y : Nat)) (hl : l < 0) (n : Nat) : loopF (Lq2 K (J (x : Nat))) (n + 1) (z, l, τ) = (G_X12_seeBlock (J (y : Nat)) τ).bind fun u => K u.2 := by
  have en := g_en (n := x) (by omega)
  have en2 := (ng (n := x) (by omega)).2
  have em := g_en (n := m) (by omega)
  have em2 := (ng (n := m) (by omega)).2
  rw [Lq2_s, if_pos hl, if_neg en, bndE, en2, h21, if_neg em, em2, h19]
theorem ds_rule {x m y : Nat} {w : Int} {τ : MS} (hx : x < 39990) (hm : m < 39990) (h17 : τ.2 17 x = J w) (hw : 7 ≤ w ∧ w ≤ 8) (h21 : τ.2 21 x = J (m : Nat)) (h19 : τ.2 19 m = J (y : Nat)) (n : Nat) {u : Int32 × MS} (hu : G_X12_seeBlock (J (y : Nat)) (ds0 τ) = some u) : loopF Ds1 (n + 1) (J (x : Nat), τ) = loopF Ds1 n (u.2.2 22 x, u.2) := by
  have en := g_en (n := x) (by omega)
  have en2 := (ng (n := x) (by omega)).2
  rw [Ds1_s, if_neg (J_nlt0 (by omega) (by omega)), if_neg en, bndE, en2, h17, if_pos (by rw [show (6 : Int32) = J 6 from rfl, J_le (by omega) (by omega) (by omega) (by omega)]; omega), bndE, bndE]
  rw [en2] at en
  rw [if_neg en, bndE, show (mI (mI τ 33 0) 34 0).2 17 x = J w from h17, if_neg (by rw [show (6 : Int32) = J 6 from rfl, J_eq (by omega) (by omega) (by omega) (by omega)]; omega)]
  obtain ⟨F, hF⟩ : ∃ F, FU = F + 1 := ⟨FU - 1, by have := FU_gt (k := 1) (by omega); omega⟩
  dsimp only
  rw [hF, lq_end hx hm (τ := mI (mI τ 33 0) 34 0) h21 h19 (by decide), show mI (mI τ 33 0) 34 0 = ds0 τ from rfl, hu, Option.bind_some, if_neg en, bndE]
theorem TKE_T {h1 : TKE T N kd vl rv pl} : T ≤ 4096 := h1.1
/-- whatever was before -/
theorem gRule (hT : TKE T N kd vl rv pl) (hp : plm T pl) (hpb : ∀ i, i ≤ T + 1 → pl i ≤ 5000) {σs : MS} {Γs : HS} {h lo hi x y m i b j p q : Nat} {w : Int} (hS : STX kd vl rv pl σs Γs h 1 lo hi y b j p q) (hh : h ≤ 93) (hhi : hi ≤ 39000) (hib : i ≤ b) (hj : j ≤ T + 1) {τ : MS} (ha : agA σs τ) (hx : x < 39990) (hm : m < 39990) (h17 : σs.2 17 x = J w) (hw : 7 ≤ w ∧ w ≤ 8) (h21 : σs.2 21 x = J (m : Nat)) (h19 : σs.2 19 m = J (y : Nat)) : ∃ τ', (∀ n, loopF Ds1 (n + 1) (J (x : Nat), τ) = loopF Ds1 n (σs.2 22 x, τ')) ∧ rS τ τ' ∧ nGe (pl i) (flt τ) (flt τ') := by
  have hT1 := hT.1
  have hr := STX_rng hS
  obtain ⟨u, e1, e2, e3, -⟩ := gsee hT hp hpb h 1 lo hi y b j p q hS hhi hj 70 (ds0 τ) 0 0 (agA_rS ha ds0_rS) ds0_WS (by omega) (by unfold fO; simp; omega)
  have f1 : G_X12_seeBlock (J (y : Nat)) (ds0 τ) = some u := e1
  refine ⟨u.2, fun n => ?_, rS_trans ds0_rS e2, nGe_le e3 ?_⟩
  · rw [ds_rule hx hm (by rw [ha 17 (by omega) (by omega)]; exact h17) hw (by rw [ha 21 (by omega) (by omega)]; exact h21) (by rw [ha 19 (by omega) (by omega)]; exact h19) n f1, (rS_trans ds0_rS e2).2 22 (by omega), ha 22 (by omega) (by omega)]
  · by_cases e : i = b
    · rw [e]; exact Nat.le_refl _
    · have := hp i b (by omega) (by omega); omega
/-- the block behind the item's own part: both -/
def sStp (T N : Nat) (kd vl rv : Nat → Int) (pl : Nat → Nat) (σs : MS) (x : Nat) (τ : MS) (Γ : HS) (i j : Nat) : Prop := ∃ τ', (∀ n, loopF Ds1 (n + 1) (J (x : Nat), τ) = loopF Ds1 n (σs.2 22 x, τ')) ∧ rS τ τ' ∧ ((flt τ' = flt τ ∧ ∃ Θ : HS, CW W2 Γ i Θ j ∧ m3 Γ Θ ∧ G0 T N kd vl pl Θ) ∨ ∃ (f : Int) (w : Nat), (0 < f ∧ f ≤ 6) ∧ i ≤ w ∧ w < j ∧ CF W2 pl Γ i f w ∧ flt τ' = (J f, J (pl w : Nat)))
theorem sRule (hT : TKE T N kd vl rv pl) (hN : NMI T kd vl rv) (hp : plm T pl) (hpb : ∀ i, i ≤ T + 1 → pl i ≤ 5000) {σs : MS} {Γs : HS} {h lo hi x y m b j p q : Nat} {w : Int} (hS : STX kd vl rv pl σs Γs h 1 lo hi y b j p q) (hh : h ≤ 93) (hhi : hi ≤ 39000) (hj : j ≤ T) {τ : MS} {Δ : HS} (ha : agA σs τ) (hx : x < 39990) (hm : m < 39990) (h17 : σs.2 17 x = J w) (hw : 7 ≤ w ∧ w ≤ 8) (h21 : σs.2 21 x = J (m : Nat)) (h19 : σs.2 19 m = J (y : Nat)) (hc : CE N kd vl pl Δ) (hC : SC T kd vl Δ 0 0 0 (fun _ => 0) (fun _ => 0)) (hST : STT T kd vl rv τ Δ) (hb : nBeh (pl (j - 1)) (flt τ)) : sStp T N kd vl rv pl σs x τ Δ b j := by
  obtain ⟨u, e1, e2, e3⟩ := see0 hT hN hp hpb hS hh hhi hj (agA_rS ha ds0_rS) hc (Γ := Δ) (τ := ds0 τ) (s := 0) (m := 0) ⟨hC, rfl, rfl, fun k hk => by omega⟩ (STT_keep hST ds0_rS m3_rfl) (by rw [ds0_flt]; exact hb)
  refine ⟨u.2, fun n => ?_, rS_trans ds0_rS e2, ?_⟩
  · rw [ds_rule hx hm (by rw [ha 17 (by omega) (by omega)]; exact h17) hw (by rw [ha 21 (by omega) (by omega)]; exact h21) (by rw [ha 19 (by omega) (by omega)]; exact h19) n e1, (rS_trans ds0_rS e2).2 22 (by omega), ha 22 (by omega) (by omega)]
  · rcases e3 with ⟨f1, Θ, f2, f3, f4, f5, f6⟩ | ⟨f, w', g1, g2, g3, g4, g5, -⟩
    · exact Or.inl ⟨f1, Θ, f2, f3, m3_TKc f3 hc.1, by rw [m3_16 f3]; exact hc.2.1, f4, f5, f6⟩
    · exact Or.inr ⟨f, w', g1, g2, g3, g4, g5⟩
