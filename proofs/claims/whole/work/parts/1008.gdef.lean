/-! a definition, whatever was before; an on's words -/
variable {T N : Nat} {kd vl rv : Nat → Int} {pl : Nat → Nat}
theorem gDef (hT : TKE T N kd vl rv pl) (hp : plm T pl) (hpb : ∀ i, i ≤ T + 1 → pl i ≤ 5000) {σs : MS} {Γs : HS} {h lo hi x y m i b j p q c : Nat} (hbc : i + 3 + 2 * c ≤ b) (h20 : σs.2 20 x = J (if 0 < c then ((x + 2 + 0 : Nat) : Int) else -1)) (hNS : NMS kd rv pl σs (x + 2) c (i + 3)) (hS : STX kd vl rv pl σs Γs h 1 lo hi y b j p q) (hh : h ≤ 93) (hhi : hi ≤ 39000) (hj : j ≤ T) (hx : x + 2 + c < 39980) (hm : m < 39990) (h17 : σs.2 17 x = J 6) (h21 : σs.2 21 x = J (m : Nat)) (h19 : σs.2 19 m = J (y : Nat)) {τ : MS} (ha : agA σs τ) : ∃ τ', (∀ n, loopF Ds1 (n + 1) (J (x : Nat), τ) = loopF Ds1 n (σs.2 22 x, τ')) ∧ rS τ τ' ∧ nGe (pl (i + 3)) (flt τ) (flt τ') := by
  have hT1 := hT.1
  have hr := STX_rng hS
  obtain ⟨τ1, g1, g2, g3, s', m', g4, g5⟩ := gList hT hp hpb (x := x) (m0 := m) (y := y) (by omega) hm h21 h19 (by omega) hNS (by omega) c 0 0 0 (ds0 τ) (by omega) (agA_rS ha ds0_rS) ds0_WS (by omega)
  obtain ⟨u, e1, e2, e3, -⟩ := gsee hT hp hpb h 1 lo hi y b j p q hS hhi (by omega) 70 τ1 s' m' (agA_rS (agA_rS ha ds0_rS) g2) g4 (by omega) (by unfold fO; simp; omega)
  have e1' : G_X12_seeBlock (J (y : Nat)) τ1 = some u := e1
  have hib : pl (i + 3) ≤ pl b := by
    by_cases e : i + 3 = b
    · rw [e]; exact Nat.le_refl _
    · have := hp (i + 3) b (by omega) (by omega); omega
  have hi3 : pl (i + 3) ≤ pl (i + 3 + 2 * 0) := by show pl (i + 3) ≤ pl (i + 3); exact Nat.le_refl _
  refine ⟨u.2, fun n => ?_, rS_trans ds0_rS (rS_trans g2 e2), ?_⟩
  · rw [ds_def (by omega) (by rw [ha 17 (by omega) (by omega)]; exact h17), ha 20 (by omega) (by omega), h20]
    refine (g1 (Kx n x) FU (FU_gt (by omega))).trans ?_
    rw [e1', Option.bind_some, Kx_eq (by omega), (rS_trans ds0_rS (rS_trans g2 e2)).2 22 (by omega), ha 22 (by omega) (by omega)]
  · rw [ds0_flt] at g3
    exact nGe_trans (nGe_le g3 hi3) (nGe_le e3 hib)
/-- the words between an on's first and its block -/
theorem WHS_words {σ : MS} {n c i : Nat} (h : WHS kd rv pl σ n c i) : ∀ t, i ≤ t → t < i + c → qp (kd t) := by
  intro t h1 h2
  obtain ⟨⟨-, -, hw⟩, -⟩ := h (t - i) (by omega)
  rw [show i + (t - i) = t by omega] at hw
  exact qp_of (by omega) (by omega) (by omega) (by omega) (by omega)
/-- from an on's or each's own part to its block -/
theorem hd_words (hT : TKE T N kd vl rv pl) {Γ Δ : HS} {i b : Nat} (hib : i + 1 ≤ b) (hb : b ≤ N) (hc : TKc N kd vl pl Δ) (h16 : (Δ 3).1 16 = J 0) (h9 : (Δ 3).1 9 = J (-1)) (hq : ∀ t, i + 1 ≤ t → t < b → qp (kd t)) (h : CW W2 Γ i Δ (i + 1)) : CW W2 Γ i Δ b := CW_trans h (W2_p hT hc h16 h9 hib hb hq)
/-- the seen names' table is what all items told -/
theorem STT_m5 {σ : MS} {Γ Δ : HS} (h : STT T kd vl rv σ Γ) (i : m5 Γ Δ) : STT T kd vl rv σ Δ := fun u hu hk => by rw [i.2.2.1 2 (by omega) (by omega) (by omega) (by omega) (by omega)]; exact h u hu hk
theorem STT_rS {σ τ : MS} {Γ : HS} (h : STT T kd vl rv σ Γ) (i : rS σ τ) : STT T kd vl rv τ Γ := STT_keep h i m3_rfl
/-- one item, whole: declared (σ to υ), told, seen (τ) -/
def fStp (T N : Nat) (kd vl rv : Nat → Int) (pl : Nat → Nat) (is : Nat → Nat) (σs : MS) (n x : Nat) (σ υ τ : MS) (Γ : HS) : Prop :=
  (∃ j', iBad pl (flt σ) (flt υ) Γ (is n) j' ∧ j' ≤ is (n + 1) ∧ (σs.2 17 x = J 6 → j' ≤ is n + 2) ∧ (σs.2 17 x = J 7 ∨ σs.2 17 x = J 8 → j' ≤ is n + 1)) ∨ (flt υ = flt σ ∧ (nBeh (pl (is (n + 1) - 1)) (flt τ) → ∃ τ', (∀ k, loopF Ds1 (k + 1) (J (x : Nat), τ) = loopF Ds1 k (σs.2 22 x, τ')) ∧ rS τ τ' ∧ ((flt τ' = flt τ ∧ ∃ Θ : HS, CW W2 Γ (is n) Θ (is (n + 1)) ∧ m5 Γ Θ ∧ G0 T N kd vl pl Θ ∧ DR T kd vl rv is (n + 1) υ Θ) ∨ ∃ (f : Int) (w : Nat), (0 < f ∧ f ≤ 6) ∧ is n ≤ w ∧ w < is (n + 1) ∧ CF W2 pl Γ (is n) f w ∧ flt τ' = (J f, J (pl w : Nat)))))
theorem iBad_le {a b : Int32 × Int32} {Γ : HS} {i j j' : Nat} (h : iBad pl a b Γ i j) (hj : j ≤ j') : iBad pl a b Γ i j' := by
  obtain ⟨f, w, h1, h2, h3, h4⟩ := h
  exact ⟨f, w, h1, h2, by omega, h4⟩
/-- items without a block -/
theorem fStp_of {is : Nat → Nat} {σs σ υ τ : MS} {Γ : HS} {n x : Nat} {w : Int} (ha : agA σs τ) (hx : x < 39990) (h17 : σs.2 17 x = J w) (hw : 0 ≤ w ∧ w < 6) (h : iStp T N kd vl rv pl is n (is (n + 1)) σ υ Γ) : fStp T N kd vl rv pl is σs n x σ υ τ Γ := by
  rcases h with h | ⟨h1, Δ, h2, h3, h4, h5⟩
  · refine Or.inl ⟨_, h, Nat.le_refl _, fun e => ?_, fun e => ?_⟩
    · rw [h17, J_eq (by omega) (by omega) (by omega) (by omega)] at e; omega
    · rw [h17, J_eq (by omega) (by omega) (by omega) (by omega), J_eq (by omega) (by omega) (by omega) (by omega)] at e; omega
  · refine Or.inr ⟨h1, fun _ => ⟨τ, fun k => ?_, rS_rfl, Or.inl ⟨rfl, Δ, h2, h3, h4, h5⟩⟩⟩
    rw [ds_skip hx (by rw [ha 17 (by omega) (by omega)]; exact h17) hw, ha 22 (by omega) (by omega)]
