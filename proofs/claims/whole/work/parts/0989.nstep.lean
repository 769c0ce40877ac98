/-! one item's name, told and declared alike -/
variable {T N : Nat} {kd vl rv : Nat → Int} {pl : Nat → Nat}
theorem dT_nam {σ υ : MS} {A b : Int32 × Int32} {i n q c r x : Nat} {w num : Int} (hA : nGe (pl i) (flt σ) A) (hb : nGe (pl i) A b) (h : υ = noF (namS σ A (fcq q) c r w num x) b ∨ ∃ v : Int32, υ = noF (mI (namS σ A (fcq q) c r w num x) 39 v) b) (hC : CNn σ n) (hq : q < 7) (hc : σ.1 (fcq q) = J (c : Nat)) (hcn : c ≤ n + 11) (hk : kd i ≤ 235) (hr : r = (rv (i + 1)).toNat) (hw : 1 ≤ w ∧ w ≤ 6) (hA2 : A.1 = 0 → σ.2 28 r = 0 ∧ c < limK (kd i)) (hwn : w = kd i - 229 ∧ q = qOf (kd i) ∧ num = if kd i ≤ 232 then (c : Int) + 1 else c) : dT kd rv pl n i x σ υ := by
  have h1 : rD0 σ (namS σ A (fcq q) c r w num x) := namS_rD0 (by unfold fcq; split <;> omega)
  have h2 := namS_CNn (r := r) (x := x) (w := w) (num := num) (a := A) hC hq hc hcn
  have h3 := namS_28' (σ := σ) (a := A) (r := r) (x := x) (fc := fcq q) (c := c) (num := num) hw
  have h5 : (flt υ).1 = 0 → σ.2 28 r = 0 ∧ c < limK (kd i) := by
    intro h0
    have e : flt υ = b := by
      rcases h with h | ⟨v, h⟩
      · rw [h]; rfl
      · rw [h]; rfl
    rw [e] at h0
    exact hA2 (nGe_0 hb h0)
  have h6 : J num = if kd i ≤ 232 then J (c : Nat) + 1 else J (c : Nat) := by
    rw [hwn.2.2]
    split
    · rw [J_lit, J_add]
    · rfl
  rcases h with h | ⟨v, h⟩
  · subst h
    refine ⟨rD0_trans h1 rD0_noF, nGe_trans hA (by rw [noF_flt]; exact hb), fun z hz => ?_, fun y => ?_, namS_nmT (x := x) (A := A) hk hr hwn.2.1 hwn.1 hc h6 rfl rfl rfl (fun z => noF_i (fcq_rng z).1 (fcq_rng z).2.1) h5⟩
    · rw [noF_i (by unfold fcq; split <;> omega) (by unfold fcq; split <;> omega)]; exact h2 z hz
    · rw [noF_a, h3 y, ← hr]; exact ⟨fun h => h.imp id (fun e => ⟨hk, e⟩), fun h => h.imp id (fun e => e.2)⟩
  · subst h
    refine ⟨rD0_trans h1 (rD0_trans (rD0_mI (by omega)) rD0_noF), nGe_trans hA (by rw [noF_flt]; exact hb), fun z hz => ?_, fun y => ?_, namS_nmT (x := x) (A := A) hk hr hwn.2.1 hwn.1 hc h6 rfl rfl rfl (fun z => by rw [noF_i (fcq_rng z).1 (fcq_rng z).2.1, mI_1, if_neg (fcq_rng z).2.2]) h5⟩
    · rw [noF_i (by unfold fcq; split <;> omega) (by unfold fcq; split <;> omega), mI_1, if_neg (by unfold fcq; split <;> omega)]; exact h2 z hz
    · rw [noF_a, show (mI (namS σ A (fcq q) c r w num x) 39 v).2 28 y = (namS σ A (fcq q) c r w num x).2 28 y from rfl, h3 y, ← hr]; exact ⟨fun h => h.imp id (fun e => ⟨hk, e⟩), fun h => h.imp id (fun e => e.2)⟩
theorem nm_step (hT : TKE T N kd vl rv pl) (hN : NMI T kd vl rv) (hpb : ∀ i, i ≤ T + 1 → pl i ≤ 5000) {σ : MS} {Γ : HS} {is ta : Nat → Nat} {n x q lim : Nat} {w num : Int} (hD : DR T kd vl rv is n σ Γ) (hc : TKc N kd vl pl Γ) (h16 : (Γ 3).1 16 = J 0) (hA : TA T kd rv ta (is n) σ) (hC : TAC T kd vl ta Γ) (ht : is n + 1 ≤ T) (hk : kd (is n + 1) = 2) (hq : q = qOf (kd (is n))) (hq7 : q < 7) (hK : namK w (fcq q) lim (cN kd is q n) num) : ∃ Γ1 : HS, F_X4_tellItem (J (is n + 1 : Nat)) (J w) (J (q : Nat)) (J (lim : Nat)) Γ = some (J 0, Γ1) ∧ ((∃ f : Int, (f = 4 ∨ f = 5) ∧ Γ1 = failS Γ pl f (is n + 1) ∧ (nBeh (pl (is n + 1)) (flt σ) → namF (flt σ) (!decide (σ.2 28 (rv (is n + 1)).toNat = 0)) (decide (lim < cN kd is q n + 1)) (pl (is n + 1)) = (J f, J (pl (is n + 1) : Nat)))) ∨ (namF (flt σ) (!decide (σ.2 28 (rv (is n + 1)).toNat = 0)) (decide (lim < cN kd is q n + 1)) (pl (is n + 1)) = flt σ ∧ Γ1 = tlS Γ q (cN kd is q n) (vl (is n + 1)) w num ∧ (∀ a, TB T kd vl rv (namS σ a (fcq q) (cN kd is q n) (rv (is n + 1)).toNat w num x) Γ1) ∧ (∀ a, CN7 (namS σ a (fcq q) (cN kd is q n) (rv (is n + 1)).toNat w num x) Γ1 (fun z => cN kd is z (n + 1))) ∧ cN kd is q n < lim)) := by
  obtain ⟨d1, d2, d3, d4⟩ := hD
  obtain ⟨e1, e2, e3⟩ := d1 q hq7
  dsimp only at e1 e2 e3
  obtain ⟨t1, t2⟩ := hC (is n + 1) ht hk
  have hA1 := hA (is n + 1) ht hk
  have hl : 20 ≤ lim ∧ lim ≤ 120 ∧ 1 ≤ w ∧ w ≤ 6 ∧ num = (if 3 < w then (cN kd is q n : Int) else (cN kd is q n + 1 : Nat)) := by
    unfold namK at hK
    rcases hK with ⟨h1, h2, -, h3, h4⟩ | ⟨h1, -, h3, h4⟩ | ⟨h1, -, h3, h4⟩ | ⟨h1, -, h3, h4⟩ | ⟨h1, -, h3, h4⟩
    all_goals refine ⟨by omega, by omega, by omega, by omega, ?_⟩
    · rw [if_neg (by omega)]; exact h4
    · rw [if_neg (by omega)]; exact h4
    · rw [if_pos (by omega)]; exact h4
    · rw [if_pos (by omega)]; exact h4
    · rw [if_pos (by omega)]; exact h4
  refine ⟨_, c_tellItem hT hc h16 ht hk t1 t2 hq7 e1 (by omega) (by omega) (by omega), ?_⟩
  have hpl := hpb (is n + 1) (by omega)
  by_cases q1 : ta (is n + 1) < is n + 1
  · rw [if_pos q1]
    have h28 : σ.2 28 (rv (is n + 1)).toNat ≠ 0 := hA1.2 (by omega)
    refine Or.inl ⟨4, Or.inl rfl, rfl, fun hb => ?_⟩
    rw [show decide (σ.2 28 (rv (is n + 1)).toNat = 0) = false from decide_eq_false h28]
    show (if decide (lim < cN kd is q n + 1) = true then ntF (ntF (flt σ) 4 (pl (is n + 1))) 5 (pl (is n + 1)) else ntF (flt σ) 4 (pl (is n + 1))) = _
    rw [ntF_beh hb 4 (Nat.le_refl _), ntF_same (by omega) hpl]
    split <;> rfl
  · rw [if_neg q1]
    have h28 : σ.2 28 (rv (is n + 1)).toNat = 0 := by
      by_cases q0 : σ.2 28 (rv (is n + 1)).toNat = 0
      · exact q0
      · have := hA1.1 q0; omega
    rw [show decide (σ.2 28 (rv (is n + 1)).toNat = 0) = true from decide_eq_true h28]
    by_cases q2 : lim ≤ cN kd is q n
    · rw [if_pos q2]
      refine Or.inl ⟨5, Or.inr rfl, rfl, fun hb => ?_⟩
      rw [show decide (lim < cN kd is q n + 1) = true from decide_eq_true (by omega)]
      show ntF (flt σ) 5 (pl (is n + 1)) = _
      rw [ntF_beh hb 5 (Nat.le_refl _)]
    · rw [if_neg q2, ← hl.2.2.2.2]
      refine Or.inr ⟨?_, rfl, fun a => nam_TB hT hN d4 ht hk h28, fun a => CN7_s hq (nam_CN7 (cn := fun z => cN kd is z n) d1 hq7 (show cN kd is q n < 200 by omega)), by omega⟩
      rw [show decide (lim < cN kd is q n + 1) = false from decide_eq_false (by omega)]
      rfl
/-- what a step of both is -/
def iStp (T N : Nat) (kd vl rv : Nat → Int) (pl : Nat → Nat) (is : Nat → Nat) (n j : Nat) (σ υ : MS) (Γ : HS) : Prop := iBad pl (flt σ) (flt υ) Γ (is n) j ∨ (flt υ = flt σ ∧ ∃ Δ : HS, CW W2 Γ (is n) Δ j ∧ m5 Γ Δ ∧ G0 T N kd vl pl Δ ∧ DR T kd vl rv is (n + 1) υ Δ)
theorem tw_fail (hT : TKE T N kd vl rv pl) {Γ Δ : HS} {i w : Nat} {f : Int} {x y : Int32} (hc : TKc N kd vl pl Γ) (h16 : (Γ 3).1 16 = J 0) (hi : i < N) (h : F_X4_tellWord (J (i : Nat)) Γ = some (x, Δ)) (hf : F_X4_followScope (J (i : Nat)) Δ = some (y, Δ)) (hΔ : TKc N kd vl pl Δ) (e16 : (Δ 3).1 16 = J f) (e17 : (Δ 3).1 17 = J (pl w : Nat)) (hf6 : 0 < f ∧ f ≤ 6) (hm : cfM Γ Δ) : CF W2 pl Γ i f w := by
  have hN := TKE_N hT
  exact CF_go hT hc hi h16 h hf (CF_of hT hΔ e16 e17 hf6 (by omega)) hm
