/-! on, each: the item's own part of the step -/
variable {T N : Nat} {kd vl rv : Nat → Int} {pl : Nat → Nat}
theorem tw_fail2 (hT : TKE T N kd vl rv pl) {Γ Δ Θ : HS} {i w : Nat} {f : Int} {x y : Int32} (hc : TKc N kd vl pl Γ) (h16 : (Γ 3).1 16 = J 0) (hi : i < N) (h : F_X4_tellWord (J (i : Nat)) Γ = some (x, Δ)) (hf : F_X4_followScope (J (i : Nat)) Δ = some (y, Θ)) (hΔ : TKc N kd vl pl Θ) (e16 : (Θ 3).1 16 = J f) (e17 : (Θ 3).1 17 = J (pl w : Nat)) (hf6 : 0 < f ∧ f ≤ 6) (hm : cfM Γ Θ) : CF W2 pl Γ i f w := by
  have hN := TKE_N hT
  exact CF_go hT hc hi h16 h hf (CF_of hT hΔ e16 e17 hf6 (by omega)) hm
/-- what the item's own part comes to -/
def iHd (T N : Nat) (kd vl rv : Nat → Int) (pl : Nat → Nat) (is : Nat → Nat) (n j s m : Nat) (ts sl : Nat → Nat) (υ : MS) (Γ : HS) : Prop := ∃ Δ : HS, CW W2 Γ (is n) Δ j ∧ m5 Γ Δ ∧ TKc N kd vl pl Δ ∧ (Δ 3).1 9 = J (-1) ∧ SC T kd vl Δ s m 0 ts sl ∧ DR T kd vl rv is (n + 1) υ Δ
theorem cnS_m5 {Γ : HS} {q c : Nat} : m5 Γ (cnS Γ q c) := m5_A4 (Or.inl rfl)
theorem m5_12 {Γ : HS} {v : Int32} : m5 Γ (cI' Γ 3 12 v) := m5_m3 (m3_I (by omega))
theorem iRule (hT : TKE T N kd vl rv pl) (hpb : ∀ i, i ≤ T + 1 → pl i ≤ 5000) {σ : MS} {Γ : HS} {is : Nat → Nat} {n e lim q : Nat} {w : Int} (hK : rlK kd (is n) w q lim) (he : e < N) (hi : is n < e) (hpe : pl e ≤ 5000) (h6 : (Γ 1).2.1 6 (is n) = J (e : Nat)) (hD : DR T kd vl rv is n σ Γ) (hG : G0 T N kd vl pl Γ) : iBad pl (flt σ) (flt (rlX pl σ (is n) e lim q (cN kd is q n))) Γ (is n) (is n + 1) ∨ (flt (rlX pl σ (is n) e lim q (cN kd is q n)) = flt σ ∧ iHd T N kd vl rv pl is n (is n + 1) 0 0 (fun _ => 0) (fun _ => 0) (rlX pl σ (is n) e lim q (cN kd is q n)) Γ) := by
  have hNN := TKE_N hT
  have hw : (q = 5 ∨ q = 6) ∧ 236 ≤ kd (is n) ∧ kd (is n) ≤ 237 ∧ lim ≤ 200 ∧ q = qOf (kd (is n)) := by
    rcases hK with ⟨k1, k2, k3, k4⟩ | ⟨k1, k2, k3, k4⟩
    · rw [k1, k3]; exact ⟨Or.inl rfl, by omega, by omega, by omega, rfl⟩
    · rw [k1, k3]; exact ⟨Or.inr rfl, by omega, by omega, by omega, rfl⟩
  obtain ⟨d1, d2, d3, d4⟩ := hD
  obtain ⟨g1, g2, g3⟩ := d1 q (by omega)
  dsimp only at g1 g2 g3
  have hpi := hpb (is n) (by omega)
  have e1 := c_rule (q := q) (lim := lim) hT hG.1 hG.2.1 (show is n < N by omega) he h6 ⟨hpi, hpe⟩ (by omega) g1 (by omega) (by omega)
  have e2 : ∀ Δ : HS, F_X4_tellRule (J (is n : Nat)) (J (q : Nat)) (J (lim : Nat)) Γ = some (J 0, Δ) → F_X4_tellWord (J (is n : Nat)) Γ = some ((0 : Int32), Δ) := by
    intro Δ h
    rcases hK with ⟨k1, k2, k3, k4⟩ | ⟨k1, k2, k3, k4⟩
    · subst k3 k4
      rw [tw_236 hT hG.1 (by omega) k1, show F_X4_tellRule (J (is n : Nat)) 5 200 Γ = _ from h]; rfl
    · subst k3 k4
      rw [tw_237 hT hG.1 (by omega) k1, show F_X4_tellRule (J (is n : Nat)) 6 20 Γ = _ from h]; rfl
  by_cases hb : lim ≤ cN kd is q n ∨ 4000 < ((pl e + 1 : Nat) : Int) - (pl (is n) : Nat)
  · rw [if_pos hb] at e1
    have hcf : TKc N kd vl pl (cnS (failS Γ pl 5 (is n)) q (cN kd is q n)) := ⟨hG.1.1, hG.1.2⟩
    have e3 := fs_rt hT hcf (show is n < N by omega) (by omega)
    refine Or.inl ⟨5, is n, by omega, Nat.le_refl _, by omega, ?_, fun hbe => ?_⟩
    · refine tw_fail2 hT hG.1 hG.2.1 (by omega) (e2 _ e1) e3 ⟨hG.1.1, hG.1.2⟩ rfl rfl (by omega) (fun r b1 b3 b4 b5 b6 b7 => ?_)
      rw [cI_r, if_neg b3]
      unfold cnS; rw [cA_r, if_neg b4]; exact failS_cfM r b1 b3 b4 b5 b6 b7
    · rw [rlX_flt]
      unfold rlF lenF
      by_cases q1 : lim < cN kd is q n + 1
      · rw [if_pos q1, ntF_beh hbe 5 (Nat.le_refl _), ntF_same (by omega) hpi]
        split <;> rfl
      · rw [if_neg q1, if_neg (by omega)]
        exact ntF_beh hbe 5 (Nat.le_refl _)
  · rw [if_neg hb] at e1
    have hcg : TKc N kd vl pl (cnS Γ q (cN kd is q n)) := m5_TKc cnS_m5 hG.1
    have e3 := fs_rt hT hcg (show is n < N by omega) (by omega)
    have f1 : rlF pl σ (is n) e lim (cN kd is q n) = flt σ := by
      unfold rlF lenF
      rw [if_neg (show ¬ lim < cN kd is q n + 1 by omega), if_pos (by omega)]
    refine Or.inr ⟨f1, _, CW_go hT hG.1 (by omega) hG.2.1 (e2 _ e1) e3 ((m5_12.1 1 (by omega) (by omega)).trans (cnS_m5.1 1 (by omega) (by omega))), m5_trans cnS_m5 m5_12, m5_TKc m5_12 hcg, hG.2.2.1, hG.2.2.2.2, ?_, ?_, ?_, ?_⟩
    · refine CN7_s hw.2.2.2.2 (fun z hz => ?_)
      obtain ⟨y1, y2, y3⟩ := d1 z hz
      have e0 : ((cI' (cnS Γ q (cN kd is q n)) 3 12 (J (kd (is n)))) 4).2.1 0 z = if z = q then J (cN kd is q n + 1 : Nat) else (Γ 4).2.1 0 z := rfl
      have e5 : (rlX pl σ (is n) e lim q (cN kd is q n)).1 (fcq z) = if fcq z = fcq q then J (cN kd is q n + 1 : Nat) else σ.1 (fcq z) := by
        show (noF _ _).1 _ = _
        rw [noF_i (by unfold fcq; split <;> omega) (by unfold fcq; split <;> omega), mI_1]
      rw [e0, e5]
      dsimp only at y1 y2 y3 ⊢
      by_cases qz : z = q
      · rw [if_pos qz, if_pos qz, if_pos (by rw [qz])]; exact ⟨rfl, rfl, by omega⟩
      · rw [if_neg qz, if_neg qz, if_neg (by
          unfold fcq
          repeat' split
          all_goals omega)]
        exact ⟨y1, y2, y3⟩
    · refine CLs_s d2 (by omega) (by omega) ?_ rfl
      show (noF _ _).1 39 = _
      rw [noF_i (by omega) (by omega), mI_1, if_neg (by unfold fcq; split <;> omega)]
    · exact FD_s d3 (by omega) (by omega) rfl rfl
    · exact TB_keep d4 rfl rfl rfl rfl
