/-! definitions: the item's own part and its list -/
variable {T N : Nat} {kd vl rv : Nat → Int} {pl : Nat → Nat}
/-- behind a fault, the list changes nothing -/
theorem td_dead (hT : TKE T N kd vl rv pl) {Γ Γ1 : HS} {i w : Nat} {f : Int} (hc : TKc N kd vl pl Γ) (h16 : (Γ 3).1 16 = J 0) (hi : i + 3 < N) (hk : kd i = 235) (hf : 0 < f ∧ f ≤ 6) (hc1 : TKc N kd vl pl Γ1) (e16 : (Γ1 3).1 16 = J f) (e17 : (Γ1 3).1 17 = J (pl w : Nat)) (hm : cfM Γ Γ1) (h : F_X4_tellDef (J (i : Nat)) Γ = loopF Dl1 FU (J (i + 3 : Nat), cI' Γ1 3 8 0)) : CF W2 pl Γ i f w := by
  have hNN := TKE_N hT
  have m0 : m3 Γ1 (cI' Γ1 3 8 0) := m3_I (by omega)
  obtain ⟨Θ, y1, y2⟩ := dl_dead hT hf (N - (i + 3)) (i + 3) (cI' Γ1 3 8 0) (by omega) (m3_TKc m0 hc1) (by rw [m3_16 m0]; exact e16) (by omega)
  have y3 := y1 FU (FU_gt (by omega))
  have hall := cDd_trans (cDd_m3 m0) y2
  have hcΘ := cDd_TKc hall hc1
  have et : F_X4_tellWord (J (i : Nat)) Γ = some ((0 : Int32), Θ) := by rw [tw_235 hT hc (by omega) hk, h, y3]; rfl
  have ef := fs_rt hT hcΘ (show i < N by omega) (by omega)
  refine tw_fail2 hT hc h16 (by omega) et ef ⟨hcΘ.1, hcΘ.2⟩ (by rw [← e16, ← hall.2.2.1]; rfl) (by rw [← e17, ← hall.2.2.2]; rfl) hf (cfM_trans (cfM_trans hm hall.1) (m3_cfM (m3_I (by omega))))
theorem iDef (hT : TKE T N kd vl rv pl) (hN : NMI T kd vl rv) (hpb : ∀ i, i ≤ T + 1 → pl i ≤ 5000) (hp : plm T pl) {σ : MS} {Γ : HS} {is ta : Nat → Nat} {x n e : Nat} (k0 : kd (is n) = 235) (k1 : kd (is n + 1) = 2) (hi : is n + 3 < T) (he : e < N) (hpe : pl e ≤ 5000) (h6 : (Γ 1).2.1 6 (is n) = J (e : Nat)) (hD : DR T kd vl rv is n σ Γ) (hG : G0 T N kd vl pl Γ) (hTA : TA T kd rv ta (is n) σ) (hTC : TAC T kd vl ta Γ) : iBad pl (flt σ) (flt (dfX pl (nmX rv pl σ (is n) 100 4 (cN kd is 4 n) 6 (cN kd is 4 n) x) (is n) e)) Γ (is n) (is n + 2) ∨ (flt (dfX pl (nmX rv pl σ (is n) 100 4 (cN kd is 4 n) 6 (cN kd is 4 n) x) (is n) e) = flt σ ∧ ∃ Γ1 : HS, F_X4_tellDef (J (is n : Nat)) Γ = loopF Dl1 FU (J (is n + 3 : Nat), Γ1) ∧ m5 Γ Γ1 ∧ G0 T N kd vl pl Γ1 ∧ DR T kd vl rv is (n + 1) (dfX pl (nmX rv pl σ (is n) 100 4 (cN kd is 4 n) 6 (cN kd is 4 n) x) (is n) e) Γ1) := by
  have hNN := TKE_N hT
  have hpi := hpb (is n) (by omega)
  have hpi1 := hpb (is n + 1) (by omega)
  obtain ⟨Γ1, e1, h⟩ := nm_step (x := x) (w := 6) (num := (cN kd is 4 n : Nat)) (q := 4) (lim := 100) hT hN hpb hD hG.1 hG.2.1 hTA hTC (by omega) k1 (by rw [k0]; rfl) (by omega) (Or.inr (Or.inr (Or.inr (Or.inr ⟨rfl, rfl, rfl, rfl⟩))))
  have ei1 : J (is n : Nat) + 1 = J (is n + 1 : Nat) := by rw [J_lit, J_add]; rfl
  have ei3 : J (is n : Nat) + 3 = J (is n + 3 : Nat) := by rw [J_lit, J_add]; rfl
  have e1' : F_X4_tellItem (J (is n + 1 : Nat)) 6 4 100 Γ = some (J 0, Γ1) := e1
  have key : ∀ (hc1 : TKc N kd vl pl Γ1) (h61 : (Γ1 1).2.1 6 (is n) = J (e : Nat)), (((pl e + 1 : Nat) : Int) - (pl (is n) : Nat) ≤ 4000 → F_X4_tellDef (J (is n : Nat)) Γ = loopF Dl1 FU (J (is n + 3 : Nat), cI' Γ1 3 8 0)) ∧ (¬ ((pl e + 1 : Nat) : Int) - (pl (is n) : Nat) ≤ 4000 → ∀ y Γ2, F_X4_fail 5 (J (is n + 1 : Nat)) Γ1 = some (y, Γ2) → F_X4_tellDef (J (is n : Nat)) Γ = loopF Dl1 FU (J (is n + 3 : Nat), cI' Γ2 3 8 0)) := by
    intro hc1 h61
    have el := c_long hT hc1 (show is n < N by omega) he h61 ⟨hpi, hpe⟩
    constructor
    · intro hl
      rw [tellDef_eq, ei1, e1', Option.bind_some, el, Option.bind_some, if_pos hl, bndE, if_pos (show J 0 = 0 from rfl)]
      dsimp only
      rw [bndE, ei3]
    · intro hl y Γ2 hf
      rw [tellDef_eq, ei1, e1', Option.bind_some, el, Option.bind_some, if_neg hl, bndE, if_neg J1_ne, hf, Option.bind_some]
      dsimp only
      rw [bndE, ei3]
  rcases h with ⟨f, f1, f2, f3⟩ | ⟨f1, f2, f3, f4, f5⟩
  · subst f2
    have hcF : TKc N kd vl pl (failS Γ pl f (is n + 1)) := ⟨hG.1.1, hG.1.2⟩
    have hk := key hcF h6
    have hD1 : F_X4_tellDef (J (is n : Nat)) Γ = loopF Dl1 FU (J (is n + 3 : Nat), cI' (failS Γ pl f (is n + 1)) 3 8 0) := by
      by_cases hl : ((pl e + 1 : Nat) : Int) - (pl (is n) : Nat) ≤ 4000
      · exact hk.1 hl
      · exact hk.2 hl _ _ (fail_no 5 _ (f := f) rfl (by omega))
    refine Or.inl ⟨f, is n + 1, by omega, by omega, by omega, td_dead hT hG.1 hG.2.1 (by omega) k0 (by omega) hcF rfl rfl failS_cfM hD1, fun hb => ?_⟩
    have e0 : nmF rv pl σ (is n) 100 (cN kd is 4 n) = (J f, J (pl (is n + 1) : Nat)) := f3 hb
    show dfF pl _ _ _ = _
    rw [nmX_flt, e0]
    unfold dfF lenF
    split
    · rfl
    · exact ntF_same (by omega) hpi1
  · subst f2
    have hG1 := G0_tlS (q := 4) (c := cN kd is 4 n) (v := vl (is n + 1)) (w := 6) (num := (cN kd is 4 n : Nat)) hG
    have hk := key hG1.1 h6
    have fX : nmF rv pl σ (is n) 100 (cN kd is 4 n) = flt σ := f1
    by_cases hl : ((pl e + 1 : Nat) : Int) - (pl (is n) : Nat) ≤ 4000
    · have hD1 := hk.1 hl
      have e8 : cI' (tlS Γ 4 (cN kd is 4 n) (vl (is n + 1)) 6 (cN kd is 4 n : Nat)) 3 8 0 = tlS Γ 4 (cN kd is 4 n) (vl (is n + 1)) 6 (cN kd is 4 n : Nat) := cI_self hG1.2.2.2.2.2.1
      rw [e8] at hD1
      have hdf : dfX pl (nmX rv pl σ (is n) 100 4 (cN kd is 4 n) 6 (cN kd is 4 n) x) (is n) e = nmX rv pl σ (is n) 100 4 (cN kd is 4 n) 6 (cN kd is 4 n) x := by
        unfold dfX dfF lenF
        rw [if_pos hl, noF_id]
      rw [hdf]
      exact Or.inr ⟨by rw [nmX_flt]; exact f1, _, hD1, tlS_m5, hG1, DR_nam hD (by omega) (by omega) (by omega) (by omega) (f3 _) (f4 _)⟩
    · have e5 : F_X4_fail 5 (J (is n + 1 : Nat)) (tlS Γ 4 (cN kd is 4 n) (vl (is n + 1)) 6 (cN kd is 4 n : Nat)) = some (J 0, failS (tlS Γ 4 (cN kd is 4 n) (vl (is n + 1)) 6 (cN kd is 4 n : Nat)) pl 5 (is n + 1)) := c_fail4 hT (f := 5) hG1.1 hG1.2.1 (by omega)
      have hD1 := hk.2 hl _ _ e5
      refine Or.inl ⟨5, is n + 1, by omega, by omega, by omega, td_dead (Γ1 := failS (tlS Γ 4 (cN kd is 4 n) (vl (is n + 1)) 6 (cN kd is 4 n : Nat)) pl 5 (is n + 1)) hT hG.1 hG.2.1 (by omega) k0 (by omega) ⟨hG1.1.1, hG1.1.2⟩ rfl rfl (fun r b1 b3 b4 b5 b6 b7 => ?_) hD1, fun hb => ?_⟩
      · rw [failS_cfM r b1 b3 b4 b5 b6 b7]; exact m5_cfM tlS_m5 r b1 b3 b4 b5 b6 b7
      · show dfF pl _ _ _ = _
        rw [nmX_flt, fX]
        unfold dfF lenF
        rw [if_neg hl]
        exact ntF_beh hb 5 (Nat.le_refl _)
