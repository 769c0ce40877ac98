/-! names of lists and lets are told alike -/
variable {T N : Nat} {kd vl rv : Nat → Int} {pl : Nat → Nat}
def SRC (T : Nat) (kd vl rv : Nat → Int) (σ : MS) (Γ : HS) (s m D : Nat) (ts sl : Nat → Nat) : Prop := SC T kd vl Γ s m D ts sl ∧ σ.1 33 = J (s : Nat) ∧ σ.1 34 = J (m : Nat) ∧ ∀ k, k < s → σ.2 31 k = J (rv (ts k))
def STT (T : Nat) (kd vl rv : Nat → Int) (σ : MS) (Γ : HS) : Prop := ∀ u, u ≤ T → kd u = 2 → (σ.2 28 (rv u).toNat = 0 ↔ (Γ 3).2.1 2 (vl u).toNat = J 16001)
def NMI (T : Nat) (kd vl rv : Nat → Int) : Prop := ∀ u u', u ≤ T → u' ≤ T → kd u = 2 → kd u' = 2 → (rv u = rv u' ↔ vl u = vl u')
def CE (N : Nat) (kd vl : Nat → Int) (pl : Nat → Nat) (Γ : HS) : Prop := TKc N kd vl pl Γ ∧ (Γ 3).1 16 = J 0 ∧ (Γ 3).1 9 = J (-1)
theorem SRC_WS {σ : MS} {Γ : HS} {s m D : Nat} {ts sl : Nat → Nat} (h : SRC T kd vl rv σ Γ s m D ts sl) : WS σ s m := ⟨h.2.1, by have := h.1.2.2.2.1; have := h.1.2.2.2.2.1; omega, h.2.2.1, by have := h.1.2.2.2.2.1; omega⟩
theorem STT_keep {σ τ : MS} {Γ Δ : HS} (h : STT T kd vl rv σ Γ) (h1 : rS σ τ) (h2 : m3 Γ Δ) : STT T kd vl rv τ Δ := fun u hu hk => by rw [h1.2 28 (by omega), h2.2.2 2 (by omega) (by omega) (by omega)]; exact h u hu hk
theorem CE_keep {Γ Δ : HS} (h : CE N kd vl pl Γ) (h2 : m3 Γ Δ) (h9 : (Δ 3).1 9 = J (-1)) : CE N kd vl pl Δ := ⟨m3_TKc h2 h.1, by rw [m3_16 h2]; exact h.2.1, h9⟩
theorem td_no (hT : TKE T N kd vl rv pl) (hN : NMI T kd vl rv) {σ : MS} {Γ : HS} {s m D t : Nat} {ts sl : Nat → Nat} (h : SRC T kd vl rv σ Γ s m D ts sl) (hS : STT T kd vl rv σ Γ) (ht : t ≤ T) (hk : kd t = 2) : tdB σ s (rv t) = false ↔ ((Γ 3).2.1 2 (vl t).toNat = J 16001 ∧ (Γ 3).2.1 5 (vl t).toNat = J 0) := by
  have hv := SC_vl hT ht hk
  obtain ⟨⟨h1, h2, h3, h4, h5, h6, h7, h8, h9⟩, g1, g2, g3⟩ := h
  have e1 : (∀ k, k < s → σ.2 31 k ≠ J (rv t)) ↔ (Γ 3).2.1 5 (vl t).toNat = J 0 := by
    have hk' : ∀ k, k < s → (σ.2 31 k = J (rv t) ↔ vl (ts k) = vl t) := fun k hk' => by
      obtain ⟨z1, z2, -⟩ := h7 k hk'
      have v1 := SC_vl hT z2 z1
      rw [g3 k hk', J_eq (by omega) (by omega) (by omega) (by omega)]
      exact hN _ _ z2 ht z1 hk
    constructor
    · intro h; exact h8 t ht hk (fun k hkk e => h k hkk ((hk' k hkk).mpr e))
    · intro h k hkk e
      obtain ⟨z1, z2, z3, z4, z5⟩ := h7 k hkk
      rw [(hk' k hkk).mp e, h, J_eq (by omega) (by omega) (by omega) (by omega)] at z4
      omega
  unfold tdB
  rw [Bool.or_eq_false_iff, ← hS t ht hk, ← e1]
  constructor
  · rintro ⟨a, b⟩
    refine ⟨by simpa using a, fun k hkk e => ?_⟩
    rw [List.any_eq_false] at b
    exact b k (List.mem_range.mpr hkk) (by simpa using e)
  · rintro ⟨a, b⟩
    refine ⟨by simpa using a, ?_⟩
    rw [List.any_eq_false]
    intro k hkk e
    exact b k (List.mem_range.mp hkk) (by simpa using e)
theorem sawF_ff {a : Int32 × Int32} {m p : Nat} : sawF a false m p = if 14 ≤ m then ntF a 5 p else a := rfl
theorem sawF_tt {a : Int32 × Int32} {m p : Nat} : sawF a true m p = if 14 ≤ m then ntF (ntF a 4 p) 5 p else ntF a 4 p := rfl
def sCln (T N : Nat) (kd vl rv : Nat → Int) (pl : Nat → Nat) (σ υ : MS) (Γ : HS) (i j s m D : Nat) (ts sl : Nat → Nat) : Prop := ∃ (Δ : HS) (s' m' : Nat) (ts' sl' : Nat → Nat), CW W2 Γ i Δ j ∧ m3 Γ Δ ∧ (Δ 3).1 9 = J (-1) ∧ (Δ 3).1 12 = (Γ 3).1 12 ∧ SRC T kd vl rv υ Δ s' m' D ts' sl' ∧ s ≤ s' ∧ (m ≤ m' ∧ m' ≤ m + (j - i)) ∧ (∀ k, k < s → ts' k = ts k ∧ sl' k = sl k) ∧ (∀ d, d < D → (Δ 3).2.1 10 d = (Γ 3).2.1 10 d) ∧ flt υ = flt σ
def sFlt (pl : Nat → Nat) (υ : MS) (Γ : HS) (i j m : Nat) : Prop := ∃ (f : Int) (w : Nat), (0 < f ∧ f ≤ 6) ∧ i ≤ w ∧ w < j ∧ CF W2 pl Γ i f w ∧ flt υ = (J f, J (pl w : Nat)) ∧ ∃ s' m', WS υ s' m' ∧ m' ≤ m + (j - i)
theorem sCln_rfl {σ : MS} {Γ : HS} {i s m D : Nat} {ts sl : Nat → Nat} (h : SRC T kd vl rv σ Γ s m D ts sl) (h9 : (Γ 3).1 9 = J (-1)) : sCln T N kd vl rv pl σ σ Γ i i s m D ts sl := ⟨Γ, s, m, ts, sl, CW_rfl, m3_rfl, h9, rfl, h, Nat.le_refl _, ⟨Nat.le_refl _, by omega⟩, fun _ _ => ⟨rfl, rfl⟩, fun _ _ => rfl, rfl⟩
theorem tw_let (hT : TKE T N kd vl rv pl) {Γ : HS} {s m D t : Nat} {ts sl : Nat → Nat} (hc : TKc N kd vl pl Γ) (h16 : (Γ 3).1 16 = J 0) (ht : t + 1 ≤ T) (hk : kd t = 242) (hk2 : kd (t + 1) = 2) (h : SC T kd vl Γ s m D ts sl) : F_X4_tellWord (J (t : Nat)) Γ = some (J 0, if (Γ 3).2.1 2 (vl (t + 1)).toNat = J 16001 ∧ (Γ 3).2.1 5 (vl (t + 1)).toNat = J 0 then (if 14 ≤ m then failS Γ pl 5 (t + 1) else Γ) else failS Γ pl 4 (t + 1)) := by
  obtain ⟨n1, n2, n3, n4⟩ := TKE_N hT
  have h5 := h.2.2.2.2.1
  unfold F_X4_tellWord
  rw [c_kindOf hT hc (show t < N by omega), Option.bind_some, hk]
  simp only [bndE]
  rw [mrg1_id]
  rw [if_neg (by decide), if_neg (by decide), if_neg (by decide), if_neg (by decide), if_neg (by decide), if_neg (by decide), if_neg (by decide), if_neg (by decide), if_neg (by decide), if_pos (by rfl), h.2.1, show J (t : Nat) + 1 = J (t + 1 : Nat) by rw [J_lit, J_add]; rfl]
  rw [c_tellLocal hT hc h16 ht hk2, c_tellLocal hT hc h16 ht hk2]
  by_cases q : 14 ≤ m
  · rw [if_pos (show (14 : Int32) ≤ J (m : Nat) by rw [show (14 : Int32) = J 14 from rfl, J_le (by omega) (by omega) (by omega) (by omega)]; omega), if_pos (show (0 : Int32) = 0 from rfl), if_pos q]; rfl
  · rw [if_neg (show ¬ (14 : Int32) ≤ J (m : Nat) by rw [show (14 : Int32) = J 14 from rfl, J_le (by omega) (by omega) (by omega) (by omega)]; omega), if_neg (show ¬ (1 : Int32) = 0 by decide), if_neg q]; rfl
/-- a let -/
theorem sLet (hT : TKE T N kd vl rv pl) (hN : NMI T kd vl rv) (hp : plm T pl) (hpb : ∀ i, i ≤ T + 1 → pl i ≤ 5000) {σ : MS} {Γ : HS} {i j' y s m D : Nat} {ts sl : Nat → Nat} (hy : y < 39990) (hk : kd i = 242) (hk1 : kd (i + 1) = 2) (hij : i + 2 < j') (hq : ∀ t, i < t → t < j' → qs (kd t)) (hk59 : kd j' = 59) (hj : j' < T) (hyN : NMN rv pl σ y (i + 1)) (hc : CE N kd vl pl Γ) (hR : SRC T kd vl rv σ Γ s m D ts sl) (hS : STT T kd vl rv σ Γ) (hb : nBeh (pl j') (flt σ)) : ∃ υ, F_X12_seeAnew (J (y : Nat)) σ = some (J 0, υ) ∧ rS σ υ ∧ (sCln T N kd vl rv pl σ υ Γ i (j' + 1) s m D ts sl ∨ sFlt pl υ Γ i (j' + 1) m) := by
  obtain ⟨n1, n2, n3, n4⟩ := TKE_N hT
  have hv := SC_vl hT (show i + 1 ≤ T by omega) hk1
  have hw := SRC_WS hR
  have hm14 := hR.1.2.2.2.2.1
  have hsm := hR.1.2.2.2.1
  have hpi := hp (i + 1) j' (by omega) (by omega)
  refine ⟨_, r_seeAnew (t := i + 1) hy hyN.2.2 hyN.2.1 (by omega) hw, sawS_rS, ?_⟩
  have tw := tw_let hT hc.1 hc.2.1 (show i + 1 ≤ T by omega) hk hk1 hR.1
  have htd := td_no hT hN hR hS (show i + 1 ≤ T by omega) hk1
  have hbe : nBeh (pl (i + 1)) (flt σ) := nBeh_le hb (by omega)
  -- the class stops at it
  have stop : ∀ f : Int, 0 < f ∧ f ≤ 6 → F_X4_tellWord (J (i : Nat)) Γ = some (J 0, failS Γ pl f (i + 1)) → sawF (flt σ) (tdB σ s (rv (i + 1))) m (pl (i + 1)) = (J f, J (pl (i + 1) : Nat)) → sFlt pl (sawS σ (sawF (flt σ) (tdB σ s (rv (i + 1))) m (pl (i + 1))) s m (J (rv (i + 1)))) Γ i (j' + 1) m := by
    intro f hf e1 e2
    have st : CW W2 Γ i (cI' (failS Γ pl f (i + 1)) 3 9 (J (vl (i + 1)))) (i + 1) := CW_go hT hc.1 (by omega) hc.2.1 e1 (fs_let hT (Γ := failS Γ pl f (i + 1)) ⟨hc.1.1, hc.1.2⟩ (by omega) hk) rfl
    refine ⟨f, i + 1, hf, by omega, by omega, CW_CF st (CF_of hT ⟨hc.1.1, hc.1.2⟩ rfl rfl hf (by omega)) (cfM_trans failS_cfM (m3_cfM (m3_I (by omega)))), by rw [sawS_flt, e2], _, _, sawS_WS hw (by omega), by omega⟩
  by_cases q1 : tdB σ s (rv (i + 1)) = false
  · have q1' := htd.mp q1
    rw [if_pos q1'] at tw
    by_cases q2 : 14 ≤ m
    · rw [if_pos q2] at tw
      refine Or.inr (stop 5 (by omega) tw ?_)
      rw [q1, sawF_ff, if_pos q2]
      exact ntF_beh hbe 5 (Nat.le_refl _)
    · rw [if_neg q2] at tw
      have e2 : sawF (flt σ) (tdB σ s (rv (i + 1))) m (pl (i + 1)) = flt σ := by
        rw [q1, sawF_ff, if_neg q2]
      have s1 : CW W2 Γ i (cI' Γ 3 9 (J (vl (i + 1)))) (i + 1) := CW_go hT hc.1 (by omega) hc.2.1 tw (fs_let hT hc.1 (by omega) hk) rfl
      have c1 : TKc N kd vl pl (cI' Γ 3 9 (J (vl (i + 1)))) := ⟨hc.1.1, hc.1.2⟩
      have s2 := W2_qq hT c1 hc.2.1 (i := i + 1) (j := j') (by omega) (by omega) (fun t h1 h2 => hq t (by omega) h2)
      have R1 : SC T kd vl (cI' Γ 3 9 (J (vl (i + 1)))) s m D ts sl := hR.1
      have s3 := W2_f hT c1 hc.2.1 (t := j') (by omega) (by rw [hk59]; unfold qt; omega) (fs_semi2 hT c1 (by omega) hk59 rfl (show i + 1 ≤ T by omega) hk1 R1 (by omega)) rfl
      have hnv : ∀ k, k < s → vl (ts k) ≠ vl (i + 1) := fun k hkk e => by
        obtain ⟨z1, z2, z3, z4, z5⟩ := hR.1.2.2.2.2.2.2.1 k hkk
        rw [e, q1'.2, J_eq (by omega) (by omega) (by omega) (by omega)] at z4; omega
      have R2 := seeS_SC hT R1 (show m < 14 by omega) (show i + 1 ≤ T by omega) hk1 hnv
      refine Or.inl ⟨cI' (seeS (cI' Γ 3 9 (J (vl (i + 1)))) s m (vl (i + 1))) 3 9 (-1), s + 1, m + 1, extS ts s (i + 1), extS sl s m, CW_trans s1 (CW_trans s2 s3), m3_trans (m3_I (by omega)) (m3_trans seeS_m3 (m3_I (by omega))), rfl, rfl, ⟨R2, ?_, ?_, ?_⟩, by omega, ⟨by omega, by omega⟩, fun k hk => ?_, fun d hd => rfl, by rw [sawS_flt, e2]⟩
      · unfold sawS; rw [if_pos (by omega)]; rfl
      · unfold sawS; rw [if_pos (by omega)]; rfl
      · intro k hkk
        unfold sawS extS
        rw [if_pos (show s < 16 by omega)]
        show upd (σ.2 31) s (J (rv (i + 1))) k = _
        rw [upd_s]
        by_cases q : k = s
        · rw [if_pos q, if_pos q]
        · rw [if_neg q, if_neg q]; exact hR.2.2.2 k (by omega)
      · unfold extS; rw [if_neg (by omega), if_neg (by omega)]; exact ⟨rfl, rfl⟩
  · have q1' : tdB σ s (rv (i + 1)) = true := by simpa using q1
    rw [if_neg (fun h => q1 (htd.mpr h))] at tw
    refine Or.inr (stop 4 (by omega) tw ?_)
    rw [q1', sawF_tt, ntF_beh hbe 4 (Nat.le_refl _)]
    by_cases q2 : 14 ≤ m
    · rw [if_pos q2]; exact ntF_same (by omega) (hpb (i + 1) (by omega))
    · rw [if_neg q2]
