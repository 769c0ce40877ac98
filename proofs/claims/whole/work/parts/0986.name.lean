/-! items are told alike: names -/
variable {T N : Nat} {kd vl rv : Nat → Int} {pl : Nat → Nat}
theorem tw_230 (hT : TKE T N kd vl rv pl) {Γ : HS} {i : Nat} (hc : TKc N kd vl pl Γ) (hi : i < N) (hk : kd i = 230) : F_X4_tellWord (J (i : Nat)) Γ = (F_X4_tellItem (J (i + 1 : Nat)) 1 0 120 Γ).bind fun u => some ((0 : Int32), u.2) := by
  unfold F_X4_tellWord
  rw [c_kindOf hT hc hi, Option.bind_some, hk]
  simp only [bndE]
  rw [mrg1_id, if_pos (by rfl), show J (i : Nat) + 1 = J (i + 1 : Nat) by rw [J_lit, J_add]; rfl]
theorem tw_231 (hT : TKE T N kd vl rv pl) {Γ : HS} {i : Nat} (hc : TKc N kd vl pl Γ) (hi : i < N) (hk : kd i = 231) : F_X4_tellWord (J (i : Nat)) Γ = (F_X4_tellItem (J (i + 1 : Nat)) 2 0 120 Γ).bind fun u => some ((0 : Int32), cI' u.2 3 14 0) := by
  unfold F_X4_tellWord
  rw [c_kindOf hT hc hi, Option.bind_some, hk]
  simp only [bndE]
  rw [mrg1_id, if_neg (by decide), if_pos (by rfl), show J (i : Nat) + 1 = J (i + 1 : Nat) by rw [J_lit, J_add]; rfl]
theorem tw_232 (hT : TKE T N kd vl rv pl) {Γ : HS} {i : Nat} (hc : TKc N kd vl pl Γ) (hi : i < N) (hk : kd i = 232) : F_X4_tellWord (J (i : Nat)) Γ = (F_X4_tellVerb (J (i : Nat)) Γ).bind fun u => some ((0 : Int32), u.2) := by
  unfold F_X4_tellWord
  rw [c_kindOf hT hc hi, Option.bind_some, hk]
  simp only [bndE]
  rw [mrg1_id, if_neg (by decide), if_neg (by decide), if_pos (by rfl)]
theorem tw_233 (hT : TKE T N kd vl rv pl) {Γ : HS} {i : Nat} (hc : TKc N kd vl pl Γ) (hi : i < N) (hk : kd i = 233) : F_X4_tellWord (J (i : Nat)) Γ = (F_X4_tellItem (J (i + 1 : Nat)) 4 2 100 Γ).bind fun u => some ((0 : Int32), u.2) := by
  unfold F_X4_tellWord
  rw [c_kindOf hT hc hi, Option.bind_some, hk]
  simp only [bndE]
  rw [mrg1_id, if_neg (by decide), if_neg (by decide), if_neg (by decide), if_pos (by rfl), show J (i : Nat) + 1 = J (i + 1 : Nat) by rw [J_lit, J_add]; rfl]
theorem tw_234 (hT : TKE T N kd vl rv pl) {Γ : HS} {i : Nat} (hc : TKc N kd vl pl Γ) (hi : i < N) (hk : kd i = 234) : F_X4_tellWord (J (i : Nat)) Γ = (F_X4_tellArray (J (i : Nat)) Γ).bind fun u => some ((0 : Int32), u.2) := by
  unfold F_X4_tellWord
  rw [c_kindOf hT hc hi, Option.bind_some, hk]
  simp only [bndE]
  rw [mrg1_id, if_neg (by decide), if_neg (by decide), if_neg (by decide), if_neg (by decide), if_pos (by rfl)]
theorem tw_235 (hT : TKE T N kd vl rv pl) {Γ : HS} {i : Nat} (hc : TKc N kd vl pl Γ) (hi : i < N) (hk : kd i = 235) : F_X4_tellWord (J (i : Nat)) Γ = (F_X4_tellDef (J (i : Nat)) Γ).bind fun u => some ((0 : Int32), u.2) := by
  unfold F_X4_tellWord
  rw [c_kindOf hT hc hi, Option.bind_some, hk]
  simp only [bndE]
  rw [mrg1_id, if_neg (by decide), if_neg (by decide), if_neg (by decide), if_neg (by decide), if_neg (by decide), if_pos (by rfl)]
theorem tw_236 (hT : TKE T N kd vl rv pl) {Γ : HS} {i : Nat} (hc : TKc N kd vl pl Γ) (hi : i < N) (hk : kd i = 236) : F_X4_tellWord (J (i : Nat)) Γ = (F_X4_tellRule (J (i : Nat)) 5 200 Γ).bind fun u => some ((0 : Int32), u.2) := by
  unfold F_X4_tellWord
  rw [c_kindOf hT hc hi, Option.bind_some, hk]
  simp only [bndE]
  rw [mrg1_id, if_neg (by decide), if_neg (by decide), if_neg (by decide), if_neg (by decide), if_neg (by decide), if_neg (by decide), if_pos (by rfl)]
theorem tw_237 (hT : TKE T N kd vl rv pl) {Γ : HS} {i : Nat} (hc : TKc N kd vl pl Γ) (hi : i < N) (hk : kd i = 237) : F_X4_tellWord (J (i : Nat)) Γ = (F_X4_tellRule (J (i : Nat)) 6 20 Γ).bind fun u => some ((0 : Int32), u.2) := by
  unfold F_X4_tellWord
  rw [c_kindOf hT hc hi, Option.bind_some, hk]
  simp only [bndE]
  rw [mrg1_id, if_neg (by decide), if_neg (by decide), if_neg (by decide), if_neg (by decide), if_neg (by decide), if_neg (by decide), if_neg (by decide), if_pos (by rfl)]
theorem tw_240 (hT : TKE T N kd vl rv pl) {Γ : HS} {i : Nat} (hc : TKc N kd vl pl Γ) (hi : i < N) (hk : kd i = 240) : F_X4_tellWord (J (i : Nat)) Γ = (F_X4_countOwned (J (i + 1 : Nat)) Γ).bind fun u => some ((0 : Int32), u.2) := by
  unfold F_X4_tellWord
  rw [c_kindOf hT hc hi, Option.bind_some, hk]
  simp only [bndE]
  rw [mrg1_id, if_neg (by decide), if_neg (by decide), if_neg (by decide), if_neg (by decide), if_neg (by decide), if_neg (by decide), if_neg (by decide), if_neg (by decide), if_pos (by rfl), show J (i : Nat) + 1 = J (i + 1 : Nat) by rw [J_lit, J_add]; rfl]
def fcq (q : Nat) : Nat := if q ≤ 3 then 35 + q else 36 + q
/-- the counters are alike -/
def CN7 (σ : MS) (Γ : HS) (cn : Nat → Nat) : Prop := ∀ q, q < 7 → (Γ 4).2.1 0 q = J (cn q : Nat) ∧ σ.1 (fcq q) = J (cn q : Nat) ∧ cn q ≤ 200
/-- the cells are alike -/
def CL (σ : MS) (Γ : HS) (cn : Nat → Nat) : Prop := ∃ s : Nat, s ≤ 1000 ∧ σ.1 39 = J (s : Nat) ∧ (cn 3 = 0 → s = 0) ∧ (0 < cn 3 → (Γ 4).2.1 12 (cn 3 - 1) = J (s : Nat))
/-- the names' kinds and numbers are alike -/
def TB (T : Nat) (kd vl rv : Nat → Int) (σ : MS) (Γ : HS) : Prop := ∀ u, u ≤ T → kd u = 2 → σ.2 28 (rv u).toNat = (Γ 3).2.1 3 (vl u).toNat ∧ (σ.2 28 (rv u).toNat ≠ 0 → σ.2 29 (rv u).toNat = (Γ 3).2.1 4 (vl u).toNat)
/-- which names are told up to a word -/
def TA (T : Nat) (kd rv : Nat → Int) (ta : Nat → Nat) (P : Nat) (σ : MS) : Prop := ∀ u, u ≤ T → kd u = 2 → (σ.2 28 (rv u).toNat ≠ 0 ↔ ta u ≤ P)
def TAC (T : Nat) (kd vl : Nat → Int) (ta : Nat → Nat) (Γ : HS) : Prop := ∀ u, u ≤ T → kd u = 2 → (Γ 3).2.1 2 (vl u).toNat = J (ta u : Nat) ∧ ta u ≤ 16001
theorem TAC_m5 {ta : Nat → Nat} {Γ Δ : HS} (h : TAC T kd vl ta Γ) (i : m5 Γ Δ) : TAC T kd vl ta Δ := fun u hu hk => by rw [i.2.2.1 2 (by omega) (by omega) (by omega) (by omega) (by omega)]; exact h u hu hk
def G0 (T N : Nat) (kd vl : Nat → Int) (pl : Nat → Nat) (Γ : HS) : Prop := TKc N kd vl pl Γ ∧ (Γ 3).1 16 = J 0 ∧ (Γ 3).1 9 = J (-1) ∧ (Γ 3).1 12 = J 0 ∧ SC T kd vl Γ 0 0 0 (fun _ => 0) (fun _ => 0)
theorem namS_flt {σ : MS} {a : Int32 × Int32} {fc c r x : Nat} {w num : Int} : flt (namS σ a fc c r w num x) = flt (noF (mI σ fc (J (c + 1 : Nat))) a) := by unfold namS; split <;> rfl
theorem namS_flt2 {σ : MS} {a : Int32 × Int32} {fc c r x : Nat} {w num : Int} : flt (namS σ a fc c r w num x) = a := by rw [namS_flt]; rfl
theorem namS_i {σ : MS} {a : Int32 × Int32} {fc c r x k : Nat} {w num : Int} (h14 : k ≠ 14) (h15 : k ≠ 15) : (namS σ a fc c r w num x).1 k = if k = fc then J (c + 1 : Nat) else σ.1 k := by
  have e : (namS σ a fc c r w num x).1 k = (noF (mI σ fc (J (c + 1 : Nat))) a).1 k := by unfold namS; split <;> rfl
  rw [e, noF_i h14 h15, mI_1]
theorem namS_28 {σ : MS} {a : Int32 × Int32} {fc c r x y : Nat} {w num : Int} : (namS σ a fc c r w num x).2 28 y = if y = r ∧ σ.2 28 r = 0 then J w else σ.2 28 y := by
  unfold namS
  by_cases q : σ.2 28 r = 0
  · rw [if_pos q]
    show upd (σ.2 28) r (J w) y = _
    rw [upd_s]
    by_cases q2 : y = r
    · rw [if_pos q2, if_pos ⟨q2, q⟩]
    · rw [if_neg q2, if_neg (fun h => q2 h.1)]
  · rw [if_neg q, if_neg (fun h => q h.2)]; rfl
theorem namS_29 {σ : MS} {a : Int32 × Int32} {fc c r x y : Nat} {w num : Int} : (namS σ a fc c r w num x).2 29 y = if y = r ∧ σ.2 28 r = 0 then J num else σ.2 29 y := by
  unfold namS
  by_cases q : σ.2 28 r = 0
  · rw [if_pos q]
    show upd (σ.2 29) r (J num) y = _
    rw [upd_s]
    by_cases q2 : y = r
    · rw [if_pos q2, if_pos ⟨q2, q⟩]
    · rw [if_neg q2, if_neg (fun h => q2 h.1)]
  · rw [if_neg q, if_neg (fun h => q h.2)]; rfl
theorem namS_rD0 {σ : MS} {a : Int32 × Int32} {fc c r x : Nat} {w num : Int} (h : 35 ≤ fc ∧ fc ≤ 42) : rD0 σ (namS σ a fc c r w num x) := by
  have h1 : rD0 σ (noF (mI σ fc (J (c + 1 : Nat))) a) := rD0_trans (rD0_mI h) rD0_noF
  unfold namS
  split
  · exact rD0_trans h1 (rD0_trans (rD0_mA (Or.inl rfl)) (rD0_trans (rD0_mA (Or.inr (Or.inl rfl))) (rD0_mA (Or.inr (Or.inr rfl)))))
  · exact h1
/-- a name that is told anew, by both -/
theorem nam_TB (hT : TKE T N kd vl rv pl) (hN : NMI T kd vl rv) {σ : MS} {Γ : HS} {a : Int32 × Int32} {t fc c q x : Nat} {w num : Int} (hB : TB T kd vl rv σ Γ) (ht : t ≤ T) (hk : kd t = 2) (h0 : σ.2 28 (rv t).toNat = 0) : TB T kd vl rv (namS σ a fc c (rv t).toNat w num x) (tlS Γ q c (vl t) w num) := by
  intro u hu hku
  have v1 := SC_vl hT ht hk
  have v2 := SC_vl hT hu hku
  have hn := hN u t hu ht hku hk
  rw [namS_28, namS_29]
  have e3 : ((tlS Γ q c (vl t) w num) 3).2.1 3 (vl u).toNat = if (vl u).toNat = (vl t).toNat then J w else (Γ 3).2.1 3 (vl u).toNat := rfl
  have e4 : ((tlS Γ q c (vl t) w num) 3).2.1 4 (vl u).toNat = if (vl u).toNat = (vl t).toNat then J num else (Γ 3).2.1 4 (vl u).toNat := rfl
  rw [e3, e4]
  by_cases qv : vl u = vl t
  · have qr := hn.2 qv
    have hc1 : ((rv t).toNat = (rv t).toNat ∧ σ.2 28 (rv t).toNat = 0) := ⟨rfl, h0⟩
    have hc3 : (vl t).toNat = (vl t).toNat := rfl
    rw [qv, qr, if_pos hc1, if_pos hc1, if_pos hc3, if_pos hc3]
    exact ⟨rfl, fun _ => rfl⟩
  · have qr : rv u ≠ rv t := fun h => qv (hn.1 h)
    have hc1 : ¬ ((rv u).toNat = (rv t).toNat ∧ σ.2 28 (rv t).toNat = 0) := fun h => by have := h.1; omega
    have hc3 : ¬ (vl u).toNat = (vl t).toNat := by omega
    rw [if_neg hc1, if_neg hc1, if_neg hc3, if_neg hc3]
    exact hB u hu hku
theorem nam_CN7 {σ : MS} {Γ : HS} {a : Int32 × Int32} {r q x : Nat} {v w num : Int} {cn : Nat → Nat} (h : CN7 σ Γ cn) (hq : q < 7) (hl : cn q < 200) : CN7 (namS σ a (fcq q) (cn q) r w num x) (tlS Γ q (cn q) v w num) (fun z => if z = q then cn q + 1 else cn z) := by
  intro z hz
  obtain ⟨h1, h2, h3⟩ := h z hz
  have e : ((tlS Γ q (cn q) v w num) 4).2.1 0 z = if z = q then J (cn q + 1 : Nat) else (Γ 4).2.1 0 z := rfl
  rw [e, namS_i (by unfold fcq; split <;> omega) (by unfold fcq; split <;> omega)]
  dsimp only
  by_cases qz : z = q
  · rw [if_pos qz, if_pos qz, if_pos (by rw [qz])]; exact ⟨rfl, rfl, by omega⟩
  · rw [if_neg qz, if_neg qz, if_neg (by unfold fcq; repeat' split
                                         all_goals omega)]; exact ⟨h1, h2, h3⟩
theorem nam_CL {σ : MS} {Γ : HS} {a : Int32 × Int32} {r q x c : Nat} {v w num : Int} {cn cn' : Nat → Nat} (h : CL σ Γ cn) (hq : q < 7) (h3 : cn' 3 = cn 3) : CL (namS σ a (fcq q) c r w num x) (tlS Γ q c v w num) cn' := by
  obtain ⟨s, s1, s2, s3, s4⟩ := h
  refine ⟨s, s1, ?_, by rw [h3]; exact s3, by rw [h3]; exact s4⟩
  rw [namS_i (by omega) (by omega), if_neg (by unfold fcq; split <;> omega)]; exact s2
