/-! the class tells an item -/
variable {T N : Nat} {kd vl rv : Nat → Int} {pl : Nat → Nat}
/-- what a going over one item changes -/
def m5 (Γ Δ : HS) : Prop := (∀ r, r ≠ 3 → r ≠ 4 → Δ r = Γ r) ∧ (∀ k, k ≠ 7 → k ≠ 8 → k ≠ 9 → k ≠ 11 → k ≠ 12 → k ≠ 14 → (Δ 3).1 k = (Γ 3).1 k) ∧ (∀ k, k ≠ 3 → k ≠ 4 → k ≠ 5 → k ≠ 6 → k ≠ 10 → (Δ 3).2.1 k = (Γ 3).2.1 k) ∧ (∀ k, k ≠ 0 → k ≠ 7 → k ≠ 12 → (Δ 4).2.1 k = (Γ 4).2.1 k) ∧ (Δ 4).1 = (Γ 4).1
theorem m5_rfl {Γ : HS} : m5 Γ Γ := ⟨fun _ _ _ => rfl, fun _ _ _ _ _ _ _ => rfl, fun _ _ _ _ _ _ => rfl, fun _ _ _ _ => rfl, rfl⟩
theorem m5_trans {Γ Δ Θ : HS} (h : m5 Γ Δ) (i : m5 Δ Θ) : m5 Γ Θ := ⟨fun r a b => by rw [i.1 r a b, h.1 r a b], fun k a b c d e f => by rw [i.2.1 k a b c d e f, h.2.1 k a b c d e f], fun k a b c d e => by rw [i.2.2.1 k a b c d e, h.2.2.1 k a b c d e], fun k a b c => by rw [i.2.2.2.1 k a b c, h.2.2.2.1 k a b c], by rw [i.2.2.2.2, h.2.2.2.2]⟩
theorem m5_m3 {Γ Δ : HS} (h : m3 Γ Δ) : m5 Γ Δ := ⟨fun r a _ => h.1 r a, fun k a b c d e _ => h.2.1 k a b c d e, fun k _ _ c d e => h.2.2 k c d e, fun k _ _ _ => by rw [h.1 4 (by omega)], by rw [h.1 4 (by omega)]⟩
theorem m5_I {Γ : HS} {v : Int32} : m5 Γ (cI' Γ 3 14 v) := ⟨fun r a _ => by rw [cI_r, if_neg a], fun k _ _ _ _ _ f => by show upd _ _ _ _ = _; rw [upd_s, if_neg f], fun _ _ _ _ _ _ => rfl, fun _ _ _ _ => rfl, rfl⟩
theorem m5_A4 {Γ : HS} {k : Nat} {g : Nat → Int32} (h : k = 0 ∨ k = 7 ∨ k = 12) : m5 Γ (cA' Γ 4 k g) := ⟨fun r _ a => by rw [cA_r, if_neg a], fun _ _ _ _ _ _ _ => rfl, fun _ _ _ _ _ _ => rfl, fun j a b c => by show updA _ _ _ _ = _; rw [updA_s, if_neg (by omega)], rfl⟩
theorem m5_A3 {Γ : HS} {k : Nat} {g : Nat → Int32} (h : k = 3 ∨ k = 4) : m5 Γ (cA' Γ 3 k g) := ⟨fun r a _ => by rw [cA_r, if_neg a], fun _ _ _ _ _ _ _ => rfl, fun j a b _ _ _ => by show updA _ _ _ _ = _; rw [updA_s, if_neg (by omega)], fun _ _ _ _ => rfl, rfl⟩
theorem m5_TKc {Γ Δ : HS} (h : m5 Γ Δ) (hc : TKc N kd vl pl Γ) : TKc N kd vl pl Δ := by unfold TKc; rw [h.1 1 (by omega) (by omega)]; exact hc
theorem m5_cfM {Γ Δ : HS} (h : m5 Γ Δ) : cfM Γ Δ := fun r _ h3 h4 _ _ _ => h.1 r h3 h4
theorem m5_16 {Γ Δ : HS} (h : m5 Γ Δ) : (Δ 3).1 16 = (Γ 3).1 16 := h.2.1 16 (by omega) (by omega) (by omega) (by omega) (by omega) (by omega)
def tlS (Γ : HS) (q c : Nat) (v w num : Int) : HS := cA' (cA' (cA' Γ 4 0 (upd ((Γ 4).2.1 0) q (J (c + 1 : Nat)))) 3 3 (upd ((Γ 3).2.1 3) v.toNat (J w))) 3 4 (upd ((Γ 3).2.1 4) v.toNat (J num))
theorem tlS_m5 {Γ : HS} {q c : Nat} {v w num : Int} : m5 Γ (tlS Γ q c v w num) := m5_trans (m5_A4 (Or.inl rfl)) (m5_trans (m5_A3 (Or.inl rfl)) (m5_A3 (Or.inr rfl)))
theorem c_tellItem (hT : TKE T N kd vl rv pl) {Γ : HS} {t ta q c lim : Nat} {w : Int} (hc : TKc N kd vl pl Γ) (h16 : (Γ 3).1 16 = J 0) (ht : t ≤ T) (hk : kd t = 2) (hta : (Γ 3).2.1 2 (vl t).toNat = J (ta : Nat)) (hta2 : ta ≤ 16001) (hq : q < 7) (hcc : (Γ 4).2.1 0 q = J (c : Nat)) (hc5 : c ≤ 5000) (hl : lim ≤ 5000) (hw : 0 ≤ w ∧ w < 100) : F_X4_tellItem (J (t : Nat)) (J w) (J (q : Nat)) (J (lim : Nat)) Γ = some (J 0, if ta < t then failS Γ pl 4 t else if lim ≤ c then failS Γ pl 5 t else tlS Γ q c (vl t) w (if 3 < w then (c : Int) else (c + 1 : Nat))) := by
  obtain ⟨n1, n2, n3, n4⟩ := TKE_N hT
  have hv := SC_vl hT ht hk
  have e4 : F_X4_fail 4 (J (t : Nat)) Γ = some (J 0, failS Γ pl 4 t) := c_fail4 hT (f := 4) hc h16 (show t < N by omega)
  have e5 : F_X4_fail 5 (J (t : Nat)) Γ = some (J 0, failS Γ pl 5 t) := c_fail4 hT (f := 5) hc h16 (show t < N by omega)
  unfold F_X4_tellItem
  rw [c_worthOf hT hc (show t < N by omega), Option.bind_some, bndE, mrg1_id, bndE, q_g_at_in (n := 4500) (i := vl t) (by omega) (by omega) (by omega), hta]
  by_cases q1 : ta < t
  · rw [if_neg (by rw [J_le (by omega) (by omega) (by omega) (by omega)]; omega), e4, if_pos q1]; rfl
  · rw [if_pos (by rw [J_le (by omega) (by omega) (by omega) (by omega)]; omega), if_neg q1, bndE, q_g_at_in (n := 7) (i := (q : Nat)) (by omega) (by omega) (by omega), Int.toNat_natCast, hcc]
    by_cases q2 : lim ≤ c
    · rw [if_neg (by rw [J_lt (by omega) (by omega) (by omega) (by omega)]; omega), e5, if_pos q2]; rfl
    · rw [if_pos (by rw [J_lt (by omega) (by omega) (by omega) (by omega)]; omega), if_neg q2]
      simp only [bndE]
      rw [q_g_put_in (n := 7) (i := (q : Nat)) (by omega) (by omega) (by omega), Int.toNat_natCast, show J (c : Nat) + 1 = J (c + 1 : Nat) by rw [J_lit, J_add]; rfl]
      have eg : ∀ g3 : Nat → Int32, g_at 7 (((cA' (cA' Γ 4 0 (upd ((Γ 4).2.1 0) q (J (c + 1 : Nat)))) 3 3 g3) 4).2.1 0) (J (q : Nat)) = J (c + 1 : Nat) := by
        intro g3
        rw [q_g_at_in (n := 7) (i := (q : Nat)) (by omega) (by omega) (by omega), Int.toNat_natCast]
        show upd ((Γ 4).2.1 0) q (J (c + 1 : Nat)) q = _
        rw [upd_s, if_pos rfl]
      rw [eg, q_g_put_in (n := 4500) (i := vl t) (by omega) (by omega) (by omega), q_g_put_in (n := 4500) (i := vl t) (by omega) (by omega) (by omega), q_g_put_in (n := 4500) (i := vl t) (by omega) (by omega) (by omega)]
      by_cases q3 : 3 < w
      · rw [if_pos (by rw [show (3 : Int32) = J 3 from rfl, J_lt (by omega) (by omega) (by omega) (by omega)]; exact q3), if_pos q3, show J (c + 1 : Nat) - 1 = J (c : Nat) by rw [show (1 : Int32) = J 1 from rfl, J_sub]; exact congrArg J (by omega)]
        rfl
      · rw [if_neg (by rw [show (3 : Int32) = J 3 from rfl, J_lt (by omega) (by omega) (by omega) (by omega)]; exact q3), if_neg q3, show J (c + 1 : Nat) - 0 = J (c + 1 : Nat) by rw [show (0 : Int32) = J 0 from rfl, J_sub]; exact congrArg J (by omega)]
        rfl
/-- words are counted -/
def Ow1 : ((Int32 × HS) → HR) → Int32 × HS → HR := (fun (again_2 : (Int32 × HS) → HR) (s_1 : Int32 × HS) => ( if ((s_1.2 1).1 2) ≤ s_1.1 then ( some (s_1.1, s_1.2) ) else ( (F_X10_kindOf s_1.1 s_1.2).bind fun u_8 => bnd (mrg (fun j => j == 1) s_1.2 u_8.2) fun σ_10 => bnd (fun  (σ_12 : HS) => ( (F_X10_kindOf s_1.1 σ_12).bind fun u_16 => bnd (mrg (fun j => j == 1) σ_12 u_16.2) fun σ_18 => bnd (fun (t_20 : Int32) (σ_21 : HS) => ( bnd (cI' σ_21 3 14 (((σ_12 3).1 14) + t_20)) fun σ_25 => if ((σ_25 3).1 14) ≤ 10 then ( bnd (s_1.1 + 1) fun (x_29 : Int32) => again_2 (x_29, σ_25) ) else ( (F_X4_fail 5 s_1.1 σ_25).bind fun u_32 => some (s_1.1, u_32.2) ) ) : Int32 → HS → HR) fun j_22 => if u_16.1 = 2 then ( j_22 1 σ_18 ) else ( j_22 0 σ_18 ) ) : HS → HR) fun j_13 => if u_8.1 = 2 then ( j_13  σ_10 ) else ( (F_X10_kindOf s_1.1 σ_10).bind fun u_40 => bnd (mrg (fun j => j == 1) σ_10 u_40.2) fun σ_42 => if u_40.1 = 44 then ( j_13  σ_42 ) else ( some (s_1.1, σ_42) ) ) ) ))
theorem count_eq (p0 : Int32) (Γ : HS) : F_X4_countOwned p0 Γ = loopF Ow1 FU (p0, Γ) := rfl
theorem Ow1_s (n : Nat) (l : Int32) (Γ : HS) : loopF Ow1 (n + 1) (l, Γ) = ( if ((Γ 1).1 2) ≤ l then ( some (l, Γ) ) else ( (F_X10_kindOf l Γ).bind fun u_8 => bnd (mrg (fun j => j == 1) Γ u_8.2) fun σ_10 => bnd (fun  (σ_12 : HS) => ( (F_X10_kindOf l σ_12).bind fun u_16 => bnd (mrg (fun j => j == 1) σ_12 u_16.2) fun σ_18 => bnd (fun (t_20 : Int32) (σ_21 : HS) => ( bnd (cI' σ_21 3 14 (((σ_12 3).1 14) + t_20)) fun σ_25 => if ((σ_25 3).1 14) ≤ 10 then ( bnd (l + 1) fun (x_29 : Int32) => loopF Ow1 n (x_29, σ_25) ) else ( (F_X4_fail 5 l σ_25).bind fun u_32 => some (l, u_32.2) ) ) : Int32 → HS → HR) fun j_22 => if u_16.1 = 2 then ( j_22 1 σ_18 ) else ( j_22 0 σ_18 ) ) : HS → HR) fun j_13 => if u_8.1 = 2 then ( j_13  σ_10 ) else ( (F_X10_kindOf l σ_10).bind fun u_40 => bnd (mrg (fun j => j == 1) σ_10 u_40.2) fun σ_42 => if u_40.1 = 44 then ( j_13  σ_42 ) else ( some (l, σ_42) ) ) ) ) := rfl
theorem cI_cI {Γ : HS} {r k : Nat} {u v : Int32} : cI' (cI' Γ r k u) r k v = cI' Γ r k v := by
  funext j
  show (if j = r then (upd ((cI' Γ r k u) r).1 k v, ((cI' Γ r k u) r).2) else (cI' Γ r k u) j) = (if j = r then (upd (Γ r).1 k v, (Γ r).2) else Γ j)
  by_cases q : j = r
  · rw [if_pos q, if_pos q, cI_r, if_pos rfl]
    refine Prod.ext (funext fun z => ?_) rfl
    show upd (upd (Γ r).1 k u) k v z = upd (Γ r).1 k v z
    rw [upd_s, upd_s, upd_s]; split <;> rfl
  · rw [if_neg q, if_neg q, cI_r, if_neg q]
theorem ow_step (hT : TKE T N kd vl rv pl) {Γ : HS} {t b : Nat} {n : Nat} (hc : TKc N kd vl pl Γ) (h16 : (Γ 3).1 16 = J 0) (ht : t < N) (hb : b ≤ 10) : loopF Ow1 (n + 1) (J (t : Nat), cI' Γ 3 14 (J (b : Nat))) = if kd t = 2 then (if b + 1 ≤ 10 then loopF Ow1 n (J (t + 1 : Nat), cI' Γ 3 14 (J (b + 1 : Nat))) else some (J (t : Nat), failS (cI' Γ 3 14 (J (b + 1 : Nat))) pl 5 t)) else if kd t = 44 then loopF Ow1 n (J (t + 1 : Nat), cI' Γ 3 14 (J (b : Nat))) else some (J (t : Nat), cI' Γ 3 14 (J (b : Nat))) := by
  obtain ⟨n1, n2, n3, n4⟩ := TKE_N hT
  have hkr := kd_le hT ht
  have hc' : ∀ v, TKc N kd vl pl (cI' Γ 3 14 v) := fun v => ⟨hc.1, hc.2⟩
  have e5 : ∀ v, F_X4_fail 5 (J (t : Nat)) (cI' Γ 3 14 v) = some (J 0, failS (cI' Γ 3 14 v) pl 5 t) := fun v => c_fail4 hT (f := 5) (hc' v) h16 ht
  have e14 : ∀ v : Int32, ((cI' Γ 3 14 v) 3).1 14 = v := fun v => rfl
  have ek : ∀ v, F_X10_kindOf (J (t : Nat)) (cI' Γ 3 14 v) = some (J (kd t), cI' Γ 3 14 v) := fun v => c_kindOf hT (hc' v) ht
  have et : J (t : Nat) + 1 = J (t + 1 : Nat) := by rw [J_lit, J_add]; rfl
  rw [Ow1_s]
  rw [if_neg (by rw [show ((cI' Γ 3 14 (J (b : Nat))) 1).1 2 = J (N : Nat) from hc.1, J_le (by omega) (by omega) (by omega) (by omega)]; omega)]
  simp only [bndE, ek, Option.bind_some, mrg1_id, e14, cI_cI, et]
  have j2 : (J (kd t) = (2 : Int32)) ↔ kd t = 2 := by rw [show (2 : Int32) = J 2 from rfl, J_eq (by omega) (by omega) (by omega) (by omega)]
  have j44 : (J (kd t) = (44 : Int32)) ↔ kd t = 44 := by rw [show (44 : Int32) = J 44 from rfl, J_eq (by omega) (by omega) (by omega) (by omega)]
  by_cases q1 : kd t = 2
  · rw [if_pos (j2.2 q1), if_pos (j2.2 q1), if_pos q1, show J (b : Nat) + 1 = J (b + 1 : Nat) by rw [J_lit, J_add]; rfl]
    by_cases q2 : b + 1 ≤ 10
    · rw [if_pos (by rw [show (10 : Int32) = J 10 from rfl, J_le (by omega) (by omega) (by omega) (by omega)]; omega), if_pos q2]
    · rw [if_neg (by rw [show (10 : Int32) = J 10 from rfl, J_le (by omega) (by omega) (by omega) (by omega)]; omega), if_neg q2, e5]; rfl
  · rw [if_neg (fun h => q1 (j2.1 h)), if_neg q1]
    by_cases q2 : kd t = 44
    · rw [if_pos (j44.2 q2), if_pos q2, if_neg (fun h => q1 (j2.1 h)), show J (b : Nat) + 0 = J (b : Nat) by rw [show (0 : Int32) = J 0 from rfl, J_add]; exact congrArg J (by omega)]
      rw [if_pos (by rw [show (10 : Int32) = J 10 from rfl, J_le (by omega) (by omega) (by omega) (by omega)]; omega)]
    · rw [if_neg (fun h => q2 (j44.1 h)), if_neg q2]
