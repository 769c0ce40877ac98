/-! directions; a key of a run of keys -/
variable {T N : Nat} {kd vl rv : Nat → Int} {pl : Nat → Nat}
def dirF (t_1 : Int32) (σ_2 : MS) : MR := bnd (fun (t_6 : Int32) (σ_7 : MS) => (if t_6 ≤ 0 then some (t_6, σ_7) else bnd (mI σ_7 25 ((σ_7.1 25) + 1)) fun σ_14 => some (t_6, σ_14) : MR)) fun j_8 => if t_1 = 25 then j_8 1 σ_2 else if t_1 = 39 then j_8 2 σ_2 else if t_1 = 10 then j_8 3 σ_2 else if t_1 = 47 then j_8 4 σ_2 else if t_1 = 44 then j_8 5 σ_2 else if t_1 = 8 then j_8 6 σ_2 else j_8 0 σ_2
theorem dir_eq (σ : MS) : F_X12_direction σ = if (σ.1 27) = 0 then (if (σ.1 25) < 0 ∨ 16010 ≤ (σ.1 25).toNatClampNeg then none else if (σ.2 7 (σ.1 25).toNatClampNeg) = 1 then (if (σ.1 25) < 0 ∨ 16010 ≤ (σ.1 25).toNatClampNeg then none else dirF (σ.2 9 (σ.1 25).toNatClampNeg) σ) else dirF (-1) σ) else dirF (-1) σ := rfl
theorem dirF_no {t : Int} (h0 : -1 ≤ t ∧ t < 1000) (h : ¬ (t = 25 ∨ t = 39 ∨ t = 10 ∨ t = 47 ∨ t = 44 ∨ t = 8)) (σ : MS) : dirF (J t) σ = some (J 0, σ) := by
  have ne : ∀ c : Int, 0 ≤ c → c ≤ 256 → t ≠ c → ¬ J t = J c := fun c c1 c2 c3 e => by rw [J_eq (by omega) (by omega) (by omega) (by omega)] at e; exact c3 e
  unfold dirF
  simp only [bnd]
  rw [if_neg (show ¬ J t = 25 from ne 25 (by omega) (by omega) (by omega)), if_neg (show ¬ J t = 39 from ne 39 (by omega) (by omega) (by omega)), if_neg (show ¬ J t = 10 from ne 10 (by omega) (by omega) (by omega)), if_neg (show ¬ J t = 47 from ne 47 (by omega) (by omega) (by omega)), if_neg (show ¬ J t = 44 from ne 44 (by omega) (by omega) (by omega)), if_neg (show ¬ J t = 8 from ne 8 (by omega) (by omega) (by omega)), if_pos (by decide)]
  rfl
theorem dirF_yes {c : Nat} (hc : c < 6) (σ : MS) {a : Nat} (h : σ.1 25 = J a) : dirF (J (KRL.getD c 0)) σ = some (J (c + 1 : Nat), psd σ a) := by
  unfold dirF
  simp only [bnd]
  rw [h, show J (a : Nat) + 1 = J (a + 1 : Nat) by rw [J_lit, J_add]; rfl]
  have hq : c = 0 ∨ c = 1 ∨ c = 2 ∨ c = 3 ∨ c = 4 ∨ c = 5 := by omega
  rcases hq with rfl | rfl | rfl | rfl | rfl | rfl <;> rfl
theorem r_direction (hT : TKE T N kd vl rv pl) {σ : MS} {a dp nn : Nat} (h : RN T kd vl rv pl σ a dp nn) : F_X12_direction σ = some (if 200 ≤ kd a ∧ kd a ≤ 205 then (J (kd a - 199), psd σ a) else (J 0, σ)) := by
  obtain ⟨k1, k2, k3⟩ := RN_at hT h
  have hkr := kdOk_rng (TKE_ok hT h.2.2.2.2.2.2.1)
  have hkk := rkO_rng (kd a)
  rw [dir_eq, if_pos (show σ.1 27 = 0 by rw [h.2.2.2.1]; rfl), if_neg (rg hT h).1, if_neg (rg hT h).1, (rg hT h).2, k1, k3]
  by_cases q1 : rkO (kd a) = 1
  · rw [if_pos (by rw [q1]; rfl)]
    have h2 : 200 ≤ kd a := by
      unfold rkO at q1
      repeat' split at q1
      all_goals omega
    have hrv : rvO kd vl rv a = KRL.getD (kd a - 200).toNat 0 := by
      unfold rvO rvS
      rw [if_neg (by omega), if_neg (by omega), if_neg (by omega), if_pos h2]
    rw [hrv]
    by_cases q2 : kd a ≤ 205
    · rw [if_pos ⟨h2, q2⟩, dirF_yes (by omega) σ h.2.1]
      rw [show (((kd a - 200).toNat + 1 : Nat) : Int) = kd a - 199 by omega]
    · rw [if_neg (by omega)]
      have hr := KRL_rng (kd a - 200).toNat (by omega)
      have hi := fun e (he : e < 6) => KRL_inj (kd a - 200).toNat (by omega) e (by omega)
      refine dirF_no (by omega) ?_ σ
      rintro (e | e | e | e | e | e)
      · have := hi 0 (by omega) (by rw [e]; rfl); omega
      · have := hi 1 (by omega) (by rw [e]; rfl); omega
      · have := hi 2 (by omega) (by rw [e]; rfl); omega
      · have := hi 3 (by omega) (by rw [e]; rfl); omega
      · have := hi 4 (by omega) (by rw [e]; rfl); omega
      · have := hi 5 (by omega) (by rw [e]; rfl); omega
  · rw [if_neg (by rw [show (1 : Int32) = J 1 from rfl, J_eq (by omega) (by omega) (by omega) (by omega)]; exact q1)]
    rw [if_neg (by intro h; apply q1; unfold rkO; repeat' split
                   all_goals omega)]
    exact dirF_no (t := -1) (by omega) (by omega) σ
theorem x_direction {σ : MS} {f : Int} {p nn : Nat} (h : RX T kd vl rv pl σ f p nn) : F_X12_direction σ = some (J 0, σ) := by
  rw [dir_eq, if_neg (show ¬ σ.1 27 = 0 by rw [h.2.1]; exact J1_ne)]
  exact dirF_no (t := -1) (by omega) (by omega) σ
theorem c_isFrom (hT : TKE T N kd vl rv pl) {Γ : HS} {a dp ln : Nat} (h : CN T N kd vl pl Γ a dp ln) {l u : Int} (hl : 0 ≤ l ∧ l < 1000) (hu : 0 ≤ u ∧ u < 1000) : F_X2_isFrom (J l) (J u) Γ = some (J (if l ≤ kd a ∧ kd a ≤ u then 1 else 0), Γ) := by
  have hkr := kdOk_rng (TKE_ok hT h.2.2.2.2.2.2.1)
  unfold F_X2_isFrom
  rw [h.2.2.1]
  by_cases w1 : kd a < l
  · rw [if_pos (show J (kd a) < J l by rw [J_lt (by omega) (by omega) (by omega) (by omega)]; exact w1), if_neg (by omega)]; rfl
  · rw [if_neg (show ¬ J (kd a) < J l by rw [J_lt (by omega) (by omega) (by omega) (by omega)]; exact w1)]
    by_cases w2 : u < kd a
    · rw [if_pos (show J u < J (kd a) by rw [J_lt (by omega) (by omega) (by omega) (by omega)]; exact w2), if_neg (by omega)]; rfl
    · rw [if_neg (show ¬ J u < J (kd a) by rw [J_lt (by omega) (by omega) (by omega) (by omega)]; exact w2), if_pos (by omega)]; rfl
theorem y_isFrom {Γ : HS} {f : Int} {w : Nat} (h : CX N kd vl pl Γ f w) {l u : Int} (hl : 0 < l ∧ l < 1000) : F_X2_isFrom (J l) (J u) Γ = some (J 0, Γ) := by
  unfold F_X2_isFrom
  rw [h.2.2.1, if_pos (show J 0 < J l by rw [J_lt (by omega) (by omega) (by omega) (by omega)]; omega)]; rfl
theorem c_needFrom (hT : TKE T N kd vl rv pl) {Γ : HS} {a dp ln : Nat} (h : CN T N kd vl pl Γ a dp ln) {l u : Int} (hl : 2 ≤ l ∧ l < 1000) (hu : 0 ≤ u ∧ u < 1000) : F_X2_needFrom (J l) (J u) Γ = some (J 0, if l ≤ kd a ∧ kd a ≤ u then cps kd Γ a else cfl N Γ 2 a) := by
  unfold F_X2_needFrom
  rw [c_isFrom hT h (by omega) hu, Option.bind_some]
  by_cases q : l ≤ kd a ∧ kd a ≤ u
  · rw [if_pos q, if_pos q, if_neg J1_ne, c_pass hT h (TKE_lt hT h.2.2.2.2.2.2.1 (by omega) (by omega))]; rfl
  · rw [if_neg q, if_neg q, if_pos J0_eq, show F_X2_fail 2 Γ = _ from c_fail hT h 2]; rfl
theorem yy_needFrom (hT : TKE T N kd vl rv pl) {Γ0 Γ : HS} {f' : Int} {w : Nat} (h : yXX N kd vl pl Γ0 f' w Γ) {l u : Int} (hl : 0 < l ∧ l < 1000) : Ok (F_X2_needFrom (J l) (J u) Γ) fun u => yXX N kd vl pl Γ0 f' w u.2 := by
  unfold F_X2_needFrom
  rw [y_isFrom h.1 hl, Option.bind_some]
  refine Ok_pos J0_eq (Ok_bind (Ok_mono (y_fail hT h.1 2) (fun v hv => Ok_some ⟨hv.1, cfP_trans h.2 hv.2⟩)))
