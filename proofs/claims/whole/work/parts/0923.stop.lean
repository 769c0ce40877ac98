/-! behind a fault both read on to nowhere -/
variable {T N : Nat} {kd vl rv : Nat → Int} {pl : Nat → Nat}
/-- what the reference's reading leaves alone -/
def rfP (σ τ : MS) : Prop := (∀ k, k < 14 ∨ 27 < k ∨ (15 < k ∧ k < 23) ∨ k = 24 → τ.1 k = σ.1 k) ∧ (∀ k, k < 17 ∨ 22 < k → τ.2 k = σ.2 k)
theorem rfP_rfl {σ : MS} : rfP σ σ := ⟨fun _ _ => rfl, fun _ _ => rfl⟩
theorem rfP_trans {σ τ υ : MS} (h : rfP σ τ) (i : rfP τ υ) : rfP σ υ := ⟨fun k a => by rw [i.1 k a, h.1 k a], fun k a => by rw [i.2 k a, h.2 k a]⟩
theorem rfP_mI {σ : MS} {k : Nat} {v : Int32} (h : ¬ (k < 14 ∨ 27 < k ∨ (15 < k ∧ k < 23) ∨ k = 24)) : rfP σ (mI σ k v) := ⟨fun j hj => by rw [mI_1, if_neg (by rintro rfl; exact h hj)], fun j _ => rfl⟩
theorem rfP_mA {σ : MS} {k : Nat} {g : Nat → Int32} (h : ¬ (k < 17 ∨ 22 < k)) : rfP σ (mA σ k g) := ⟨fun j _ => rfl, fun j hj => by rw [mA_2, if_neg (by rintro rfl; exact h hj)]⟩
theorem rfP_nod {σ : MS} {n : Nat} {k p : Int} : rfP σ (nod σ n k p) := by
  unfold nod
  exact rfP_trans (rfP_trans (rfP_trans (rfP_trans (rfP_trans (rfP_trans (rfP_mA (by omega)) (rfP_mA (by omega))) (rfP_mA (by omega))) (rfP_mA (by omega))) (rfP_mA (by omega))) (rfP_mA (by omega))) (rfP_mI (by omega))
theorem rfP_psd {σ : MS} {a : Nat} : rfP σ (psd σ a) := rfP_mI (by omega)
theorem rfP_stp {σ : MS} {f : Int} {p : Nat} : rfP σ (stp σ f p) := rfP_trans (rfP_trans (rfP_mI (by omega)) (rfP_mI (by omega))) (rfP_mI (by omega))
theorem rfP_opn {σ : MS} {d : Int} : rfP σ (opn σ d) := rfP_mI (by omega)
variable {σ : MS} {f : Int} {p nn : Nat}
def xR (T : Nat) (kd vl rv : Nat → Int) (pl : Nat → Nat) (f : Int) (p n : Nat) (σ : MS) (u : Int32 × MS) : Prop := RX T kd vl rv pl u.2 f p n ∧ rfP σ u.2 ∧ ∃ x : Int, u.1 = J x ∧ -1 ≤ x ∧ x < n
theorem q_gE_7 (d : Nat) (σ : MS) : gE (d + 1) 7 0 0 0 σ = F_X12_primary (gE d) σ := rfl
theorem q_gE_0 (d : Nat) (σ : MS) : gE (d + 1) 0 0 0 0 σ = F_X12_expression (gE d) σ := rfl
theorem q_gE_1 (d : Nat) (σ : MS) : gE (d + 1) 1 0 0 0 σ = F_X12_both (gE d) σ := rfl
theorem q_gE_2 (d : Nat) (σ : MS) : gE (d + 1) 2 0 0 0 σ = F_X12_step (gE d) σ := rfl
theorem q_gE_3 (d : Nat) (σ : MS) : gE (d + 1) 3 0 0 0 σ = F_X12_comparison (gE d) σ := rfl
theorem q_gE_4 (d : Nat) (σ : MS) : gE (d + 1) 4 0 0 0 σ = F_X12_sum (gE d) σ := rfl
theorem q_gE_5 (d : Nat) (σ : MS) : gE (d + 1) 5 0 0 0 σ = F_X12_term (gE d) σ := rfl
theorem q_gE_6 (d : Nat) (σ : MS) : gE (d + 1) 6 0 0 0 σ = F_X12_factor (gE d) σ := rfl
theorem q_gE_8 (d : Nat) (σ : MS) : gE (d + 1) 8 0 0 0 σ = F_X12_arguments (gE d) σ := rfl
theorem xE7 (hT : TKE T N kd vl rv pl) (h : RX T kd vl rv pl σ f p nn) (hn : nn < 39000) {d : Nat} (hd : 1 ≤ d) : Ok (gE d 7 0 0 0 σ) (xR T kd vl rv pl f p (nn + 1) σ) := by
  obtain ⟨d, rfl⟩ : ∃ e, d = e + 1 := ⟨d - 1, by omega⟩
  rw [q_gE_7]
  unfold F_X12_primary
  refine Ok_bnd ?_
  refine Ok_neg (x_at hT h) ?_
  refine Ok_bnd ?_
  obtain ⟨b, hb, e25⟩ := h.2.2.2.2.2
  have hTL := hT.1
  rw [show (40 : Int32) = J 40 from rfl, ← J_of (σ.2 8 (σ.1 25).toNatClampNeg), r_node h.2.2.2.2.1 (by omega)]
  refine Ok_bind (Ok_some ?_)
  have h2 := RX_nod h 40 (σ.2 8 (σ.1 25).toNatClampNeg).toInt
  refine Ok_neg (by rw [h2.2.1]; exact J1_ne) ?_
  exact Ok_some ⟨h2, rfP_nod, nn, rfl, by omega, by show (nn : Int) < ((nn + 1 : Nat) : Int); omega⟩
theorem xE6 (hT : TKE T N kd vl rv pl) (h : RX T kd vl rv pl σ f p nn) (hn : nn < 39000) {d : Nat} (hd : 2 ≤ d) : Ok (gE d 6 0 0 0 σ) (xR T kd vl rv pl f p (nn + 1) σ) := by
  obtain ⟨d, rfl⟩ : ∃ e, d = e + 1 := ⟨d - 1, by omega⟩
  rw [q_gE_6]
  unfold F_X12_factor
  rw [x_isSign h, Option.bind_some]
  refine Ok_pos J0_eq ?_
  exact Ok_bind (Ok_mono (xE7 hT h hn (by omega)) (fun r hr => Ok_some hr))
theorem xE5 (hT : TKE T N kd vl rv pl) (h : RX T kd vl rv pl σ f p nn) (hn : nn < 39000) {d : Nat} (hd : 3 ≤ d) : Ok (gE d 5 0 0 0 σ) (xR T kd vl rv pl f p (nn + 1) σ) := by
  obtain ⟨d, rfl⟩ : ∃ e, d = e + 1 := ⟨d - 1, by omega⟩
  rw [q_gE_5]
  unfold F_X12_term
  refine Ok_bind (Ok_mono (xE6 hT h hn (by omega)) (fun r hr => ?_))
  refine Ok_loop (P := fun s k => s = (r.1, r.2) ∧ k = 0) ?_ FU _ 0 (FU_gt (by omega)) ⟨rfl, rfl⟩
  rintro a s k ⟨rfl, rfl⟩ ih
  simp only [bnd]
  rw [x_isSign hr.1, Option.bind_some]
  refine Ok_pos J0_eq ?_
  rw [x_isSign hr.1, Option.bind_some]
  refine Ok_pos J0_eq ?_
  rw [x_isSign hr.1, Option.bind_some]
  exact Ok_pos J0_eq (Ok_some hr)
theorem xE4 (hT : TKE T N kd vl rv pl) (h : RX T kd vl rv pl σ f p nn) (hn : nn < 39000) {d : Nat} (hd : 4 ≤ d) : Ok (gE d 4 0 0 0 σ) (xR T kd vl rv pl f p (nn + 1) σ) := by
  obtain ⟨d, rfl⟩ : ∃ e, d = e + 1 := ⟨d - 1, by omega⟩
  rw [q_gE_4]
  unfold F_X12_sum
  refine Ok_bind (Ok_mono (xE5 hT h hn (by omega)) (fun r hr => ?_))
  refine Ok_loop (P := fun s k => s = (r.1, r.2) ∧ k = 0) ?_ FU _ 0 (FU_gt (by omega)) ⟨rfl, rfl⟩
  rintro a s k ⟨rfl, rfl⟩ ih
  simp only [bnd]
  rw [x_isSign hr.1, Option.bind_some]
  refine Ok_pos J0_eq ?_
  rw [x_isSign hr.1, Option.bind_some]
  exact Ok_pos J0_eq (Ok_some hr)
theorem xE3 (hT : TKE T N kd vl rv pl) (h : RX T kd vl rv pl σ f p nn) (hn : nn < 39000) {d : Nat} (hd : 5 ≤ d) : Ok (gE d 3 0 0 0 σ) (xR T kd vl rv pl f p (nn + 1) σ) := by
  obtain ⟨d, rfl⟩ : ∃ e, d = e + 1 := ⟨d - 1, by omega⟩
  rw [q_gE_3]
  unfold F_X12_comparison
  refine Ok_bind (Ok_mono (xE4 hT h hn (by omega)) (fun r hr => ?_))
  refine Ok_neg (by rw [hr.1.2.1]; exact J1_ne) (Ok_some hr)
theorem xE2 (hT : TKE T N kd vl rv pl) (h : RX T kd vl rv pl σ f p nn) (hn : nn < 39000) {d : Nat} (hd : 6 ≤ d) : Ok (gE d 2 0 0 0 σ) (xR T kd vl rv pl f p (nn + 1) σ) := by
  obtain ⟨d, rfl⟩ : ∃ e, d = e + 1 := ⟨d - 1, by omega⟩
  rw [q_gE_2]
  unfold F_X12_step
  rw [x_isKey h, Option.bind_some]
  refine Ok_pos J0_eq ?_
  exact Ok_bind (Ok_mono (xE3 hT h hn (by omega)) (fun r hr => Ok_some hr))
theorem xE1 (hT : TKE T N kd vl rv pl) (h : RX T kd vl rv pl σ f p nn) (hn : nn < 39000) {d : Nat} (hd : 7 ≤ d) : Ok (gE d 1 0 0 0 σ) (xR T kd vl rv pl f p (nn + 1) σ) := by
  obtain ⟨d, rfl⟩ : ∃ e, d = e + 1 := ⟨d - 1, by omega⟩
  rw [q_gE_1]
  unfold F_X12_both
  refine Ok_bind (Ok_mono (xE2 hT h hn (by omega)) (fun r hr => ?_))
  refine Ok_loop (P := fun s k => s = (r.1, r.2) ∧ k = 0) ?_ FU _ 0 (FU_gt (by omega)) ⟨rfl, rfl⟩
  rintro a s k ⟨rfl, rfl⟩ ih
  rw [x_isKey hr.1, Option.bind_some]
  exact Ok_pos J0_eq (Ok_some hr)
theorem xE0 (hT : TKE T N kd vl rv pl) (h : RX T kd vl rv pl σ f p nn) (hn : nn < 39000) {d : Nat} (hd : 8 ≤ d) : Ok (gE d 0 0 0 0 σ) (xR T kd vl rv pl f p (nn + 1) σ) := by
  obtain ⟨d, rfl⟩ : ∃ e, d = e + 1 := ⟨d - 1, by omega⟩
  rw [q_gE_0]
  unfold F_X12_expression
  refine Ok_bind (Ok_mono (xE1 hT h hn (by omega)) (fun r hr => ?_))
  refine Ok_loop (P := fun s k => s = (r.1, r.2) ∧ k = 0) ?_ FU _ 0 (FU_gt (by omega)) ⟨rfl, rfl⟩
  rintro a s k ⟨rfl, rfl⟩ ih
  rw [x_isKey hr.1, Option.bind_some]
  exact Ok_pos J0_eq (Ok_some hr)
theorem xR_opn {u : Int32 × MS} {d : Int32} {x : Int32} {n : Nat} (h : xR T kd vl rv pl f p n σ u) (hx : ∃ z : Int, x = J z ∧ -1 ≤ z ∧ z < n) : xR T kd vl rv pl f p n σ (x, mI u.2 26 d) := ⟨RX_opn h.1, rfP_trans h.2.1 (rfP_mI (by omega)), hx⟩
theorem xE8 (hT : TKE T N kd vl rv pl) (h : RX T kd vl rv pl σ f p nn) (hn : nn < 39000) {d : Nat} (hd : 9 ≤ d) : Ok (gE d 8 0 0 0 σ) (xR T kd vl rv pl f p (nn + 1) σ) := by
  obtain ⟨d, rfl⟩ : ∃ e, d = e + 1 := ⟨d - 1, by omega⟩
  rw [q_gE_8]
  unfold F_X12_arguments
  simp only [bnd]
  rw [x_open hT h, Option.bind_some]
  dsimp only
  rw [x_isSign h, Option.bind_some]
  refine Ok_pos J0_eq ?_
  refine Ok_bind (Ok_mono (xE0 hT h hn (by omega)) (fun r hr => ?_))
  refine Ok_loop (P := fun s k => s = (r.1, r.2) ∧ k = 0) ?_ FU _ 0 (FU_gt (by omega)) ⟨rfl, rfl⟩
  rintro a s k ⟨rfl, rfl⟩ ih
  rw [x_took hr.1, Option.bind_some]
  refine Ok_pos J0_eq ?_
  dsimp only
  rw [x_shut hT hr.1, Option.bind_some]
  exact Ok_some (xR_opn hr hr.2.2)
/-! the class -/
variable {Γ : HS} {w : Nat}
def xC (N : Nat) (kd vl : Nat → Int) (pl : Nat → Nat) (f : Int) (w : Nat) (Γ : HS) (u : Int32 × HS) : Prop := CX N kd vl pl u.2 f w ∧ cfP Γ u.2
theorem y_pass (hT : TKE T N kd vl rv pl) (h : CX N kd vl pl Γ f w) : F_X2_pass Γ = some (J 0, Γ) := by
  obtain ⟨n1, n2, n3, n4⟩ := TKE_N hT
  unfold F_X2_pass
  rw [h.2.1, h.1.1, if_neg (J_nlt0 (by omega) (by omega)), if_pos (by rw [J_lit, J_sub, J_le (by omega) (by omega) (by omega) (by omega)]; show (N : Int) - 1 ≤ _; omega)]; rfl
theorem y_fail (hT : TKE T N kd vl rv pl) (h : CX N kd vl pl Γ f w) (g : Int32) : Ok (F_X2_fail g Γ) (xC N kd vl pl f w Γ) := by
  obtain ⟨n1, n2, n3, n4⟩ := TKE_N hT
  unfold F_X2_fail
  simp only [bnd]
  refine Ok_neg ?_ (Ok_some ⟨⟨h.1, ?_, rfl, h.2.2.2.1, h.2.2.2.2.1, h.2.2.2.2.2⟩, cfP_trans cfP_I2 cfP_I2⟩)
  · rw [h.2.2.2.2.1]; rcases h.2.2.2.1 with e | e <;> (rw [e]; decide)
  · show (Γ 1).1 2 - 1 = _
    rw [h.1.1, J_lit, J_sub]; exact congrArg J (by show (N : Int) - 1 = _; omega)
theorem y_need (hT : TKE T N kd vl rv pl) (h : CX N kd vl pl Γ f w) {c : Int} (hc : c ≠ 0 ∧ 0 ≤ c ∧ c < 1000) : Ok (F_X2_need (J c) Γ) (xC N kd vl pl f w Γ) := by
  unfold F_X2_need
  refine Ok_neg (by rw [h.2.2.1, J_eq (by omega) (by omega) (by omega) (by omega)]; omega) ?_
  exact Ok_bind (Ok_mono (y_fail hT h 2) (fun r hr => Ok_some hr))
theorem y_accept (h : CX N kd vl pl Γ f w) {c : Int} (hc : c ≠ 0 ∧ 0 ≤ c ∧ c < 1000) : F_X2_accept (J c) Γ = some (J 0, Γ) := by
  unfold F_X2_accept
  rw [if_neg (by rw [h.2.2.1, J_eq (by omega) (by omega) (by omega) (by omega)]; omega)]; rfl
theorem y_deepen (hT : TKE T N kd vl rv pl) (h : CX N kd vl pl Γ f w) : Ok (F_X2_deepen Γ) (xC N kd vl pl f w Γ) := by
  unfold F_X2_deepen
  refine Ok_bnd ?_
  have h2 : CX N kd vl pl (cI' Γ 2 4 (((Γ 2).1 4) + 1)) f w := CX_cop h
  refine Ok_ite (fun _ => ?_) (fun _ => ?_)
  · rw [y_pass hT h2]; exact Ok_bind (Ok_some (Ok_some ⟨h2, cfP_I2⟩))
  · exact Ok_bind (Ok_mono (y_fail hT h2 5) (fun r hr => Ok_some ⟨hr.1, cfP_trans cfP_I2 hr.2⟩))
theorem y_open (hT : TKE T N kd vl rv pl) (h : CX N kd vl pl Γ f w) {c : Int} (hc : c ≠ 0 ∧ 0 ≤ c ∧ c < 1000) : Ok (F_X2_open (J c) Γ) (xC N kd vl pl f w Γ) := by
  unfold F_X2_open
  refine Ok_neg (by rw [h.2.2.1, J_eq (by omega) (by omega) (by omega) (by omega)]; omega) ?_
  exact Ok_bind (Ok_mono (y_fail hT h 2) (fun r hr => Ok_some hr))
theorem y_shut (hT : TKE T N kd vl rv pl) (h : CX N kd vl pl Γ f w) {c : Int} (hc : c ≠ 0 ∧ 0 ≤ c ∧ c < 1000) : Ok (F_X2_shut (J c) Γ) (xC N kd vl pl f w Γ) := by
  unfold F_X2_shut
  refine Ok_bnd ?_
  have h2 : CX N kd vl pl (cI' Γ 2 4 (((Γ 2).1 4) - 1)) f w := CX_cop h
  exact Ok_bind (Ok_mono (y_need hT h2 hc) (fun r hr => Ok_some ⟨hr.1, cfP_trans cfP_I2 hr.2⟩))
theorem y_add (o : Int32) (hl : ∃ l : Nat, l ≤ 40000 ∧ (Γ 5).1 1 = J l) : Ok (F_X0_add o Γ) fun u => oth5 Γ u.2 ∧ ∃ l : Nat, l ≤ 40000 ∧ (u.2 5).1 1 = J l := by
  obtain ⟨l, hl1, hl2⟩ := hl
  unfold F_X0_add
  rw [hl2]
  refine Ok_neg (J_nlt0 (by omega) (by omega)) (Ok_ite (fun _ => Ok_some ⟨oth5_rfl, l, hl1, hl2⟩) (fun q2 => ?_))
  rw [show (40000 : Int32) = J 40000 from rfl, J_le (by omega) (by omega) (by omega) (by omega)] at q2
  refine Ok_bnd (Ok_neg ?_ (Ok_bnd (Ok_bnd (Ok_some ⟨oth5_trans oth5_A oth5_I, l + 1, by omega, ?_⟩))))
  · rw [J_natN (by omega)]; rintro (h | h); exact J_nlt0 (by omega) (by omega) h; omega
  · show (Γ 5).1 1 + 1 = _
    rw [hl2, J_lit, J_add]; rfl
theorem y_add3 (o v : Int32) (hl : ∃ l : Nat, l ≤ 40000 ∧ (Γ 5).1 1 = J l) : Ok (F_X0_add_ o v Γ) fun u => oth5 Γ u.2 ∧ (∃ l : Nat, l ≤ 40000 ∧ (u.2 5).1 1 = J l) ∧ ∃ z : Int, u.1 = J z ∧ -2 ≤ z ∧ z ≤ 40000 := by
  obtain ⟨l, hl1, hl2⟩ := hl
  by_cases q : l < 39998
  · unfold F_X0_add_
    have g1 : ∀ k : Nat, l + k < 40000 → ¬ (J ((l + k : Nat) : Int) < 0 ∨ 40000 ≤ (J ((l + k : Nat) : Int)).toNatClampNeg) := by
      intro k hk
      rw [J_natN (by omega)]; rintro (h | h); exact J_nlt0 (by omega) (by omega) h; omega
    rw [hl2]
    refine Ok_neg (J_nlt0 (by omega) (by omega)) (Ok_neg ?_ ?_)
    · rw [show J (l : Nat) + 2 = J (l + 2 : Nat) by rw [J_lit, J_add]; rfl, show (40000 : Int32) = J 40000 from rfl, J_le (by omega) (by omega) (by omega) (by omega)]; omega
    refine Ok_bnd (Ok_neg (g1 0 (by omega)) (Ok_bnd (Ok_bnd (Ok_neg ?_ (Ok_bnd (Ok_bnd (Ok_neg ?_ (Ok_bnd (Ok_bnd (Ok_some ⟨oth5_trans oth5_A (oth5_trans oth5_A (oth5_trans oth5_A oth5_I)), ⟨l + 3, by omega, ?_⟩, ((l + 1 : Nat) : Int), ?_, by omega, by omega⟩))))))))))
    · rw [show ∀ x : Nat → Int32, ((cA' Γ 5 0 x) 5).1 1 = (Γ 5).1 1 from fun x => rfl, hl2, show J (l : Nat) + 1 = J (l + 1 : Nat) by rw [J_lit, J_add]; rfl]; exact g1 1 (by omega)
    · rw [show ∀ x y : Nat → Int32, ((cA' (cA' Γ 5 0 x) 5 0 y) 5).1 1 = (Γ 5).1 1 from fun x y => rfl, hl2, show J (l : Nat) + 2 = J (l + 2 : Nat) by rw [J_lit, J_add]; rfl]; exact g1 2 (by omega)
    · show (Γ 5).1 1 + 3 = _
      rw [hl2, J_lit, J_add]; rfl
    · show (Γ 5).1 1 + 3 - 2 = _
      rw [hl2, J_lit, J_add, J_lit, J_sub]; exact congrArg J (by show (l : Int) + 3 - 2 = _; omega)
  · unfold F_X0_add_
    rw [hl2]
    refine Ok_neg (J_nlt0 (by omega) (by omega)) (Ok_pos ?_ (Ok_some ⟨oth5_rfl, ⟨l, hl1, hl2⟩, ((l : Int) - 2), by rw [J_lit, J_sub], by omega, by omega⟩))
    rw [show J (l : Nat) + 2 = J (l + 2 : Nat) by rw [J_lit, J_add]; rfl, show (40000 : Int32) = J 40000 from rfl, J_le (by omega) (by omega) (by omega) (by omega)]; omega
theorem y_aim {z : Int} (hz : -2 ≤ z) (hz2 : z ≤ 40000) : Ok (F_X0_aim (J z) Γ) fun u => oth5 Γ u.2 ∧ (u.2 5).1 1 = (Γ 5).1 1 := by
  unfold F_X0_aim F_X0_setPair
  refine Ok_bind ?_
  refine Ok_ite (fun _ => Ok_some (Ok_some ⟨oth5_rfl, rfl⟩)) (fun q1 => Ok_ite (fun _ => Ok_some (Ok_some ⟨oth5_rfl, rfl⟩)) (fun q2 => ?_))
  rw [show (0 : Int32) = J 0 from rfl, J_lt (by omega) (by omega) (by omega) (by omega)] at q1
  rw [show (40000 : Int32) = J 40000 from rfl, show J z + 1 = J (z + 1) by rw [J_lit, J_add], J_le (by omega) (by omega) (by omega) (by omega)] at q2
  refine Ok_bnd (Ok_neg ?_ (Ok_bnd (Ok_bnd (Ok_neg ?_ (Ok_bnd (Ok_some (Ok_some ⟨oth5_trans oth5_A oth5_A, rfl⟩)))))))
  · rw [J_nat (by omega) (by omega)]; rintro (h | h); exact J_nlt0 (by omega) (by omega) h; omega
  · rw [show J z + 1 = J (z + 1) by rw [J_lit, J_add], J_nat (by omega) (by omega)]; rintro (h | h); exact J_nlt0 (by omega) (by omega) h; omega
theorem CX_len (h : CX N kd vl pl Γ f w) : ∃ l : Nat, l ≤ 40000 ∧ (Γ 5).1 1 = J l := h.2.2.2.2.2.2
theorem y_add' (h : CX N kd vl pl Γ f w) (o : Int32) {Q : Int32 × HS → Prop} {g : HS → HR} (hg : ∀ Δ, CX N kd vl pl Δ f w → cfP Γ Δ → Ok (g Δ) Q) : Ok ((F_X0_add o Γ).bind fun u => bnd (mrg (fun j => j == 5) Γ u.2) g) Q := by
  refine Ok_bind (Ok_mono (y_add o (CX_len h)) (fun r hr => ?_))
  refine Ok_bnd ?_
  rw [mrg5 hr.1]
  exact hg _ (CX_5 h hr.1 hr.2) (cfP_5 hr.1)
theorem y_add3' (h : CX N kd vl pl Γ f w) (o v : Int32) {Q : Int32 × HS → Prop} {g : Int32 → HS → HR} (hg : ∀ (z : Int) Δ, -2 ≤ z → z ≤ 40000 → CX N kd vl pl Δ f w → cfP Γ Δ → Ok (g (J z) Δ) Q) : Ok ((F_X0_add_ o v Γ).bind fun u => bnd (mrg (fun j => j == 5) Γ u.2) (g u.1)) Q := by
  refine Ok_bind (Ok_mono (y_add3 o v (CX_len h)) ?_)
  rintro r ⟨h1, h2, z, h3, h4, h5⟩
  refine Ok_bnd ?_
  rw [mrg5 h1, h3]
  exact hg z _ h4 h5 (CX_5 h h1 h2) (cfP_5 h1)
theorem y_aim' (h : CX N kd vl pl Γ f w) {z : Int} (hz : -2 ≤ z) (hz2 : z ≤ 40000) {Q : Int32 × HS → Prop} {g : HS → HR} (hg : ∀ Δ, CX N kd vl pl Δ f w → cfP Γ Δ → Ok (g Δ) Q) : Ok ((F_X0_aim (J z) Γ).bind fun u => bnd (mrg (fun j => j == 5) Γ u.2) g) Q := by
  refine Ok_bind (Ok_mono (y_aim hz hz2) (fun r hr => ?_))
  refine Ok_bnd ?_
  rw [mrg5 hr.1]
  obtain ⟨l, l1, l2⟩ := CX_len h
  exact hg _ (CX_5 h hr.1 ⟨l, l1, by rw [hr.2]; exact l2⟩) (cfP_5 hr.1)
theorem y_attribute (hT : TKE T N kd vl rv pl) (h : CX N kd vl pl Γ f w) (o : Int32) : Ok (F_X2_attribute o Γ) (xC N kd vl pl f w Γ) := by
  unfold F_X2_attribute
  refine y_add3' h o _ (g := fun _ σ_3 => (F_X2_isFrom 206 211 σ_3).bind fun u_5 => if u_5.1 = 0 then (F_X2_fail 2 u_5.2).bind fun u_9 => some (0, u_9.2) else (F_X2_pass u_5.2).bind fun u_12 => some (0, u_12.2)) (fun z Δ _ _ hΔ hc => ?_)
  have e : F_X2_isFrom 206 211 Δ = some (0, Δ) := by
    unfold F_X2_isFrom; rw [hΔ.2.2.1, if_pos (by decide)]
  rw [e, Option.bind_some]
  refine Ok_pos rfl ?_
  exact Ok_bind (Ok_mono (y_fail hT hΔ 2) (fun r hr => Ok_some ⟨hr.1, cfP_trans hc hr.2⟩))
theorem q_gG_0 (d : Nat) (x : Int32) (Γ : HS) : gG (d + 1) 0 x 0 0 Γ = F_X2_expression (gG d) Γ := rfl
theorem q_gG_1 (d : Nat) (x : Int32) (Γ : HS) : gG (d + 1) 1 x 0 0 Γ = F_X2_both (gG d) Γ := rfl
theorem q_gG_2 (d : Nat) (x : Int32) (Γ : HS) : gG (d + 1) 2 x 0 0 Γ = F_X2_step (gG d) Γ := rfl
theorem q_gG_3 (d : Nat) (x : Int32) (Γ : HS) : gG (d + 1) 3 x 0 0 Γ = F_X2_sum (gG d) Γ := rfl
theorem q_gG_4 (d : Nat) (x : Int32) (Γ : HS) : gG (d + 1) 4 x 0 0 Γ = F_X2_term (gG d) Γ := rfl
theorem q_gG_5 (d : Nat) (x : Int32) (Γ : HS) : gG (d + 1) 5 x 0 0 Γ = F_X2_factor (gG d) Γ := rfl
theorem q_gG_6 (d : Nat) (x : Int32) (Γ : HS) : gG (d + 1) 6 x 0 0 Γ = F_X2_primary (gG d) Γ := rfl
theorem q_gG_7 (d : Nat) (x : Int32) (Γ : HS) : gG (d + 1) 7 x 0 0 Γ = F_X2_arguments (gG d) x Γ := rfl
theorem q_gG_8 (d : Nat) (x : Int32) (Γ : HS) : gG (d + 1) 8 x 0 0 Γ = F_X2_index (gG d) Γ := rfl
theorem yG6 (hT : TKE T N kd vl rv pl) (h : CX N kd vl pl Γ f w) {d : Nat} (hd : 1 ≤ d) : Ok (gG d 6 0 0 0 Γ) (xC N kd vl pl f w Γ) := by
  obtain ⟨d, rfl⟩ : ∃ e, d = e + 1 := ⟨d - 1, by omega⟩
  rw [q_gG_6]
  unfold F_X2_primary
  simp only [bnd]
  rw [h.2.2.1]
  refine Ok_neg (by decide) (Ok_neg (by decide) (Ok_neg (by decide) (Ok_neg (by decide) (Ok_neg (by decide) (Ok_neg (by decide) ?_)))))
  exact Ok_bind (Ok_mono (y_fail hT h 2) (fun r hr => Ok_some hr))
theorem yG5 (hT : TKE T N kd vl rv pl) (h : CX N kd vl pl Γ f w) {d : Nat} (hd : 2 ≤ d) : Ok (gG d 5 0 0 0 Γ) (xC N kd vl pl f w Γ) := by
  obtain ⟨d, rfl⟩ : ∃ e, d = e + 1 := ⟨d - 1, by omega⟩
  rw [q_gG_5]
  unfold F_X2_factor
  rw [h.2.2.1]
  refine Ok_neg (by decide) ?_
  exact Ok_bind (Ok_mono (yG6 hT h (by omega)) (fun r hr => Ok_some hr))
theorem y_lt (hT : TKE T N kd vl rv pl) (h : TKc N kd vl pl Γ) {z : Nat} (hz : z = 0 ∨ z = 1) : ¬ ((Γ 1).1 2 ≤ J z) ∨ (Γ 1).1 2 ≤ J z := by
  exact (Decidable.em _).symm
theorem yG4 (hT : TKE T N kd vl rv pl) (h : CX N kd vl pl Γ f w) {d : Nat} (hd : 3 ≤ d) : Ok (gG d 4 0 0 0 Γ) (xC N kd vl pl f w Γ) := by
  obtain ⟨d, rfl⟩ : ∃ e, d = e + 1 := ⟨d - 1, by omega⟩
  rw [q_gG_4]
  unfold F_X2_term
  refine Ok_bind (Ok_mono (yG5 hT h (by omega)) (fun r hr => ?_))
  refine Ok_loop (P := fun s k => s = (0, r.2) ∧ k = 0) ?_ FU _ 0 (FU_gt (by omega)) ⟨rfl, rfl⟩
  rintro a s k ⟨rfl, rfl⟩ ih
  simp only [bnd]
  refine Ok_ite (fun _ => Ok_some hr) (fun _ => ?_)
  rw [hr.1.2.2.1]
  exact Ok_neg (by decide) (Ok_neg (by decide) (Ok_neg (by decide) (Ok_some hr)))
theorem yG3 (hT : TKE T N kd vl rv pl) (h : CX N kd vl pl Γ f w) {d : Nat} (hd : 4 ≤ d) : Ok (gG d 3 0 0 0 Γ) (xC N kd vl pl f w Γ) := by
  obtain ⟨d, rfl⟩ : ∃ e, d = e + 1 := ⟨d - 1, by omega⟩
  rw [q_gG_3]
  unfold F_X2_sum
  refine Ok_bind (Ok_mono (yG4 hT h (by omega)) (fun r hr => ?_))
  refine Ok_loop (P := fun s k => s = (0, r.2) ∧ k = 0) ?_ FU _ 0 (FU_gt (by omega)) ⟨rfl, rfl⟩
  rintro a s k ⟨rfl, rfl⟩ ih
  simp only [bnd]
  refine Ok_ite (fun _ => Ok_some hr) (fun _ => ?_)
  rw [hr.1.2.2.1]
  exact Ok_neg (by decide) (Ok_neg (by decide) (Ok_some hr))
theorem yG2 (hT : TKE T N kd vl rv pl) (h : CX N kd vl pl Γ f w) {d : Nat} (hd : 5 ≤ d) : Ok (gG d 2 0 0 0 Γ) (xC N kd vl pl f w Γ) := by
  obtain ⟨d, rfl⟩ : ∃ e, d = e + 1 := ⟨d - 1, by omega⟩
  rw [q_gG_2]
  unfold F_X2_step
  rw [h.2.2.1]
  refine Ok_neg (by decide) ?_
  refine Ok_bind (Ok_mono (yG3 hT h (by omega)) (fun r hr => ?_))
  rw [hr.1.2.2.1, show F_X2_comparing (J 0) r.2 = some (-1, r.2) from rfl, Option.bind_some]
  exact Ok_neg (show ¬ ((-1 : Int32) = 46) by decide) (Ok_pos rfl (Ok_some hr))
theorem yG1 (hT : TKE T N kd vl rv pl) (h : CX N kd vl pl Γ f w) {d : Nat} (hd : 6 ≤ d) : Ok (gG d 1 0 0 0 Γ) (xC N kd vl pl f w Γ) := by
  obtain ⟨d, rfl⟩ : ∃ e, d = e + 1 := ⟨d - 1, by omega⟩
  rw [q_gG_1]
  unfold F_X2_both
  refine Ok_bind (Ok_mono (yG2 hT h (by omega)) (fun r hr => ?_))
  refine Ok_loop (P := fun s k => s = (0, r.2) ∧ k = 0) ?_ FU _ 0 (FU_gt (by omega)) ⟨rfl, rfl⟩
  rintro a s k ⟨rfl, rfl⟩ ih
  refine Ok_ite (fun _ => Ok_some hr) (fun _ => ?_)
  rw [show (216 : Int32) = J 216 from rfl, y_accept hr.1 (by omega), Option.bind_some]
  exact Ok_pos J0_eq (Ok_some hr)
theorem yG0 (hT : TKE T N kd vl rv pl) (h : CX N kd vl pl Γ f w) {d : Nat} (hd : 7 ≤ d) : Ok (gG d 0 0 0 0 Γ) (xC N kd vl pl f w Γ) := by
  obtain ⟨d, rfl⟩ : ∃ e, d = e + 1 := ⟨d - 1, by omega⟩
  rw [q_gG_0]
  unfold F_X2_expression
  refine Ok_bind (Ok_mono (yG1 hT h (by omega)) (fun r hr => ?_))
  refine Ok_loop (P := fun s k => s = (0, r.2) ∧ k = 0) ?_ FU _ 0 (FU_gt (by omega)) ⟨rfl, rfl⟩
  rintro a s k ⟨rfl, rfl⟩ ih
  refine Ok_ite (fun _ => Ok_some hr) (fun _ => ?_)
  rw [show (217 : Int32) = J 217 from rfl, y_accept hr.1 (by omega), Option.bind_some]
  exact Ok_pos J0_eq (Ok_some hr)
theorem CX_A6 {g : Nat → Int32} (h : CX N kd vl pl Γ f w) : CX N kd vl pl (cA' Γ 1 6 g) f w := ⟨⟨h.1.1, h.1.2⟩, h.2⟩
theorem cfP_A6 {g : Nat → Int32} : cfP Γ (cA' Γ 1 6 g) := ⟨fun r h _ _ => by simp only [cA_r, if_neg h], rfl, fun k hk => by simp only [cA_r, if_true, updA_s, if_neg hk], rfl, fr5_rfl⟩
theorem yG7 (hT : TKE T N kd vl rv pl) (h : CX N kd vl pl Γ f w) {d : Nat} (hd : 8 ≤ d) (x : Int32) : Ok (gG d 7 x 0 0 Γ) (xC N kd vl pl f w Γ) := by
  obtain ⟨d, rfl⟩ : ∃ e, d = e + 1 := ⟨d - 1, by omega⟩
  rw [q_gG_7]
  unfold F_X2_arguments
  refine Ok_bind (Ok_mono (y_deepen hT h) (fun r hr => ?_))
  refine Ok_bnd ?_
  have hend : ∀ (v : Int32) (Δ : HS), CX N kd vl pl Δ f w → cfP Γ Δ → Ok (bnd (cI' Δ 2 4 (((Δ 2).1 4) - 1)) fun σ_8 => (F_X2_need 41 σ_8).bind fun u_10 => bnd (cA' u_10.2 1 6 (g_put 16001 ((u_10.2 1).2.1 6) x v)) fun σ_12 => (F_X0_add_ 40 x σ_12).bind fun u_14 => bnd (mrg (fun j => j == 5) σ_12 u_14.2) fun σ_16 => some ((0 : Int32), σ_16)) (xC N kd vl pl f w Γ) := by
    intro v Δ hΔ hc
    refine Ok_bnd ?_
    refine Ok_bind (Ok_mono (y_need (c := 41) hT (CX_cop hΔ) (by omega)) (fun r2 hr2 => ?_))
    refine Ok_bnd ?_
    refine y_add3' (CX_A6 hr2.1) 40 x (g := fun _ σ_16 => some ((0 : Int32), σ_16)) (fun z Θ _ _ hΘ hc2 => Ok_some ⟨hΘ, ?_⟩)
    exact cfP_trans (cfP_trans hc (cfP_trans cfP_I2 hr2.2)) (cfP_trans cfP_A6 hc2)
  refine Ok_neg (by rw [hr.1.2.2.1]; decide) ?_
  refine Ok_bind (Ok_mono (yG0 hT hr.1 (by omega)) (fun r2 hr2 => ?_))
  refine Ok_loop (P := fun s k => s = (1, r2.2) ∧ k = 0) ?_ FU _ 0 (FU_gt (by omega)) ⟨rfl, rfl⟩
  rintro a s k ⟨rfl, rfl⟩ ih
  have hc2 := cfP_trans hr.2 hr2.2
  refine Ok_ite (fun _ => hend _ _ hr2.1 hc2) (fun _ => ?_)
  rw [show (44 : Int32) = J 44 from rfl, y_accept hr2.1 (by omega), Option.bind_some]
  exact Ok_pos J0_eq (hend _ _ hr2.1 hc2)
theorem yG8 (hT : TKE T N kd vl rv pl) (h : CX N kd vl pl Γ f w) {d : Nat} (hd : 8 ≤ d) : Ok (gG d 8 0 0 0 Γ) (xC N kd vl pl f w Γ) := by
  obtain ⟨d, rfl⟩ : ∃ e, d = e + 1 := ⟨d - 1, by omega⟩
  rw [q_gG_8]
  unfold F_X2_index
  refine Ok_bind (Ok_mono (y_deepen hT h) (fun r hr => ?_))
  refine Ok_bind (Ok_mono (yG0 hT hr.1 (by omega)) (fun r2 hr2 => ?_))
  refine Ok_bnd ?_
  refine Ok_bind (Ok_mono (y_need (c := 93) hT (CX_cop hr2.1) (by omega)) (fun r3 hr3 => ?_))
  exact Ok_some ⟨hr3.1, cfP_trans hr.2 (cfP_trans hr2.2 (cfP_trans cfP_I2 hr3.2))⟩
