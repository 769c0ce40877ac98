/-! statements of a key and at most two expressions -/
variable {T N : Nat} {kd vl rv : Nat → Int} {pl : Nat → Nat}
theorem ps_d {O : Int32} (h : O = 4 ∨ O = 5 ∨ O = 6) (Δ : HS) : F_X2_plainStatement O Δ = (F_X0_add O Δ).bind fun u => bnd (mrg (fun j => j == 5) Δ u.2) fun σ => some ((0 : Int32), σ) := by
  unfold F_X2_plainStatement
  rcases h with rfl | rfl | rfl <;> simp only [bnd] <;> simp
theorem ps_e {O : Int32} (h : O = 22 ∨ O = 2) (Δ : HS) : F_X2_plainStatement O Δ = (G_X2_expression Δ).bind fun u_41 => (F_X0_add O u_41.2).bind fun u => bnd (mrg (fun j => j == 5) u_41.2 u.2) fun σ => some ((0 : Int32), σ) := by
  unfold F_X2_plainStatement
  rcases h with rfl | rfl <;> simp only [bnd] <;> simp
theorem ps_g {O : Int32} (h : O = 47 ∨ O = 48) (Δ : HS) : F_X2_plainStatement O Δ = (G_X2_expression Δ).bind fun u_41 => (F_X2_attribute O u_41.2).bind fun u_13 => some ((0 : Int32), u_13.2) := by
  unfold F_X2_plainStatement
  rcases h with rfl | rfl <;> simp only [bnd] <;> simp
theorem ps_m (Δ : HS) : F_X2_plainStatement 32 Δ = (G_X2_expression Δ).bind fun u_41 => (F_X2_need 244 u_41.2).bind fun u_27 => (G_X2_expression u_27.2).bind fun u_29 => (F_X0_add 32 u_29.2).bind fun u => bnd (mrg (fun j => j == 5) u_29.2 u.2) fun σ => some ((0 : Int32), σ) := by
  unfold F_X2_plainStatement
  simp only [bnd]; simp
/-- where a statement's words begin to be read, its key passed -/
def St0 (T N : Nat) (kd vl rv : Nat → Int) (pl : Nat → Nat) (B : Nat) (σ0 : MS) (Γ0 : HS) (a dp ln nn : Nat) (w : Int) (ρ : MS) (Δ : HS) : Prop := RN T kd vl rv pl ρ (a + 1) dp (nn + 1) ∧ CN T N kd vl pl Δ (a + 1) dp ln ∧ ρ.2 17 nn = J w ∧ ρ.2 18 nn = J (pl a) ∧ ρ.2 22 nn = J (-1) ∧ rX nn σ0 ρ ∧ cXt ln a Γ0 Δ ∧ rfP σ0 ρ ∧ cfP Γ0 Δ ∧ preS T B a dp ln nn ∧ dp ≤ 30 ∧ a < T
theorem g_en {n : Nat} (h : n < 40000) : ¬ (J (n : Int) < 0 ∨ 40000 ≤ (J (n : Int)).toNatClampNeg) := (ng h).1
theorem st_d (hT : TKE T N kd vl rv pl) {B a dp ln nn : Nat} {σ0 ρ : MS} {Γ0 Δ : HS} {w o : Int} {O : Int32} (hO : O = J o) (h : St0 T N kd vl rv pl B σ0 Γ0 a dp ln nn w ρ Δ) (hk : dTb (kd a) w o) : Ok2 ((F_X12_need 59 ρ).bind fun u_15 => some (J (nn : Nat), u_15.2)) ((F_X2_plainStatement O Δ).bind fun u_49 => (F_X2_need 59 u_49.2).bind fun u_21 => some ((0 : Int32), u_21.2)) (StR T N kd vl rv pl 0 B σ0 Γ0 a dp ln nn) := by
  obtain ⟨h1, h2, h3, h4, h5, h6, h7, h8, h9, h10, h11, h12⟩ := h
  unfold preS at h10
  have ho : o = 4 ∨ o = 5 ∨ o = 6 := by unfold dTb at hk; omega
  rw [ps_d (by rcases ho with rfl | rfl | rfl; exact Or.inl hO; exact Or.inr (Or.inl hO); exact Or.inr (Or.inr hO)), hO, c_add1 h2.2.2.2.2.2.1 (by omega) (by omega) (by omega), Option.bind_some]
  simp only [bnd]
  rw [mrg5 oth5_ca1, Option.bind_some]
  refine st_end hT h1 (CN_ca1 h2 (by omega)) ?_ h5 h4 (by omega) (by omega) (by omega) (by omega) (by omega) h6 (cXt_trans h7 (cXt_ca1 (Nat.le_refl ln)) (Nat.le_refl ln) (Nat.le_refl a)) h8 (cfP_trans h9 cfP_ca1) (by omega) (by omega)
  exact Or.inr (Or.inr (Or.inr (Or.inr (Or.inr (Or.inr (Or.inr (Or.inl ⟨w, o, hk, rfl, rfl, h3, op1_ca1⟩)))))))
theorem agN_mA19 {σ : MS} {n lo hi x : Nat} {v : Int32} {k : Nat} (hk : k = 19 ∨ k = 20 ∨ k = 21) (h : n < lo ∨ hi ≤ n) : agN lo hi x σ (mA σ k (upd (σ.2 k) n v)) := by
  intro y h1 h2
  have e : ∀ j, (mA σ k (upd (σ.2 k) n v)).2 j y = σ.2 j y := by
    intro j; rw [mA_2]
    by_cases q : j = k
    · rw [if_pos q, q, upd_s, if_neg (by omega)]
    · rw [if_neg q]
  exact ⟨e 17, e 18, e 19, fun _ => e 20, fun _ _ _ _ => e 21, fun _ => e 22⟩
theorem agC_ca1 {Γ : HS} {i j p q l : Nat} {o : Int} (h : q ≤ l) : agC i j p q Γ (ca1 Γ l o) := ⟨fun r _ r2 => (cXt_ca1 (a := 0) h).1 r r2, fun _ _ _ => rfl⟩
theorem agC_ca3 {Γ : HS} {i j p q l : Nat} {o v : Int} (h : q ≤ l) : agC i j p q Γ (ca3 Γ l o v) := ⟨fun r _ r2 => (cXt_ca3 (a := 0) h).1 r r2, fun _ _ _ => rfl⟩
theorem agC_rfl {Γ : HS} {i j p q : Nat} : agC i j p q Γ Γ := ⟨fun _ _ _ => rfl, fun _ _ _ => rfl⟩
theorem st_e (hT : TKE T N kd vl rv pl) {B a dp ln nn : Nat} {σ0 ρ : MS} {Γ0 Δ : HS} {w o : Int} {O : Int32} (hO : O = J o) (h : St0 T N kd vl rv pl B σ0 Γ0 a dp ln nn w ρ Δ) (hk : eTb (kd a) w o) : Ok2 ((G_X12_expression ρ).bind fun u_121 => if J (nn : Nat) < 0 ∨ 40000 ≤ (J (nn : Nat)).toNatClampNeg then none else bnd (mA u_121.2 19 (upd (u_121.2.2 19) (J (nn : Nat)).toNatClampNeg u_121.1)) fun σ_125 => (F_X12_need 59 σ_125).bind fun u_15 => some (J (nn : Nat), u_15.2)) ((F_X2_plainStatement O Δ).bind fun u_49 => (F_X2_need 59 u_49.2).bind fun u_21 => some ((0 : Int32), u_21.2)) (StR T N kd vl rv pl 0 B σ0 Γ0 a dp ln nn) := by
  obtain ⟨h1, h2, h3, h4, h5, h6, h7, h8, h9, h10, h11, h12⟩ := h
  unfold preS at h10
  have ho : o = 22 ∨ o = 2 := by unfold eTb at hk; omega
  rw [ps_e (by rcases ho with rfl | rfl; exact Or.inl hO; exact Or.inr hO), Option.bind_assoc]
  refine Ok2_bind (Ok2_mono (sG_expr hT (B := B - 10) h1 h2 (by unfold preE; omega) h11) ?_)
  rintro ⟨u1, u2⟩ ⟨v1, v2⟩ hr
  refine Ok2_lneg (g_en (by omega)) (Ok2_lbnd ?_)
  dsimp only
  rw [(ng (n := nn) (by omega)).2]
  rcases hr with ⟨h', a', ln2, nn2, y, e1, e2, e3, e4, e5, e6, e7, e8, e9, e10, e11⟩ | hs
  · dsimp only at e1 e2 e3 e4 e5 e8 e9 e10 e11
    subst e1
    have r := EXP_rng e5
    have ha' := e3.2.2.2.2.2.2.1
    rw [hO, c_add1 e4.2.2.2.2.2.1 (by omega) (by omega) (by omega), Option.bind_some]
    simp only [bnd]
    rw [mrg5 oth5_ca1, Option.bind_some]
    refine st_end hT (RN_mA e3 (by omega) (by omega) (by omega)) (CN_ca1 e4 (by omega)) ?_ ?_ ?_ (by omega) (by omega) (by omega) (by omega) (by omega) ?_ ?_ ?_ ?_ (by omega) (by omega)
    · refine Or.inr (Or.inr (Or.inr (Or.inr (Or.inr (Or.inl ⟨w, o, y, ln2, hk, rfl, ?_, ?_, op1_ca1, h', ?_, by omega⟩)))))
      · exact (e8 17 (by omega) (by omega) nn (by omega)).trans h3
      · show upd _ _ _ _ = _; rw [upd_s, if_pos rfl]
      · exact EXP_ag _ _ _ _ _ _ _ _ (agN_mA19 (Or.inl rfl) (Or.inl (by omega))) (agC_ca1 (Nat.le_refl _)) e5
    · exact (e8 22 (by omega) (by omega) nn (by omega)).trans h5
    · exact (e8 18 (by omega) (by omega) nn (by omega)).trans h4
    · exact rX_trans h6 (rX_trans (rX_le e8 (by omega)) (rX_mA (Nat.le_refl nn)) (Nat.le_refl nn)) (Nat.le_refl nn)
    · exact cXt_trans h7 (cXt_trans e9 (cXt_ca1 (show ln ≤ ln2 by omega)) (Nat.le_refl ln) (Nat.le_refl (a + 1))) (Nat.le_refl ln) (by omega)
    · exact rfP_trans h8 (rfP_trans e10 (rfP_mA (by omega)))
    · exact cfP_trans h9 (cfP_trans e11 cfP_ca1)
  · obtain ⟨f, f', w', x1, x2, x3, x4, -⟩ := of_SRes (SRes_mono hs h8 h9)
    have x1' := xx_mA (k := 19) (g := upd (u2.2 19) nn u1) x1 (by omega)
    refine Ok2_mono (stop2 (B := B) (st_stop hT (nn := nn) (xx_B x1' (by omega)) x2).1 (f' := f') ?_ x3 x4 ⟨by omega, by omega⟩) (fun _ _ h => Or.inr h)
    rw [Option.bind_assoc]
    exact yy_add x2 O (g := fun σ => (some ((0 : Int32), σ)).bind fun u_49 => (F_X2_need 59 u_49.2).bind fun u_21 => some ((0 : Int32), u_21.2)) (fun Θ hΘ => Ok_bind (Ok_some ((st_stop hT (nn := nn) x1' hΘ).2)))
