/-! what begins with a NAME -/
variable {T N : Nat} {kd vl rv : Nat → Int} {pl : Nat → Nat}
def nm2 (kd rv : Nat → Int) (pl : Nat → Nat) (σ : MS) (nn a : Nat) : MS := mA (nmN kd rv pl σ (nn + 1) a) 19 (upd ((nmN kd rv pl σ (nn + 1) a).2 19) nn (J (nn + 1 : Nat)))
theorem nm2_rX {σ : MS} {n a : Nat} : rX n σ (nm2 kd rv pl σ n a) := rX_trans (rX_le (nmN_rX (n := n + 1)) (Nat.le_succ n)) (rX_mA (Nat.le_refl n)) (Nat.le_refl n)
theorem nm2_rfP {σ : MS} {n a : Nat} : rfP σ (nm2 kd rv pl σ n a) := rfP_trans nmN_rfP (rfP_mA (by omega))
theorem nm2_RN (hT : TKE T N kd vl rv pl) {σ : MS} {a dp nn : Nat} (h : RN T kd vl rv pl σ a dp (nn + 1)) (hk : kd a = 2) : RN T kd vl rv pl (nm2 kd rv pl σ nn a) (a + 1) dp (nn + 2) := RN_mA (nmN_RN hT h hk) (by omega) (by omega) (by omega)
theorem nm2_RX {σ : MS} {a dp nn : Nat} (h : RN T kd vl rv pl σ a dp (nn + 1)) (hk : kd a ≠ 2) : RX T kd vl rv pl (nm2 kd rv pl σ nn a) (unf kd a) (pl a) (nn + 2) := RX_mA (nmN_RX h hk) (by omega) (by omega) (by omega)
theorem nm2_NMN {σ : MS} {n a : Nat} (hk : kd a = 2) : NMN rv pl (nm2 kd rv pl σ n a) (n + 1) a := NMN_mA (nmN_NMN (σ := σ) (n := n + 1) hk) (by omega)
theorem nm2_A {σ : MS} {n a j : Nat} (hj : j = 17 ∨ j = 18 ∨ j = 22) : (nm2 kd rv pl σ n a).2 j n = σ.2 j n := by
  have x : rX (n + 1) σ (nmN kd rv pl σ (n + 1) a) := nmN_rX
  unfold nm2
  rw [mA_2, if_neg (by omega)]
  exact x j (by omega) (by omega) n (by omega)
theorem nm2_19 {σ : MS} {n a : Nat} : (nm2 kd rv pl σ n a).2 19 n = J (n + 1 : Nat) := by
  unfold nm2; rw [mA_2, if_pos rfl, upd_s, if_pos rfl]
/-- where a statement's words begin to be read, no key there -/
def St1 (T N : Nat) (kd vl rv : Nat → Int) (pl : Nat → Nat) (B : Nat) (σ0 : MS) (Γ0 : HS) (a dp ln nn : Nat) (ρ : MS) (Δ : HS) : Prop := RN T kd vl rv pl ρ a dp (nn + 1) ∧ CN T N kd vl pl Δ a dp ln ∧ ρ.2 18 nn = J (pl a) ∧ ρ.2 22 nn = J (-1) ∧ rX nn σ0 ρ ∧ cXt ln a Γ0 Δ ∧ rfP σ0 ρ ∧ cfP Γ0 Δ ∧ preS T B a dp ln nn ∧ dp ≤ 30
theorem rn_v (hT : TKE T N kd vl rv pl) {σ : MS} {a dp nn : Nat} (h : RN T kd vl rv pl σ a dp (nn + 1)) (hn : nn < 39000) (hk : kd a = 2) (hk1 : kd (a + 1) = 61) (K : MS → MR) : ((F_X12_named (J (nn : Nat)) σ).bind fun u => K u.2) = (G_X12_expression (mA (psd (nm2 kd rv pl σ nn a) (a + 1)) 17 (upd ((nm2 kd rv pl σ nn a).2 17) nn 22))).bind fun u => if J (nn : Nat) < 0 ∨ 40000 ≤ nn then none else bnd (mA u.2 20 (upd (u.2.2 20) nn u.1)) fun σ => K σ := by
  have en := g_en (n := nn) (by omega)
  have en2 := (ng (n := nn) (by omega)).2
  rw [en2] at en
  unfold F_X12_named
  rw [r_name hT h (by omega), Option.bind_some]
  simp only [bnd, en2, if_neg en]
  rw [show F_X12_took 61 (mA (nmN kd rv pl σ (nn + 1) a) 19 (upd ((nmN kd rv pl σ (nn + 1) a).2 19) nn (J (nn + 1 : Nat)))) = _ from r_took hT (nm2_RN hT h hk) (c := 61) (by decide), Option.bind_some, if_pos hk1, if_neg J1_ne, Option.bind_assoc]
  rfl
theorem rn_c (hT : TKE T N kd vl rv pl) {σ : MS} {a dp nn : Nat} (h : RN T kd vl rv pl σ a dp (nn + 1)) (hn : nn < 39000) (hk : kd a = 2) (hk1 : kd (a + 1) = 91) (K : MS → MR) : ((F_X12_named (J (nn : Nat)) σ).bind fun u => K u.2) = (F_X12_open 91 (mA (nm2 kd rv pl σ nn a) 17 (upd ((nm2 kd rv pl σ nn a).2 17) nn 23))).bind fun u_30 => (G_X12_expression u_30.2).bind fun u => if J (nn : Nat) < 0 ∨ 40000 ≤ nn then none else bnd (mA u.2 20 (upd (u.2.2 20) nn u.1)) fun σ => (F_X12_shut 93 σ).bind fun u_38 => (F_X12_need 61 u_38.2).bind fun u_40 => (G_X12_expression u_40.2).bind fun u_42 => if J (nn : Nat) < 0 ∨ 40000 ≤ nn then none else bnd (mA u_42.2 21 (upd (u_42.2.2 21) nn u_42.1)) fun σ => K σ := by
  have en := g_en (n := nn) (by omega)
  have en2 := (ng (n := nn) (by omega)).2
  rw [en2] at en
  unfold F_X12_named
  rw [r_name hT h (by omega), Option.bind_some]
  simp only [bnd, en2, if_neg en]
  rw [show F_X12_took 61 (mA (nmN kd rv pl σ (nn + 1) a) 19 (upd ((nmN kd rv pl σ (nn + 1) a).2 19) nn (J (nn + 1 : Nat)))) = _ from r_took hT (nm2_RN hT h hk) (c := 61) (by decide), Option.bind_some, if_neg (show ¬ kd (a + 1) = 61 by omega), if_pos J0_eq]
  dsimp only
  rw [show F_X12_isSign 91 (nm2 kd rv pl σ nn a) = _ from r_isSign hT (nm2_RN hT h hk) (c := 91) (by decide), Option.bind_some, if_pos hk1, if_neg J1_ne]
  simp only [Option.bind_assoc]
  rfl
theorem rn_a (hT : TKE T N kd vl rv pl) {σ : MS} {a dp nn : Nat} (h : RN T kd vl rv pl σ a dp (nn + 1)) (hn : nn < 39000) (hk : kd a = 2) (hk1 : kd (a + 1) ≠ 91) (hk2 : kd (a + 1) ≠ 61) (K : MS → MR) : ((F_X12_named (J (nn : Nat)) σ).bind fun u => K u.2) = (G_X12_arguments (mA (nm2 kd rv pl σ nn a) 17 (upd ((nm2 kd rv pl σ nn a).2 17) nn 33))).bind fun u => if J (nn : Nat) < 0 ∨ 40000 ≤ nn then none else bnd (mA u.2 20 (upd (u.2.2 20) nn u.1)) fun σ => K σ := by
  have en := g_en (n := nn) (by omega)
  have en2 := (ng (n := nn) (by omega)).2
  rw [en2] at en
  unfold F_X12_named
  rw [r_name hT h (by omega), Option.bind_some]
  simp only [bnd, en2, if_neg en]
  rw [show F_X12_took 61 (mA (nmN kd rv pl σ (nn + 1) a) 19 (upd ((nmN kd rv pl σ (nn + 1) a).2 19) nn (J (nn + 1 : Nat)))) = _ from r_took hT (nm2_RN hT h hk) (c := 61) (by decide), Option.bind_some, if_neg hk2, if_pos J0_eq]
  dsimp only
  rw [show F_X12_isSign 91 (nm2 kd rv pl σ nn a) = _ from r_isSign hT (nm2_RN hT h hk) (c := 91) (by decide), Option.bind_some, if_neg hk1, if_pos J0_eq]
  simp only [Option.bind_assoc]
  rfl
theorem rn_x (hT : TKE T N kd vl rv pl) {σ : MS} {a dp nn : Nat} (h : RN T kd vl rv pl σ a dp (nn + 1)) (hn : nn < 39000) (hk : kd a ≠ 2) (K : MS → MR) : ((F_X12_named (J (nn : Nat)) σ).bind fun u => K u.2) = (G_X12_arguments (mA (nm2 kd rv pl σ nn a) 17 (upd ((nm2 kd rv pl σ nn a).2 17) nn 33))).bind fun u => if J (nn : Nat) < 0 ∨ 40000 ≤ nn then none else bnd (mA u.2 20 (upd (u.2.2 20) nn u.1)) fun σ => K σ := by
  have en := g_en (n := nn) (by omega)
  have en2 := (ng (n := nn) (by omega)).2
  rw [en2] at en
  unfold F_X12_named
  rw [r_name hT h (by omega), Option.bind_some]
  simp only [bnd, en2, if_neg en]
  rw [show F_X12_took 61 (mA (nmN kd rv pl σ (nn + 1) a) 19 (upd ((nmN kd rv pl σ (nn + 1) a).2 19) nn (J (nn + 1 : Nat)))) = _ from x_took (nm2_RX h hk) 61, Option.bind_some, if_pos J0_eq]
  dsimp only
  rw [show F_X12_isSign 91 (nm2 kd rv pl σ nn a) = _ from x_isSign (nm2_RX h hk) 91, Option.bind_some, if_pos J0_eq]
  simp only [Option.bind_assoc]
  rfl
theorem args_n (hT : TKE T N kd vl rv pl) {σ : MS} {a dp nn : Nat} (h : RN T kd vl rv pl σ a dp nn) (hk : kd a ≠ 40) : G_X12_arguments σ = G_X12_arguments (stp σ (unf kd a) (pl a)) := by
  show gE (299 + 1) 8 0 0 0 σ = gE (299 + 1) 8 0 0 0 (stp σ (unf kd a) (pl a))
  rw [q_gE_8, q_gE_8]
  unfold F_X12_arguments
  rw [show F_X12_open 40 σ = _ from r_open_n hT h (c := 40) (by decide) hk, x_open hT (RX_stp h)]
/-- behind a fault: the end of a call -/
theorem sa_stop (hT : TKE T N kd vl rv pl) {B nn : Nat} {σ0 : MS} (hB : B ≤ 38000) (hB5 : 6 ≤ B) (hn : nn < 39000) {f : Int} {w : Nat} {ρ : MS} (x1 : rXX T kd vl rv pl (B - 5) σ0 f w ρ) : Ok ((G_X12_arguments ρ).bind fun u => if J (nn : Nat) < 0 ∨ 40000 ≤ nn then none else bnd (mA u.2 20 (upd (u.2.2 20) nn u.1)) fun σ => (F_X12_need 59 σ).bind fun u_15 => some (J (nn : Nat), u_15.2)) (fun u => rXX T kd vl rv pl B σ0 f w u.2 ∧ u.1 = J (nn : Nat)) := by
  have en := g_en (n := nn) (by omega)
  rw [(ng (n := nn) (by omega)).2] at en
  refine Ok_bind (Ok_mono (xx_args hT x1 (by omega)) (fun u hu => Ok_neg en (Ok_bnd ?_)))
  exact Ok_bind (Ok_mono (xx_need hT (xx_mA (xx_B hu (by omega)) (by omega)) 59) (fun u hu => Ok_some ⟨hu, rfl⟩))
theorem sn_x (hT : TKE T N kd vl rv pl) {B a dp ln nn : Nat} {σ0 ρ : MS} {Γ0 Δ : HS} (h : St1 T N kd vl rv pl B σ0 Γ0 a dp ln nn ρ Δ) (hk : kd a ≠ 2) : Ok2 ((F_X12_named (J (nn : Nat)) ρ).bind fun u_99 => (F_X12_need 59 u_99.2).bind fun u_15 => some (J (nn : Nat), u_15.2)) ((F_X2_fail 2 Δ).bind fun u_49 => (F_X2_need 59 u_49.2).bind fun u_21 => some ((0 : Int32), u_21.2)) (StR T N kd vl rv pl 0 B σ0 Γ0 a dp ln nn) := by
  obtain ⟨h1, h2, h3, h4, h5, h6, h7, h8, h9, h10⟩ := h
  unfold preS at h9
  have ha := h1.2.2.2.2.2.2.1
  rw [rn_x hT h1 (by omega) hk (fun σ => (F_X12_need 59 σ).bind fun u_15 => some (J (nn : Nat), u_15.2)), show F_X2_fail 2 Δ = _ from c_fail hT h2 2]
  refine Ok2_rsome ?_
  have x2 : yXX N kd vl pl Γ0 2 a (cfl N Δ 2 a) := ⟨CX_cfl h2 (Or.inl rfl), cfP_trans h8 cfP_cfl⟩
  refine Ok2_mono (stop2 (B := B) (sa_stop hT (by omega) (by omega) (by omega) ⟨⟨nn + 2, RX_mA (nm2_RX h1 hk) (by omega) (by omega) (by omega), by omega⟩, rfP_trans h7 (rfP_trans nm2_rfP (rfP_mA (by omega)))⟩) (f' := 2) (Ok_bind (Ok_mono (yy_need hT x2 (c := 59) (by omega)) (fun u hu => Ok_some hu))) rfl ha ⟨by omega, by omega⟩) (fun _ _ h => Or.inr h)
theorem sn_v (hT : TKE T N kd vl rv pl) {B a dp ln nn : Nat} {σ0 ρ : MS} {Γ0 Δ : HS} (h : St1 T N kd vl rv pl B σ0 Γ0 a dp ln nn ρ Δ) (hk : kd a = 2) (hk1 : kd (a + 1) = 61) : Ok2 ((F_X12_named (J (nn : Nat)) ρ).bind fun u_99 => (F_X12_need 59 u_99.2).bind fun u_15 => some (J (nn : Nat), u_15.2)) ((F_X2_named Δ).bind fun u_49 => (F_X2_need 59 u_49.2).bind fun u_21 => some ((0 : Int32), u_21.2)) (StR T N kd vl rv pl 0 B σ0 Γ0 a dp ln nn) := by
  obtain ⟨h1, h2, h3, h4, h5, h6, h7, h8, h9, h10⟩ := h
  have h9' := h9
  unfold preS at h9'
  have ha := h1.2.2.2.2.2.2.1
  have haT := TKE_lt hT ha (by omega) (by omega)
  have haT2 := TKE_lt hT (show a + 1 ≤ T by omega) (by omega) (by omega)
  have c1 := CN_cps hT h2 haT
  have r1 := nm2_RN hT h1 hk
  rw [rn_v hT h1 (by omega) hk hk1 (fun σ => (F_X12_need 59 σ).bind fun u_15 => some (J (nn : Nat), u_15.2))]
  unfold F_X2_named
  simp only [bnd]
  rw [h2.2.1, c_pass hT h2 haT, Option.bind_some, c1.2.2.1, hk1, if_neg (by decide), if_neg (by decide), show F_X2_need 61 (cps kd Δ a) = _ from c_need hT c1 (c := 61) (by omega), if_pos hk1, Option.bind_some]
  simp only [Option.bind_assoc]
  refine st_v hT (w := 22) (b := a + 2) (m := a) (RN_mA (RN_psd r1 haT2) (by omega) (by omega) (by omega)) (CN_cps hT c1 haT2) ?_ ?_ ?_ ?_ ?_ ?_ ?_ ?_ ?_ h9 h10 (by omega) (Or.inr ⟨rfl, hk, hk1, rfl, rfl⟩)
  · show upd _ _ _ _ = _; rw [upd_s, if_pos rfl]; rfl
  · exact nm2_19 (σ := ρ)
  · exact NMN_mA (j := 17) (v := 22) (n := nn) (nm2_NMN (σ := ρ) (n := nn) hk) (by omega)
  · exact (nm2_A (σ := ρ) (j := 18) (by omega)).trans h3
  · exact (nm2_A (σ := ρ) (j := 22) (by omega)).trans h4
  · exact rX_trans h5 (rX_trans nm2_rX (rX_trans rX_psd (rX_mA (σ := psd (nm2 kd rv pl ρ nn a) (a + 1)) (Nat.le_refl nn)) (Nat.le_refl nn)) (Nat.le_refl nn)) (Nat.le_refl nn)
  · exact cXt_trans h6 (cXt_trans cXt_cps cXt_cps (Nat.le_refl ln) (Nat.le_refl a)) (Nat.le_refl ln) (Nat.le_refl a)
  · exact rfP_trans h7 (rfP_trans nm2_rfP (rfP_trans rfP_psd (rfP_mA (by omega))))
  · exact cfP_trans h8 (cfP_trans cfP_cps cfP_cps)
