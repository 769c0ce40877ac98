/-! let -/
variable {T N : Nat} {kd vl rv : Nat → Int} {pl : Nat → Nat}
theorem nmN_rX {σ : MS} {n a : Nat} : rX n σ (nmN kd rv pl σ n a) := by
  unfold nmN
  split
  · exact rX_trans rX_nod (rX_trans rX_psd (rX_mA (Nat.le_refl n)) (Nat.le_refl n)) (Nat.le_refl n)
  · exact rX_trans rX_nod (rX_trans rX_stp (rX_mA (Nat.le_refl n)) (Nat.le_refl n)) (Nat.le_refl n)
theorem nmN_rfP {σ : MS} {n a : Nat} : rfP σ (nmN kd rv pl σ n a) := by
  unfold nmN
  split
  · exact rfP_trans rfP_nod (rfP_trans rfP_psd (rfP_mA (by omega)))
  · exact rfP_trans rfP_nod (rfP_trans rfP_stp (rfP_mA (by omega)))
theorem nmN_RN (hT : TKE T N kd vl rv pl) {σ : MS} {a dp nn : Nat} (h : RN T kd vl rv pl σ a dp nn) (hk : kd a = 2) : RN T kd vl rv pl (nmN kd rv pl σ nn a) (a + 1) dp (nn + 1) := by
  unfold nmN
  rw [if_pos hk]
  exact RN_mA (RN_psd (RN_nod h 41 (pl a)) (TKE_lt hT h.2.2.2.2.2.2.1 (by omega) (by omega))) (by omega) (by omega) (by omega)
theorem nmN_RX {σ : MS} {a dp nn : Nat} (h : RN T kd vl rv pl σ a dp nn) (hk : kd a ≠ 2) : RX T kd vl rv pl (nmN kd rv pl σ nn a) (unf kd a) (pl a) (nn + 1) := by
  unfold nmN
  rw [if_neg hk]
  exact RX_mA (RX_stp (RN_nod h 41 (pl a))) (by omega) (by omega) (by omega)
theorem nmN_NMN {σ : MS} {n a : Nat} (hk : kd a = 2) : NMN rv pl (nmN kd rv pl σ n a) n a := by
  unfold nmN
  rw [if_pos hk]
  refine ⟨?_, ?_, ?_⟩
  · show upd _ _ _ _ = _; rw [upd_s, if_pos rfl]
  · show upd _ _ _ _ = _; rw [upd_s, if_pos rfl]
  · show upd _ _ _ _ = _; rw [upd_s, if_pos rfl]
/-- behind a fault, at the = -/
theorem se_stop (hT : TKE T N kd vl rv pl) {B a dp ln nn m : Nat} {σ0 : MS} {Γ0 : HS} (hB : B ≤ 38000) (hB5 : 6 ≤ B) (hn : nn < 39000) {f f' : Int} {w : Nat} {ρ : MS} {v : HS} {o : Int32} {k : Nat} (hk : k = 20 ∨ k = 21) (x1 : rXX T kd vl rv pl (B - 5) σ0 f w ρ) (x2 : yXX N kd vl pl Γ0 f' w v) (x3 : f = fxO kd f' w) (x4 : w ≤ T) : Ok2 ((F_X12_need 61 ρ).bind fun u_175 => (G_X12_expression u_175.2).bind fun u_177 => if J (nn : Nat) < 0 ∨ 40000 ≤ nn then none else bnd (mA u_177.2 k (upd (u_177.2.2 k) nn u_177.1)) fun σ_181 => (F_X12_need 59 σ_181).bind fun u_15 => some (J (nn : Nat), u_15.2)) ((F_X2_need 61 v).bind fun v1 => (G_X2_expression v1.2).bind fun u_29 => (F_X0_add_ o (J (m : Nat)) u_29.2).bind fun x => (bnd (mrg (fun j => j == 5) u_29.2 x.2) fun σ => some ((0 : Int32), σ)).bind fun u_49 => (F_X2_need 59 u_49.2).bind fun u_21 => some ((0 : Int32), u_21.2)) (StR T N kd vl rv pl 0 B σ0 Γ0 a dp ln nn) :=
  Ok2_bind (Ok2_sep (xx_need hT x1 61) (yy_need hT x2 (c := 61) (by omega)) (fun u v y1 y2 => sv_stop hT hB (by omega) hn hk y1 y2 x3 x4))
theorem st_l (hT : TKE T N kd vl rv pl) {B a dp ln nn : Nat} {σ0 ρ : MS} {Γ0 Δ : HS} (h : St0 T N kd vl rv pl B σ0 Γ0 a dp ln nn 21 ρ Δ) (hk : kd a = 242) : Ok2 ((F_X12_name ρ).bind fun u_188 => if J (nn : Nat) < 0 ∨ 40000 ≤ (J (nn : Nat)).toNatClampNeg then none else bnd (mA u_188.2 19 (upd (u_188.2.2 19) (J (nn : Nat)).toNatClampNeg u_188.1)) fun σ_192 => (F_X12_need 61 σ_192).bind fun u_194 => (G_X12_expression u_194.2).bind fun u_196 => if J (nn : Nat) < 0 ∨ 40000 ≤ (J (nn : Nat)).toNatClampNeg then none else bnd (mA u_196.2 20 (upd (u_196.2.2 20) (J (nn : Nat)).toNatClampNeg u_196.1)) fun σ_200 => (F_X12_need 59 σ_200).bind fun u_15 => some (J (nn : Nat), u_15.2)) ((F_X2_let Δ).bind fun u_49 => (F_X2_need 59 u_49.2).bind fun u_21 => some ((0 : Int32), u_21.2)) (StR T N kd vl rv pl 0 B σ0 Γ0 a dp ln nn) := by
  obtain ⟨h1, h2, h3, h4, h5, h6, h7, h8, h9, h10, h11, h12⟩ := h
  have h10' := h10
  unfold preS at h10'
  unfold F_X2_let
  rw [h2.2.1]
  rw [show (bnd (J ((a + 1 : Nat) : Int)) fun x_1 => (F_X2_need 2 Δ).bind fun u_3 => (F_X2_need 61 u_3.2).bind fun u_5 => (G_X2_expression u_5.2).bind fun u_7 => (F_X0_add_ 50 x_1 u_7.2).bind fun u_9 => bnd (mrg (fun j => j == 5) u_7.2 u_9.2) fun σ_11 => some ((0 : Int32), σ_11)) = ((F_X2_need 2 Δ).bind fun u_3 => (F_X2_need 61 u_3.2).bind fun u_5 => (G_X2_expression u_5.2).bind fun u_7 => (F_X0_add_ 50 (J ((a + 1 : Nat) : Int)) u_7.2).bind fun u_9 => bnd (mrg (fun j => j == 5) u_7.2 u_9.2) fun σ_11 => some ((0 : Int32), σ_11)) from rfl]
  simp only [Option.bind_assoc]
  have en := g_en (n := nn) (by omega)
  have en2 := (ng (n := nn) (by omega)).2
  rw [en2] at en
  simp only [en2]
  rw [r_name hT h1 (by omega), show F_X2_need 2 Δ = _ from c_need hT h2 (c := 2) (by omega)]
  refine Ok2_lsome (Ok2_rsome (Ok2_lneg en (Ok2_lbnd ?_)))
  dsimp only
  have f1 : rfP σ0 (mA (nmN kd rv pl ρ (nn + 1) (a + 1)) 19 (upd ((nmN kd rv pl ρ (nn + 1) (a + 1)).2 19) nn (J (nn + 1 : Nat)))) := rfP_trans h8 (rfP_trans nmN_rfP (rfP_mA (by omega)))
  have x1 : rX (nn + 1) ρ (nmN kd rv pl ρ (nn + 1) (a + 1)) := nmN_rX
  by_cases q : kd (a + 1) = 2
  · rw [if_pos q]
    have r1 := nmN_RN hT h1 q
    have haT := TKE_lt hT (show a + 1 ≤ T by omega) (by omega) (by omega)
    have r2 : RN T kd vl rv pl (mA (nmN kd rv pl ρ (nn + 1) (a + 1)) 19 (upd ((nmN kd rv pl ρ (nn + 1) (a + 1)).2 19) nn (J (nn + 1 : Nat)))) (a + 2) dp (nn + 2) := RN_mA r1 (by omega) (by omega) (by omega)
    have c2 := CN_cps hT h2 haT
    rw [show F_X12_need 61 (mA (nmN kd rv pl ρ (nn + 1) (a + 1)) 19 (upd ((nmN kd rv pl ρ (nn + 1) (a + 1)).2 19) nn (J (nn + 1 : Nat)))) = _ from r_need hT r2 (c := 61) (by decide), show F_X2_need 61 (cps kd Δ (a + 1)) = _ from c_need hT c2 (c := 61) (by omega)]
    refine Ok2_lsome (Ok2_rsome ?_)
    dsimp only
    by_cases q2 : kd (a + 2) = 61
    · rw [if_pos q2, if_pos q2]
      have haT2 := TKE_lt hT (show a + 2 ≤ T by omega) (by omega) (by omega)
      refine st_v hT (w := 21) (b := a + 3) (m := a + 1) (RN_psd r2 haT2) (CN_cps hT c2 haT2) ?_ ?_ ?_ ?_ ?_ ?_ ?_ ?_ ?_ h10 h11 (by omega) (Or.inl ⟨rfl, hk, q, q2, rfl, rfl⟩)
      · exact (x1 17 (by omega) (by omega) nn (by omega)).trans h3
      · show upd _ _ _ _ = _; rw [upd_s, if_pos rfl]
      · exact NMN_mA (j := 19) (v := J (nn + 1 : Nat)) (n := nn) (nmN_NMN (σ := ρ) (n := nn + 1) q) (by omega)
      · exact (x1 18 (by omega) (by omega) nn (by omega)).trans h4
      · exact (x1 22 (by omega) (by omega) nn (by omega)).trans h5
      · exact rX_trans h6 (rX_trans (rX_le x1 (by omega)) (rX_trans (rX_mA (Nat.le_refl nn)) rX_psd (Nat.le_refl nn)) (Nat.le_refl nn)) (Nat.le_refl nn)
      · exact cXt_trans h7 (cXt_trans cXt_cps cXt_cps (Nat.le_refl ln) (Nat.le_refl a)) (Nat.le_refl ln) (Nat.le_refl a)
      · exact rfP_trans f1 rfP_psd
      · exact cfP_trans h9 (cfP_trans cfP_cps cfP_cps)
    · rw [if_neg q2, if_neg q2]
      exact sv_stop hT (by omega) (by omega) (by omega) (Or.inl rfl) ⟨⟨nn + 2, RX_stp r2, by omega⟩, rfP_trans f1 rfP_stp⟩ ⟨CX_cfl c2 (Or.inl rfl), cfP_trans h9 (cfP_trans cfP_cps cfP_cfl)⟩ rfl (by omega)
  · rw [if_neg q]
    have r1 := nmN_RX h1 q
    exact se_stop hT (by omega) (by omega) (by omega) (Or.inl rfl) ⟨⟨nn + 2, RX_mA r1 (by omega) (by omega) (by omega), by omega⟩, f1⟩ ⟨CX_cfl h2 (Or.inl rfl), cfP_trans h9 cfP_cfl⟩ rfl (by omega)
