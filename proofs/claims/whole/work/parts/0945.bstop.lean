/-! blocks and what is behind if, behind a fault -/
variable {T N : Nat} {kd vl rv : Nat → Int} {pl : Nat → Nat}
theorem q_gS_0 (d : Nat) (σ : MS) : gS (d + 1) 0 0 0 0 σ = F_X12_block (gS d) σ := rfl
theorem q_gS_1 (d : Nat) (σ : MS) : gS (d + 1) 1 0 0 0 σ = F_X12_statement (gS d) σ := rfl
theorem q_gS_2 (d : Nat) (a : Int32) (σ : MS) : gS (d + 1) 2 a 0 0 σ = F_X12_iff (gS d) a σ := rfl
theorem q_gB_0 (d : Nat) (Γ : HS) : gB (d + 1) 0 0 0 0 Γ = F_X2_block (gB d) Γ := rfl
theorem q_gB_1 (d : Nat) (Γ : HS) : gB (d + 1) 1 0 0 0 Γ = F_X2_statement (gB d) Γ := rfl
theorem q_gB_2 (d : Nat) (Γ : HS) : gB (d + 1) 2 0 0 0 Γ = F_X2_ifStatement (gB d) Γ := rfl
theorem q_gB_3 (d : Nat) (Γ : HS) : gB (d + 1) 3 0 0 0 Γ = F_X2_whileStatement (gB d) Γ := rfl
theorem FU_1 : ∃ m, FU = m + 1 ∧ 5000 < m := ⟨FU - 1, by have := FU_gt (k := 6000) (by omega); omega, by have := FU_gt (k := 6000) (by omega); omega⟩
/-- the end of a block, behind a fault -/
theorem xx_bend (hT : TKE T N kd vl rv pl) {B : Nat} {σ0 σ : MS} {f : Int} {w : Nat} (h : rXX T kd vl rv pl B σ0 f w σ) (hB : B ≤ 38800) (v : Int32) : Ok ((F_X12_shut 125 σ).bind fun u_11 => (F_X12_node 34 0 u_11.2).bind fun u_13 => if u_13.1 < 0 ∨ 40000 ≤ u_13.1.toNatClampNeg then none else bnd (mA u_13.2 19 (upd (u_13.2.2 19) u_13.1.toNatClampNeg v)) fun σ_17 => some (u_13.1, σ_17)) fun u => rXX T kd vl rv pl (B + 1) σ0 f w u.2 ∧ ∃ y : Nat, u.1 = J y ∧ y ≤ B := by
  refine Ok_bind (Ok_mono (xx_shut hT h 125) (fun u hu => ?_))
  obtain ⟨⟨nn, a, b⟩, d⟩ := hu
  rw [show F_X12_node 34 0 u.2 = some (J (nn : Nat), nod u.2 nn 34 0) from r_node a.2.2.2.2.1 (by omega) 34 0, Option.bind_some, if_neg (g_en (by omega)), (ng (n := nn) (by omega)).2]
  exact Ok_some ⟨⟨⟨nn + 1, RX_mA (RX_nod a 34 0) (by omega) (by omega) (by omega), by omega⟩, rfP_trans d (rfP_trans rfP_nod (rfP_mA (by omega)))⟩, nn, rfl, b⟩
theorem xx_block (hT : TKE T N kd vl rv pl) {B : Nat} {σ0 σ : MS} {f : Int} {w : Nat} (h : rXX T kd vl rv pl B σ0 f w σ) (hB : B ≤ 38800) {d : Nat} (hd : 1 ≤ d) : Ok (gS d 0 0 0 0 σ) fun u => rXX T kd vl rv pl (B + 1) σ0 f w u.2 ∧ ∃ y : Nat, u.1 = J y ∧ y ≤ B := by
  obtain ⟨d, rfl⟩ : ∃ e, d = e + 1 := ⟨d - 1, by omega⟩
  obtain ⟨m, hm, -⟩ := FU_1
  rw [q_gS_0]
  unfold F_X12_block
  obtain ⟨⟨nn, a, b⟩, dd⟩ := h
  rw [x_open hT a, Option.bind_some, hm]
  show Ok (if (σ.1 27) = 0 then _ else _) _
  rw [if_neg (show ¬ σ.1 27 = 0 by rw [a.2.1]; exact J1_ne)]
  exact xx_bend hT ⟨⟨nn, a, b⟩, dd⟩ hB (-1)
theorem xx_iff (hT : TKE T N kd vl rv pl) {B : Nat} {σ0 σ : MS} {f : Int} {w : Nat} (h : rXX T kd vl rv pl B σ0 f w σ) (hB : B ≤ 38700) {d n : Nat} (hd : 2 ≤ d) (hn : n < 39990) : Ok (gS d 2 (J (n : Nat)) 0 0 σ) fun u => rXX T kd vl rv pl (B + 2) σ0 f w u.2 := by
  obtain ⟨d, rfl⟩ : ∃ e, d = e + 1 := ⟨d - 1, by omega⟩
  rw [q_gS_2]
  unfold F_X12_iff
  refine Ok_bind (Ok_mono (xx_expr hT h (by omega)) (fun u hu => ?_))
  refine Ok_neg (g_en (by omega)) (Ok_bnd ?_)
  refine Ok_bind (Ok_mono (xx_block hT (xx_mA hu (by omega)) (by omega) (by omega)) (fun v hv => ?_))
  refine Ok_neg (g_en (by omega)) (Ok_bnd ?_)
  obtain ⟨⟨n0, a, b⟩, dd⟩ := xx_mA (k := 20) (g := upd (v.2.2 20) (J (n : Nat)).toNatClampNeg v.1) hv.1 (by omega)
  rw [x_tookKey a, Option.bind_some, if_pos J0_eq]
  exact Ok_some ⟨⟨n0, a, b⟩, dd⟩
theorem yy_block (hT : TKE T N kd vl rv pl) {Γ0 Γ : HS} {f' : Int} {w : Nat} (h : yXX N kd vl pl Γ0 f' w Γ) {d : Nat} (hd : 1 ≤ d) : Ok (gB d 0 0 0 0 Γ) fun u => yXX N kd vl pl Γ0 f' w u.2 := by
  obtain ⟨d, rfl⟩ : ∃ e, d = e + 1 := ⟨d - 1, by omega⟩
  obtain ⟨m, hm, -⟩ := FU_1
  rw [q_gB_0]
  unfold F_X2_block
  refine Ok_bind (Ok_mono (y_open hT h.1 (c := 123) (by omega)) (fun u hu => ?_))
  rw [hm]
  have key : Ok ((F_X2_shut 125 u.2).bind fun u_11 => some ((0 : Int32), u_11.2)) fun u => yXX N kd vl pl Γ0 f' w u.2 := Ok_bind (Ok_mono (y_shut hT hu.1 (c := 125) (by omega)) (fun v hv => Ok_some ⟨hv.1, cfP_trans h.2 (cfP_trans hu.2 hv.2)⟩))
  show Ok (if ((u.2 1).1 2) ≤ 0 then _ else if ((u.2 2).1 3) = 125 then _ else if ((u.2 2).1 3) = 0 then _ else _) _
  refine Ok_ite (fun _ => key) (fun _ => Ok_ite (fun _ => key) (fun _ => ?_))
  rw [if_pos (show ((u.2 2).1 3) = 0 by rw [hu.1.2.2.1]; rfl)]
  exact key
theorem yy_add3_e {Γ0 Γ : HS} {f' : Int} {w : Nat} (h : yXX N kd vl pl Γ0 f' w Γ) (o v : Int32) : ∃ (z : Int) (Δ : HS), F_X0_add_ o v Γ = some (J z, Δ) ∧ -2 ≤ z ∧ z ≤ 40000 ∧ mrg (fun j => j == 5) Γ Δ = Δ ∧ yXX N kd vl pl Γ0 f' w Δ := by
  obtain ⟨m, em, h5, hl, z, ez, z1, z2⟩ := y_add3 o v (CX_len h.1)
  exact ⟨z, m.2, by rw [em, ← ez], z1, z2, mrg5 h5, CX_5 h.1 h5 hl, cfP_trans h.2 (cfP_5 h5)⟩
theorem yy_add_e {Γ0 Γ : HS} {f' : Int} {w : Nat} (h : yXX N kd vl pl Γ0 f' w Γ) (o : Int32) : ∃ (x : Int32) (Δ : HS), F_X0_add o Γ = some (x, Δ) ∧ mrg (fun j => j == 5) Γ Δ = Δ ∧ yXX N kd vl pl Γ0 f' w Δ := by
  obtain ⟨m, em, h5, hl⟩ := y_add o (CX_len h.1)
  exact ⟨m.1, m.2, em, mrg5 h5, CX_5 h.1 h5 hl, cfP_trans h.2 (cfP_5 h5)⟩
theorem yy_aim_e {Γ0 Γ : HS} {f' : Int} {w : Nat} (h : yXX N kd vl pl Γ0 f' w Γ) {z : Int} (z1 : -2 ≤ z) (z2 : z ≤ 40000) : ∃ (x : Int32) (Δ : HS), F_X0_aim (J z) Γ = some (x, Δ) ∧ mrg (fun j => j == 5) Γ Δ = Δ ∧ yXX N kd vl pl Γ0 f' w Δ := by
  obtain ⟨m, em, h5, hl⟩ := y_aim (Γ := Γ) z1 z2
  obtain ⟨l, l1, l2⟩ := CX_len h.1
  exact ⟨m.1, m.2, em, mrg5 h5, CX_5 h.1 h5 ⟨l, l1, by rw [hl]; exact l2⟩, cfP_trans h.2 (cfP_5 h5)⟩
theorem yy_if (hT : TKE T N kd vl rv pl) {Γ0 Γ : HS} {f' : Int} {w : Nat} (h : yXX N kd vl pl Γ0 f' w Γ) {d : Nat} (hd : 2 ≤ d) : Ok (gB d 2 0 0 0 Γ) fun u => yXX N kd vl pl Γ0 f' w u.2 := by
  obtain ⟨d, rfl⟩ : ∃ e, d = e + 1 := ⟨d - 1, by omega⟩
  rw [q_gB_2]
  unfold F_X2_ifStatement
  refine Ok_bind (Ok_mono (yy_expr hT h) (fun u hu => ?_))
  obtain ⟨z, Δ, e1, z1, z2, e2, hΔ⟩ := yy_add3_e hu 42 0
  rw [e1, Option.bind_some]
  refine Ok_bnd ?_
  rw [e2]
  refine Ok_bind (Ok_mono (yy_block hT hΔ (by omega)) (fun v hv => ?_))
  rw [show F_X2_accept 249 v.2 = _ from y_accept hv.1 (c := 249) (by omega), Option.bind_some]
  refine Ok_pos J0_eq ?_
  obtain ⟨x, Θ, e3, e4, hΘ⟩ := yy_aim_e hv z1 z2
  dsimp only
  rw [e3, Option.bind_some]
  refine Ok_bnd (Ok_some ?_)
  rw [e4]; exact hΘ
theorem yy_while (hT : TKE T N kd vl rv pl) {Γ0 Γ : HS} {f' : Int} {w : Nat} (h : yXX N kd vl pl Γ0 f' w Γ) {d : Nat} (hd : 2 ≤ d) : Ok (gB d 3 0 0 0 Γ) fun u => yXX N kd vl pl Γ0 f' w u.2 := by
  obtain ⟨d, rfl⟩ : ∃ e, d = e + 1 := ⟨d - 1, by omega⟩
  rw [q_gB_3]
  unfold F_X2_whileStatement
  refine Ok_bnd ?_
  refine Ok_bind (Ok_mono (yy_expr hT h) (fun u hu => ?_))
  obtain ⟨z, Δ, e1, z1, z2, e2, hΔ⟩ := yy_add3_e hu 42 0
  rw [e1, Option.bind_some]
  refine Ok_bnd ?_
  rw [e2]
  obtain ⟨x, Θ, e3, e4, hΘ⟩ := yy_add_e hΔ 3
  rw [e3, Option.bind_some]
  refine Ok_bnd ?_
  rw [e4]
  refine Ok_bind (Ok_mono (yy_block hT hΘ (by omega)) (fun v hv => ?_))
  obtain ⟨z', Ξ, e5, -, -, e6, hΞ⟩ := yy_add3_e hv 41 ((Γ 5).1 1)
  rw [e5, Option.bind_some]
  refine Ok_bnd ?_
  rw [e6]
  obtain ⟨x2, Ψ, e7, e8, hΨ⟩ := yy_aim_e hΞ z1 z2
  dsimp only
  rw [e7, Option.bind_some]
  refine Ok_bnd (Ok_some ?_)
  rw [e8]; exact hΨ
