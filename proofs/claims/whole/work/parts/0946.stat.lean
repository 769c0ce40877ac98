/-! the reference's statement, by its key -/
variable {T N : Nat} {kd vl rv : Nat → Int} {pl : Nat → Nat}
theorem Ok2_le {α β γ : Type} {m : Option α} {a : α} {f : α → Option γ} {n : Option β} {Q : γ → β → Prop} (e : m = some a) (h : Ok2 (f a) n Q) : Ok2 (m.bind f) n Q := by rw [e]; exact h
theorem Ok2_re {α β γ : Type} {m : Option α} {a : α} {f : α → Option γ} {n : Option β} {Q : β → γ → Prop} (e : m = some a) (h : Ok2 n (f a) Q) : Ok2 n (m.bind f) Q := by rw [e]; exact h
theorem tk0 (hT : TKE T N kd vl rv pl) {σ : MS} {a dp nn : Nat} (h : RN T kd vl rv pl σ a dp nn) {k : Int} {c : Nat} (hc : c < 57) (hk : KRL.getD c 0 = k) (h0 : ¬ kd a = 200 + c) : F_X12_tookKey (J k) σ = some (J 0, σ) := by rw [r_tookKey hT h hc hk, if_neg h0]
theorem tk1 (hT : TKE T N kd vl rv pl) {σ : MS} {a dp nn : Nat} (h : RN T kd vl rv pl σ a dp nn) {k : Int} {c : Nat} (hc : c < 57) (hk : KRL.getD c 0 = k) (h0 : kd a = 200 + c) : F_X12_tookKey (J k) σ = some (J 1, psd σ a) := by rw [r_tookKey hT h hc hk, if_pos h0]
theorem ik0 (hT : TKE T N kd vl rv pl) {σ : MS} {a dp nn : Nat} (h : RN T kd vl rv pl σ a dp nn) {k : Int} {c : Nat} (hc : c < 57) (hk : KRL.getD c 0 = k) (h0 : ¬ kd a = 200 + c) : F_X12_isKey (J k) σ = some (J 0, σ) := by rw [r_isKey hT h hc hk, if_neg h0]
theorem ik1 (hT : TKE T N kd vl rv pl) {σ : MS} {a dp nn : Nat} (h : RN T kd vl rv pl σ a dp nn) {k : Int} {c : Nat} (hc : c < 57) (hk : KRL.getD c 0 = k) (h0 : kd a = 200 + c) : F_X12_isKey (J k) σ = some (J 1, σ) := by rw [r_isKey hT h hc hk, if_pos h0]
theorem rs_s (hT : TKE T N kd vl rv pl) {σ : MS} {a dp nn d : Nat} {n : HR} {Q : Int32 × MS → Int32 × HS → Prop} (h : RN T kd vl rv pl σ a dp nn) (hn : nn < 39990) (hk : kd a = 241) (g : Ok2 ((F_X12_telling (mA (psd (nod σ nn 30 (pl a)) a) 17 (upd ((nod σ nn 30 (pl a)).2 17) (J (nn : Nat)).toNatClampNeg 20))).bind fun u_207 => if J (nn : Nat) < 0 ∨ 40000 ≤ (J (nn : Nat)).toNatClampNeg then none else bnd (mA u_207.2 19 (upd (u_207.2.2 19) (J (nn : Nat)).toNatClampNeg u_207.1)) fun σ_211 => if J (nn : Nat) < 0 ∨ 40000 ≤ (J (nn : Nat)).toNatClampNeg then none else bnd (σ_211.2 19 (J (nn : Nat)).toNatClampNeg) fun x_215 => loopF (Br nn) FU (x_215, σ_211)) n Q) : Ok2 (F_X12_statement (gS d) σ) n Q := by
  have en := g_en (n := nn) (by omega)
  have r1 := RN_nod h 30 (pl a)
  have e : F_X12_node 30 (σ.2 8 (σ.1 25).toNatClampNeg) σ = some (J (nn : Nat), nod σ nn 30 (pl a)) := by rw [(rg hT h).2, (RN_at hT h).2.1]; exact r_node h.2.2.2.2.2.1 (by omega) 30 (pl a)
  unfold F_X12_statement
  refine Ok2_lbnd (Ok2_lneg (rg hT h).1 (Ok2_lbnd (Ok2_le e ?_)))
  refine Ok2_le (tk1 hT r1 (k := 35) (c := 41) (by omega) rfl (by omega)) (Ok2_lbnd (Ok2_lneg J1_ne ?_))
  refine Ok2_lneg en (Ok2_lbnd ?_)
  exact g
theorem rs_l (hT : TKE T N kd vl rv pl) {σ : MS} {a dp nn d : Nat} {n : HR} {Q : Int32 × MS → Int32 × HS → Prop} (h : RN T kd vl rv pl σ a dp nn) (hn : nn < 39990) (hk : kd a = 242) (g : Ok2 ((F_X12_name (mA (psd (nod σ nn 30 (pl a)) a) 17 (upd ((nod σ nn 30 (pl a)).2 17) (J (nn : Nat)).toNatClampNeg 21))).bind fun u_188 => if J (nn : Nat) < 0 ∨ 40000 ≤ (J (nn : Nat)).toNatClampNeg then none else bnd (mA u_188.2 19 (upd (u_188.2.2 19) (J (nn : Nat)).toNatClampNeg u_188.1)) fun σ_192 => (F_X12_need 61 σ_192).bind fun u_194 => (G_X12_expression u_194.2).bind fun u_196 => if J (nn : Nat) < 0 ∨ 40000 ≤ (J (nn : Nat)).toNatClampNeg then none else bnd (mA u_196.2 20 (upd (u_196.2.2 20) (J (nn : Nat)).toNatClampNeg u_196.1)) fun σ_200 => (F_X12_need 59 σ_200).bind fun u_15 => some (J (nn : Nat), u_15.2)) n Q) : Ok2 (F_X12_statement (gS d) σ) n Q := by
  have en := g_en (n := nn) (by omega)
  have r1 := RN_nod h 30 (pl a)
  have e : F_X12_node 30 (σ.2 8 (σ.1 25).toNatClampNeg) σ = some (J (nn : Nat), nod σ nn 30 (pl a)) := by rw [(rg hT h).2, (RN_at hT h).2.1]; exact r_node h.2.2.2.2.2.1 (by omega) 30 (pl a)
  unfold F_X12_statement
  refine Ok2_lbnd (Ok2_lneg (rg hT h).1 (Ok2_lbnd (Ok2_le e ?_)))
  refine Ok2_le (tk0 hT r1 (k := 35) (c := 41) (by omega) rfl (by omega)) (Ok2_lbnd (Ok2_lpos J0_eq ?_))
  refine Ok2_le (tk1 hT r1 (k := 19) (c := 42) (by omega) rfl (by omega)) (Ok2_lneg J1_ne ?_)
  refine Ok2_lneg en (Ok2_lbnd ?_)
  exact g
theorem rs_m (hT : TKE T N kd vl rv pl) {σ : MS} {a dp nn d : Nat} {n : HR} {Q : Int32 × MS → Int32 × HS → Prop} (h : RN T kd vl rv pl σ a dp nn) (hn : nn < 39990) (hk : kd a = 243) (g : Ok2 ((G_X12_expression (mA (psd (nod σ nn 30 (pl a)) a) 17 (upd ((nod σ nn 30 (pl a)).2 17) (J (nn : Nat)).toNatClampNeg 24))).bind fun u_169 => if J (nn : Nat) < 0 ∨ 40000 ≤ (J (nn : Nat)).toNatClampNeg then none else bnd (mA u_169.2 19 (upd (u_169.2.2 19) (J (nn : Nat)).toNatClampNeg u_169.1)) fun σ_173 => (F_X12_needKey 42 σ_173).bind fun u_175 => (G_X12_expression u_175.2).bind fun u_177 => if J (nn : Nat) < 0 ∨ 40000 ≤ (J (nn : Nat)).toNatClampNeg then none else bnd (mA u_177.2 20 (upd (u_177.2.2 20) (J (nn : Nat)).toNatClampNeg u_177.1)) fun σ_181 => (F_X12_need 59 σ_181).bind fun u_15 => some (J (nn : Nat), u_15.2)) n Q) : Ok2 (F_X12_statement (gS d) σ) n Q := by
  have en := g_en (n := nn) (by omega)
  have r1 := RN_nod h 30 (pl a)
  have e : F_X12_node 30 (σ.2 8 (σ.1 25).toNatClampNeg) σ = some (J (nn : Nat), nod σ nn 30 (pl a)) := by rw [(rg hT h).2, (RN_at hT h).2.1]; exact r_node h.2.2.2.2.2.1 (by omega) 30 (pl a)
  unfold F_X12_statement
  refine Ok2_lbnd (Ok2_lneg (rg hT h).1 (Ok2_lbnd (Ok2_le e ?_)))
  refine Ok2_le (tk0 hT r1 (k := 35) (c := 41) (by omega) rfl (by omega)) (Ok2_lbnd (Ok2_lpos J0_eq ?_))
  refine Ok2_le (tk0 hT r1 (k := 19) (c := 42) (by omega) rfl (by omega)) (Ok2_lpos J0_eq ?_)
  refine Ok2_le (tk1 hT r1 (k := 21) (c := 43) (by omega) rfl (by omega)) (Ok2_lneg J1_ne ?_)
  refine Ok2_lneg en (Ok2_lbnd ?_)
  exact g
theorem rs_r (hT : TKE T N kd vl rv pl) {σ : MS} {a dp nn d : Nat} {n : HR} {Q : Int32 × MS → Int32 × HS → Prop} (h : RN T kd vl rv pl σ a dp nn) (hn : nn < 39990) (hk : kd a = 245) (g : Ok2 ((G_X12_expression (mA (psd (nod σ nn 30 (pl a)) a) 17 (upd ((nod σ nn 30 (pl a)).2 17) (J (nn : Nat)).toNatClampNeg 25))).bind fun u_158 => if J (nn : Nat) < 0 ∨ 40000 ≤ (J (nn : Nat)).toNatClampNeg then none else bnd (mA u_158.2 19 (upd (u_158.2.2 19) (J (nn : Nat)).toNatClampNeg u_158.1)) fun σ_162 => (F_X12_need 59 σ_162).bind fun u_15 => some (J (nn : Nat), u_15.2)) n Q) : Ok2 (F_X12_statement (gS d) σ) n Q := by
  have en := g_en (n := nn) (by omega)
  have r1 := RN_nod h 30 (pl a)
  have e : F_X12_node 30 (σ.2 8 (σ.1 25).toNatClampNeg) σ = some (J (nn : Nat), nod σ nn 30 (pl a)) := by rw [(rg hT h).2, (RN_at hT h).2.1]; exact r_node h.2.2.2.2.2.1 (by omega) 30 (pl a)
  unfold F_X12_statement
  refine Ok2_lbnd (Ok2_lneg (rg hT h).1 (Ok2_lbnd (Ok2_le e ?_)))
  refine Ok2_le (tk0 hT r1 (k := 35) (c := 41) (by omega) rfl (by omega)) (Ok2_lbnd (Ok2_lpos J0_eq ?_))
  refine Ok2_le (tk0 hT r1 (k := 19) (c := 42) (by omega) rfl (by omega)) (Ok2_lpos J0_eq ?_)
  refine Ok2_le (tk0 hT r1 (k := 21) (c := 43) (by omega) rfl (by omega)) (Ok2_lpos J0_eq ?_)
  refine Ok2_le (tk1 hT r1 (k := 32) (c := 45) (by omega) rfl (by omega)) (Ok2_lneg J1_ne ?_)
  refine Ok2_lneg en (Ok2_lbnd ?_)
  exact g
theorem rs_set (hT : TKE T N kd vl rv pl) {σ : MS} {a dp nn d : Nat} {n : HR} {Q : Int32 × MS → Int32 × HS → Prop} (h : RN T kd vl rv pl σ a dp nn) (hn : nn < 39990) (hk : kd a = 246) (g : Ok2 ((G_X12_expression (mI (mA (mA (nod σ nn 30 (pl a)) 17 (upd ((nod σ nn 30 (pl a)).2 17) (J (nn : Nat)).toNatClampNeg 26)) 21 (upd ((mA (nod σ nn 30 (pl a)) 17 (upd ((nod σ nn 30 (pl a)).2 17) (J (nn : Nat)).toNatClampNeg 26)).2 21) (J (nn : Nat)).toNatClampNeg 1)) 25 ((mA (mA (nod σ nn 30 (pl a)) 17 (upd ((nod σ nn 30 (pl a)).2 17) (J (nn : Nat)).toNatClampNeg 26)) 21 (upd ((mA (nod σ nn 30 (pl a)) 17 (upd ((nod σ nn 30 (pl a)).2 17) (J (nn : Nat)).toNatClampNeg 26)).2 21) (J (nn : Nat)).toNatClampNeg 1)).1 25 + 1))).bind fun u_54 => if J (nn : Nat) < 0 ∨ 40000 ≤ (J (nn : Nat)).toNatClampNeg then none else bnd (mA u_54.2 19 (upd (u_54.2.2 19) (J (nn : Nat)).toNatClampNeg u_54.1)) fun σ_58 => (F_X12_attribute σ_58).bind fun u_60 => if J (nn : Nat) < 0 ∨ 40000 ≤ (J (nn : Nat)).toNatClampNeg then none else bnd (mA u_60.2 20 (upd (u_60.2.2 20) (J (nn : Nat)).toNatClampNeg u_60.1)) fun σ_64 => (F_X12_need 59 σ_64).bind fun u_15 => some (J (nn : Nat), u_15.2)) n Q) : Ok2 (F_X12_statement (gS d) σ) n Q := by
  have en := g_en (n := nn) (by omega)
  have r1 := RN_nod h 30 (pl a)
  have e : F_X12_node 30 (σ.2 8 (σ.1 25).toNatClampNeg) σ = some (J (nn : Nat), nod σ nn 30 (pl a)) := by rw [(rg hT h).2, (RN_at hT h).2.1]; exact r_node h.2.2.2.2.2.1 (by omega) 30 (pl a)
  unfold F_X12_statement
  refine Ok2_lbnd (Ok2_lneg (rg hT h).1 (Ok2_lbnd (Ok2_le e ?_)))
  refine Ok2_le (tk0 hT r1 (k := 35) (c := 41) (by omega) rfl (by omega)) (Ok2_lbnd (Ok2_lpos J0_eq ?_))
  refine Ok2_le (tk0 hT r1 (k := 19) (c := 42) (by omega) rfl (by omega)) (Ok2_lpos J0_eq ?_)
  refine Ok2_le (tk0 hT r1 (k := 21) (c := 43) (by omega) rfl (by omega)) (Ok2_lpos J0_eq ?_)
  refine Ok2_le (tk0 hT r1 (k := 32) (c := 45) (by omega) rfl (by omega)) (Ok2_lpos J0_eq ?_)
  refine Ok2_le (ik1 hT r1 (k := 37) (c := 46) (by omega) rfl (by omega)) (Ok2_lbnd (Ok2_lneg J1_ne ?_))
  refine Ok2_lneg en (Ok2_lbnd (Ok2_le (ik1 hT (RN_mA (m := 17) (g := upd ((nod σ nn 30 (pl a)).2 17) (J (nn : Nat)).toNatClampNeg 26) r1 (by omega) (by omega) (by omega)) (k := 37) (c := 46) (by omega) rfl (by omega)) (Ok2_lbnd (Ok2_lneg J1_ne (Ok2_lneg en (Ok2_lbnd (Ok2_lbnd ?_)))))))
  exact g
theorem rs_clr (hT : TKE T N kd vl rv pl) {σ : MS} {a dp nn d : Nat} {n : HR} {Q : Int32 × MS → Int32 × HS → Prop} (h : RN T kd vl rv pl σ a dp nn) (hn : nn < 39990) (hk : kd a = 247) (g : Ok2 ((G_X12_expression (mI (mA (mA (nod σ nn 30 (pl a)) 17 (upd ((nod σ nn 30 (pl a)).2 17) (J (nn : Nat)).toNatClampNeg 26)) 21 (upd ((mA (nod σ nn 30 (pl a)) 17 (upd ((nod σ nn 30 (pl a)).2 17) (J (nn : Nat)).toNatClampNeg 26)).2 21) (J (nn : Nat)).toNatClampNeg 0)) 25 ((mA (mA (nod σ nn 30 (pl a)) 17 (upd ((nod σ nn 30 (pl a)).2 17) (J (nn : Nat)).toNatClampNeg 26)) 21 (upd ((mA (nod σ nn 30 (pl a)) 17 (upd ((nod σ nn 30 (pl a)).2 17) (J (nn : Nat)).toNatClampNeg 26)).2 21) (J (nn : Nat)).toNatClampNeg 0)).1 25 + 1))).bind fun u_54 => if J (nn : Nat) < 0 ∨ 40000 ≤ (J (nn : Nat)).toNatClampNeg then none else bnd (mA u_54.2 19 (upd (u_54.2.2 19) (J (nn : Nat)).toNatClampNeg u_54.1)) fun σ_58 => (F_X12_attribute σ_58).bind fun u_60 => if J (nn : Nat) < 0 ∨ 40000 ≤ (J (nn : Nat)).toNatClampNeg then none else bnd (mA u_60.2 20 (upd (u_60.2.2 20) (J (nn : Nat)).toNatClampNeg u_60.1)) fun σ_64 => (F_X12_need 59 σ_64).bind fun u_15 => some (J (nn : Nat), u_15.2)) n Q) : Ok2 (F_X12_statement (gS d) σ) n Q := by
  have en := g_en (n := nn) (by omega)
  have r1 := RN_nod h 30 (pl a)
  have e : F_X12_node 30 (σ.2 8 (σ.1 25).toNatClampNeg) σ = some (J (nn : Nat), nod σ nn 30 (pl a)) := by rw [(rg hT h).2, (RN_at hT h).2.1]; exact r_node h.2.2.2.2.2.1 (by omega) 30 (pl a)
  unfold F_X12_statement
  refine Ok2_lbnd (Ok2_lneg (rg hT h).1 (Ok2_lbnd (Ok2_le e ?_)))
  refine Ok2_le (tk0 hT r1 (k := 35) (c := 41) (by omega) rfl (by omega)) (Ok2_lbnd (Ok2_lpos J0_eq ?_))
  refine Ok2_le (tk0 hT r1 (k := 19) (c := 42) (by omega) rfl (by omega)) (Ok2_lpos J0_eq ?_)
  refine Ok2_le (tk0 hT r1 (k := 21) (c := 43) (by omega) rfl (by omega)) (Ok2_lpos J0_eq ?_)
  refine Ok2_le (tk0 hT r1 (k := 32) (c := 45) (by omega) rfl (by omega)) (Ok2_lpos J0_eq ?_)
  refine Ok2_le (ik0 hT r1 (k := 37) (c := 46) (by omega) rfl (by omega)) (Ok2_lbnd (Ok2_lpos J0_eq ?_))
  refine Ok2_le (ik1 hT r1 (k := 38) (c := 47) (by omega) rfl (by omega)) (Ok2_lneg J1_ne ?_)
  refine Ok2_lneg en (Ok2_lbnd (Ok2_le (ik0 hT (RN_mA (m := 17) (g := upd ((nod σ nn 30 (pl a)).2 17) (J (nn : Nat)).toNatClampNeg 26) r1 (by omega) (by omega) (by omega)) (k := 37) (c := 46) (by omega) rfl (by omega)) (Ok2_lbnd (Ok2_lpos J0_eq (Ok2_lneg en (Ok2_lbnd (Ok2_lbnd ?_)))))))
  exact g
theorem rs_if (hT : TKE T N kd vl rv pl) {σ : MS} {a dp nn d : Nat} {n : HR} {Q : Int32 × MS → Int32 × HS → Prop} (h : RN T kd vl rv pl σ a dp nn) (hn : nn < 39990) (hk : kd a = 248) (g : Ok2 ((gS d 2 (J (nn : Nat)) 0 0 (mA (psd (nod σ nn 30 (pl a)) a) 17 (upd ((nod σ nn 30 (pl a)).2 17) (J (nn : Nat)).toNatClampNeg 27))).bind fun u_149 => some (J (nn : Nat), u_149.2)) n Q) : Ok2 (F_X12_statement (gS d) σ) n Q := by
  have en := g_en (n := nn) (by omega)
  have r1 := RN_nod h 30 (pl a)
  have e : F_X12_node 30 (σ.2 8 (σ.1 25).toNatClampNeg) σ = some (J (nn : Nat), nod σ nn 30 (pl a)) := by rw [(rg hT h).2, (RN_at hT h).2.1]; exact r_node h.2.2.2.2.2.1 (by omega) 30 (pl a)
  unfold F_X12_statement
  refine Ok2_lbnd (Ok2_lneg (rg hT h).1 (Ok2_lbnd (Ok2_le e ?_)))
  refine Ok2_le (tk0 hT r1 (k := 35) (c := 41) (by omega) rfl (by omega)) (Ok2_lbnd (Ok2_lpos J0_eq ?_))
  refine Ok2_le (tk0 hT r1 (k := 19) (c := 42) (by omega) rfl (by omega)) (Ok2_lpos J0_eq ?_)
  refine Ok2_le (tk0 hT r1 (k := 21) (c := 43) (by omega) rfl (by omega)) (Ok2_lpos J0_eq ?_)
  refine Ok2_le (tk0 hT r1 (k := 32) (c := 45) (by omega) rfl (by omega)) (Ok2_lpos J0_eq ?_)
  refine Ok2_le (ik0 hT r1 (k := 37) (c := 46) (by omega) rfl (by omega)) (Ok2_lbnd (Ok2_lpos J0_eq ?_))
  refine Ok2_le (ik0 hT r1 (k := 38) (c := 47) (by omega) rfl (by omega)) (Ok2_lpos J0_eq ?_)
  refine Ok2_le (tk1 hT r1 (k := 17) (c := 48) (by omega) rfl (by omega)) (Ok2_lneg J1_ne ?_)
  refine Ok2_lneg en (Ok2_lbnd ?_)
  exact g
theorem rs_wh (hT : TKE T N kd vl rv pl) {σ : MS} {a dp nn d : Nat} {n : HR} {Q : Int32 × MS → Int32 × HS → Prop} (h : RN T kd vl rv pl σ a dp nn) (hn : nn < 39990) (hk : kd a = 250) (g : Ok2 ((G_X12_expression (mA (psd (nod σ nn 30 (pl a)) a) 17 (upd ((nod σ nn 30 (pl a)).2 17) (J (nn : Nat)).toNatClampNeg 28))).bind fun u_132 => if J (nn : Nat) < 0 ∨ 40000 ≤ (J (nn : Nat)).toNatClampNeg then none else bnd (mA u_132.2 19 (upd (u_132.2.2 19) (J (nn : Nat)).toNatClampNeg u_132.1)) fun σ_136 => (gS d 0 0 0 0 σ_136).bind fun u_138 => if J (nn : Nat) < 0 ∨ 40000 ≤ (J (nn : Nat)).toNatClampNeg then none else bnd (mA u_138.2 20 (upd (u_138.2.2 20) (J (nn : Nat)).toNatClampNeg u_138.1)) fun σ_142 => some (J (nn : Nat), σ_142)) n Q) : Ok2 (F_X12_statement (gS d) σ) n Q := by
  have en := g_en (n := nn) (by omega)
  have r1 := RN_nod h 30 (pl a)
  have e : F_X12_node 30 (σ.2 8 (σ.1 25).toNatClampNeg) σ = some (J (nn : Nat), nod σ nn 30 (pl a)) := by rw [(rg hT h).2, (RN_at hT h).2.1]; exact r_node h.2.2.2.2.2.1 (by omega) 30 (pl a)
  unfold F_X12_statement
  refine Ok2_lbnd (Ok2_lneg (rg hT h).1 (Ok2_lbnd (Ok2_le e ?_)))
  refine Ok2_le (tk0 hT r1 (k := 35) (c := 41) (by omega) rfl (by omega)) (Ok2_lbnd (Ok2_lpos J0_eq ?_))
  refine Ok2_le (tk0 hT r1 (k := 19) (c := 42) (by omega) rfl (by omega)) (Ok2_lpos J0_eq ?_)
  refine Ok2_le (tk0 hT r1 (k := 21) (c := 43) (by omega) rfl (by omega)) (Ok2_lpos J0_eq ?_)
  refine Ok2_le (tk0 hT r1 (k := 32) (c := 45) (by omega) rfl (by omega)) (Ok2_lpos J0_eq ?_)
  refine Ok2_le (ik0 hT r1 (k := 37) (c := 46) (by omega) rfl (by omega)) (Ok2_lbnd (Ok2_lpos J0_eq ?_))
  refine Ok2_le (ik0 hT r1 (k := 38) (c := 47) (by omega) rfl (by omega)) (Ok2_lpos J0_eq ?_)
  refine Ok2_le (tk0 hT r1 (k := 17) (c := 48) (by omega) rfl (by omega)) (Ok2_lpos J0_eq ?_)
  refine Ok2_le (tk1 hT r1 (k := 48) (c := 50) (by omega) rfl (by omega)) (Ok2_lneg J1_ne ?_)
  refine Ok2_lneg en (Ok2_lbnd ?_)
  exact g
theorem rs_ret (hT : TKE T N kd vl rv pl) {σ : MS} {a dp nn d : Nat} {n : HR} {Q : Int32 × MS → Int32 × HS → Prop} (h : RN T kd vl rv pl σ a dp nn) (hn : nn < 39990) (hk : kd a = 251) (g : Ok2 ((G_X12_expression (mA (psd (nod σ nn 30 (pl a)) a) 17 (upd ((nod σ nn 30 (pl a)).2 17) (J (nn : Nat)).toNatClampNeg 29))).bind fun u_121 => if J (nn : Nat) < 0 ∨ 40000 ≤ (J (nn : Nat)).toNatClampNeg then none else bnd (mA u_121.2 19 (upd (u_121.2.2 19) (J (nn : Nat)).toNatClampNeg u_121.1)) fun σ_125 => (F_X12_need 59 σ_125).bind fun u_15 => some (J (nn : Nat), u_15.2)) n Q) : Ok2 (F_X12_statement (gS d) σ) n Q := by
  have en := g_en (n := nn) (by omega)
  have r1 := RN_nod h 30 (pl a)
  have e : F_X12_node 30 (σ.2 8 (σ.1 25).toNatClampNeg) σ = some (J (nn : Nat), nod σ nn 30 (pl a)) := by rw [(rg hT h).2, (RN_at hT h).2.1]; exact r_node h.2.2.2.2.2.1 (by omega) 30 (pl a)
  unfold F_X12_statement
  refine Ok2_lbnd (Ok2_lneg (rg hT h).1 (Ok2_lbnd (Ok2_le e ?_)))
  refine Ok2_le (tk0 hT r1 (k := 35) (c := 41) (by omega) rfl (by omega)) (Ok2_lbnd (Ok2_lpos J0_eq ?_))
  refine Ok2_le (tk0 hT r1 (k := 19) (c := 42) (by omega) rfl (by omega)) (Ok2_lpos J0_eq ?_)
  refine Ok2_le (tk0 hT r1 (k := 21) (c := 43) (by omega) rfl (by omega)) (Ok2_lpos J0_eq ?_)
  refine Ok2_le (tk0 hT r1 (k := 32) (c := 45) (by omega) rfl (by omega)) (Ok2_lpos J0_eq ?_)
  refine Ok2_le (ik0 hT r1 (k := 37) (c := 46) (by omega) rfl (by omega)) (Ok2_lbnd (Ok2_lpos J0_eq ?_))
  refine Ok2_le (ik0 hT r1 (k := 38) (c := 47) (by omega) rfl (by omega)) (Ok2_lpos J0_eq ?_)
  refine Ok2_le (tk0 hT r1 (k := 17) (c := 48) (by omega) rfl (by omega)) (Ok2_lpos J0_eq ?_)
  refine Ok2_le (tk0 hT r1 (k := 48) (c := 50) (by omega) rfl (by omega)) (Ok2_lpos J0_eq ?_)
  refine Ok2_le (tk1 hT r1 (k := 33) (c := 51) (by omega) rfl (by omega)) (Ok2_lneg J1_ne ?_)
  refine Ok2_lneg en (Ok2_lbnd ?_)
  exact g
theorem rs_done (hT : TKE T N kd vl rv pl) {σ : MS} {a dp nn d : Nat} {n : HR} {Q : Int32 × MS → Int32 × HS → Prop} (h : RN T kd vl rv pl σ a dp nn) (hn : nn < 39990) (hk : kd a = 252) (g : Ok2 ((F_X12_need 59 (mA (psd (nod σ nn 30 (pl a)) a) 17 (upd ((nod σ nn 30 (pl a)).2 17) (J (nn : Nat)).toNatClampNeg 30))).bind fun u_15 => some (J (nn : Nat), u_15.2)) n Q) : Ok2 (F_X12_statement (gS d) σ) n Q := by
  have en := g_en (n := nn) (by omega)
  have r1 := RN_nod h 30 (pl a)
  have e : F_X12_node 30 (σ.2 8 (σ.1 25).toNatClampNeg) σ = some (J (nn : Nat), nod σ nn 30 (pl a)) := by rw [(rg hT h).2, (RN_at hT h).2.1]; exact r_node h.2.2.2.2.2.1 (by omega) 30 (pl a)
  unfold F_X12_statement
  refine Ok2_lbnd (Ok2_lneg (rg hT h).1 (Ok2_lbnd (Ok2_le e ?_)))
  refine Ok2_le (tk0 hT r1 (k := 35) (c := 41) (by omega) rfl (by omega)) (Ok2_lbnd (Ok2_lpos J0_eq ?_))
  refine Ok2_le (tk0 hT r1 (k := 19) (c := 42) (by omega) rfl (by omega)) (Ok2_lpos J0_eq ?_)
  refine Ok2_le (tk0 hT r1 (k := 21) (c := 43) (by omega) rfl (by omega)) (Ok2_lpos J0_eq ?_)
  refine Ok2_le (tk0 hT r1 (k := 32) (c := 45) (by omega) rfl (by omega)) (Ok2_lpos J0_eq ?_)
  refine Ok2_le (ik0 hT r1 (k := 37) (c := 46) (by omega) rfl (by omega)) (Ok2_lbnd (Ok2_lpos J0_eq ?_))
  refine Ok2_le (ik0 hT r1 (k := 38) (c := 47) (by omega) rfl (by omega)) (Ok2_lpos J0_eq ?_)
  refine Ok2_le (tk0 hT r1 (k := 17) (c := 48) (by omega) rfl (by omega)) (Ok2_lpos J0_eq ?_)
  refine Ok2_le (tk0 hT r1 (k := 48) (c := 50) (by omega) rfl (by omega)) (Ok2_lpos J0_eq ?_)
  refine Ok2_le (tk0 hT r1 (k := 33) (c := 51) (by omega) rfl (by omega)) (Ok2_lpos J0_eq ?_)
  refine Ok2_le (tk1 hT r1 (k := 7) (c := 52) (by omega) rfl (by omega)) (Ok2_lneg J1_ne ?_)
  refine Ok2_lneg en (Ok2_lbnd ?_)
  exact g
theorem rs_win (hT : TKE T N kd vl rv pl) {σ : MS} {a dp nn d : Nat} {n : HR} {Q : Int32 × MS → Int32 × HS → Prop} (h : RN T kd vl rv pl σ a dp nn) (hn : nn < 39990) (hk : kd a = 253) (g : Ok2 ((F_X12_need 59 (mA (psd (nod σ nn 30 (pl a)) a) 17 (upd ((nod σ nn 30 (pl a)).2 17) (J (nn : Nat)).toNatClampNeg 31))).bind fun u_15 => some (J (nn : Nat), u_15.2)) n Q) : Ok2 (F_X12_statement (gS d) σ) n Q := by
  have en := g_en (n := nn) (by omega)
  have r1 := RN_nod h 30 (pl a)
  have e : F_X12_node 30 (σ.2 8 (σ.1 25).toNatClampNeg) σ = some (J (nn : Nat), nod σ nn 30 (pl a)) := by rw [(rg hT h).2, (RN_at hT h).2.1]; exact r_node h.2.2.2.2.2.1 (by omega) 30 (pl a)
  unfold F_X12_statement
  refine Ok2_lbnd (Ok2_lneg (rg hT h).1 (Ok2_lbnd (Ok2_le e ?_)))
  refine Ok2_le (tk0 hT r1 (k := 35) (c := 41) (by omega) rfl (by omega)) (Ok2_lbnd (Ok2_lpos J0_eq ?_))
  refine Ok2_le (tk0 hT r1 (k := 19) (c := 42) (by omega) rfl (by omega)) (Ok2_lpos J0_eq ?_)
  refine Ok2_le (tk0 hT r1 (k := 21) (c := 43) (by omega) rfl (by omega)) (Ok2_lpos J0_eq ?_)
  refine Ok2_le (tk0 hT r1 (k := 32) (c := 45) (by omega) rfl (by omega)) (Ok2_lpos J0_eq ?_)
  refine Ok2_le (ik0 hT r1 (k := 37) (c := 46) (by omega) rfl (by omega)) (Ok2_lbnd (Ok2_lpos J0_eq ?_))
  refine Ok2_le (ik0 hT r1 (k := 38) (c := 47) (by omega) rfl (by omega)) (Ok2_lpos J0_eq ?_)
  refine Ok2_le (tk0 hT r1 (k := 17) (c := 48) (by omega) rfl (by omega)) (Ok2_lpos J0_eq ?_)
  refine Ok2_le (tk0 hT r1 (k := 48) (c := 50) (by omega) rfl (by omega)) (Ok2_lpos J0_eq ?_)
  refine Ok2_le (tk0 hT r1 (k := 33) (c := 51) (by omega) rfl (by omega)) (Ok2_lpos J0_eq ?_)
  refine Ok2_le (tk0 hT r1 (k := 7) (c := 52) (by omega) rfl (by omega)) (Ok2_lpos J0_eq ?_)
  refine Ok2_le (tk1 hT r1 (k := 49) (c := 53) (by omega) rfl (by omega)) (Ok2_lneg J1_ne ?_)
  refine Ok2_lneg en (Ok2_lbnd ?_)
  exact g
theorem rs_lose (hT : TKE T N kd vl rv pl) {σ : MS} {a dp nn d : Nat} {n : HR} {Q : Int32 × MS → Int32 × HS → Prop} (h : RN T kd vl rv pl σ a dp nn) (hn : nn < 39990) (hk : kd a = 254) (g : Ok2 ((F_X12_need 59 (mA (psd (nod σ nn 30 (pl a)) a) 17 (upd ((nod σ nn 30 (pl a)).2 17) (J (nn : Nat)).toNatClampNeg 32))).bind fun u_15 => some (J (nn : Nat), u_15.2)) n Q) : Ok2 (F_X12_statement (gS d) σ) n Q := by
  have en := g_en (n := nn) (by omega)
  have r1 := RN_nod h 30 (pl a)
  have e : F_X12_node 30 (σ.2 8 (σ.1 25).toNatClampNeg) σ = some (J (nn : Nat), nod σ nn 30 (pl a)) := by rw [(rg hT h).2, (RN_at hT h).2.1]; exact r_node h.2.2.2.2.2.1 (by omega) 30 (pl a)
  unfold F_X12_statement
  refine Ok2_lbnd (Ok2_lneg (rg hT h).1 (Ok2_lbnd (Ok2_le e ?_)))
  refine Ok2_le (tk0 hT r1 (k := 35) (c := 41) (by omega) rfl (by omega)) (Ok2_lbnd (Ok2_lpos J0_eq ?_))
  refine Ok2_le (tk0 hT r1 (k := 19) (c := 42) (by omega) rfl (by omega)) (Ok2_lpos J0_eq ?_)
  refine Ok2_le (tk0 hT r1 (k := 21) (c := 43) (by omega) rfl (by omega)) (Ok2_lpos J0_eq ?_)
  refine Ok2_le (tk0 hT r1 (k := 32) (c := 45) (by omega) rfl (by omega)) (Ok2_lpos J0_eq ?_)
  refine Ok2_le (ik0 hT r1 (k := 37) (c := 46) (by omega) rfl (by omega)) (Ok2_lbnd (Ok2_lpos J0_eq ?_))
  refine Ok2_le (ik0 hT r1 (k := 38) (c := 47) (by omega) rfl (by omega)) (Ok2_lpos J0_eq ?_)
  refine Ok2_le (tk0 hT r1 (k := 17) (c := 48) (by omega) rfl (by omega)) (Ok2_lpos J0_eq ?_)
  refine Ok2_le (tk0 hT r1 (k := 48) (c := 50) (by omega) rfl (by omega)) (Ok2_lpos J0_eq ?_)
  refine Ok2_le (tk0 hT r1 (k := 33) (c := 51) (by omega) rfl (by omega)) (Ok2_lpos J0_eq ?_)
  refine Ok2_le (tk0 hT r1 (k := 7) (c := 52) (by omega) rfl (by omega)) (Ok2_lpos J0_eq ?_)
  refine Ok2_le (tk0 hT r1 (k := 49) (c := 53) (by omega) rfl (by omega)) (Ok2_lpos J0_eq ?_)
  refine Ok2_le (tk1 hT r1 (k := 20) (c := 54) (by omega) rfl (by omega)) (Ok2_lneg J1_ne ?_)
  refine Ok2_lneg en (Ok2_lbnd ?_)
  exact g
theorem rs_nam (hT : TKE T N kd vl rv pl) {σ : MS} {a dp nn d : Nat} {n : HR} {Q : Int32 × MS → Int32 × HS → Prop} (h : RN T kd vl rv pl σ a dp nn) (hn : nn < 39990) (hk : ¬ (kd a = 241 ∨ kd a = 242 ∨ kd a = 243 ∨ kd a = 245 ∨ kd a = 246 ∨ kd a = 247 ∨ kd a = 248 ∨ kd a = 250 ∨ kd a = 251 ∨ kd a = 252 ∨ kd a = 253 ∨ kd a = 254)) (g : Ok2 ((F_X12_named (J (nn : Nat)) (nod σ nn 30 (pl a))).bind fun u_99 => (F_X12_need 59 u_99.2).bind fun u_15 => some (J (nn : Nat), u_15.2)) n Q) : Ok2 (F_X12_statement (gS d) σ) n Q := by
  have en := g_en (n := nn) (by omega)
  have r1 := RN_nod h 30 (pl a)
  have e : F_X12_node 30 (σ.2 8 (σ.1 25).toNatClampNeg) σ = some (J (nn : Nat), nod σ nn 30 (pl a)) := by rw [(rg hT h).2, (RN_at hT h).2.1]; exact r_node h.2.2.2.2.2.1 (by omega) 30 (pl a)
  unfold F_X12_statement
  refine Ok2_lbnd (Ok2_lneg (rg hT h).1 (Ok2_lbnd (Ok2_le e ?_)))
  refine Ok2_le (tk0 hT r1 (k := 35) (c := 41) (by omega) rfl (by omega)) (Ok2_lbnd (Ok2_lpos J0_eq ?_))
  refine Ok2_le (tk0 hT r1 (k := 19) (c := 42) (by omega) rfl (by omega)) (Ok2_lpos J0_eq ?_)
  refine Ok2_le (tk0 hT r1 (k := 21) (c := 43) (by omega) rfl (by omega)) (Ok2_lpos J0_eq ?_)
  refine Ok2_le (tk0 hT r1 (k := 32) (c := 45) (by omega) rfl (by omega)) (Ok2_lpos J0_eq ?_)
  refine Ok2_le (ik0 hT r1 (k := 37) (c := 46) (by omega) rfl (by omega)) (Ok2_lbnd (Ok2_lpos J0_eq ?_))
  refine Ok2_le (ik0 hT r1 (k := 38) (c := 47) (by omega) rfl (by omega)) (Ok2_lpos J0_eq ?_)
  refine Ok2_le (tk0 hT r1 (k := 17) (c := 48) (by omega) rfl (by omega)) (Ok2_lpos J0_eq ?_)
  refine Ok2_le (tk0 hT r1 (k := 48) (c := 50) (by omega) rfl (by omega)) (Ok2_lpos J0_eq ?_)
  refine Ok2_le (tk0 hT r1 (k := 33) (c := 51) (by omega) rfl (by omega)) (Ok2_lpos J0_eq ?_)
  refine Ok2_le (tk0 hT r1 (k := 7) (c := 52) (by omega) rfl (by omega)) (Ok2_lpos J0_eq ?_)
  refine Ok2_le (tk0 hT r1 (k := 49) (c := 53) (by omega) rfl (by omega)) (Ok2_lpos J0_eq ?_)
  refine Ok2_le (tk0 hT r1 (k := 20) (c := 54) (by omega) rfl (by omega)) (Ok2_lpos J0_eq ?_)
  exact g
