/-! let, and set of a variable -/
variable {T N : Nat} {kd vl rv : Nat → Int} {pl : Nat → Nat}
/-- behind a NAME's node -/
def nmN (kd rv : Nat → Int) (pl : Nat → Nat) (σ : MS) (n a : Nat) : MS := if kd a = 2 then mA (psd (nod σ n 41 (pl a)) a) 19 (upd ((nod σ n 41 (pl a)).2 19) n (J (rv a))) else mA (stp (nod σ n 41 (pl a)) (unf kd a) (pl a)) 19 (upd ((nod σ n 41 (pl a)).2 19) n (J 0))
theorem r_name (hT : TKE T N kd vl rv pl) {σ : MS} {a dp nn : Nat} (h : RN T kd vl rv pl σ a dp nn) (hn : nn < 39990) : F_X12_name σ = some (J (nn : Nat), nmN kd rv pl σ nn a) := by
  unfold F_X12_name
  simp only [bnd]
  rw [if_pos (by rw [h.2.2.2.1]; rfl), if_neg (rg hT h).1, (rg hT h).2, (RN_at hT h).2.1, show (41 : Int32) = J 41 from rfl, r_node h.2.2.2.2.2.1 (by omega), Option.bind_some, show (2 : Int32) = J 2 from rfl, r_needKind hT (RN_nod h 41 (pl a)) (Or.inl rfl), Option.bind_some, if_neg (g_en (by omega)), (ng (n := nn) (by omega)).2]
  unfold nmN
  by_cases q : kd a = 2
  · rw [if_pos q, if_pos q]
    dsimp only
    rw [show rvO kd vl rv a = rv a by unfold rvO; rw [if_pos q]]
    rfl
  · rw [if_neg q, if_neg q]; rfl
theorem xx_name (hT : TKE T N kd vl rv pl) {B : Nat} {σ0 σ : MS} {f : Int} {w : Nat} (h : rXX T kd vl rv pl B σ0 f w σ) (hB : B ≤ 38900) : Ok (F_X12_name σ) fun u => rXX T kd vl rv pl (B + 1) σ0 f w u.2 ∧ ∃ y : Nat, u.1 = J y ∧ y ≤ B := by
  obtain ⟨⟨nn, a, b⟩, d⟩ := h
  unfold F_X12_name
  simp only [bnd]
  rw [if_neg (by rw [a.2.1]; exact J1_ne), show F_X12_node 41 0 σ = some (J (nn : Nat), nod σ nn 41 0) from r_node a.2.2.2.2.1 (by omega) 41 0, Option.bind_some, x_needKind hT (RX_nod a 41 0), Option.bind_some, if_neg (g_en (by omega)), (ng (n := nn) (by omega)).2]
  exact Ok_some ⟨⟨⟨nn + 1, RX_mA (RX_nod a 41 0) (by omega) (by omega) (by omega), by omega⟩, rfP_trans d (rfP_trans rfP_nod (rfP_mA (by omega)))⟩, nn, rfl, b⟩
theorem NMN_rX {σ τ : MS} {m y k : Nat} (h : NMN rv pl σ y k) (hr : rX m σ τ) (hy : y < m) : NMN rv pl τ y k := ⟨(hr 17 (by omega) (by omega) y hy).trans h.1, (hr 18 (by omega) (by omega) y hy).trans h.2.1, (hr 19 (by omega) (by omega) y hy).trans h.2.2⟩
theorem NMN_mA {σ : MS} {n y k j : Nat} {v : Int32} (h : NMN rv pl σ y k) (hy : y ≠ n) : NMN rv pl (mA σ j (upd (σ.2 j) n v)) y k := by
  have e : ∀ i, (mA σ j (upd (σ.2 j) n v)).2 i y = σ.2 i y := by
    intro i; rw [mA_2]
    by_cases q : i = j
    · rw [if_pos q, q, upd_s, if_neg hy]
    · rw [if_neg q]
  exact ⟨by rw [e]; exact h.1, by rw [e]; exact h.2.1, by rw [e]; exact h.2.2⟩
/-- behind a fault, at the value -/
theorem sv_stop (hT : TKE T N kd vl rv pl) {B a dp ln nn m : Nat} {σ0 : MS} {Γ0 : HS} (hB : B ≤ 38000) (hB5 : 5 ≤ B) (hn : nn < 39000) {f f' : Int} {w : Nat} {ρ : MS} {v : HS} {o : Int32} {k : Nat} (hk : k = 20 ∨ k = 21) (x1 : rXX T kd vl rv pl (B - 5) σ0 f w ρ) (x2 : yXX N kd vl pl Γ0 f' w v) (x3 : f = fxO kd f' w) (x4 : w ≤ T) : Ok2 ((G_X12_expression ρ).bind fun u_177 => if J (nn : Nat) < 0 ∨ 40000 ≤ nn then none else bnd (mA u_177.2 k (upd (u_177.2.2 k) nn u_177.1)) fun σ_181 => (F_X12_need 59 σ_181).bind fun u_15 => some (J (nn : Nat), u_15.2)) ((G_X2_expression v).bind fun u_29 => (F_X0_add_ o (J (m : Nat)) u_29.2).bind fun x => (bnd (mrg (fun j => j == 5) u_29.2 x.2) fun σ => some ((0 : Int32), σ)).bind fun u_49 => (F_X2_need 59 u_49.2).bind fun u_21 => some ((0 : Int32), u_21.2)) (StR T N kd vl rv pl 0 B σ0 Γ0 a dp ln nn) := by
  have en := g_en (n := nn) (by omega)
  rw [(ng (n := nn) (by omega)).2] at en
  refine Ok2_bind (Ok2_sep (xx_expr hT x1 (by omega)) (yy_expr hT x2) (fun u v y1 y2 => ?_))
  have x1' := xx_mA (k := k) (g := upd (u.2.2 k) nn u.1) y1 (by omega)
  refine Ok2_lneg en (Ok2_lbnd ?_)
  refine Ok2_mono (stop2 (B := B) (st_stop hT (nn := nn) (xx_B x1' (by omega)) y2).1 (f' := f') ?_ x3 x4 ⟨by omega, by omega⟩) (fun _ _ h => Or.inr h)
  exact yy_add3 y2 o (J (m : Nat)) (g := fun _ σ => (some ((0 : Int32), σ)).bind fun u_49 => (F_X2_need 59 u_49.2).bind fun u_21 => some ((0 : Int32), u_21.2)) (fun _ Θ _ _ hΘ => Ok_bind (Ok_some ((st_stop hT (nn := nn) x1' hΘ).2)))
/-- what is set, at the value -/
def vTb (kd : Nat → Int) (w : Int) (a b m : Nat) : Prop := (w = 21 ∧ kd a = 242 ∧ kd (a + 1) = 2 ∧ kd (a + 2) = 61 ∧ b = a + 3 ∧ m = a + 1) ∨ (w = 22 ∧ kd a = 2 ∧ kd (a + 1) = 61 ∧ b = a + 2 ∧ m = a)
theorem st_v (hT : TKE T N kd vl rv pl) {B a b dp ln nn m : Nat} {σ0 ρ : MS} {Γ0 Δ : HS} {w : Int} (h1 : RN T kd vl rv pl ρ b dp (nn + 2)) (h2 : CN T N kd vl pl Δ b dp ln) (h3 : ρ.2 17 nn = J w) (h3b : ρ.2 19 nn = J (nn + 1 : Nat)) (h3c : NMN rv pl ρ (nn + 1) m) (h4 : ρ.2 18 nn = J (pl a)) (h5 : ρ.2 22 nn = J (-1)) (h6 : rX nn σ0 ρ) (h7 : cXt ln a Γ0 Δ) (h8 : rfP σ0 ρ) (h9 : cfP Γ0 Δ) (h10 : preS T B a dp ln nn) (h11 : dp ≤ 30) (hb : b ≤ T) (hw : vTb kd w a b m) : Ok2 ((G_X12_expression ρ).bind fun u_177 => if J (nn : Nat) < 0 ∨ 40000 ≤ nn then none else bnd (mA u_177.2 20 (upd (u_177.2.2 20) nn u_177.1)) fun σ_181 => (F_X12_need 59 σ_181).bind fun u_15 => some (J (nn : Nat), u_15.2)) ((G_X2_expression Δ).bind fun u_29 => (F_X0_add_ 50 (J (m : Nat)) u_29.2).bind fun x => (bnd (mrg (fun j => j == 5) u_29.2 x.2) fun σ => some ((0 : Int32), σ)).bind fun u_49 => (F_X2_need 59 u_49.2).bind fun u_21 => some ((0 : Int32), u_21.2)) (StR T N kd vl rv pl 0 B σ0 Γ0 a dp ln nn) := by
  unfold preS at h10
  have en := g_en (n := nn) (by omega)
  have en2 := (ng (n := nn) (by omega)).2
  rw [en2] at en
  have hb2 : a + 2 ≤ b ∧ b ≤ a + 3 ∧ m < b := by unfold vTb at hw; omega
  refine Ok2_bind (Ok2_mono (sG_expr hT (B := B - 10) h1 h2 (by unfold preE; omega) h11) ?_)
  rintro ⟨u1, u2⟩ ⟨v1, v2⟩ hr
  refine Ok2_lneg en (Ok2_lbnd ?_)
  dsimp only
  rcases hr with ⟨h', k, ln2, nn2, y, e1, e2, e3, e4, e5, e6, e7, e8, e9, e10, e11⟩ | hs
  · dsimp only at e1 e2 e3 e4 e5 e8 e9 e10 e11
    subst e1
    have r := EXP_rng e5
    have ha' := e3.2.2.2.2.2.2.1
    rw [show (50 : Int32) = J 50 from rfl, c_add3 e4.2.2.2.2.2.1 (by omega) (by omega) (by omega), Option.bind_some]
    simp only [bnd]
    rw [mrg5 oth5_ca3, Option.bind_some]
    have c1 : NMN rv pl (mA u2 20 (upd (u2.2 20) nn (J (y : Nat)))) (nn + 1) m := NMN_mA (NMN_rX h3c e8 (by omega)) (by omega)
    have c2 : (mA u2 20 (upd (u2.2 20) nn (J (y : Nat)))).2 17 nn = J w := (e8 17 (by omega) (by omega) nn (by omega)).trans h3
    have c3 : (mA u2 20 (upd (u2.2 20) nn (J (y : Nat)))).2 19 nn = J (nn + 1 : Nat) := (e8 19 (by omega) (by omega) nn (by omega)).trans h3b
    have c4 : (mA u2 20 (upd (u2.2 20) nn (J (y : Nat)))).2 20 nn = J (y : Nat) := by show upd _ _ _ _ = _; rw [upd_s, if_pos rfl]
    have c5 : EX kd vl rv pl (mA u2 20 (upd (u2.2 20) nn (J (y : Nat)))) (ca3 v2 ln2 50 (m : Nat)) (nn + 2) nn2 y b k ln ln2 := EX_c3 (EX_mA (EX_of e5 (by omega)) (Or.inr (Or.inl rfl)) (Or.inl (by omega))) (Nat.le_refl _)
    refine st_end hT (RN_mA e3 (by omega) (by omega) (by omega)) (CN_ca3 e4 (by omega)) ?_ ?_ ?_ (by omega) (by omega) (by omega) (by omega) (by omega) ?_ ?_ ?_ ?_ (by omega) (by omega)
    · rcases hw with ⟨rfl, g1, g2, g3, rfl, rfl⟩ | ⟨rfl, g1, g2, rfl, rfl⟩
      · exact Or.inr (Or.inl ⟨nn + 1, y, ln2, g1, g2, g3, rfl, c2, c3, c1, by omega, by omega, c4, op3_ca3, c5⟩)
      · exact Or.inr (Or.inr (Or.inl ⟨nn + 1, y, ln2, g1, g2, rfl, c2, c3, c1, by omega, by omega, c4, op3_ca3, c5⟩))
    · exact (e8 22 (by omega) (by omega) nn (by omega)).trans h5
    · exact (e8 18 (by omega) (by omega) nn (by omega)).trans h4
    · exact rX_trans h6 (rX_trans (rX_le e8 (by omega)) (rX_mA (Nat.le_refl nn)) (Nat.le_refl nn)) (Nat.le_refl nn)
    · exact cXt_trans h7 (cXt_trans e9 (cXt_ca3 (show ln ≤ ln2 by omega)) (Nat.le_refl ln) (Nat.le_refl b)) (Nat.le_refl ln) (by omega)
    · exact rfP_trans h8 (rfP_trans e10 (rfP_mA (by omega)))
    · exact cfP_trans h9 (cfP_trans e11 cfP_ca3)
  · obtain ⟨f, f', w', x1, x2, x3, x4, -⟩ := of_SRes (SRes_mono hs h8 h9)
    have x1' := xx_mA (k := 20) (g := upd (u2.2 20) nn u1) x1 (by omega)
    refine Ok2_mono (stop2 (B := B) (st_stop hT (nn := nn) (xx_B x1' (by omega)) x2).1 (f' := f') ?_ x3 x4 ⟨by omega, by omega⟩) (fun _ _ h => Or.inr h)
    exact yy_add3 x2 50 (J (m : Nat)) (g := fun _ σ => (some ((0 : Int32), σ)).bind fun u_49 => (F_X2_need 59 u_49.2).bind fun u_21 => some ((0 : Int32), u_21.2)) (fun _ Θ _ _ hΘ => Ok_bind (Ok_some ((st_stop hT (nn := nn) x1' hΘ).2)))
