/-! vars and arrays -/
variable {T N : Nat} {kd vl rv : Nat → Int} {pl : Nat → Nat}
theorem nod21 {σ : MS} {n : Nat} {k p : Int} : (nod σ n k p).2 21 n = J (-1) := by rw [nod_A]; simp [upd_s]
/-- the head of an item: its node and its name's -/
theorem hd_yes (hT : TKE T N kd vl rv pl) {w : Int} {a dp nn : Nat} {σ : MS} (h1 : RN T kd vl rv pl σ (a + 1) dp nn) (q : kd (a + 1) = 2) : ∃ τ, nm2 kd rv pl (nod σ nn w (pl a)) nn (a + 1) = τ ∧ RN T kd vl rv pl τ (a + 2) dp (nn + 2) ∧ rX nn σ τ ∧ rfP σ τ ∧ τ.2 17 nn = J w ∧ τ.2 18 nn = J (pl a) ∧ τ.2 19 nn = J (nn + 1 : Nat) ∧ τ.2 20 nn = J (-1) ∧ τ.2 21 nn = J (-1) ∧ τ.2 22 nn = J (-1) ∧ NMN rv pl τ (nn + 1) (a + 1) := by
  have r1 := RN_nod h1 w (pl a)
  have u1 : rX (nn + 1) (nod σ nn w (pl a)) (nmN kd rv pl (nod σ nn w (pl a)) (nn + 1) (a + 1)) := nmN_rX
  refine ⟨_, rfl, nm2_RN hT r1 q, rX_trans rX_nod nm2_rX (Nat.le_refl nn), rfP_trans rfP_nod nm2_rfP, ?_, ?_, ?_, ?_, ?_, ?_, nm2_NMN q⟩
  · exact (u1 17 (by omega) (by omega) nn (by omega)).trans (nod17 (σ := σ))
  · exact (u1 18 (by omega) (by omega) nn (by omega)).trans (nod18 (σ := σ))
  · show upd _ _ _ _ = _; rw [upd_s, if_pos rfl]
  · exact (u1 20 (by omega) (by omega) nn (by omega)).trans (nod20 (σ := σ) (k := w) (p := (pl a : Nat)))
  · exact (u1 21 (by omega) (by omega) nn (by omega)).trans (nod21 (σ := σ) (k := w) (p := (pl a : Nat)))
  · exact (u1 22 (by omega) (by omega) nn (by omega)).trans (nod22 (σ := σ) (k := w) (p := (pl a : Nat)))
theorem hd_no {w : Int} {a dp nn B : Nat} {σ : MS} (h1 : RN T kd vl rv pl σ (a + 1) dp nn) (q : kd (a + 1) ≠ 2) (hB : nn + 2 ≤ B) : rXX T kd vl rv pl B σ (unf kd (a + 1)) (a + 1) (nm2 kd rv pl (nod σ nn w (pl a)) nn (a + 1)) := ⟨⟨nn + 2, nm2_RX (RN_nod h1 w (pl a)) q, hB⟩, rfP_trans rfP_nod nm2_rfP⟩
theorem hd_eq (hT : TKE T N kd vl rv pl) {w : Int} {W : Int32} (hw : W = J w) {a dp nn : Nat} {σ : MS} (h1 : RN T kd vl rv pl σ (a + 1) dp nn) (hn : nn < 39980) {n : HR} {K : Int32 → MS → MR} {Q : Int32 × MS → Int32 × HS → Prop} (g : Ok2 (K (J (nn : Nat)) (nm2 kd rv pl (nod σ nn w (pl a)) nn (a + 1))) n Q) : Ok2 ((F_X12_node W (J (pl a : Nat)) σ).bind fun u_1 => (F_X12_name u_1.2).bind fun u_2 => if u_1.1 < 0 ∨ 40000 ≤ u_1.1.toNatClampNeg then none else bnd (mA u_2.2 19 (upd (u_2.2.2 19) u_1.1.toNatClampNeg u_2.1)) fun σ_3 => K u_1.1 σ_3) n Q := by
  have en := g_en (n := nn) (by omega)
  refine Ok2_le (show F_X12_node W (J (pl a : Nat)) σ = _ by rw [hw]; exact r_node h1.2.2.2.2.2.1 (by omega) w (pl a)) ?_
  refine Ok2_le (r_name hT (RN_nod h1 w (pl a)) (by omega)) (Ok2_lneg en (Ok2_lbnd ?_))
  dsimp only
  rw [(ng (n := nn) (by omega)).2]
  exact g
def VRD (kd vl rv : Nat → Int) (pl : Nat → Nat) (σ : MS) (x hi i j : Nat) : Prop := kd i = 233 ∧ kd (i + 1) = 2 ∧ kd (i + 2) = 61 ∧ kd (j - 1) = 59 ∧ hi = x + 2 ∧ σ.2 17 x = J 4 ∧ σ.2 18 x = J (pl i) ∧ σ.2 19 x = J (x + 1 : Nat) ∧ NMN rv pl σ (x + 1) (i + 1) ∧ ((kd (i + 3) = 45 ∧ kd (i + 4) = 3 ∧ j = i + 6 ∧ σ.2 20 x = J (-(vl (i + 4)))) ∨ (kd (i + 3) = 3 ∧ j = i + 5 ∧ σ.2 20 x = J (vl (i + 3))))
def Va2 (N_ : Int32) (σ_200 : MS) : MR := (F_X12_need 61 σ_200).bind fun u_202 => (F_X12_took 45 u_202.2).bind fun u_204 => (F_X12_needKind 3 u_204.2).bind fun u_206 => bnd (fun (t_208 : Int32) (σ_209 : MS) => (if N_ < 0 ∨ 40000 ≤ N_.toNatClampNeg then none else bnd (mA σ_209 20 (upd (σ_209.2 20) N_.toNatClampNeg t_208)) fun σ_215 => (F_X12_need 59 σ_215).bind fun u_217 => some (N_, u_217.2) : MR)) fun j_210 => if u_204.1 = 0 then j_210 u_206.1 u_206.2 else j_210 (-u_206.1) u_206.2
def VaR (p : Int32) (σ : MS) : MR := (F_X12_node 4 p σ).bind fun u_1 => (F_X12_name u_1.2).bind fun u_2 => if u_1.1 < 0 ∨ 40000 ≤ u_1.1.toNatClampNeg then none else bnd (mA u_2.2 19 (upd (u_2.2.2 19) u_1.1.toNatClampNeg u_2.1)) fun σ_3 => Va2 u_1.1 σ_3
theorem xx_took {B : Nat} {σ0 σ : MS} {f : Int} {w : Nat} (h : rXX T kd vl rv pl B σ0 f w σ) (c : Int32) : F_X12_took c σ = some (J 0, σ) := by
  obtain ⟨⟨n, a, b⟩, d⟩ := h
  exact x_took a c
theorem xx_needKind (hT : TKE T N kd vl rv pl) {B : Nat} {σ0 σ : MS} {f : Int} {w : Nat} (h : rXX T kd vl rv pl B σ0 f w σ) (c : Int32) : F_X12_needKind c σ = some (J 0, σ) := by
  obtain ⟨⟨n, a, b⟩, d⟩ := h
  exact x_needKind hT a c
theorem va2_stop1 (hT : TKE T N kd vl rv pl) {B nn : Nat} (hn : nn < 39000) {σ0 ρ : MS} {f : Int} {w : Nat} (x1 : rXX T kd vl rv pl B σ0 f w ρ) (t : Int32) : Ok (if J (nn : Nat) < 0 ∨ 40000 ≤ (J (nn : Nat)).toNatClampNeg then none else bnd (mA ρ 20 (upd (ρ.2 20) (J (nn : Nat)).toNatClampNeg t)) fun σ_215 => (F_X12_need 59 σ_215).bind fun u_217 => some (J (nn : Nat), u_217.2)) fun u => rXX T kd vl rv pl B σ0 f w u.2 ∧ u.1 = J (nn : Nat) :=
  Ok_neg (g_en (by omega)) (Ok_bnd (Ok_bind (Ok_mono (xx_need hT (xx_mA x1 (by omega)) 59) (fun u hu => Ok_some ⟨hu, rfl⟩))))
theorem va2_stop (hT : TKE T N kd vl rv pl) {B nn : Nat} (hn : nn < 39000) {σ0 ρ : MS} {f : Int} {w : Nat} (x1 : rXX T kd vl rv pl B σ0 f w ρ) : Ok (Va2 (J (nn : Nat)) ρ) fun u => rXX T kd vl rv pl B σ0 f w u.2 ∧ u.1 = J (nn : Nat) := by
  unfold Va2
  refine Ok_bind (Ok_mono (xx_need hT x1 61) (fun u hu => ?_))
  rw [xx_took hu, Option.bind_some, xx_needKind hT hu, Option.bind_some]
  exact Ok_bnd (Ok_pos J0_eq (va2_stop1 hT hn hu _))
theorem yy_acc45 (hT : TKE T N kd vl rv pl) {Γ0 v : HS} {f' : Int} {w : Nat} (x2 : yXX N kd vl pl Γ0 f' w v) : Ok ((F_X2_accept 45 v).bind fun u_5 => (F_X2_need 3 u_5.2).bind fun u_7 => (F_X2_need 59 u_7.2).bind fun u_9 => some ((0 : Int32), u_9.2)) fun u => yXX N kd vl pl Γ0 f' w u.2 := by
  rw [show (45 : Int32) = J 45 from rfl, yy_accept x2 (c := 45) (by omega), Option.bind_some]
  exact Ok_bind (Ok_mono (yy_need hT x2 (c := 3) (by omega)) (fun u hu => Ok_bind (Ok_mono (yy_need hT hu (c := 59) (by omega)) (fun u hu => Ok_some hu))))
theorem yy_need3 (hT : TKE T N kd vl rv pl) {Γ0 v : HS} {f' : Int} {w : Nat} (x2 : yXX N kd vl pl Γ0 f' w v) : Ok ((F_X2_need 59 v).bind fun u_9 => some ((0 : Int32), u_9.2)) fun u => yXX N kd vl pl Γ0 f' w u.2 := Ok_bind (Ok_mono (yy_need hT x2 (c := 59) (by omega)) (fun u hu => Ok_some hu))
theorem sVar (hT : TKE T N kd vl rv pl) {B a dp ln nn : Nat} {σ : MS} {Γ : HS} (hk : kd a = 233) (h1 : RN T kd vl rv pl σ (a + 1) dp nn) (h2 : CN T N kd vl pl Γ (a + 1) dp ln) (hp : preS T B a dp ln nn) : Ok2 (VaR (J (pl a : Nat)) σ) (F_X2_varItem Γ) (ItP T N kd vl rv pl (VRD kd vl rv pl) B σ Γ a dp ln nn) := by
  unfold preS at hp
  have en := g_en (n := nn) (by omega)
  have en2 := (ng (n := nn) (by omega)).2
  have ha := h1.2.2.2.2.2.2.1
  refine hd_eq hT (w := 4) rfl h1 (by omega) ?_
  unfold F_X2_varItem
  refine Ok2_re (show F_X2_need 2 Γ = _ from c_need hT h2 (c := 2) (by omega)) ?_
  dsimp only
  by_cases q1 : kd (a + 1) = 2
  rotate_left
  · rw [if_neg q1]
    exact itP_stop (va2_stop hT (by omega) (hd_no h1 q1 (by omega))) (Ok_bind (Ok_mono (yy_need hT (Γ0 := Γ) ⟨CX_cfl h2 (Or.inl rfl), cfP_cfl⟩ (c := 61) (by omega)) (fun u hu => yy_acc45 hT hu))) rfl ha
  rw [if_pos q1]
  obtain ⟨τ, eτ, r2, x2, f2, w17, w18, w19, -, -, w22, wN⟩ := hd_yes hT (w := 4) h1 q1
  rw [eτ]
  have haT := TKE_lt hT ha (by omega) (by omega)
  have c2 := CN_cps hT h2 haT
  unfold Va2
  refine Ok2_le (show F_X12_need 61 τ = _ from r_need hT r2 (c := 61) (by decide)) ?_
  refine Ok2_re (show F_X2_need 61 (cps kd Γ (a + 1)) = _ from c_need hT c2 (c := 61) (by omega)) ?_
  dsimp only
  by_cases q2 : kd (a + 2) = 61
  rotate_left
  · rw [if_neg q2, if_neg q2]
    refine itP_stop (T := T) (kd := kd) (vl := vl) (rv := rv) (pl := pl) (f := unf kd (a + 2)) (f' := 2) (w := a + 2) ?_ (yy_acc45 hT ⟨CX_cfl c2 (Or.inl rfl), cfP_trans cfP_cps cfP_cfl⟩) rfl (by omega)
    have xs : rXX T kd vl rv pl B σ (unf kd (a + 2)) (a + 2) (stp τ (unf kd (a + 2)) (pl (a + 2))) := ⟨⟨nn + 2, RX_stp r2, by omega⟩, rfP_trans f2 rfP_stp⟩
    rw [xx_took xs, Option.bind_some, xx_needKind hT xs, Option.bind_some]
    exact Ok_bnd (Ok_pos J0_eq (va2_stop1 hT (by omega) xs _))
  rw [if_pos q2, if_pos q2]
  have haT2 := TKE_lt hT r2.2.2.2.2.2.2.1 (by omega) (by omega)
  have r3 := RN_psd r2 haT2
  have c3 := CN_cps hT c2 haT2
  refine Ok2_le (show F_X12_took 45 _ = _ from r_took hT r3 (c := 45) (by decide)) ?_
  refine Ok2_re (show F_X2_accept 45 _ = _ from c_accept hT c3 (c := 45) (by omega)) ?_
  have fin : ∀ (i3 : Nat) (κ : MS) (Δ : HS) (G : Int → Int) (g : Int32 → Int32), (∀ v, g (J v) = J (G v)) → i3 ≤ T → RN T kd vl rv pl κ i3 dp (nn + 2) → CN T N kd vl pl Δ i3 dp ln → κ.2 = τ.2 → rfP σ κ → cfP Γ Δ → cXt ln 5000 Γ Δ → a + 3 ≤ i3 → (kd i3 = 3 → (kd (a + 3) = 45 ∧ i3 = a + 4 ∧ G (vl i3) = -(vl (a + 4))) ∨ (i3 = a + 3 ∧ G (vl i3) = vl (a + 3))) → Ok2 ((F_X12_needKind 3 κ).bind fun u_206 => if J (nn : Nat) < 0 ∨ 40000 ≤ (J (nn : Nat)).toNatClampNeg then none else bnd (mA u_206.2 20 (upd (u_206.2.2 20) (J (nn : Nat)).toNatClampNeg (g u_206.1))) fun σ_215 => (F_X12_need 59 σ_215).bind fun u_217 => some (J (nn : Nat), u_217.2)) ((F_X2_need 3 Δ).bind fun u_7 => (F_X2_need 59 u_7.2).bind fun u_9 => some ((0 : Int32), u_9.2)) (ItP T N kd vl rv pl (VRD kd vl rv pl) B σ Γ a dp ln nn) := by
    intro i3 κ Δ G g hg hi3 rk ck ek fk cfk cxk h3 hG
    have xk : rX nn σ κ := fun j j1 j2 y hy => by rw [ek]; exact x2 j j1 j2 y hy
    refine Ok2_le (show F_X12_needKind 3 κ = _ from r_needKind hT rk (k := 3) (Or.inr (Or.inl rfl))) ?_
    refine Ok2_re (show F_X2_need 3 Δ = _ from c_need hT ck (c := 3) (by omega)) ?_
    by_cases q3 : kd i3 = 3
    rotate_left
    · rw [if_neg q3, if_neg q3]
      exact itP_stop (va2_stop1 hT (by omega) ⟨⟨nn + 2, RX_stp rk, by omega⟩, rfP_trans fk rfP_stp⟩ _) (yy_need3 hT ⟨CX_cfl ck (Or.inl rfl), cfP_trans cfk cfP_cfl⟩) rfl hi3
    rw [if_pos q3, if_pos q3]
    have hiT := TKE_lt hT hi3 (by omega) (by omega)
    refine Ok2_lneg en (Ok2_lbnd ?_)
    dsimp only
    rw [en2, show rvO kd vl rv i3 = vl i3 by unfold rvO; rw [if_neg (by omega), if_pos q3], hg]
    have hGG := hG q3
    refine it_end hT (ac := i3 + 1) (nn' := nn + 2) (RN_mA (RN_psd rk hiT) (by omega) (by omega) (by omega)) (CN_cps hT ck hiT) (fun q5 => ⟨hk, q1, q2, by rw [show i3 + 1 + 1 - 1 = i3 + 1 by omega]; exact q5, rfl, ?_, ?_, ?_, ⟨?_, ?_, ?_⟩, ?_⟩) ?_ (by omega) (rX_trans xk (rX_trans (rX_psd (a := i3)) (rX_mA (Nat.le_refl nn)) (Nat.le_refl nn)) (Nat.le_refl nn)) (cXt_trans cxk cXt_cps (Nat.le_refl ln) (Nat.le_refl 5000)) (rfP_trans fk (rfP_trans (rfP_psd (a := i3)) (rfP_mA (by omega)))) (cfP_trans cfk cfP_cps) (by omega)
    · show κ.2 17 nn = _; rw [ek]; exact w17
    · show κ.2 18 nn = _; rw [ek]; exact w18
    · show κ.2 19 nn = _; rw [ek]; exact w19
    · show κ.2 17 _ = _; rw [ek]; exact wN.1
    · show κ.2 18 _ = _; rw [ek]; exact wN.2.1
    · show κ.2 19 _ = _; rw [ek]; exact wN.2.2
    · have v20 : ∀ v : Int, (psd (mA (psd κ i3) 20 (upd ((psd κ i3).2 20) nn (J v))) (i3 + 1)).2 20 nn = J v := fun v => by show upd _ _ _ _ = _; rw [upd_s, if_pos rfl]
      rcases hGG with ⟨g1, g2, g3⟩ | ⟨g1, g2⟩
      · exact Or.inl ⟨g1, by rw [← g2]; exact q3, by omega, by rw [v20, g3]⟩
      · exact Or.inr ⟨by rw [← g1]; exact q3, by omega, by rw [v20, g2]⟩
    · show κ.2 22 nn = _; rw [ek]; exact w22
  by_cases q3 : kd (a + 3) = 45
  · rw [if_pos (show kd (a + 2 + 1) = 45 from q3), if_pos (show kd (a + 2 + 1) = 45 from q3)]
    have haT3 := TKE_lt hT (show a + 3 ≤ T from haT2) (by omega) (by omega)
    dsimp only
    simp only [bnd, if_neg J1_ne]
    exact fin (a + 4) _ _ (fun v => -v) (fun x => -x) (fun v => J_neg v) haT3 (RN_psd r3 haT3) (CN_cps hT c3 haT3) rfl (rfP_trans f2 (rfP_trans rfP_psd rfP_psd)) (cfP_trans cfP_cps (cfP_trans cfP_cps cfP_cps)) (cXt_trans cXt_cps (cXt_trans cXt_cps cXt_cps (Nat.le_refl ln) (Nat.le_refl 5000)) (Nat.le_refl ln) (Nat.le_refl 5000)) (by omega) (fun _ => Or.inl ⟨q3, rfl, rfl⟩)
  · rw [if_neg (show ¬ kd (a + 2 + 1) = 45 from q3), if_neg (show ¬ kd (a + 2 + 1) = 45 from q3)]
    dsimp only
    simp only [bnd, if_pos J0_eq]
    exact fin (a + 3) _ _ (fun v => v) (fun x => x) (fun v => rfl) (by omega) r3 c3 rfl (rfP_trans f2 rfP_psd) (cfP_trans cfP_cps cfP_cps) (cXt_trans cXt_cps cXt_cps (Nat.le_refl ln) (Nat.le_refl 5000)) (by omega) (fun _ => Or.inr ⟨rfl, rfl⟩)
