/-! say -/
variable {T N : Nat} {kd vl rv : Nat → Int} {pl : Nat → Nat}
def Br (nn : Nat) : (Int32 × MS → MR) → Int32 × MS → MR := fun again s => (F_X12_took 44 s.2).bind fun u_221 => if u_221.1 = 0 then (F_X12_need 59 u_221.2).bind fun u_15 => some (J (nn : Nat), u_15.2) else (F_X12_telling u_221.2).bind fun u_226 => if s.1 < 0 ∨ 40000 ≤ s.1.toNatClampNeg then none else bnd (mA u_226.2 22 (upd (u_226.2.2 22) s.1.toNatClampNeg u_226.1)) fun σ_230 => again (u_226.1, σ_230)
theorem Br_s (nn n : Nat) (l : Int32) (τ : MS) : loopF (Br nn) (n + 1) (l, τ) = (F_X12_took 44 τ).bind fun u_221 => if u_221.1 = 0 then (F_X12_need 59 u_221.2).bind fun u_15 => some (J (nn : Nat), u_15.2) else (F_X12_telling u_221.2).bind fun u_226 => if l < 0 ∨ 40000 ≤ l.toNatClampNeg then none else bnd (mA u_226.2 22 (upd (u_226.2.2 22) l.toNatClampNeg u_226.1)) fun σ_230 => loopF (Br nn) n (u_226.1, σ_230) := rfl
def Bc : (Int32 × Int32 × HS → HR) → Int32 × Int32 × HS → HR := fun again s => if ((s.2.2 1).1 2) ≤ s.2.1 then some (0, s.2.2) else if s.1 = 0 then some (0, s.2.2) else cTel (fun σ_11 => (F_X2_accept 44 σ_11).bind fun u_15 => again (u_15.1, s.2.1 + 1, u_15.2)) s.2.2
theorem say_eq (Γ : HS) : F_X2_say Γ = loopF Bc FU (1, 0, Γ) := rfl
def Gs (u_44 : Int32 × HS) : HR := (F_X2_need 59 u_44.2).bind fun u_21 => some ((0 : Int32), u_21.2)
theorem cTel_bind (F : HS → HR) (G : Int32 × HS → HR) (Γ : HS) : (cTel F Γ).bind G = cTel (fun Θ => (F Θ).bind G) Γ := by
  unfold cTel
  split
  · simp only [bnd, Option.bind_assoc]
  · rw [Option.bind_assoc]
    refine congrArg _ (funext fun u => ?_)
    split
    · simp only [bnd, Option.bind_assoc]
    · simp only [bnd, Option.bind_assoc]
theorem say_stop (hT : TKE T N kd vl rv pl) {B a dp ln nn : Nat} {σ0 : MS} {Γ0 : HS} {f f' : Int} {w : Nat} {τ : MS} {Δ : HS} {l i : Int32} (n m : Nat) (hB : 5 ≤ B) (hn : nn < 39000) (x1 : rXX T kd vl rv pl (B - 5) σ0 f w τ) (x2 : yXX N kd vl pl Γ0 f' w Δ) (x3 : f = fxO kd f' w) (x4 : w ≤ T) : Ok2 (loopF (Br nn) (n + 1) (l, τ)) (((F_X2_accept 44 Δ).bind fun u_15 => loopF Bc (m + 1) (u_15.1, i, u_15.2)).bind Gs) (StR T N kd vl rv pl 0 B σ0 Γ0 a dp ln nn) := by
  show Ok2 (Br nn (loopF (Br nn) n) (l, τ)) _ _
  unfold Br
  obtain ⟨⟨n0, a1, b1⟩, d1⟩ := x1
  dsimp only
  rw [x_took a1, Option.bind_some, show F_X2_accept 44 Δ = _ from y_accept x2.1 (c := 44) (by omega), Option.bind_some]
  refine Ok2_lpos J0_eq ?_
  rw [show loopF Bc (m + 1) ((J 0, Δ).1, i, (J 0, Δ).2) = some ((0 : Int32), Δ) by
    show Bc (loopF Bc m) (J 0, i, Δ) = _
    unfold Bc
    dsimp only
    by_cases q : (Δ 1).1 2 ≤ i
    · rw [if_pos q]
    · rw [if_neg q, if_pos J0_eq]]
  refine Ok2_rsome ?_
  have s := st_stop hT (nn := nn) ⟨⟨n0, a1, b1⟩, d1⟩ x2
  exact Ok2_mono (stop2 (B := B) (Ok_mono s.1 (fun u hu => ⟨xx_B hu.1 (by omega), hu.2⟩)) (f' := f') s.2 x3 x4 ⟨by omega, by omega⟩) (fun _ _ h => Or.inr h)
theorem say_loop (hT : TKE T N kd vl rv pl) {B a dp ln nn : Nat} {σ0 : MS} {Γ0 : HS} (hp : preS T B a dp ln nn) (hdp : dp ≤ 30) (hka : kd a = 241) : ∀ (k n m c ac ln' nn' : Nat) (xs ls is js ps : Nat → Nat) (τ : MS) (Δ : HS), k < n → k < m → T + 2 - ac ≤ k → 1 ≤ c → RN T kd vl rv pl τ ac dp nn' → CN T N kd vl pl Δ ac dp ln' → LSTf kd τ (TEL kd vl rv pl τ Δ) 1 (xs 0 : Nat) c (a + 1) ac ln ln' xs ls is js ps → ls 0 = nn + 1 → ls c = nn' → c ≤ ac - (a + 1) → a + 1 < ac → ln < ln' → nn' ≤ nn + 2 + 3 * (ac - (a + 1)) → ln' ≤ ln + 5 * (ac - (a + 1)) → τ.2 17 nn = J 20 → τ.2 19 nn = J (xs 0 : Nat) → τ.2 18 nn = J (pl a) → τ.2 22 nn = J (-1) → rX nn σ0 τ → cXt ln a Γ0 Δ → rfP σ0 τ → cfP Γ0 Δ → Ok2 (loopF (Br nn) n (J (xs (c - 1) : Nat), τ)) (((F_X2_accept 44 Δ).bind fun u_15 => loopF Bc m (u_15.1, J (c : Nat), u_15.2)).bind Gs) (StR T N kd vl rv pl 0 B σ0 Γ0 a dp ln nn) := by
  obtain ⟨n1, n2, n3, n4⟩ := TKE_N hT
  unfold preS at hp
  intro k
  induction k with
  | zero =>
    intro n m c ac ln' nn' xs ls is js ps τ Δ _ _ hk _ p2
    have := p2.2.2.2.2.2.2.1
    omega
  | succ k ih =>
    intro n m c ac ln' nn' xs ls is js ps τ Δ hn hm hk p1 p2 p3 p4 p5 p6 p7 p8 p9 p10 p11 v17 v19 v18 v22 p12 p13 p14 p15
    obtain ⟨n, rfl⟩ : ∃ e, n = e + 1 := ⟨n - 1, by omega⟩
    obtain ⟨m, rfl⟩ : ∃ e, m = e + 1 := ⟨m - 1, by omega⟩
    have hac := p2.2.2.2.2.2.2.1
    have hrng := LST_rng p4.2.1 p4.2.2.2.2.2.2.1 p4.2.2.2.2.2.2.2.1
    have hxs : xs (c - 1) < nn' := by
      have e2 := (p4.2.1 (c - 1) (by omega)).2.1
      rw [show c - 1 + 1 = c by omega] at e2; omega
    have hls : ∀ k, k < c → nn + 1 ≤ xs k ∧ xs k < nn' := by
      intro k hk
      have r1 := hrng k 0 (by omega)
      have r2 := hrng (c - (k + 1)) (k + 1) (by omega)
      rw [show k + 1 + (c - (k + 1)) = c by omega] at r2
      rw [Nat.zero_add] at r1
      have := p4.2.1 k hk
      omega
    have q0 := hls (c - 1) (by omega)
    rw [Br_s]
    rw [show F_X12_took 44 τ = _ from r_took hT p2 (c := 44) (by decide), show F_X2_accept 44 Δ = _ from c_accept hT p3 (c := 44) (by omega), Option.bind_some, Option.bind_some]
    by_cases qc : kd ac = 44
    · rw [if_pos qc, if_pos qc]
      refine Ok2_lneg J1_ne ?_
      have hacT := TKE_lt hT hac (by omega) (by omega)
      have r1 := RN_psd p2 hacT
      have c1 := CN_cps hT p3 hacT
      dsimp only
      rw [show loopF Bc (m + 1) (J 1, J (c : Nat), cps kd Δ ac) = cTel (fun σ_11 => (F_X2_accept 44 σ_11).bind fun u_15 => loopF Bc m (u_15.1, J (c : Nat) + 1, u_15.2)) (cps kd Δ ac) by
        show Bc (loopF Bc m) (J 1, J (c : Nat), cps kd Δ ac) = _
        unfold Bc
        dsimp only
        rw [if_neg (by rw [show ((cps kd Δ ac) 1).1 2 = (Δ 1).1 2 from rfl, p3.1.1, J_le (by omega) (by omega) (by omega) (by omega)]; omega), if_neg J1_ne]]
      rw [show J (c : Nat) + 1 = J (c + 1 : Nat) by rw [J_lit, J_add]; rfl]
      rw [cTel_bind]
      have g := ng (n := xs (c - 1)) (by omega)
      refine sTel hT (B := B - 10) r1 c1 (by omega) hdp ?_ ?_
      · rintro a' ln2 nn2 x τ' Δ' ⟨t1, t2, t3, t4, t5, t6, t7, t8, t9, t10⟩
        have t4' := t4
        obtain ⟨s1, s2, s3, s4, -⟩ := t4'
        have ha' := t2.2.2.2.2.2.2.1
        refine Ok2_lneg g.1 (Ok2_lbnd ?_)
        dsimp only
        rw [g.2]
        have u7 : rX (nn + 1) τ (mA τ' 22 (upd (τ'.2 22) (xs (c - 1)) (J (x : Nat)))) := rX_trans (rX_trans rX_psd (rX_le t7 (by omega)) (Nat.le_refl (nn + 1))) (rX_mA (hls (c - 1) (by omega)).1) (Nat.le_refl (nn + 1))
        have key := ih n m (c + 1) a' ln2 nn2 (fun k => if k = c then x else xs k) (fun k => if k = c + 1 then nn2 else ls k) (fun k => if k = c then ac + 1 else if k = c + 1 then a' else is k) (fun k => if k = c then a' else js k) (fun k => if k = c + 1 then ln2 else ps k) (mA τ' 22 (upd (τ'.2 22) (xs (c - 1)) (J (x : Nat)))) Δ' (by omega) (by omega) (by omega) (by omega) (RN_mA t2 (by omega) (by omega) (by omega)) t3 ?_ ?_ ?_ (by omega) (by omega) (by omega) (by omega) (by omega) ?_ ?_ ?_ ?_ ?_ ?_ ?_ ?_
        · rw [show c + 1 - 1 = c by omega] at key
          simpa using key
        · rw [if_neg (show ¬ 0 = c by omega)]
          refine LSTf_snoc p4 (by omega) (F := TEL kd vl rv pl (mA τ' 22 (upd (τ'.2 22) (xs (c - 1)) (J (x : Nat)))) Δ') ?_ ?_ (by omega) s2 s3 s4 (fun _ => qc) ?_ ?_ ?_
          · intro k hk hEk
            have r1 := hrng (c - (k + 1)) (k + 1) (by omega)
            rw [show k + 1 + (c - (k + 1)) = c by omega] at r1
            have b9 := p4.2.2.2.2.2.2.1 k hk
            have bj : js k ≤ is (k + 1) := by rw [b9.2]; split <;> omega
            have b4 := p4.2.2.2.1
            have b6 := p4.2.2.2.2.2.1
            refine TEL_ag (σ := τ) (Γ := Δ) (fun y' y1 y2 => ?_) ⟨fun r r1 r2 => ?_, fun t' t1 t2 => ?_⟩ hEk
            · have g : ∀ m, 17 ≤ m → m ≤ 22 → τ'.2 m y' = τ.2 m y' := fun m m1 m2 => t7 m m1 m2 y' (by omega)
              refine ⟨g 17 (by omega) (by omega), g 18 (by omega) (by omega), g 19 (by omega) (by omega), fun _ => g 20 (by omega) (by omega), fun _ _ _ _ => g 21 (by omega) (by omega), fun hy => ?_⟩
              show upd _ _ _ _ = _
              rw [upd_s, if_neg ?_]
              · exact g 22 (by omega) (by omega)
              · rintro rfl
                by_cases qk : k = c - 1
                · exact hy (by rw [qk])
                · have r2 := (hrng (c - 1 - (k + 1)) (k + 1) (by omega)).1
                  rw [show k + 1 + (c - 1 - (k + 1)) = c - 1 by omega] at r2
                  have := (p4.2.1 (c - 1) (by omega)).1
                  omega
            · exact (t8.1 r (by omega)).trans rfl
            · exact (t8.2 t' (by omega)).trans rfl
          · rw [p6]
            refine TEL_ag (σ := τ') (Γ := Δ') (fun y' y1 y2 => ⟨rfl, rfl, rfl, fun _ => rfl, fun _ _ _ _ => rfl, fun _ => ?_⟩) ⟨fun _ _ _ => rfl, fun _ _ _ => rfl⟩ t4
            show upd _ _ _ _ = _
            rw [upd_s, if_neg (by omega)]
          · intro k hk
            have b2 := (p4.2.1 k (by omega)).2.1
            have r2 := (hrng (c - 1 - (k + 1)) (k + 1) (by omega)).1
            rw [show k + 1 + (c - 1 - (k + 1)) = c - 1 by omega] at r2
            have b3 := (p4.2.1 (c - 1) (by omega)).1
            show upd _ _ _ _ = _
            rw [upd_s, if_neg (by omega)]
            exact t7 22 (by omega) (by omega) _ (by omega)
          · show upd _ _ _ _ = _
            rw [upd_s, if_pos rfl]
          · show upd _ _ _ _ = _
            rw [upd_s, if_neg (by omega)]; exact t1
        · rw [if_neg (by omega)]; exact p5
        · rw [if_pos rfl]
        · exact (u7 17 (by omega) (by omega) nn (by omega)).trans v17
        · rw [if_neg (show ¬ 0 = c by omega)]; exact (u7 19 (by omega) (by omega) nn (by omega)).trans v19
        · exact (u7 18 (by omega) (by omega) nn (by omega)).trans v18
        · exact (u7 22 (by omega) (by omega) nn (by omega)).trans v22
        · exact rX_trans p12 (rX_le u7 (by omega)) (Nat.le_refl nn)
        · exact cXt_trans p13 (cXt_trans cXt_cps t8 (Nat.le_refl ln') (Nat.le_succ ac)) (by omega) (by omega)
        · exact rfP_trans p14 (rfP_trans rfP_psd (rfP_trans t9 (rfP_mA (by omega))))
        · exact cfP_trans p15 (cfP_trans cfP_cps t10)
      · intro f f' w x τ' Δ' x1 x2 x3 x4 x5
        refine Ok2_lneg g.1 (Ok2_lbnd ?_)
        dsimp only
        obtain ⟨n, rfl⟩ : ∃ e, n = e + 1 := ⟨n - 1, by omega⟩
        obtain ⟨m, rfl⟩ : ∃ e, m = e + 1 := ⟨m - 1, by omega⟩
        have y1 : rXX T kd vl rv pl (B - 5) σ0 f w τ' := by
          obtain ⟨⟨z, z1, z2⟩, z3⟩ := x1
          exact ⟨⟨z, z1, by omega⟩, rfP_trans p14 (rfP_trans rfP_psd z3)⟩
        exact say_stop hT n m (by omega) (by omega) (xx_mA y1 (by omega)) ⟨x2.1, cfP_trans p15 (cfP_trans cfP_cps x2.2)⟩ x3 x4
    · rw [if_neg qc, if_neg qc]
      refine Ok2_lpos J0_eq ?_
      dsimp only
      rw [show loopF Bc (m + 1) (J 0, J (c : Nat), Δ) = some ((0 : Int32), Δ) by
        show Bc (loopF Bc m) (J 0, J (c : Nat), Δ) = _
        unfold Bc
        dsimp only
        rw [if_neg (by rw [p3.1.1, J_le (by omega) (by omega) (by omega) (by omega)]; omega), if_pos J0_eq]]
      refine Ok2_rsome ?_
      exact st_end hT p2 p3 (Or.inl ⟨(xs 0 : Nat), c, hka, by omega, v17, v19, LSTf_LST p4 (by omega) (by omega)⟩) v22 v18 (by omega) (by omega) (by omega) (by omega) (by omega) p12 p13 p14 p15 (by omega) (by omega)
theorem st_s (hT : TKE T N kd vl rv pl) {B a dp ln nn : Nat} {σ0 ρ : MS} {Γ0 Δ : HS} (h : St0 T N kd vl rv pl B σ0 Γ0 a dp ln nn 20 ρ Δ) (hk : kd a = 241) : Ok2 ((F_X12_telling ρ).bind fun u_207 => if J (nn : Nat) < 0 ∨ 40000 ≤ nn then none else bnd (mA u_207.2 19 (upd (u_207.2.2 19) nn u_207.1)) fun σ_211 => if J (nn : Nat) < 0 ∨ 40000 ≤ nn then none else bnd (σ_211.2 19 nn) fun x_215 => loopF (Br nn) FU (x_215, σ_211)) ((F_X2_say Δ).bind Gs) (StR T N kd vl rv pl 0 B σ0 Γ0 a dp ln nn) := by
  obtain ⟨h1, h2, h3, h4, h5, h6, h7, h8, h9, h10, h11, h12⟩ := h
  have h10' := h10
  unfold preS at h10'
  obtain ⟨n1, n2, n3, n4⟩ := TKE_N hT
  have en := g_en (n := nn) (by omega)
  rw [(ng (n := nn) (by omega)).2] at en
  obtain ⟨m, hm⟩ : ∃ e, FU = e + 1 := ⟨FU - 1, by have := FU_gt (k := 5000) (by omega); omega⟩
  have hm2 : 5000 < m + 1 := by rw [← hm]; exact FU_gt (by omega)
  rw [say_eq, hm]
  rw [show loopF Bc (m + 1) (1, 0, Δ) = cTel (fun σ_11 => (F_X2_accept 44 σ_11).bind fun u_15 => loopF Bc m (u_15.1, J (1 : Nat), u_15.2)) Δ by
    show Bc (loopF Bc m) (1, 0, Δ) = _
    unfold Bc
    dsimp only
    rw [h2.1.1, if_neg (by rw [show (0 : Int32) = J 0 from rfl, J_le (by omega) (by omega) (by omega) (by omega)]; omega), if_neg (by decide)]
    rfl]
  rw [cTel_bind]
  refine sTel hT (B := B - 10) h1 h2 (by omega) h11 ?_ ?_
  · rintro a' ln2 nn2 x τ' Δ' ⟨t1, t2, t3, t4, t5, t6, t7, t8, t9, t10⟩
    have t4' := t4
    obtain ⟨s1, s2, s3, s4, -⟩ := t4'
    have ha' := t2.2.2.2.2.2.2.1
    refine Ok2_lneg en (Ok2_lbnd (Ok2_lneg en (Ok2_lbnd ?_)))
    dsimp only
    rw [show (mA τ' 19 (upd (τ'.2 19) nn (J (x : Nat)))).2 19 nn = J (x : Nat) by show upd _ _ _ _ = _; rw [upd_s, if_pos rfl]]
    have u7 : rX (nn + 1) ρ τ' := t7
    refine say_loop hT h10 h11 hk (T + 2) (m + 1) m 1 a' ln2 nn2 (fun _ => x) (fun k => if k = 0 then nn + 1 else nn2) (fun k => if k = 0 then a + 1 else a') (fun _ => a') (fun k => if k = 0 then ln else ln2) (mA τ' 19 (upd (τ'.2 19) nn (J (x : Nat)))) Δ' (by omega) (by omega) (by omega) (by omega) (RN_mA t2 (by omega) (by omega) (by omega)) t3 (LSTf_one (TEL_ag (σ := τ') (Γ := Δ') (agN_mA19 (Or.inl rfl) (Or.inl (by omega))) agC_rfl t4) s1 s2 s3 s4 t1) rfl rfl (by omega) (by omega) (by omega) (by omega) (by omega) ?_ ?_ ?_ ?_ ?_ ?_ ?_ ?_
    · exact (u7 17 (by omega) (by omega) nn (by omega)).trans h3
    · show upd _ _ _ _ = _; rw [upd_s, if_pos rfl]
    · exact (u7 18 (by omega) (by omega) nn (by omega)).trans h4
    · exact (u7 22 (by omega) (by omega) nn (by omega)).trans h5
    · exact rX_trans h6 (rX_trans (rX_le u7 (by omega)) (rX_mA (Nat.le_refl nn)) (Nat.le_refl nn)) (Nat.le_refl nn)
    · exact cXt_trans h7 t8 (Nat.le_refl ln) (by omega)
    · exact rfP_trans h8 (rfP_trans t9 (rfP_mA (by omega)))
    · exact cfP_trans h9 t10
  · intro f f' w x τ' Δ' x1 x2 x3 x4 x5
    refine Ok2_lneg en (Ok2_lbnd (Ok2_lneg en (Ok2_lbnd ?_)))
    obtain ⟨m, rfl⟩ : ∃ e, m = e + 1 := ⟨m - 1, by omega⟩
    have y1 : rXX T kd vl rv pl (B - 5) σ0 f w τ' := by
      obtain ⟨⟨z, z1, z2⟩, z3⟩ := x1
      exact ⟨⟨z, z1, by omega⟩, rfP_trans h8 z3⟩
    exact say_stop hT (m + 1) m (by omega) (by omega) (xx_mA y1 (by omega)) ⟨x2.1, cfP_trans h9 x2.2⟩ x3 x4
