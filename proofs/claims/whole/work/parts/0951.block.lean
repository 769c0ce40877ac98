/-! both read a block alike -/
variable {T N : Nat} {kd vl rv : Nat → Int} {pl : Nat → Nat}
/-- the first of c pieces, or none -/
def fst0 (c : Nat) (xs : Nat → Nat) : Int := if c = 0 then -1 else (xs 0 : Nat)
def lst0 (c : Nat) (xs : Nat → Nat) : Int := if c = 0 then -1 else (xs (c - 1) : Nat)
theorem blk_loop (hT : TKE T N kd vl rv pl) {B a dp ln nn d e : Nat} {σ0 : MS} {Γ0 : HS} (hp : preS T B a dp ln nn) (hdp : dp < 30) (hka : kd a = 123) (hS : simS T N kd vl rv pl (dp + 1)) (hd : 3 * (30 - dp) + 2 ≤ d) (he : 3 * (30 - dp) + 2 ≤ e) : ∀ (k n m c ac ln' nn' hh : Nat) (xs ls is js ps : Nat → Nat) (τ : MS) (Δ : HS), hh ≤ 3 * (30 - dp) + 2 → k < n → k < m → T + 2 - ac ≤ k → RN T kd vl rv pl τ ac (dp + 1) nn' → CN T N kd vl pl Δ ac (dp + 1) ln' → LSTf kd τ (STX kd vl rv pl τ Δ hh 0) 0 (fst0 c xs) c (a + 1) ac ln ln' xs ls is js ps → ls 0 = nn → ls c = nn' → c ≤ ac - (a + 1) → a + 1 ≤ ac → ln ≤ ln' → nn' ≤ nn + 3 * (ac - (a + 1)) → ln' ≤ ln + 7 * (ac - (a + 1)) → rX nn σ0 τ → cXt ln a Γ0 Δ → rfP σ0 τ → cfP Γ0 Δ → Ok2 (loopF (Kr d) n (J (fst0 c xs), J (lst0 c xs), τ)) (loopF (Kq e) m (J (c : Nat), Δ)) (StR T N kd vl rv pl 1 B σ0 Γ0 a dp ln nn) := by
  obtain ⟨n1, n2, n3, n4⟩ := TKE_N hT
  unfold preS at hp
  intro k
  induction k with
  | zero =>
    intro n m c ac ln' nn' hh xs ls is js ps τ Δ _ _ _ hk p2
    have := p2.2.2.2.2.2.2.1
    omega
  | succ k ih =>
    intro n m c ac ln' nn' hh xs ls is js ps τ Δ hhb hn hm hk p2 p3 p4 p5 p6 p7 p8 p9 p10 p11 p12 p13 p14 p15
    obtain ⟨n, rfl⟩ : ∃ e, n = e + 1 := ⟨n - 1, by omega⟩
    obtain ⟨m, rfl⟩ : ∃ e, m = e + 1 := ⟨m - 1, by omega⟩
    have hac := p2.2.2.2.2.2.2.1
    have hkr := kdOk_rng (TKE_ok hT hac)
    have hrng := LST_rng p4.2.1 p4.2.2.2.2.2.2.1 p4.2.2.2.2.2.2.2.1
    have hls : ∀ k, k < c → nn ≤ xs k ∧ xs k < nn' := by
      intro k hk
      have r1 := hrng k 0 (by omega)
      have r2 := hrng (c - (k + 1)) (k + 1) (by omega)
      rw [show k + 1 + (c - (k + 1)) = c by omega] at r2
      rw [Nat.zero_add] at r1
      have := p4.2.1 k hk
      omega
    have hnn : nn ≤ nn' := by
      have r1 := hrng c 0 (by omega)
      rw [Nat.zero_add] at r1
      omega
    rw [Kr_s, Kq_s]
    refine Ok2_lpos (by rw [p2.2.2.2.1]; rfl) (Ok2_rneg (by rw [p3.1.1, J_le (by omega) (by omega) (by omega) (by omega)]; omega) ?_)
    rw [p3.2.2.1]
    refine Ok2_le (show F_X12_isSign 125 τ = _ from r_isSign hT p2 (c := 125) (by decide)) ?_
    dsimp only
    by_cases q5 : kd ac = 125
    · -- the block's end
      rw [if_pos q5]
      refine Ok2_lneg J1_ne (Ok2_rpos (by rw [q5]; rfl) ?_)
      have hacT := TKE_lt hT hac (by omega) (by omega)
      unfold Kend Kce F_X2_shut
      refine Ok2_le (a := (J 0, opn (psd τ ac) dp)) (by rw [show F_X12_shut 125 τ = _ from r_shut hT p2 (c := 125) (by decide) (by omega), if_pos q5, show dp + 1 - 1 = dp by omega]) ?_
      have r1 : RN T kd vl rv pl (opn (psd τ ac) dp) (ac + 1) dp nn' := RN_opn (RN_psd p2 hacT) (by omega)
      refine Ok2_le (show F_X12_node 34 0 (opn (psd τ ac) dp) = some (J (nn' : Nat), nod (opn (psd τ ac) dp) nn' 34 0) from r_node r1.2.2.2.2.2.1 (by omega) 34 0) ?_
      refine Ok2_lneg (g_en (by omega)) (Ok2_lbnd ?_)
      dsimp only
      rw [(ng (n := nn') (by omega)).2]
      rw [p3.2.2.2.1, show J ((dp + 1 : Nat) : Int) - 1 = J (dp : Nat) by rw [J_lit, J_sub]; exact congrArg J (by show ((dp + 1 : Nat) : Int) - 1 = _; omega)]
      have h2' : CN T N kd vl pl (cop Δ dp) ac dp ln' := CN_cop p3 (by omega)
      rw [show (bnd (cI' Δ 2 4 (J (dp : Nat))) fun σ_1 => (F_X2_need 125 σ_1).bind fun u_3 => some ((0 : Int32), u_3.2)) = (F_X2_need 125 (cop Δ dp)).bind fun u_3 => some ((0 : Int32), u_3.2) from rfl, Option.bind_assoc]
      refine Ok2_re (a := (J 0, cps kd (cop Δ dp) ac)) (by rw [show F_X2_need 125 (cop Δ dp) = _ from c_need hT h2' (c := 125) (by omega), if_pos q5]) ?_
      have xX : rX nn' τ (mA (nod (opn (psd τ ac) dp) nn' 34 0) 19 (upd ((nod (opn (psd τ ac) dp) nn' 34 0).2 19) nn' (J (fst0 c xs)))) := rX_trans rX_psd (rX_trans rX_opn (rX_trans rX_nod (rX_mA (Nat.le_refl nn')) (Nat.le_refl nn')) (Nat.le_refl nn')) (Nat.le_refl nn')
      refine Ok2_some (Or.inl ⟨hh + 1, ac + 1, ln', nn' + 1, nn', ⟨rfl, by unfold fuB; omega⟩, ?_, RN_mA (RN_nod r1 34 0) (by omega) (by omega) (by omega), CN_cps hT h2' hacT, ?_, by omega, by omega, rX_trans p12 (rX_le xX hnn) (Nat.le_refl nn), cXt_trans p13 (cXt_trans cXt_cop cXt_cps (Nat.le_refl ln) (Nat.le_refl a)) (Nat.le_refl ln) (Nat.le_refl a), rfP_trans p14 (rfP_trans rfP_psd (rfP_trans rfP_opn (rfP_trans rfP_nod (rfP_mA (by omega))))), cfP_trans p15 (cfP_trans cfP_cop cfP_cps)⟩)
      · exact nod22 (σ := opn (psd τ ac) dp) (k := 34) (p := 0)
      · refine ⟨hnn, by omega, by omega, p9, Or.inr (Or.inl ⟨rfl, fst0 c xs, c, ac, hka, q5, rfl, ?_, ?_, ?_⟩)⟩
        · show upd _ _ _ _ = _; rw [upd_s, if_pos rfl]
        · show upd _ _ _ _ = _; rw [upd_s, if_pos rfl]
        · refine LST_ag (σ := τ) (Γ := Δ) (Δ := cps kd (cop Δ dp) ac) (lo0 := nn) (hi0 := nn') (x := nn') (i0 := a + 1) (j0 := ac) (p0 := ln) (q0 := ln') ?_ ⟨fun _ _ _ => rfl, fun _ _ _ => rfl⟩ (LSTf_LST p4 (by omega) (by omega)) (Nat.le_refl _) (Nat.le_refl _) (Or.inr (Nat.le_refl _)) (Nat.le_refl _) (Nat.le_refl _) (Nat.le_refl _) (Nat.le_refl _) (fun lo hi x i j p q g1 g2 g3 => STX_ag _ _ _ _ _ _ _ _ _ g1 g2 g3)
          intro z z1 z2
          have e : ∀ j, 17 ≤ j → j ≤ 22 → _ := fun j j1 j2 => xX j j1 j2 z z2
          exact ⟨e 17 (by omega) (by omega), e 18 (by omega) (by omega), e 19 (by omega) (by omega), fun _ => e 20 (by omega) (by omega), fun _ _ _ _ => e 21 (by omega) (by omega), fun _ => e 22 (by omega) (by omega)⟩
    rw [if_neg q5]
    refine Ok2_lpos J0_eq (Ok2_rneg (by rw [show (125 : Int32) = J 125 from rfl, J_eq (by omega) (by omega) (by omega) (by omega)]; exact q5) ?_)
    -- the tail of the reference behind a fault
    have hx : ∀ (u : Int32 × MS) (f : Int) (w : Nat), rXX T kd vl rv pl (B - 2) σ0 f w u.2 → (∃ y : Int, u.1 = J y ∧ -1 ≤ y ∧ y < 40000) → ∃ (v l : Int32) (τ' : MS), (if 0 ≤ J (lst0 c xs) then (if J (lst0 c xs) < 0 ∨ 40000 ≤ (J (lst0 c xs)).toNatClampNeg then none else bnd (mA u.2 22 (upd (u.2.2 22) (J (lst0 c xs)).toNatClampNeg u.1)) fun σ_36 => loopF (Kr d) n (J (fst0 c xs), u.1, σ_36)) else loopF (Kr d) n (u.1, u.1, u.2)) = loopF (Kr d) n (v, l, τ') ∧ rXX T kd vl rv pl (B - 2) σ0 f w τ' := by
      intro u f w x1 x2
      by_cases qc : c = 0
      · refine ⟨u.1, u.1, u.2, ?_, x1⟩
        rw [if_neg]
        unfold lst0; rw [if_pos qc]; decide
      · have hq := hls (c - 1) (by omega)
        have e1 : lst0 c xs = ((xs (c - 1) : Nat) : Int) := by unfold lst0; rw [if_neg qc]
        rw [e1]
        refine ⟨J (fst0 c xs), u.1, mA u.2 22 (upd (u.2.2 22) (xs (c - 1)) u.1), ?_, xx_mA (k := 22) (g := upd (u.2.2 22) (xs (c - 1)) u.1) x1 (by omega)⟩
        rw [if_pos (by rw [show (0 : Int32) = J 0 from rfl, J_le (by omega) (by omega) (by omega) (by omega)]; omega), if_neg (g_en (by omega)), (ng (n := xs (c - 1)) (by omega)).2]
        rfl
    by_cases q0 : kd ac = 0
    · -- the text's end
      refine Ok2_rpos (by rw [q0]; rfl) ?_
      obtain ⟨d, rfl⟩ : ∃ y, d = y + 1 := ⟨d - 1, by omega⟩
      refine Ok2_l (Ok_mono (x_send hT (B := B - 2) p2 q0 (by omega) p14) (fun u hu => ?_))
      obtain ⟨v, l, τ', e1, e2⟩ := hx u (unf kd ac) ac hu.1 ⟨nn', hu.2, by omega, by omega⟩
      rw [e1]
      obtain ⟨n, rfl⟩ : ∃ e, n = e + 1 := ⟨n - 1, by omega⟩
      unfold Kce F_X2_shut
      rw [p3.2.2.2.1, show J ((dp + 1 : Nat) : Int) - 1 = J (dp : Nat) by rw [J_lit, J_sub]; exact congrArg J (by show ((dp + 1 : Nat) : Int) - 1 = _; omega)]
      have h2' : CN T N kd vl pl (cop Δ dp) ac dp ln' := CN_cop p3 (by omega)
      rw [show (bnd (cI' Δ 2 4 (J (dp : Nat))) fun σ_1 => (F_X2_need 125 σ_1).bind fun u_3 => some ((0 : Int32), u_3.2)) = (F_X2_need 125 (cop Δ dp)).bind fun u_3 => some ((0 : Int32), u_3.2) from rfl, Option.bind_assoc]
      refine Ok2_re (a := (J 0, cfl N (cop Δ dp) 2 ac)) (by rw [show F_X2_need 125 (cop Δ dp) = _ from c_need hT h2' (c := 125) (by omega), if_neg q5]) ?_
      refine Ok2_sep (x_blk hT e2 (by omega) (d + 1) n v l) (Ok_some (Q := fun u => yXX N kd vl pl Γ0 2 ac u.2) ⟨CX_cfl h2' (Or.inl rfl), cfP_trans p15 (cfP_trans cfP_cop cfP_cfl)⟩) (fun u v b c => Or.inr ?_)
      obtain ⟨y, hy1, hy2⟩ := b.2
      exact SRes_of (xx_B b.1 (by omega)) c rfl hac ⟨y, hy1, by omega, by omega⟩
    refine Ok2_rneg (by rw [show (0 : Int32) = J 0 from rfl, J_eq (by omega) (by omega) (by omega) (by omega)]; exact q0) ?_
    refine Ok2_bind (Ok2_mono (hS (B - 2) ac ln' nn' d e _ _ p2 p3 (by unfold preS; omega) (by omega) (by omega)) ?_)
    rintro ⟨u1, u2⟩ ⟨v1, v2⟩ hr
    dsimp only
    rw [show J (c : Nat) + 1 = J (c + 1 : Nat) by rw [J_lit, J_add]; rfl]
    rcases hr with ⟨h2, a', ln2, nn2, x, ⟨t1, th⟩, t2, t3, t4, t5, t6, t7, t8, t9, t10, t11⟩ | hs
    rotate_left
    · obtain ⟨f, f', w', x1, x2, x3, x4, x5⟩ := of_SRes (SRes_mono hs p14 p15)
      obtain ⟨v, l, τ', e1, e2⟩ := hx (u1, u2) f w' x1 x5
      dsimp only at e1
      rw [e1]
      obtain ⟨n, rfl⟩ : ∃ e, n = e + 1 := ⟨n - 1, by omega⟩
      obtain ⟨m, rfl⟩ : ∃ e, m = e + 1 := ⟨m - 1, by omega⟩
      exact blk_stop hT (by omega) (by omega) (xx_B e2 (by omega)) x2 x3 x4 d e n m v l _
    dsimp only at t1 t2 t3 t4 t5 t8 t9 t10 t11
    subst t1
    have sr := STX_rng t5
    have ha' := t3.2.2.2.2.2.2.1
    have sr5 := sr.2.2.2.2 rfl
    by_cases qc : c = 0
    · -- the first
      subst qc
      have e0 : ac = a + 1 := by rw [← p4.2.2.2.1]; exact p4.2.2.1
      have e1 : ln' = ln := by rw [← p4.2.2.2.2.2.1]; exact p4.2.2.2.2.1
      subst e0 e1
      refine Ok2_lneg (by unfold lst0; rw [if_pos rfl]; decide) ?_
      have key := ih n m 1 a' ln2 nn2 h2 (fun _ => x) (fun k => if k = 0 then nn else nn2) (fun k => if k = 0 then a + 1 else a') (fun _ => a') (fun k => if k = 0 then ln' else ln2) u2 v2 (by unfold fuB at th; omega) (by omega) (by omega) (by omega) t3 t4 (LSTf_one (x := x) (by rw [show nn = nn' by omega]; exact t5) (by omega) sr.2.1 sr.2.2.1 sr5 t2) rfl rfl (by omega) (by omega) (by omega) (by omega) (by omega) (rX_trans p12 (rX_le t8 hnn) (Nat.le_refl nn)) (cXt_trans p13 t9 (Nat.le_refl _) (by omega)) (rfP_trans p14 t10) (cfP_trans p15 t11)
      exact key
    · have hq := hls (c - 1) (by omega)
      have e1 : lst0 c xs = ((xs (c - 1) : Nat) : Int) := by unfold lst0; rw [if_neg qc]
      rw [e1]
      refine Ok2_lpos (by rw [show (0 : Int32) = J 0 from rfl, J_le (by omega) (by omega) (by omega) (by omega)]; omega) (Ok2_lneg (g_en (by omega)) (Ok2_lbnd ?_))
      rw [(ng (n := xs (c - 1)) (by omega)).2]
      have u7 : rX nn τ (mA u2 22 (upd (u2.2 22) (xs (c - 1)) (J (x : Nat)))) := rX_trans (rX_le t8 hnn) (rX_mA hq.1) (Nat.le_refl nn)
      have key := ih n m (c + 1) a' ln2 nn2 (max hh h2) (fun k => if k = c then x else xs k) (fun k => if k = c + 1 then nn2 else ls k) (fun k => if k = c then ac + 0 else if k = c + 1 then a' else is k) (fun k => if k = c then a' else js k) (fun k => if k = c + 1 then ln2 else ps k) (mA u2 22 (upd (u2.2 22) (xs (c - 1)) (J (x : Nat)))) v2 (by unfold fuB at th; omega) (by omega) (by omega) (by omega) (RN_mA t3 (by omega) (by omega) (by omega)) t4 ?_ ?_ ?_ (by omega) (by omega) (by omega) (by omega) (by omega) ?_ ?_ ?_ ?_
      · have g1 : fst0 (c + 1) (fun k => if k = c then x else xs k) = fst0 c xs := by
          show (if c + 1 = 0 then (-1 : Int) else ((if 0 = c then x else xs 0 : Nat) : Int)) = if c = 0 then (-1 : Int) else ((xs 0 : Nat) : Int)
          rw [if_neg (show ¬ c + 1 = 0 by omega), if_neg (show ¬ (0 = c) by omega), if_neg qc]
        have g2 : lst0 (c + 1) (fun k => if k = c then x else xs k) = (x : Nat) := by
          show (if c + 1 = 0 then (-1 : Int) else ((if c + 1 - 1 = c then x else xs (c + 1 - 1) : Nat) : Int)) = (x : Nat)
          rw [if_neg (show ¬ c + 1 = 0 by omega), if_pos (show c + 1 - 1 = c by omega)]
        rw [g1, g2] at key
        exact key
      · have g1 : fst0 (c + 1) (fun k => if k = c then x else xs k) = fst0 c xs := by
          show (if c + 1 = 0 then (-1 : Int) else ((if 0 = c then x else xs 0 : Nat) : Int)) = if c = 0 then (-1 : Int) else ((xs 0 : Nat) : Int)
          rw [if_neg (show ¬ c + 1 = 0 by omega), if_neg (show ¬ (0 = c) by omega), if_neg qc]
        rw [g1]
        refine LSTf_snoc p4 (by omega) (F := STX kd vl rv pl (mA u2 22 (upd (u2.2 22) (xs (c - 1)) (J (x : Nat)))) v2 (max hh h2) 0) ?_ ?_ (by omega) sr.2.1 sr.2.2.1 sr5 (fun h => absurd h (by omega)) ?_ ?_ ?_
        · intro k hk hEk
          have r1 := hrng (c - (k + 1)) (k + 1) (by omega)
          rw [show k + 1 + (c - (k + 1)) = c by omega] at r1
          have b9 := p4.2.2.2.2.2.2.1 k hk
          have bj : js k ≤ is (k + 1) := by rw [b9.2]; split <;> omega
          have b4 := p4.2.2.2.1
          have b6 := p4.2.2.2.2.2.1
          refine STX_mono hh _ (by omega) _ _ _ _ _ _ _ _ (STX_ag (σ := τ) (Γ := Δ) _ _ _ _ _ _ _ _ _ (fun y' y1 y2 => ?_) ⟨fun r r1 r2 => ?_, fun t' t1 t2 => ?_⟩ hEk)
          · have g : ∀ m, 17 ≤ m → m ≤ 22 → u2.2 m y' = τ.2 m y' := fun m m1 m2 => t8 m m1 m2 y' (by omega)
            refine ⟨g 17 (by omega) (by omega), g 18 (by omega) (by omega), g 19 (by omega) (by omega), fun _ => g 20 (by omega) (by omega), fun _ _ _ _ => g 21 (by omega) (by omega), fun hy => ?_⟩
            show upd _ _ _ _ = _
            rw [upd_s, if_neg ?_]
            · exact g 22 (by omega) (by omega)
            · rintro rfl
              by_cases qk : k = c - 1
              · exact hy (by rw [qk])
              · have r2 := (hrng (c - 1 - (k + 1)) (k + 1) (by omega)).1
                rw [show k + 1 + (c - 1 - (k + 1)) = c - 1 by omega] at r2
                have := (p4.2.1 (c - 1) (by omega)).1
                omega
          · exact t9.1 r (by omega)
          · exact t9.2 t' (by omega)
        · rw [p6]
          refine STX_mono h2 _ (by omega) _ _ _ _ _ _ _ _ (STX_ag (σ := u2) (Γ := v2) _ _ _ _ _ _ _ _ _ (fun y' y1 y2 => ⟨rfl, rfl, rfl, fun _ => rfl, fun _ _ _ _ => rfl, fun _ => ?_⟩) ⟨fun _ _ _ => rfl, fun _ _ _ => rfl⟩ t5)
          show upd _ _ _ _ = _
          rw [upd_s, if_neg (by omega)]
        · intro k hk
          have b2 := (p4.2.1 k (by omega)).2.1
          have r2 := (hrng (c - 1 - (k + 1)) (k + 1) (by omega)).1
          rw [show k + 1 + (c - 1 - (k + 1)) = c - 1 by omega] at r2
          have b3 := (p4.2.1 (c - 1) (by omega)).1
          have b5 := (hls k (by omega)).2
          show upd _ _ _ _ = _
          rw [upd_s, if_neg (by omega)]
          exact t8 22 (by omega) (by omega) _ (by omega)
        · show upd _ _ _ _ = _
          rw [upd_s, if_pos rfl]
        · show upd _ _ _ _ = _
          rw [upd_s, if_neg (by omega)]; exact t2
      · rw [if_neg (by omega)]; exact p5
      · rw [if_pos rfl]
      · exact rX_trans p12 u7 (Nat.le_refl nn)
      · exact cXt_trans p13 t9 p9 (by omega)
      · exact rfP_trans p14 (rfP_trans t10 (rfP_mA (by omega)))
      · exact cfP_trans p15 t11
theorem sBlock (hT : TKE T N kd vl rv pl) {dp : Nat} (hdp : dp ≤ 30) (hS : dp < 30 → simS T N kd vl rv pl (dp + 1)) : simB T N kd vl rv pl dp := by
  intro B a ln nn d1 d2 σ Γ h1 h2 hp hd1 hd2
  have hp' := hp
  unfold preS at hp'
  have ha := h1.2.2.2.2.2.2.1
  have hkr := kdOk_rng (TKE_ok hT ha)
  obtain ⟨m, hm, hm2⟩ := FU_1
  obtain ⟨d1, rfl⟩ : ∃ e, d1 = e + 1 := ⟨d1 - 1, by omega⟩
  obtain ⟨d2, rfl⟩ : ∃ e, d2 = e + 1 := ⟨d2 - 1, by omega⟩
  obtain ⟨n1, n2, n3, n4⟩ := TKE_N hT
  rw [q_gS_0, q_gB_0, blk_r, blk_c, hm]
  unfold F_X2_open
  rw [h2.2.2.1]
  by_cases q : kd a = 123
  rotate_left
  · refine Ok2_le (show F_X12_open 123 σ = _ from r_open_n hT h1 (c := 123) (by decide) q) ?_
    rw [if_neg (show ¬ J (kd a) = 123 by rw [show (123 : Int32) = J 123 from rfl, J_eq (by omega) (by omega) (by omega) (by omega)]; exact q), show F_X2_fail 2 Γ = _ from c_fail hT h2 2]
    refine Ok2_rsome (Ok2_rsome ?_)
    exact blk_stop hT (by omega) (by omega) ⟨⟨nn, RX_stp h1, by omega⟩, rfP_stp⟩ ⟨CX_cfl h2 (Or.inl rfl), cfP_cfl⟩ rfl ha d1 d2 m m _ _ _
  have haT := TKE_lt hT ha (by omega) (by omega)
  rw [if_pos (show J (kd a) = 123 by rw [q]; rfl), c_deepen hT h2 haT]
  by_cases hd30 : dp = 30
  · refine Ok2_le (show F_X12_open 123 σ = _ from r_open_x hT h1 (c := 123) (by decide) q hd30) ?_
    rw [if_neg (by omega)]
    refine Ok2_rsome (Ok2_rsome ?_)
    exact blk_stop hT (by omega) (by omega) ⟨⟨nn, RX_opn (RX_stp h1), by omega⟩, rfP_trans rfP_stp rfP_opn⟩ ⟨CX_cfl' h2 (Or.inr rfl), cfP_trans cfP_cop cfP_cfl⟩ (by unfold fxO; rw [if_neg (by omega)]) ha d1 d2 m m _ _ _
  have hd30' : dp < 30 := by omega
  refine Ok2_le (show F_X12_open 123 σ = _ from r_open_y hT h1 (c := 123) (by decide) q hd30') ?_
  rw [if_pos hd30']
  refine Ok2_rsome (Ok2_rsome ?_)
  have r4 := RN_psd (RN_opn (d := dp + 1) h1 (by omega)) haT
  have c2 := CN_cps hT (CN_cop (d := dp + 1) h2 (by omega)) haT
  exact blk_loop hT hp hd30' q (hS hd30') (by omega) (by omega) (T + 2) (m + 1) (m + 1) 0 (a + 1) ln nn 1 (fun _ => 0) (fun _ => nn) (fun _ => a + 1) (fun _ => 0) (fun _ => ln) _ _ (by omega) (by omega) (by omega) (by omega) r4 c2 LSTf_nil rfl rfl (by omega) (by omega) (by omega) (by omega) (by omega) (rX_trans rX_opn rX_psd (Nat.le_refl nn)) (cXt_trans cXt_cop cXt_cps (Nat.le_refl ln) (Nat.le_refl a)) (rfP_trans rfP_opn rfP_psd) (cfP_trans cfP_cop cfP_cps)
/-- every block, every if, every statement is read alike by both -/
theorem simAllS (hT : TKE T N kd vl rv pl) : ∀ (n dp : Nat), 30 - dp ≤ n → dp ≤ 30 → simB T N kd vl rv pl dp ∧ simF T N kd vl rv pl dp ∧ simS T N kd vl rv pl dp := by
  intro n
  induction n with
  | zero =>
    intro dp h1 h2
    have b := sBlock hT h2 (fun h => absurd h (by omega))
    have f := sIff hT h2 b (fun h => absurd h (by omega))
    exact ⟨b, f, sStat hT h2 b f⟩
  | succ n ih =>
    intro dp h1 h2
    have b := sBlock hT h2 (fun h => (ih (dp + 1) (by omega) (by omega)).2.2)
    have f := sIff hT h2 b (fun h => (ih (dp + 1) (by omega) (by omega)).2.1)
    exact ⟨b, f, sStat hT h2 b f⟩
theorem sim_block (hT : TKE T N kd vl rv pl) {dp : Nat} (hdp : dp ≤ 30) : simB T N kd vl rv pl dp := (simAllS hT 30 dp (by omega) hdp).1
