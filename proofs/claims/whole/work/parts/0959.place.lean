/-! the parts between the brackets -/
variable {T N : Nat} {kd vl rv : Nat → Int} {pl : Nat → Nat}
/-- what a room or thing has before its parts -/
def PL0 (rv : Nat → Int) (pl : Nat → Nat) (w : Int) (σ : MS) (x i : Nat) : Prop := σ.2 17 x = J w ∧ σ.2 18 x = J (pl i) ∧ σ.2 19 x = J (x + 1 : Nat) ∧ NMN rv pl σ (x + 1) (i + 1) ∧ σ.2 21 x = J (x + 2 : Nat) ∧ σ.2 17 (x + 2) = J 35 ∧ σ.2 18 (x + 2) = J (pl (i + 2)) ∧ σ.2 20 (x + 2) = J (rv (i + 2)) ∧ σ.2 22 x = J (-1)
theorem PL0_r {w : Int} {σ τ : MS} {x i : Nat} (h : PL0 rv pl w σ x i) (hr : ∀ j, 17 ≤ j → j ≤ 22 → ∀ y, y < x + 3 → (y ≠ x ∨ j ≠ 20) → τ.2 j y = σ.2 j y) : PL0 rv pl w τ x i := by
  obtain ⟨h1, h2, h3, h4, h5, h6, h7, h8, h9⟩ := h
  refine ⟨?_, ?_, ?_, ⟨?_, ?_, ?_⟩, ?_, ?_, ?_, ?_, ?_⟩
  · rw [hr 17 (by omega) (by omega) x (by omega) (by omega)]; exact h1
  · rw [hr 18 (by omega) (by omega) x (by omega) (by omega)]; exact h2
  · rw [hr 19 (by omega) (by omega) x (by omega) (by omega)]; exact h3
  · rw [hr 17 (by omega) (by omega) (x + 1) (by omega) (by omega)]; exact h4.1
  · rw [hr 18 (by omega) (by omega) (x + 1) (by omega) (by omega)]; exact h4.2.1
  · rw [hr 19 (by omega) (by omega) (x + 1) (by omega) (by omega)]; exact h4.2.2
  · rw [hr 21 (by omega) (by omega) x (by omega) (by omega)]; exact h5
  · rw [hr 17 (by omega) (by omega) (x + 2) (by omega) (by omega)]; exact h6
  · rw [hr 18 (by omega) (by omega) (x + 2) (by omega) (by omega)]; exact h7
  · rw [hr 20 (by omega) (by omega) (x + 2) (by omega) (by omega)]; exact h8
  · rw [hr 22 (by omega) (by omega) x (by omega) (by omega)]; exact h9
theorem plc_loop (hT : TKE T N kd vl rv pl) {w' : Int} {B a dp ln nn : Nat} {σ0 : MS} {Γ0 : HS} {p0 : Int32} {P : HS → HR} (hp : preS T B a dp ln nn) (hdp : dp < 30) (hk1 : kd (a + 1) = 2) (hk2 : kd (a + 2) = 4) (hk3 : kd (a + 3) = 123) (hP : ∀ (B' a' nn' : Nat) (τ : MS) (Δ : HS), RN T kd vl rv pl τ a' (dp + 1) nn' → CN T N kd vl pl Δ a' (dp + 1) ln → preS T B' a' (dp + 1) ln nn' → Ok2 (F_X12_part p0 τ) (P Δ) (PtR T N kd vl rv pl w' B' τ Δ a' (dp + 1) ln nn')) : ∀ (k n m c ac nn' : Nat) (xs ls is js ps : Nat → Nat) (τ : MS) (Δ : HS), k < n → k < m → T + 2 - ac ≤ k → RN T kd vl rv pl τ ac (dp + 1) nn' → CN T N kd vl pl Δ ac (dp + 1) ln → LSTf kd τ (PE kd rv pl w' τ) 0 (fst0 c xs) c (a + 4) ac 0 c xs ls is js ps → ls 0 = nn + 3 → ls c = nn' → c ≤ ac - (a + 4) → a + 4 ≤ ac → nn' ≤ nn + 3 + 3 * (ac - (a + 4)) → PL0 rv pl w' τ nn a → τ.2 20 nn = J (fst0 c xs) → rX nn σ0 τ → cXt ln 5000 Γ0 Δ → rfP σ0 τ → cfP Γ0 Δ → Ok2 (loopF (Lr p0 nn) n (J (lst0 c xs), τ)) (loopF (Lq P) m (J (c : Nat), Δ)) (PlR T N kd vl rv pl w' B σ0 Γ0 a dp ln nn) := by
  obtain ⟨n1, n2, n3, n4⟩ := TKE_N hT
  unfold preS at hp
  intro k
  induction k with
  | zero =>
    intro n m c ac nn' xs ls is js ps τ Δ _ _ hk p2
    have := p2.2.2.2.2.2.2.1
    omega
  | succ k ih =>
    intro n m c ac nn' xs ls is js ps τ Δ hn hm hk p2 p3 p4 p5 p6 p7 p8 p10 pL v20 p12 p13 p14 p15
    obtain ⟨n, rfl⟩ : ∃ e, n = e + 1 := ⟨n - 1, by omega⟩
    obtain ⟨m, rfl⟩ : ∃ e, m = e + 1 := ⟨m - 1, by omega⟩
    have hac := p2.2.2.2.2.2.2.1
    have hkr := kdOk_rng (TKE_ok hT hac)
    have en := g_en (n := nn) (by omega)
    rw [(ng (n := nn) (by omega)).2] at en
    have hrng := LST_rng p4.2.1 p4.2.2.2.2.2.2.1 p4.2.2.2.2.2.2.2.1
    have hls : ∀ k, k < c → nn + 3 ≤ xs k ∧ xs k < nn' := by
      intro k hk
      have r1 := hrng k 0 (by omega)
      have r2 := hrng (c - (k + 1)) (k + 1) (by omega)
      rw [show k + 1 + (c - (k + 1)) = c by omega] at r2
      rw [Nat.zero_add] at r1
      have := p4.2.1 k hk
      omega
    have hnn : nn + 3 ≤ nn' := by
      have r1 := hrng c 0 (by omega)
      rw [Nat.zero_add] at r1
      omega
    rw [Lr_s, Lq_s]
    refine Ok2_lpos (by rw [p2.2.2.2.1]; rfl) (Ok2_rneg (by rw [p3.1.1, J_le (by omega) (by omega) (by omega) (by omega)]; omega) ?_)
    rw [p3.2.2.1]
    refine Ok2_le (show F_X12_isSign 125 τ = _ from r_isSign hT p2 (c := 125) (by decide)) ?_
    dsimp only
    by_cases q5 : kd ac = 125
    · -- the end
      rw [if_pos q5]
      refine Ok2_lneg J1_ne (Ok2_rpos (by rw [q5]; rfl) ?_)
      have hacT := TKE_lt hT hac (by omega) (by omega)
      unfold Lend Kce F_X2_shut
      refine Ok2_le (a := (J 0, opn (psd τ ac) dp)) (by rw [show F_X12_shut 125 τ = _ from r_shut hT p2 (c := 125) (by decide) (by omega), if_pos q5, show dp + 1 - 1 = dp by omega]) ?_
      have r1 : RN T kd vl rv pl (opn (psd τ ac) dp) (ac + 1) dp nn' := RN_opn (RN_psd p2 hacT) (by omega)
      rw [p3.2.2.2.1, show J ((dp + 1 : Nat) : Int) - 1 = J (dp : Nat) by rw [J_lit, J_sub]; exact congrArg J (by show ((dp + 1 : Nat) : Int) - 1 = _; omega)]
      have h2' : CN T N kd vl pl (cop Δ dp) ac dp ln := CN_cop p3 (by omega)
      rw [show (bnd (cI' Δ 2 4 (J (dp : Nat))) fun σ_1 => (F_X2_need 125 σ_1).bind fun u_3 => some ((0 : Int32), u_3.2)) = (F_X2_need 125 (cop Δ dp)).bind fun u_3 => some ((0 : Int32), u_3.2) from rfl, Option.bind_assoc]
      refine Ok2_re (a := (J 0, cps kd (cop Δ dp) ac)) (by rw [show F_X2_need 125 (cop Δ dp) = _ from c_need hT h2' (c := 125) (by omega), if_pos q5]) ?_
      obtain ⟨l1, l2, l3, l4, l5, l6, l7, l8, l9⟩ := pL
      refine Ok2_some ⟨rfl, Or.inl ⟨ac + 1, nn', r1, CN_cps hT h2' hacT, ⟨by omega, by omega, hk1, hk2, hk3, ?_, l1, l2, l3, l4, l5, l6, l7, l8, fst0 c xs, c, v20, ?_⟩, l9, by omega, rX_trans p12 (rX_trans rX_psd rX_opn (Nat.le_refl nn)) (Nat.le_refl nn), cXt_trans p13 (cXt_trans cXt_cop cXt_cps (Nat.le_refl ln) (Nat.le_refl 5000)) (Nat.le_refl ln) (Nat.le_refl 5000), rfP_trans p14 (rfP_trans rfP_psd rfP_opn), cfP_trans p15 (cfP_trans cfP_cop cfP_cps)⟩⟩
      · rw [show ac + 1 - 1 = ac by omega]; exact q5
      · rw [show ac + 1 - 1 = ac by omega]
        exact LSTf_LST p4 (by omega) (by omega)
    rw [if_neg q5]
    refine Ok2_lpos J0_eq (Ok2_rneg (by rw [show (125 : Int32) = J 125 from rfl, J_eq (by omega) (by omega) (by omega) (by omega)]; exact q5) ?_)
    -- the tail of the reference behind a fault
    have hx : ∀ (u : Int32 × MS) (f : Int) (w : Nat), rXX T kd vl rv pl B σ0 f w u.2 → ∃ (l : Int32) (τ' : MS), (if 0 ≤ J (lst0 c xs) then (if J (lst0 c xs) < 0 ∨ 40000 ≤ (J (lst0 c xs)).toNatClampNeg then none else bnd (mA u.2 22 (upd (u.2.2 22) (J (lst0 c xs)).toNatClampNeg u.1)) fun σ_61 => loopF (Lr p0 nn) n (u.1, σ_61)) else (if J (nn : Nat) < 0 ∨ 40000 ≤ nn then none else bnd (mA u.2 20 (upd (u.2.2 20) nn u.1)) fun σ_66 => loopF (Lr p0 nn) n (u.1, σ_66))) = loopF (Lr p0 nn) n (l, τ') ∧ rXX T kd vl rv pl B σ0 f w τ' := by
      intro u f w x1
      by_cases qc : c = 0
      · refine ⟨u.1, mA u.2 20 (upd (u.2.2 20) nn u.1), ?_, xx_mA x1 (by omega)⟩
        rw [if_neg (by unfold lst0; rw [if_pos qc]; decide), if_neg en]
        rfl
      · have hq := hls (c - 1) (by omega)
        have e1 : lst0 c xs = ((xs (c - 1) : Nat) : Int) := by unfold lst0; rw [if_neg qc]
        rw [e1]
        refine ⟨u.1, mA u.2 22 (upd (u.2.2 22) (xs (c - 1)) u.1), ?_, xx_mA x1 (by omega)⟩
        rw [if_pos (by rw [show (0 : Int32) = J 0 from rfl, J_le (by omega) (by omega) (by omega) (by omega)]; omega), if_neg (g_en (by omega)), (ng (n := xs (c - 1)) (by omega)).2]
        rfl
    obtain ⟨n, rfl⟩ : ∃ e, n = e + 1 := ⟨n - 1, by have := p2.2.2.2.2.2.2.1; omega⟩
    obtain ⟨m, rfl⟩ : ∃ e, m = e + 1 := ⟨m - 1, by have := p2.2.2.2.2.2.2.1; omega⟩
    by_cases q0 : kd ac = 0
    · -- the text's end
      refine Ok2_rpos (by rw [q0]; rfl) ?_
      refine Ok2_l (Ok_mono (x_pend hT (B := B) p2 q0 (by omega) p14) (fun u hu => ?_))
      obtain ⟨l, τ', e1, e2⟩ := hx u (unf kd ac) ac hu.1
      rw [e1]
      unfold Kce F_X2_shut
      rw [p3.2.2.2.1, show J ((dp + 1 : Nat) : Int) - 1 = J (dp : Nat) by rw [J_lit, J_sub]; exact congrArg J (by show ((dp + 1 : Nat) : Int) - 1 = _; omega)]
      have h2' : CN T N kd vl pl (cop Δ dp) ac dp ln := CN_cop p3 (by omega)
      rw [show (bnd (cI' Δ 2 4 (J (dp : Nat))) fun σ_1 => (F_X2_need 125 σ_1).bind fun u_3 => some ((0 : Int32), u_3.2)) = (F_X2_need 125 (cop Δ dp)).bind fun u_3 => some ((0 : Int32), u_3.2) from rfl, Option.bind_assoc]
      refine Ok2_re (a := (J 0, cfl N (cop Δ dp) 2 ac)) (by rw [show F_X2_need 125 (cop Δ dp) = _ from c_need hT h2' (c := 125) (by omega), if_neg q5]) ?_
      exact Ok2_sep (x_lr hT e2 p0 nn n l) (Ok_some (Q := fun u => yXX N kd vl pl Γ0 2 ac u.2) ⟨CX_cfl h2' (Or.inl rfl), cfP_trans p15 (cfP_trans cfP_cop cfP_cfl)⟩) (fun u v b c => ⟨b.2, Or.inr ⟨_, 2, ac, b.1, c, rfl, hac⟩⟩)
    refine Ok2_rneg (by rw [show (0 : Int32) = J 0 from rfl, J_eq (by omega) (by omega) (by omega) (by omega)]; exact q0) ?_
    refine Ok2_bind (Ok2_mono (hP B ac nn' _ _ p2 p3 (by unfold preS; omega)) ?_)
    rintro ⟨u1, u2⟩ ⟨v1, v2⟩ ⟨e0, hr⟩
    dsimp only at e0 hr ⊢
    subst e0
    rw [show J (c : Nat) + 1 = J (c + 1 : Nat) by rw [J_lit, J_add]; rfl]
    rcases hr with ⟨a', nn2, t3, t4, t5, t2, t6, t8, t9, t10, t11⟩ | ⟨f, f', w, x1, x2, x3, x4⟩
    rotate_left
    · obtain ⟨l, τ', e1, e2⟩ := hx (J (nn' : Nat), u2) f w ⟨x1.1, rfP_trans p14 x1.2⟩
      dsimp only at e1
      rw [e1]
      exact lr_stop hT e2 ⟨x2.1, cfP_trans p15 x2.2⟩ x3 x4 p0 P n m l _
    have sr1 := t5.1
    have sr2 := t5.2.1
    have ha' := t3.2.2.2.2.2.2.1
    by_cases qc : c = 0
    · -- the first
      subst qc
      have e0 : ac = a + 4 := by rw [← p4.2.2.2.1]; exact p4.2.2.1
      subst e0
      refine Ok2_lneg (by unfold lst0; rw [if_pos rfl]; decide) (Ok2_lneg en (Ok2_lbnd ?_))
      have e3 : nn' = nn + 3 := by omega
      subst e3
      have key := ih (n + 1) (m + 1) 1 a' nn2 (fun _ => nn + 3) (fun k => if k = 0 then nn + 3 else nn2) (fun k => if k = 0 then a + 4 else a') (fun _ => a') (fun k => if k = 0 then 0 else 1) (mA u2 20 (upd (u2.2 20) nn (J (nn + 3 : Nat)))) v2 (by omega) (by omega) (by omega) (RN_mA t3 (by omega) (by omega) (by omega)) t4 (LSTf_one (x := nn + 3) ⟨rfl, rfl, PRT_ag (agN_mA19 (Or.inr (Or.inl rfl)) (Or.inl (by omega))) t5⟩ (Nat.le_refl _) sr2 sr1 (by omega) t2) rfl rfl (by omega) (by omega) (by omega) (PL0_r pL ?_) ?_ (rX_trans p12 (rX_trans (rX_le t8 (by omega)) (rX_mA (Nat.le_refl nn)) (Nat.le_refl nn)) (Nat.le_refl nn)) (cXt_trans p13 t9 (Nat.le_refl _) (Nat.le_refl _)) (rfP_trans p14 (rfP_trans t10 (rfP_mA (by omega)))) (cfP_trans p15 t11)
      · exact key
      · intro j j1 j2 y hy hyj
        rw [mA_2]
        by_cases qj : j = 20
        · rw [if_pos qj, qj, upd_s, if_neg (by omega)]; exact t8 20 (by omega) (by omega) y (by omega)
        · rw [if_neg qj]; exact t8 j j1 j2 y (by omega)
      · show upd _ _ _ _ = _; rw [upd_s, if_pos rfl]; rfl
    · have hq := hls (c - 1) (by omega)
      have e1 : lst0 c xs = ((xs (c - 1) : Nat) : Int) := by unfold lst0; rw [if_neg qc]
      rw [e1]
      refine Ok2_lpos (by rw [show (0 : Int32) = J 0 from rfl, J_le (by omega) (by omega) (by omega) (by omega)]; omega) (Ok2_lneg (g_en (by omega)) (Ok2_lbnd ?_))
      rw [(ng (n := xs (c - 1)) (by omega)).2]
      have u7 : rX (nn + 3) τ (mA u2 22 (upd (u2.2 22) (xs (c - 1)) (J (nn' : Nat)))) := rX_trans (rX_le t8 hnn) (rX_mA hq.1) (Nat.le_refl _)
      have key := ih (n + 1) (m + 1) (c + 1) a' nn2 (fun k => if k = c then nn' else xs k) (fun k => if k = c + 1 then nn2 else ls k) (fun k => if k = c then ac + 0 else if k = c + 1 then a' else is k) (fun k => if k = c then a' else js k) (fun k => if k = c + 1 then c + 1 else ps k) (mA u2 22 (upd (u2.2 22) (xs (c - 1)) (J (nn' : Nat)))) v2 (by omega) (by omega) (by omega) (RN_mA t3 (by omega) (by omega) (by omega)) t4 ?_ ?_ ?_ (by omega) (by omega) (by omega) (PL0_r pL ?_) ?_ ?_ ?_ ?_ ?_
      · have g2 : lst0 (c + 1) (fun k => if k = c then nn' else xs k) = (nn' : Nat) := by
          show (if c + 1 = 0 then (-1 : Int) else ((if c + 1 - 1 = c then nn' else xs (c + 1 - 1) : Nat) : Int)) = (nn' : Nat)
          rw [if_neg (show ¬ c + 1 = 0 by omega), if_pos (show c + 1 - 1 = c by omega)]
        rw [g2] at key
        exact key
      · have g1 : fst0 (c + 1) (fun k => if k = c then nn' else xs k) = fst0 c xs := by
          show (if c + 1 = 0 then (-1 : Int) else ((if 0 = c then nn' else xs 0 : Nat) : Int)) = if c = 0 then (-1 : Int) else ((xs 0 : Nat) : Int)
          rw [if_neg (show ¬ c + 1 = 0 by omega), if_neg (show ¬ (0 = c) by omega), if_neg qc]
        rw [g1]
        refine LSTf_snoc p4 (by omega) (F := PE kd rv pl w' (mA u2 22 (upd (u2.2 22) (xs (c - 1)) (J (nn' : Nat))))) ?_ ?_ (by omega) sr2 sr1 (by omega) (fun h => absurd h (by omega)) ?_ ?_ ?_
        · rintro k hk ⟨hE1, hE2, hE3⟩
          have r1 := hrng (c - (k + 1)) (k + 1) (by omega)
          rw [show k + 1 + (c - (k + 1)) = c by omega] at r1
          refine ⟨hE1, hE2, PRT_ag (σ := τ) (fun y' y1 y2 => ?_) hE3⟩
          have g : ∀ m, 17 ≤ m → m ≤ 22 → u2.2 m y' = τ.2 m y' := fun m m1 m2 => t8 m m1 m2 y' (by omega)
          refine ⟨g 17 (by omega) (by omega), g 18 (by omega) (by omega), g 19 (by omega) (by omega), fun _ => g 20 (by omega) (by omega), fun _ _ _ _ => g 21 (by omega) (by omega), fun hy => ?_⟩
          show upd _ _ _ _ = _
          rw [upd_s, if_neg ?_]
          · exact g 22 (by omega) (by omega)
          · rintro rfl
            by_cases qk : k = c - 1
            · exact hy (by rw [qk])
            · have r2 := (hrng (c - 1 - (k + 1)) (k + 1) (by omega)).1
              rw [show k + 1 + (c - 1 - (k + 1)) = c - 1 by omega] at r2
              have := (p4.2.1 (c - 1) (by omega)).1
              omega
        · rw [p6]
          refine ⟨rfl, rfl, PRT_ag (σ := u2) (fun y' y1 y2 => ⟨rfl, rfl, rfl, fun _ => rfl, fun _ _ _ _ => rfl, fun _ => ?_⟩) t5⟩
          show upd _ _ _ _ = _
          rw [upd_s, if_neg (by omega)]
        · intro k hk
          have b2 := (p4.2.1 k (by omega)).2.1
          have r2 := (hrng (c - 1 - (k + 1)) (k + 1) (by omega)).1
          rw [show k + 1 + (c - 1 - (k + 1)) = c - 1 by omega] at r2
          have b3 := (p4.2.1 (c - 1) (by omega)).1
          have b5 := (hls k (by omega)).2
          show upd _ _ _ _ = _
          rw [upd_s, if_neg (by omega)]
          exact t8 22 (by omega) (by omega) _ (by omega)
        · show upd _ _ _ _ = _
          rw [upd_s, if_pos rfl]
        · show upd _ _ _ _ = _
          rw [upd_s, if_neg (by omega)]; exact t2
      · rw [if_neg (by omega)]; exact p5
      · rw [if_pos rfl]
      · intro j j1 j2 y hy _
        exact u7 j j1 j2 y hy
      · have g1 : fst0 (c + 1) (fun k => if k = c then nn' else xs k) = fst0 c xs := by
          show (if c + 1 = 0 then (-1 : Int) else ((if 0 = c then nn' else xs 0 : Nat) : Int)) = if c = 0 then (-1 : Int) else ((xs 0 : Nat) : Int)
          rw [if_neg (show ¬ c + 1 = 0 by omega), if_neg (show ¬ (0 = c) by omega), if_neg qc]
        rw [g1]
        exact (u7 20 (by omega) (by omega) nn (by omega)).trans v20
      · exact rX_trans p12 (rX_le u7 (by omega)) (Nat.le_refl nn)
      · exact cXt_trans p13 t9 (Nat.le_refl _) (Nat.le_refl _)
      · exact rfP_trans p14 (rfP_trans t10 (rfP_mA (by omega)))
      · exact cfP_trans p15 t11
