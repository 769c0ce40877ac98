/-! the whole source is read alike -/
variable {T N : Nat} {kd vl rv : Nat → Int} {pl : Nat → Nat}
def ITS (kd vl rv : Nat → Int) (pl : Nat → Nat) (σ : MS) (Γ : HS) (c : Nat) (ls is ps ds os es : Nat → Nat) : Prop := ∀ k, k < c → (ITM kd vl rv pl σ Γ (ls k) (ls (k + 1)) (is k) (is (k + 1)) (ps k) (ps (k + 1)) (ds k) (os k) (es k) ∧ σ.2 22 (ls k) = (if k + 1 < c then J (ls (k + 1) : Nat) else J (-1)) ∧ is k < is (k + 1) ∧ ls k < ls (k + 1) ∧ ps k ≤ ps (k + 1) ∧ ds (k + 1) = (if kd (is k) = 235 then ds k + 1 else ds k) ∧ os (k + 1) = (if kd (is k) = 236 then os k + 1 else os k) ∧ es (k + 1) = (if kd (is k) = 237 then es k + 1 else es k))
theorem ITS_rng {σ : MS} {Γ : HS} {c : Nat} {ls is ps ds os es : Nat → Nat} (h : ITS kd vl rv pl σ Γ c ls is ps ds os es) : ∀ d k, k + d ≤ c → ls k + d ≤ ls (k + d) ∧ is k + d ≤ is (k + d) ∧ ps k ≤ ps (k + d) ∧ ds k ≤ ds (k + d) ∧ os k ≤ os (k + d) ∧ es k ≤ es (k + d) ∧ ds (k + d) ≤ ds k + d ∧ os (k + d) ≤ os k + d ∧ es (k + d) ≤ es k + d := by
  intro d
  induction d with
  | zero => intro k _; exact ⟨Nat.le_refl _, Nat.le_refl _, Nat.le_refl _, Nat.le_refl _, Nat.le_refl _, Nat.le_refl _, Nat.le_refl _, Nat.le_refl _, Nat.le_refl _⟩
  | succ d ih =>
    intro k hk
    have i := ih k (by omega)
    obtain ⟨-, -, b1, b2, b3, b4, b5, b6⟩ := h (k + d) (by omega)
    rw [show k + (d + 1) = k + d + 1 by omega, b4, b5, b6]
    refine ⟨by omega, by omega, by omega, ?_, ?_, ?_, ?_, ?_, ?_⟩
    all_goals split <;> omega
theorem rti_ne {k k' : Int} {d o e d' o' e' : Nat} (h1 : k = 235 → d < d') (h2 : k = 236 → o < o') (h3 : k = 237 → e < e') (h : rti k d o e < 400) : rti k d o e ≠ rti k' d' o' e' := by
  unfold rti at h ⊢
  repeat' split at h
  all_goals (repeat' split)
  all_goals omega
theorem rti_nd {k' : Int} {d d' o' e' : Nat} (h1 : k' = 235 → d < d') (h : d < 100) : d ≠ rti k' d' o' e' := by
  unfold rti
  repeat' split
  all_goals omega
def ext (f : Nat → Nat) (c v : Nat) : Nat → Nat := fun k => if k ≤ c then f k else v
theorem ext_le {f : Nat → Nat} {c v k : Nat} (h : k ≤ c) : ext f c v k = f k := if_pos h
theorem ext_gt {f : Nat → Nat} {c v : Nat} : ext f c v (c + 1) = v := if_neg (by omega)
theorem ITS_snoc {τ κ : MS} {Δ Θ : HS} {c nn' a' ln' : Nat} {ls is ps ds os es : Nat → Nat} (h : ITS kd vl rv pl τ Δ c ls is ps ds os es) (hi : ITM kd vl rv pl κ Θ (ls c) nn' (is c) a' (ps c) ln' (ds c) (os c) (es c)) (h22 : κ.2 22 (ls c) = J (-1)) (h1 : is c < a') (h2 : ls c < nn') (h3 : ps c ≤ ln') (hκ : ∀ j, 17 ≤ j → j ≤ 22 → ∀ y, y < ls c → (j ≠ 22 ∨ c = 0 ∨ y ≠ ls (c - 1)) → κ.2 j y = τ.2 j y) (hl : 0 < c → κ.2 22 (ls (c - 1)) = J (ls c : Nat)) (hC : cXt (ps c) (is c) Δ Θ) (hT : tbQ (rti (kd (is c)) (ds c) (os c) (es c)) Δ Θ) : ITS kd vl rv pl κ Θ (c + 1) (ext ls c nn') (ext is c a') (ext ps c ln') (ext ds c (if kd (is c) = 235 then ds c + 1 else ds c)) (ext os c (if kd (is c) = 236 then os c + 1 else os c)) (ext es c (if kd (is c) = 237 then es c + 1 else es c)) := by
  intro k hk
  have hr := ITS_rng h
  by_cases q : k = c
  · subst q
    rw [ext_le (Nat.le_refl k), ext_le (Nat.le_refl k), ext_le (Nat.le_refl k), ext_le (Nat.le_refl k), ext_le (Nat.le_refl k), ext_le (Nat.le_refl k), ext_gt, ext_gt, ext_gt, ext_gt, ext_gt, ext_gt, if_neg (by omega)]
    exact ⟨hi, h22, h1, h2, h3, rfl, rfl, rfl⟩
  · have hkc : k < c := by omega
    obtain ⟨b1, b2, b3, b4, b5, b6, b7, b8⟩ := h k hkc
    have r1 := hr (c - (k + 1)) (k + 1) (by omega)
    rw [show k + 1 + (c - (k + 1)) = c by omega] at r1
    have r2 := hr (c - 1 - k) k (by omega)
    rw [show k + (c - 1 - k) = c - 1 by omega] at r2
    rw [ext_le (by omega), ext_le (show k + 1 ≤ c by omega), ext_le (by omega), ext_le (show k + 1 ≤ c by omega), ext_le (by omega), ext_le (show k + 1 ≤ c by omega), ext_le (by omega), ext_le (show k + 1 ≤ c by omega), ext_le (by omega), ext_le (show k + 1 ≤ c by omega), ext_le (by omega), ext_le (show k + 1 ≤ c by omega)]
    refine ⟨ITM_ag (σ := τ) (Γ := Δ) (fun y y1 y2 => ?_) ⟨fun r r1 r2 => hC.1 r (by omega), fun t t1 t2 => hC.2 t (by omega)⟩ ⟨fun hR => ?_, fun hn => ?_⟩ b1, ?_, b3, b4, b5, b6, b7, b8⟩
    · refine ⟨hκ 17 (by omega) (by omega) y (by omega) (by omega), hκ 18 (by omega) (by omega) y (by omega) (by omega), hκ 19 (by omega) (by omega) y (by omega) (by omega), fun _ => hκ 20 (by omega) (by omega) y (by omega) (by omega), fun _ _ _ _ => hκ 21 (by omega) (by omega) y (by omega) (by omega), fun hy => hκ 22 (by omega) (by omega) y (by omega) (Or.inr (Or.inr ?_))⟩
      by_cases qk : k = c - 1
      · rw [← qk]; exact hy
      · have r3 := hr (c - 1 - (k + 1)) (k + 1) (by omega)
        rw [show k + 1 + (c - 1 - (k + 1)) = c - 1 by omega] at r3
        omega
    · have hne := rti_ne (k := kd (is k)) (k' := kd (is c)) (d := ds k) (o := os k) (e := es k) (d' := ds c) (o' := os c) (e' := es c) (fun z => by rw [if_pos z] at b6; omega) (fun z => by rw [if_pos z] at b7; omega) (fun z => by rw [if_pos z] at b8; omega) hR
      exact ⟨(hT _ hne).1, (hT _ hne).2.1⟩
    · by_cases qd : kd (is k) = 235
      · rw [if_pos qd] at hn ⊢
        rw [if_pos qd] at b6
        exact (hT _ (rti_nd (fun _ => by omega) hn)).2.2
      · rw [if_neg qd] at hn; omega
    · by_cases qk : k + 1 = c
      · rw [if_pos (by omega), show k = c - 1 by omega, hl (by omega)]
        exact congrArg J (by rw [show c - 1 + 1 = c by omega])
      · rw [hκ 22 (by omega) (by omega) (ls k) (by omega) (Or.inr (Or.inr (by
          have r3 := hr (c - 1 - (k + 1)) (k + 1) (by omega)
          rw [show k + 1 + (c - 1 - (k + 1)) = c - 1 by omega] at r3
          omega))), b2, if_pos (by omega), if_pos (by omega)]
def Pr1 : (Int32 × MS → MR) → Int32 × MS → MR := (fun (again_12 : (Int32 × MS) → MR) (s_11 : Int32 × MS) => (
    if (s_11.2.1 27) = 0 then (
      bnd ((s_11.2.1 25)) fun (x_17 : Int32) =>
      if x_17 < 0 ∨ 16010 ≤ x_17.toNatClampNeg then none else
      if (s_11.2.2 7 x_17.toNatClampNeg) = 0 then (
        some (0, s_11.2)
      ) else (
        (F_X12_item s_11.2).bind fun u_24 =>
        bnd (fun  (σ_26 : MS) => (
          again_12 (u_24.1, σ_26)
        ) : MS → MR) fun j_27 =>
        if 0 ≤ s_11.1 then (
          if s_11.1 < 0 ∨ 40000 ≤ s_11.1.toNatClampNeg then none else
          bnd (mA u_24.2 22 (upd (u_24.2.2 22) s_11.1.toNatClampNeg u_24.1)) fun σ_34 =>
          j_27  σ_34
        ) else (
          bnd (mI u_24.2 24 u_24.1) fun σ_37 =>
          j_27  σ_37
        )
      )
    ) else (
      some (0, s_11.2)
    )
  ))
theorem parse_eq  (σ : MS) : F_X12_parse σ = 
  bnd (mI σ 25 0) fun σ_1 =>
  bnd (mI σ_1 23 0) fun σ_3 =>
  bnd (mI σ_3 26 0) fun σ_5 =>
  bnd (mI σ_5 27 0) fun σ_7 =>
  bnd (mI σ_7 24 (-1)) fun σ_9 =>
  loopF Pr1 FU ((-1), σ_9) := rfl
def Pe2 : Int32 → HS → HR := fun (t_25 : Int32) (σ_26 : HS) => bnd (cI' σ_26 2 7 t_25) fun σ_30 => some (((σ_30 2).1 5), σ_30)
def Pe1 : HS → HR := fun (σ_21 : HS) => bnd Pe2 fun j_27 => if ((σ_21 2).1 5) = 0 then j_27 (-1) σ_21 else (F_X10_placeOf ((σ_21 2).1 6) σ_21).bind fun u_35 => bnd (mrg (fun j => j == 1) σ_21 u_35.2) fun σ_37 => j_27 u_35.1 σ_37
def Pe0 : HS → HR := fun (σ_17 : HS) => bnd Pe1 fun j_22 => if ((σ_17 2).1 5) = 0 then j_22 σ_17 else (F_X10_kindOf ((σ_17 2).1 6) σ_17).bind fun u_42 => bnd (mrg (fun j => j == 1) σ_17 u_42.2) fun σ_44 => if u_42.1 = 1 then bnd (cI' σ_44 2 5 1) fun σ_48 => j_22 σ_48 else j_22 σ_44
theorem pe0_ok {Γ : HS} (h : (Γ 2).1 5 = J 0) : Pe0 Γ = some ((Γ 2).1 5, cI' Γ 2 7 (-1)) := by
  show (if ((Γ 2).1 5) = 0 then Pe1 Γ else _) = _
  rw [if_pos (by rw [h]; rfl)]
  show (if ((Γ 2).1 5) = 0 then Pe2 (-1) Γ else _) = _
  rw [if_pos (by rw [h]; rfl)]
  show some (upd (Γ 2).1 7 (-1) 5, _) = _
  rw [upd_s, if_neg (by omega)]
def Pc1 : (Int32 × HS → HR) → Int32 × HS → HR := fun again_14 s_13 => bnd Pe0 fun j_18 => if ((s_13.2 1).1 2) ≤ s_13.1 then j_18 s_13.2 else (if ((s_13.2 2).1 3) = 0 then j_18 s_13.2 else (F_X2_item s_13.2).bind fun u_57 => bnd (s_13.1 + 1) fun (x_59 : Int32) => again_14 (x_59, u_57.2))
theorem readAll_eq (Γ : HS) : F_X2_readAll Γ = 
  bnd (cI' Γ 2 2 0) fun σ_1 =>
  (F_X10_kindOf 0 σ_1).bind fun u_3 =>
  bnd (mrg (fun j => j == 1) σ_1 u_3.2) fun σ_5 =>
  bnd (cI' σ_5 2 3 u_3.1) fun σ_7 =>
  bnd (cI' σ_7 2 4 0) fun σ_9 =>
  bnd (cI' σ_9 2 5 0) fun σ_11 =>
  loopF Pc1 FU (0, σ_11) := rfl
def rfA (σ τ : MS) : Prop := (∀ k, k < 14 ∨ 27 < k ∨ (15 < k ∧ k < 23) → τ.1 k = σ.1 k) ∧ (∀ k, k < 17 ∨ 22 < k → τ.2 k = σ.2 k)
theorem rfA_of {σ τ : MS} (h : rfP σ τ) : rfA σ τ := ⟨fun k hk => h.1 k (by omega), h.2⟩
theorem rfA_trans {σ τ υ : MS} (h : rfA σ τ) (i : rfA τ υ) : rfA σ υ := ⟨fun k a => by rw [i.1 k a, h.1 k a], fun k a => by rw [i.2 k a, h.2 k a]⟩
theorem rfA_mI {σ : MS} {k : Nat} {v : Int32} (h : ¬ (k < 14 ∨ 27 < k ∨ (15 < k ∧ k < 23))) : rfA σ (mI σ k v) := ⟨fun j hj => by rw [mI_1, if_neg (by rintro rfl; exact h hj)], fun j _ => rfl⟩
/-- what both have when the source was read -/
def PaR (T N : Nat) (kd vl rv : Nat → Int) (pl : Nat → Nat) (σ : MS) (Γ : HS) (u : Int32 × MS) (v : Int32 × HS) : Prop :=
  rfA σ u.2 ∧ cfQ Γ v.2 ∧ ((v.1 = J 0 ∧ (v.2 2).1 7 = J (-1) ∧ kd T = 0 ∧ u.2.1 14 = J 0 ∧ ∃ (c nn ln : Nat) (ls is ps ds os es : Nat → Nat), RN T kd vl rv pl u.2 T 0 nn ∧ CN T N kd vl pl v.2 T 0 ln ∧ ITS kd vl rv pl u.2 v.2 c ls is ps ds os es ∧ ls 0 = 0 ∧ is 0 = 0 ∧ ps 0 = 0 ∧ ds 0 = 0 ∧ os 0 = 0 ∧ es 0 = 0 ∧ ls c = nn ∧ is c = T ∧ ps c = ln ∧ CNT v.2 (ds c) (os c) (es c) ∧ u.2.1 24 = J (if c = 0 then -1 else 0) ∧ nn ≤ 3 * T ∧ ln ≤ 7 * T)
  ∨ ∃ (f : Int) (w : Nat), (f = 1 ∨ f = 2 ∨ f = 5) ∧ w ≤ T ∧ v.1 = J f ∧ (v.2 2).1 7 = J (pl w) ∧ u.2.1 14 = J f ∧ u.2.1 15 = J (pl w))
theorem pe0_stop (hT : TKE T N kd vl rv pl) {Γ0 Γ : HS} {f' : Int} {w : Nat} (h : CX N kd vl pl Γ f' w) (i : cfQ Γ0 Γ) (hw : w ≤ T) : Ok (Pe0 Γ) fun v => v.1 = J (fxO kd f' w) ∧ (v.2 2).1 7 = J (pl w) ∧ cfQ Γ0 v.2 := by
  obtain ⟨n1, n2, n3, n4⟩ := TKE_N hT
  have hkr := kdOk_rng (TKE_ok hT hw)
  obtain ⟨a1, a2, a3, a4, a5, a6, a7⟩ := h
  have nz : ¬ (Γ 2).1 5 = 0 := by rw [a5, show (0 : Int32) = J 0 from rfl, J_eq (by omega) (by omega) (by omega) (by omega)]; omega
  show Ok (if ((Γ 2).1 5) = 0 then Pe1 Γ else (F_X10_kindOf ((Γ 2).1 6) Γ).bind fun u_42 => bnd (mrg (fun j => j == 1) Γ u_42.2) fun σ_44 => if u_42.1 = 1 then bnd (cI' σ_44 2 5 1) fun σ_48 => Pe1 σ_48 else Pe1 σ_44) _
  rw [if_neg nz, a6, c_kindOf hT a1 (show w < N by omega), Option.bind_some]
  dsimp only [bnd]
  rw [mrgE (fun r _ => rfl)]
  have key : ∀ (Δ : HS) (g : Int), (g = 1 ∨ g = 2 ∨ g = 5) → (Δ 2).1 5 = J g → (Δ 2).1 6 = J (w : Nat) → TKc N kd vl pl Δ → cfQ Γ0 Δ → Ok (Pe1 Δ) fun v => v.1 = J g ∧ (v.2 2).1 7 = J (pl w) ∧ cfQ Γ0 v.2 := by
    intro Δ g hg h5 h6 ht hq
    show Ok (if ((Δ 2).1 5) = 0 then Pe2 (-1) Δ else (F_X10_placeOf ((Δ 2).1 6) Δ).bind fun u_35 => bnd (mrg (fun j => j == 1) Δ u_35.2) fun σ_37 => Pe2 u_35.1 σ_37) _
    rw [if_neg (by rw [h5, show (0 : Int32) = J 0 from rfl, J_eq (by omega) (by omega) (by omega) (by omega)]; omega), h6, c_placeOf hT ht (show w < N by omega), Option.bind_some]
    dsimp only [bnd]
    rw [mrgE (fun r _ => rfl)]
    refine ⟨_, rfl, ?_, rfl, cfQ_trans hq (cfQ_of cfP_I2)⟩
    show upd (Δ 2).1 7 (J (pl w)) 5 = _
    rw [upd_s, if_neg (by omega)]; exact h5
  unfold fxO
  by_cases q : kd w = 1
  · rw [if_pos (by rw [q]; rfl), if_pos q]
    exact key _ 1 (Or.inl rfl) rfl (by show upd (Γ 2).1 5 1 6 = _; rw [upd_s, if_neg (by omega)]; exact a6) ⟨a1.1, a1.2⟩ (cfQ_trans i (cfQ_of cfP_I2))
  · rw [if_neg (by rw [show (1 : Int32) = J 1 from rfl, J_eq (by omega) (by omega) (by omega) (by omega)]; exact q), if_neg q]
    exact key _ f' (by omega) a5 a6 a1 i
theorem parse_loop (hT : TKE T N kd vl rv pl) {σ0 : MS} {Γ0 : HS} : ∀ (k n m c ac nn ln : Nat) (ls is ps ds os es : Nat → Nat) (τ : MS) (Δ : HS), k < n → k < m → T + 2 - ac ≤ k → RN T kd vl rv pl τ ac 0 nn → CN T N kd vl pl Δ ac 0 ln → ITS kd vl rv pl τ Δ c ls is ps ds os es → ls 0 = 0 → is 0 = 0 → ps 0 = 0 → ds 0 = 0 → os 0 = 0 → es 0 = 0 → ls c = nn → is c = ac → ps c = ln → CNT Δ (ds c) (os c) (es c) → τ.1 24 = J (if c = 0 then -1 else 0) → nn ≤ 3 * ac → ln ≤ 7 * ac → rfA σ0 τ → cfQ Γ0 Δ → Ok2 (loopF Pr1 n (J (if c = 0 then -1 else (ls (c - 1) : Nat)), τ)) (loopF Pc1 m (J (c : Nat), Δ)) (PaR T N kd vl rv pl σ0 Γ0) := by
  obtain ⟨n1, n2, n3, n4⟩ := TKE_N hT
  intro k
  induction k with
  | zero =>
    intro n m c ac nn ln ls is ps ds os es τ Δ _ _ hk p2
    have := p2.2.2.2.2.2.2.1
    omega
  | succ k ih =>
    intro n m c ac nn ln ls is ps ds os es τ Δ hn hm hk p2 p3 p4 z1 z2 z3 z4 z5 z6 y1 y2 y3 p5 p6 p7 p8 p9 p10
    obtain ⟨n, rfl⟩ : ∃ e, n = e + 1 := ⟨n - 1, by omega⟩
    obtain ⟨m, rfl⟩ : ∃ e, m = e + 1 := ⟨m - 1, by omega⟩
    have hac := p2.2.2.2.2.2.2.1
    have hkr := kdOk_rng (TKE_ok hT hac)
    have hr := ITS_rng p4 c 0 (by omega)
    rw [Nat.zero_add] at hr
    show Ok2 (Pr1 (loopF Pr1 n) (J (if c = 0 then -1 else (ls (c - 1) : Nat)), τ)) (Pc1 (loopF Pc1 m) (J (c : Nat), Δ)) _
    unfold Pr1 Pc1
    refine Ok2_lpos (by show τ.1 27 = 0; rw [p2.2.2.2.1]; rfl) (Ok2_lbnd (Ok2_lneg (rg hT p2).1 ?_))
    refine Ok2_rbnd ?_
    dsimp only
    rw [(rg hT p2).2, (RN_at hT p2).1]
    refine Ok2_rneg (by rw [p3.1.1, J_le (by omega) (by omega) (by omega) (by omega)]; omega) ?_
    rw [p3.2.2.1]
    have hke := tk_end hT hac
    have hrk := rkO_rng (kd ac)
    by_cases q0 : kd ac = 0
    · rw [if_pos (show J (rkO (kd ac)) = 0 by rw [hke.mpr q0]; rfl), if_pos (show J (kd ac) = 0 by rw [q0]; rfl)]
      have hacT : ac = T := by
        rcases Nat.lt_or_ge ac T with q | q
        · exact absurd q0 (hT.2.1 ac q).2.1
        · omega
      subst hacT
      rw [pe0_ok p3.2.2.2.2.1]
      refine Ok2_some ⟨p9, cfQ_trans p10 (cfQ_of cfP_I2), Or.inl ⟨?_, rfl, q0, p2.2.2.2.2.1, c, nn, ln, ls, is, ps, ds, os, es, p2, ?_, ?_, z1, z2, z3, z4, z5, z6, y1, y2, y3, p5, p6, p7, p8⟩⟩
      · exact p3.2.2.2.2.1
      · obtain ⟨a1, a2, a3, a4, a5, a6, a7, a8, a9⟩ := p3
        exact ⟨⟨a1.1, a1.2⟩, a2, a3, a4, a5, a6, a7, a8, a9⟩
      · intro k hk
        obtain ⟨b1, b2⟩ := p4 k hk
        exact ⟨ITM_ag (σ := τ) (Γ := Δ) (fun _ _ _ => ⟨rfl, rfl, rfl, fun _ => rfl, fun _ _ _ _ => rfl, fun _ => rfl⟩) ⟨fun _ _ _ => rfl, fun _ _ _ => rfl⟩ ⟨fun _ => ⟨rfl, rfl⟩, fun _ => rfl⟩ b1, b2⟩
    · rw [if_neg (show ¬ J (rkO (kd ac)) = 0 by rw [show (0 : Int32) = J 0 from rfl, J_eq (by omega) (by omega) (by omega) (by omega)]; exact fun e => q0 (hke.mp e)), if_neg (show ¬ J (kd ac) = 0 by rw [show (0 : Int32) = J 0 from rfl, J_eq (by omega) (by omega) (by omega) (by omega)]; exact q0)]
      refine Ok2_bind (Ok2_mono (sItem hT (B := 38000) p2 p3 q0 (by unfold preS; omega) (by omega) (by omega) (by omega) (by omega) (by omega) p5) ?_)
      rintro ⟨u1, u⟩ ⟨v1, v⟩ ⟨e1, hres⟩
      dsimp only at e1 hres ⊢
      subst e1
      have ec : J (c : Nat) + 1 = J (c + 1 : Nat) := by rw [J_lit, J_add]; rfl
      refine Ok2_rbnd ?_
      rw [ec]
      rcases hres with ⟨a', nn', ln', t1, t2, t3, t4, t5, t6, t7, t8, t9, t10, t11, t12, t13, t14, t15⟩ | ⟨f, f', w, s1, s2, s3, s4, s5⟩
      rotate_left
      · obtain ⟨n', rfl⟩ : ∃ e, n = e + 1 := ⟨n - 1, by omega⟩
        obtain ⟨m', rfl⟩ : ∃ e, m = e + 1 := ⟨m - 1, by omega⟩
        have hkw := kdOk_rng (TKE_ok hT s5)
        have hcx := s2
        obtain ⟨c1, c2, c3, c4, c5, c6, c7⟩ := hcx
        have cl : Ok (loopF Pc1 (m' + 1) (J (c + 1 : Nat), v)) fun x => x.1 = J (fxO kd f' w) ∧ (x.2 2).1 7 = J (pl w) ∧ cfQ Γ0 x.2 := by
          show Ok (if ((v 1).1 2) ≤ J (c + 1 : Nat) then Pe0 v else if ((v 2).1 3) = 0 then Pe0 v else _) _
          refine Ok_ite (fun _ => pe0_stop hT s2 (cfQ_trans p10 s3) s5) (fun _ => ?_)
          rw [if_pos (by rw [c3]; rfl)]
          exact pe0_stop hT s2 (cfQ_trans p10 s3) s5
        have rl : ∀ (κ : MS) (l : Int32), (∃ g : Nat → Int32, κ = mA u 22 g) ∨ (∃ x : Int32, κ = mI u 24 x) → Ok (loopF Pr1 (n' + 1) (l, κ)) fun x => rfA σ0 x.2 ∧ x.2.1 14 = J f ∧ x.2.1 15 = J (pl w) := by
          intro κ l hκ
          obtain ⟨⟨n0, x1, x2⟩, x3⟩ := s1
          have h27 : ¬ κ.1 27 = 0 := by
            rcases hκ with ⟨g, rfl⟩ | ⟨x, rfl⟩
            · show ¬ u.1 27 = 0; rw [x1.2.1]; exact J1_ne
            · show ¬ upd u.1 24 x 27 = 0; rw [upd_s, if_neg (by omega), x1.2.1]; exact J1_ne
          show Ok (if κ.1 27 = 0 then _ else some ((0 : Int32), κ)) _
          rw [if_neg h27]
          refine Ok_some ?_
          rcases hκ with ⟨g, rfl⟩ | ⟨x, rfl⟩
          · exact ⟨rfA_trans p9 (rfA_of (rfP_trans x3 (rfP_mA (by omega)))), x1.2.2.1, x1.2.2.2.1⟩
          · exact ⟨rfA_trans p9 (rfA_trans (rfA_of x3) (rfA_mI (by omega))), x1.2.2.1, x1.2.2.2.1⟩
        have hf : f = 1 ∨ f = 2 ∨ f = 5 := by rw [s4]; unfold fxO; split <;> omega
        have fin : ∀ (a : Int32 × MS) (b : Int32 × HS), (rfA σ0 a.2 ∧ a.2.1 14 = J f ∧ a.2.1 15 = J (pl w)) → (b.1 = J (fxO kd f' w) ∧ (b.2 2).1 7 = J (pl w) ∧ cfQ Γ0 b.2) → PaR T N kd vl rv pl σ0 Γ0 a b := fun a b ha hb => ⟨ha.1, hb.2.2, Or.inr ⟨f, w, hf, s5, by rw [s4]; exact hb.1, hb.2.1, ha.2.1, ha.2.2⟩⟩
        by_cases qc : c = 0
        · rw [if_pos qc]
          exact Ok2_lbnd (Ok2_lneg (by show ¬ (0 : Int32) ≤ J (-1); decide) (Ok2_lbnd (Ok2_sep (rl _ _ (Or.inr ⟨_, rfl⟩)) cl fin)))
        · rw [if_neg qc]
          have hlc := (p4 (c - 1) (by omega)).2.2.2.1
          rw [show c - 1 + 1 = c by omega] at hlc
          exact Ok2_lbnd (Ok2_lpos (by show (0 : Int32) ≤ J (ls (c - 1) : Nat); rw [show (0 : Int32) = J 0 from rfl, J_le (by omega) (by omega) (by omega) (by omega)]; omega) (Ok2_lneg (g_en (by omega)) (Ok2_lbnd (Ok2_sep (rl _ _ (Or.inl ⟨_, rfl⟩)) cl fin))))
      · have hx0 := hr
        have step : ∀ (κ : MS), RN T kd vl rv pl κ a' 0 nn' → κ.2 22 nn = J (-1) → ITM kd vl rv pl κ v nn nn' ac a' ln ln' (ds c) (os c) (es c) → (∀ j, 17 ≤ j → j ≤ 22 → ∀ y, y < ls c → (j ≠ 22 ∨ c = 0 ∨ y ≠ ls (c - 1)) → κ.2 j y = τ.2 j y) → (0 < c → κ.2 22 (ls (c - 1)) = J (ls c : Nat)) → κ.1 24 = J 0 → rfA σ0 κ → Ok2 (loopF Pr1 n (J (nn : Nat), κ)) (loopF Pc1 m (J (c + 1 : Nat), v)) (PaR T N kd vl rv pl σ0 Γ0) := by
          intro κ g1 g2 g3 g4 g5 g6 g7
          have hs := ITS_snoc (κ := κ) (Θ := v) (nn' := nn') (a' := a') (ln' := ln') p4 (by rw [y1, y2, y3]; exact g3) (by rw [y1]; exact g2) (by omega) (by omega) (by omega) g4 g5 (by rw [y2, y3]; exact t11) (by rw [y2]; exact t15)
          have key := ih n m (c + 1) a' nn' ln' _ _ _ _ _ _ κ v (by omega) (by omega) (by omega) g1 t2 hs (by rw [ext_le (by omega)]; exact z1) (by rw [ext_le (by omega)]; exact z2) (by rw [ext_le (by omega)]; exact z3) (by rw [ext_le (by omega)]; exact z4) (by rw [ext_le (by omega)]; exact z5) (by rw [ext_le (by omega)]; exact z6) ext_gt ext_gt ext_gt (by rw [ext_gt, ext_gt, ext_gt, y2]; exact t14) (by rw [if_neg (by omega)]; exact g6) (by omega) (by omega) g7 (cfQ_trans p10 t13)
          rw [if_neg (show ¬ c + 1 = 0 by omega), show c + 1 - 1 = c by omega, ext_le (Nat.le_refl c), y1] at key
          exact key
        by_cases qc : c = 0
        · rw [if_pos qc]
          have hnn : nn = 0 := by rw [← y1, qc, z1]
          refine Ok2_lbnd (Ok2_lneg (by show ¬ (0 : Int32) ≤ J (-1); decide) (Ok2_lbnd (step (mI u 24 (J (nn : Nat))) ?_ t4 (ITM_ag (σ := u) (Γ := v) (fun _ _ _ => ⟨rfl, rfl, rfl, fun _ => rfl, fun _ _ _ _ => rfl, fun _ => rfl⟩) agC_rfl ⟨fun _ => ⟨rfl, rfl⟩, fun _ => rfl⟩ t3) (fun j j1 j2 y hy _ => t10 j j1 j2 y (by omega)) (fun h => absurd qc (by omega)) (by show J (nn : Nat) = J 0; rw [hnn]; rfl) (rfA_trans p9 (rfA_trans (rfA_of t12) (rfA_mI (by omega)))))))
          exact ⟨t1.1, t1.2.1, t1.2.2.1, t1.2.2.2.1, t1.2.2.2.2.1, t1.2.2.2.2.2.1, t1.2.2.2.2.2.2⟩
        · rw [if_neg qc]
          have hlc := (p4 (c - 1) (by omega)).2.2.2.1
          rw [show c - 1 + 1 = c by omega] at hlc
          refine Ok2_lbnd (Ok2_lpos (by show (0 : Int32) ≤ J (ls (c - 1) : Nat); rw [show (0 : Int32) = J 0 from rfl, J_le (by omega) (by omega) (by omega) (by omega)]; omega) (Ok2_lneg (g_en (by omega)) (Ok2_lbnd ?_)))
          dsimp only
          rw [(ng (n := ls (c - 1)) (by omega)).2]
          refine step _ (RN_mA t1 (by omega) (by omega) (by omega)) (by show upd _ _ _ _ = _; rw [upd_s, if_neg (by omega)]; exact t4) ?_ (fun j j1 j2 y hy hj => ?_) (fun _ => by show upd _ _ _ _ = _; rw [upd_s, if_pos rfl, y1]) ?_ (rfA_trans p9 (rfA_of (rfP_trans t12 (rfP_mA (by omega)))))
          · refine ITM_ag (σ := u) (Γ := v) (fun y y1 y2 => ⟨rfl, rfl, rfl, fun _ => rfl, fun _ _ _ _ => rfl, fun _ => ?_⟩) agC_rfl ⟨fun _ => ⟨rfl, rfl⟩, fun _ => rfl⟩ t3
            show upd _ _ _ _ = _; rw [upd_s, if_neg (by omega)]
          · rw [mA_2]; split
            · rename_i q22; subst q22; rw [upd_s, if_neg (by omega)]; exact t10 22 j1 j2 y (by omega)
            · exact t10 j j1 j2 y (by omega)
          · show u.1 24 = _
            rw [t12.1 24 (by omega), p6, if_neg qc]
theorem sParse (hT : TKE T N kd vl rv pl) {σ : MS} {Γ : HS} (hr : TKr T kd vl rv pl σ) (hc : TKc N kd vl pl Γ) (h14 : σ.1 14 = J 0) (hl : (Γ 5).1 1 = J 0) (hC : CNT Γ 0 0 0) : Ok2 (F_X12_parse σ) (F_X2_readAll Γ) (PaR T N kd vl rv pl σ Γ) := by
  obtain ⟨n1, n2, n3, n4⟩ := TKE_N hT
  rw [parse_eq, readAll_eq]
  refine Ok2_lbnd (Ok2_lbnd (Ok2_lbnd (Ok2_lbnd (Ok2_lbnd (Ok2_rbnd ?_)))))
  refine Ok2_re (show F_X10_kindOf 0 (cI' Γ 2 2 0) = some (J (kd 0), cI' Γ 2 2 0) from c_kindOf hT (i := 0) (Γ := cI' Γ 2 2 0) ⟨hc.1, hc.2⟩ (by omega)) ?_
  refine Ok2_rbnd ?_
  dsimp only
  rw [mrgE (Γ := cI' Γ 2 2 0) (Δ := cI' Γ 2 2 0) (fun _ _ => rfl)]
  refine Ok2_rbnd (Ok2_rbnd (Ok2_rbnd ?_))
  have key := parse_loop hT (σ0 := σ) (Γ0 := Γ) (T + 2) FU FU 0 0 0 0 (fun _ => 0) (fun _ => 0) (fun _ => 0) (fun _ => 0) (fun _ => 0) (fun _ => 0) (mI (mI (mI (mI (mI σ 25 0) 23 0) 26 0) 27 0) 24 (-1)) (cI' (cI' (cI' (cI' Γ 2 2 0) 2 3 (J (kd 0))) 2 4 0) 2 5 0) (FU_gt (by omega)) (FU_gt (by omega)) (by omega) ⟨hr, rfl, rfl, rfl, h14, rfl, by omega, by omega⟩ ⟨⟨hc.1, hc.2⟩, rfl, rfl, rfl, rfl, hl, by omega, by omega, by omega⟩ (fun k hk => absurd hk (by omega)) rfl rfl rfl rfl rfl rfl rfl rfl rfl ⟨hC.1, hC.2.1, hC.2.2⟩ rfl (by omega) (by omega) (rfA_trans (rfA_trans (rfA_trans (rfA_trans (rfA_mI (by omega)) (rfA_mI (by omega))) (rfA_mI (by omega))) (rfA_mI (by omega))) (rfA_mI (by omega))) (cfQ_of (cfP_trans (cfP_trans (cfP_trans cfP_I2 cfP_I2) cfP_I2) cfP_I2))
  rw [if_pos rfl] at key
  exact key
