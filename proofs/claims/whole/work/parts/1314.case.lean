set_option maxHeartbeats 8000000 in
set_option maxRecDepth 100000 in
theorem law_case_13 {p : Program} {l : Launch} {e : Env} {s : State} {m : MethodId} {below : List Frame} {meth : Method} {c : Code} {b L : Nat} {xs : Nat → Int32} {dC : Nat → ClassId} {dI : Nat → Nat → Nat} {cB cC cI cJ cZ cP : ClassId} {A : Nat → Prop} {oo h qK qS : Nat} {ad : Nat → Nat} (hfl : l.stackTraces = false) (hx : p.tables.exec = Jvm.exec) (hb : c.code = cL_law) (hr : meth.sig.returnType = ret) (hml : c.maxLocals = 7) (hown : s.vm.findClass RL = some m.cls) (hts : ∀ w ∈ lw_good, w.before #[Value.ref b] s = true) (hlocks : meth.locks = false) (hX : va_X b L xs s s.heap) (hbl : b < s.heap.size) (hbA : ¬ A b) (hA : ∀ q : Nat, s.heap.size ≤ q → A q) (hK : va_K (dC, dI) vwCl [(cB, .byte), (cC, .char), (cI, .int), (cJ, .long), (cZ, .boolean), (cP, .object "StoryHouse$Play")] s) (hE : g_E A s s.heap) (hmc : ∀ (σ : MS) (sz q : Nat), mCells h ad sz q → va_A (mW cB cI cZ h qK qS ad σ) sz q) (hDM : mDis cB cI cZ h qK qS ad) (hKS : (∃ v : Nat, g_S qK v bytK A s s.heap) ∧ ∃ v : Nat, g_S qS v bytS A s s.heap) {k cells slots : Nat} (hk : 4 * k + 4 ≤ L) (hL : L ≤ 2048) (hc2 : cells + 2 ≤ 601024) (hs2 : slots + 12 ≤ 7293034) {oA : Nat → Nat} {rA : Nat → Nat → Nat} {T : TS} {og om : Option Nat} {σ : MS} {ol : Nat → Int64} {L' : Nat} (hL8 : L' ≤ 8 * k) (hT : TOP L' σ T) {H : Heap} {locs : List Loc} (hP : va_P (dC, dI) vwCl ([(oo, .inl (cJ, 1, .inr (.inl ol)))] ++ b_H cB cC cI cJ cZ cP oA rA T og om ++ mW cB cI cZ h qK qS ad σ) H) (hDD : (∀ (T : TS) (og om : Option Nat) (σ : MS) (ol : Nat → Int64), va_D A ([(oo, .inl (cJ, 1, .inr (.inl ol)))] ++ b_H cB cC cI cJ cZ cP oA rA T og om ++ mW cB cI cZ h qK qS ad σ))) (hS : va_S A s.heap H locs) {ls : Array Slot} (hl : lv_has ls 7 [(4, .int (J ((4 * k : Nat) : Int))), (0, .ref b), (1, .ref (oA 0)), (2, .ref h), (3, .ref oo)]) (KK : ∀ (oA' : Nat → Nat) (rA' : Nat → Nat → Nat) (T' : TS) (og' om' : Option Nat) (σ' : MS) (ol' : Nat → Int64) (L2 : Nat) (H' : Heap) (locs' : List Loc) (ls' : Array Slot), oA' 0 = oA 0 → L2 ≤ 8 * (k + 1) → TOP L2 σ' T' → va_P (dC, dI) vwCl ([(oo, .inl (cJ, 1, .inr (.inl ol')))] ++ b_H cB cC cI cJ cZ cP oA' rA' T' og' om' ++ mW cB cI cZ h qK qS ad σ') H' → (∀ (T : TS) (og om : Option Nat) (σ : MS) (ol : Nat → Int64), va_D A ([(oo, .inl (cJ, 1, .inr (.inl ol)))] ++ b_H cB cC cI cJ cZ cP oA' rA' T og om ++ mW cB cI cZ h qK qS ad σ)) → va_S A s.heap H' locs' → lv_has ls' 7 [(4, .int (J ((4 * k : Nat) : Int))), (0, .ref b), (1, .ref (oA 0)), (2, .ref h), (3, .ref oo)] → W p l e room_1 s m #[Value.ref b] below meth c H' locs' (cells + 2) (slots + 12) (lw_Z below #[Value.ref b] s) (F0 m 926 ls' [])) : W p l e room_1 s m #[Value.ref b] below meth c H locs cells slots (lw_Z below #[Value.ref b] s) (F0 m 733 ls []) := by
  have hN := hE.1
  refine lv_aload_n hx hb dL_law_733 rfl (lv_at hl 2 rfl) ?_
  refine lv_aload_n hx hb dL_law_734 rfl (lv_at hl 1 rfl) ?_
  refine lv_iload hx hb dL_law_735 (lv_at hl 0 rfl) ?_
  refine lv_iconst (v := 1) hx hb dL_law_737 (by decide +kernel) ?_
  refine lv_iadd hx hb dL_law_738 ?_
  rw [lw_k1 k]
  refine va_sld hx hb hX hbl hbA hS (i := J ((4 * k + 1 : Nat) : Int)) (gNn (by omega) (by omega)) dL_law_739 ?_
  refine lv_aload_n hx hb dL_law_740 rfl (lv_at hl 4 rfl) ?_
  obtain ⟨v1, σ1, res, eR, eF, hcd, hth, hzz, hv, L2, hL2, hT2⟩ := tp_value hT (xs (J ((4 * k + 1 : Nat) : Int)).toNatClampNeg)
  have hPc := bx_P (bs := [[(oo, .inl (cJ, 1, .inr (.inl ol)))], b_H cB cC cI cJ cZ cP oA rA T og om, mW cB cI cZ h qK qS ad σ]) (bs' := [[(oo, .inl (cJ, 1, .inr (.inl ol)))], b_H cB cC cI cJ cZ cP oA rA T og om]) (ws' := ([(oo, .inl (cJ, 1, .inr (.inl ol)))] ++ b_H cB cC cI cJ cZ cP oA rA T og om)) hP fl_3 fl_2 [0, 1] rfl
  have hDc := bx_D (bs := [[(oo, .inl (cJ, 1, .inr (.inl ol)))], b_H cB cC cI cJ cZ cP oA rA T og om, mW cB cI cZ h qK qS ad σ]) (bs' := [[(oo, .inl (cJ, 1, .inr (.inl ol)))], b_H cB cC cI cJ cZ cP oA rA T og om]) (ws' := ([(oo, .inl (cJ, 1, .inr (.inl ol)))] ++ b_H cB cC cI cJ cZ cP oA rA T og om)) (hDD T og om σ ol) fl_3 fl_2 [0, 1] (by decide +kernel) rfl
  have hFc := bx_F (bs := [[(oo, .inl (cJ, 1, .inr (.inl ol)))], b_H cB cC cI cJ cZ cP oA rA T og om, mW cB cI cZ h qK qS ad σ]) (bs' := [[(oo, .inl (cJ, 1, .inr (.inl ol)))], b_H cB cC cI cJ cZ cP oA rA T og om]) (wc := ([(oo, .inl (cJ, 1, .inr (.inl ol)))] ++ b_H cB cC cI cJ cZ cP oA rA T og om)) (hDD T og om σ ol) hS hA fl_3 fl_2 [0, 1] rfl
  refine g_ofi (wc := ([(oo, .inl (cJ, 1, .inr (.inl ol)))] ++ b_H cB cC cI cJ cZ cP oA rA T og om)) (wr := (mW cB cI cZ h qK qS ad σ)) hP (hDD T og om σ ol) hS hFc (bx_ix [[(oo, .inl (cJ, 1, .inr (.inl ol)))], b_H cB cC cI cJ cZ cP oA rA T og om, mW cB cI cZ h qK qS ad σ] [0, 1]) (bx_ix [[(oo, .inl (cJ, 1, .inr (.inl ol)))], b_H cB cC cI cJ cZ cP oA rA T og om, mW cB cI cZ h qK qS ad σ] [2]) (bx_C (bs := [[(oo, .inl (cJ, 1, .inr (.inl ol)))], b_H cB cC cI cJ cZ cP oA rA T og om, mW cB cI cZ h qK qS ad σ]) (bs' := [[(oo, .inl (cJ, 1, .inr (.inl ol)))], b_H cB cC cI cJ cZ cP oA rA T og om]) (is := [0, 1]) fl_3 fl_2 rfl) (bx_C (bs := [[(oo, .inl (cJ, 1, .inr (.inl ol)))], b_H cB cC cI cJ cZ cP oA rA T og om, mW cB cI cZ h qK qS ad σ]) (bs' := [mW cB cI cZ h qK qS ad σ]) (is := [2]) fl_3 fl_1 rfl) (bx_n (by decide +kernel)) (bx_d (by decide +kernel)) (vx_runSW (As := [.ref (oA 0), .int (xs (J ((4 * k + 1 : Nat) : Int)).toNatClampNeg), .ref oo]) (rest := []) ⟨hx, hb, hml, hown, hts⟩ (l_L_value l dC dI cB cC cI cJ cZ cP oA rA hfl oo ol og om _ (xs (J ((4 * k + 1 : Nat) : Int)).toNatClampNeg) T _ eF hcd) (vx_cwSW 3 hts (g_gSW wq_1325 wq_1326 wq_0 wq_1327) rfl rfl rfl (by decide +kernel) ⟨Nat.le_of_ble_eq_true rfl, Nat.le_of_ble_eq_true rfl⟩) (g_preS g_bl0 hK hPc hDc hS hE hFc g_to0) rfl rfl hl.1 rfl (lv_room (Nat.le_of_ble_eq_true rfl)) dL_law_741 ⟨(show cells + 1 ≤ 601024 from by omega), (show slots + 6 ≤ 7293034 from by omega)⟩) (fun r9 g2 H locs hw9 hP' hD' hS => ?_)
  clear hPc hDc hFc hD'
  obtain ⟨e9, hg⟩ := hw9
  subst e9
  have hP : va_P (dC, dI) vwCl ([(oo, .inl (cJ, 1, .inr (.inl g2)))] ++ b_H cB cC cI cJ cZ cP oA rA res.2 og om ++ mW cB cI cZ h qK qS ad σ) H := bx_P (bs := [mW cB cI cZ h qK qS ad σ] ++ [[(oo, .inl (cJ, 1, .inr (.inl g2)))], b_H cB cC cI cJ cZ cP oA rA res.2 og om]) (bs' := [[(oo, .inl (cJ, 1, .inr (.inl g2)))], b_H cB cC cI cJ cZ cP oA rA res.2 og om, mW cB cI cZ h qK qS ad σ]) hP' (fl_a fl_1 fl_2) fl_3 [1, 2, 0] rfl
  clear hP'
  refine lv_istore (lv' := [(5, .int (wn_value res.1.1)), (4, .int (J ((4 * k : Nat) : Int))), (0, .ref b), (1, .ref (oA 0)), (2, .ref h), (3, .ref oo)]) hx hb dL_law_744 hl (by decide) rfl (fun ls hl => ?_)
  refine lv_aload_n hx hb dL_law_746 rfl (lv_at hl 4 rfl) ?_
  refine lv_aload_n hx hb dL_law_747 rfl (lv_at hl 2 rfl) ?_
  refine lv_iload hx hb dL_law_748 (lv_at hl 1 rfl) ?_
  refine lv_iconst (v := 1) hx hb dL_law_750 (by decide +kernel) ?_
  refine lv_iadd hx hb dL_law_751 ?_
  rw [lw_k1 k]
  refine va_sld hx hb hX hbl hbA hS (i := J ((4 * k + 1 : Nat) : Int)) (gNn (by omega) (by omega)) dL_law_752 ?_
  have hFm : ∀ q, va_A (mW cB cI cZ h qK qS ad σ) _ q → A q := bx_F (bs := [([(oo, .inl (cJ, 1, .inr (.inl g2)))] ++ b_H cB cC cI cJ cZ cP oA rA res.2 og om), mW cB cI cZ h qK qS ad σ]) (bs' := [mW cB cI cZ h qK qS ad σ]) (wc := mW cB cI cZ h qK qS ad σ) (hDD _ _ _ _ _) hS hA fl_2 fl_1 [1] rfl
  refine lb_ci (X := ([(oo, .inl (cJ, 1, .inr (.inl g2)))] ++ b_H cB cC cI cJ cZ cP oA rA res.2 og om)) (σ := σ) (σ' := σ1) hP (hDD _ _ _ _ _) hS hFm (hmc σ _) hDM (va_runV (As := [.int (xs (J ((4 * k + 1 : Nat) : Int)).toNatClampNeg)]) (rest := []) ⟨hx, hb, hml, hown, hts⟩ (m_X12_value l dC dI cB cC cI cJ cZ cP h qK qS ad hDM _ (xs (J ((4 * k + 1 : Nat) : Int)).toNatClampNeg) σ _ eR) (cwV 1 hts (g_gV wq_1960 wq_1961 wq_1962 wq_13 wq_1963) rfl rfl rfl (by decide +kernel) ⟨Nat.le_of_ble_eq_true rfl, Nat.le_of_ble_eq_true rfl⟩) (lb_preV (X := ([(oo, .inl (cJ, 1, .inr (.inl g2)))] ++ b_H cB cC cI cJ cZ cP oA rA res.2 og om)) (σ := σ) hK hP hS hE (fun q z => hFm q (hmc σ _ q z)) hKS) rfl rfl hl.1 rfl (lv_room (Nat.le_of_ble_eq_true rfl)) dL_law_753 ⟨(show cells + 1 + 0 ≤ 601024 from by omega), (show slots + 6 + 0 ≤ 7293034 from by omega)⟩) (fun H locs hP hS => ?_)
  clear hFm
  refine lv_istore (lv' := [(6, .int v1), (5, .int (wn_value res.1.1)), (4, .int (J ((4 * k : Nat) : Int))), (0, .ref b), (1, .ref (oA 0)), (2, .ref h), (3, .ref oo)]) hx hb dL_law_756 hl (by decide) rfl (fun ls hl => ?_)
  refine lv_aload_n hx hb dL_law_758 rfl (lv_at hl 5 rfl) ?_
  have hFm : ∀ q, va_A (mW cB cI cZ h qK qS ad σ1) _ q → A q := bx_F (bs := [([(oo, .inl (cJ, 1, .inr (.inl g2)))] ++ b_H cB cC cI cJ cZ cP oA rA res.2 og om), mW cB cI cZ h qK qS ad σ1]) (bs' := [mW cB cI cZ h qK qS ad σ1]) (wc := mW cB cI cZ h qK qS ad σ1) (hDD _ _ _ _ _) hS hA fl_2 fl_1 [1] rfl
  refine lb_ci (X := ([(oo, .inl (cJ, 1, .inr (.inl g2)))] ++ b_H cB cC cI cJ cZ cP oA rA res.2 og om)) (σ := σ1) (σ' := σ1) hP (hDD _ _ _ _ _) hS hFm (hmc σ1 _) hDM (va_runV (As := []) (rest := []) ⟨hx, hb, hml, hown, hts⟩ (m_X12_thrown l dC dI cB cC cI cJ cZ cP h qK qS ad hDM _  σ1 _ (thr_eq σ1)) (cwV 0 hts (g_gV wq_1479 wq_1480 wq_1481 wq_13 wq_1482) rfl rfl rfl (by decide +kernel) ⟨Nat.le_of_ble_eq_true rfl, Nat.le_of_ble_eq_true rfl⟩) (lb_preV (X := ([(oo, .inl (cJ, 1, .inr (.inl g2)))] ++ b_H cB cC cI cJ cZ cP oA rA res.2 og om)) (σ := σ1) hK hP hS hE (fun q z => hFm q (hmc σ1 _ q z)) hKS) rfl rfl hl.1 rfl (lv_room (Nat.le_of_ble_eq_true rfl)) dL_law_759 ⟨(show cells + 1 + 0 ≤ 601024 from by omega), (show slots + 6 + 0 ≤ 7293034 from by omega)⟩) (fun H locs hP hS => ?_)
  clear hFm
  refine lv_iload hx hb dL_law_762 (lv_at hl 1 rfl) ?_
  refine lv_icmp_eq (tgt := 769) hx hb dL_law_764 (by decide) (fun c_764 => ?_) (fun c_764 => absurd (by exact hth) c_764)
  refine lv_iload hx hb dL_law_769 (lv_at hl 1 rfl) ?_
  refine lv_if_ne (tgt := 786) hx hb dL_law_771 (by decide) (fun c_771 => ?_) (fun c_771 => ?_)
  · skip
    refine lv_goto (tgt := 926) hx hb dL_law_786 (by decide) ?_
    refine W.widen (k := cells + 2) (n := slots + 12) (Nat.le_trans (Nat.le_of_eq rfl) (Nat.add_le_add_left (Nat.le_of_ble_eq_true rfl) _)) (Nat.le_trans (Nat.le_of_eq rfl) (Nat.add_le_add_left (Nat.le_of_ble_eq_true rfl) _)) ?_
    exact KK oA rA res.2 og om σ1 g2 L2 _ _ _ rfl (by omega) hT2 hP hDD hS (lv_sub hl [2, 3, 4, 5, 6] rfl)
  · skip
    refine lv_aload_n hx hb dL_law_774 rfl (lv_at hl 6 rfl) ?_
    refine lv_iconst (v := 0) hx hb dL_law_775 (by decide +kernel) ?_
    refine va_lald hx hb hK hP 0 3 rfl rfl (vp_in_iff.mpr (by decide +kernel)) dL_law_776 ?_
    refine lv_iload hx hb dL_law_777 (lv_at hl 0 rfl) ?_
    refine lv_i2l hx hb dL_law_779 rfl ?_
    refine W.lcmp hx hb dL_law_780 ?_
    refine lv_if_eq (tgt := 786) hx hb dL_law_781 (by decide) (fun c_781 => ?_) (fun c_781 => absurd (by rw [g_lz0, hg (hzz c_771), hv (hzz c_771)]; exact g_cmp0 _) c_781)
    refine lv_goto (tgt := 926) hx hb dL_law_786 (by decide) ?_
    refine W.widen (k := cells + 2) (n := slots + 12) (Nat.le_trans (Nat.le_of_eq rfl) (Nat.add_le_add_left (Nat.le_of_ble_eq_true rfl) _)) (Nat.le_trans (Nat.le_of_eq rfl) (Nat.add_le_add_left (Nat.le_of_ble_eq_true rfl) _)) ?_
    exact KK oA rA res.2 og om σ1 g2 L2 _ _ _ rfl (by omega) hT2 hP hDD hS (lv_sub hl [2, 3, 4, 5, 6] rfl)
