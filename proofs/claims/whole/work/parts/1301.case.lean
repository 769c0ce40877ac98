set_option maxHeartbeats 8000000 in
set_option maxRecDepth 100000 in
theorem law_case_0 {p : Program} {l : Launch} {e : Env} {s : State} {m : MethodId} {below : List Frame} {meth : Method} {c : Code} {b L : Nat} {xs : Nat → Int32} {dC : Nat → ClassId} {dI : Nat → Nat → Nat} {cB cC cI cJ cZ cP : ClassId} {A : Nat → Prop} {oo h qK qS : Nat} {ad : Nat → Nat} (hfl : l.stackTraces = false) (hx : p.tables.exec = Jvm.exec) (hb : c.code = cL_law) (hr : meth.sig.returnType = ret) (hml : c.maxLocals = 7) (hown : s.vm.findClass RL = some m.cls) (hts : ∀ w ∈ lw_good, w.before #[Value.ref b] s = true) (hlocks : meth.locks = false) (hX : va_X b L xs s s.heap) (hbl : b < s.heap.size) (hbA : ¬ A b) (hA : ∀ q : Nat, s.heap.size ≤ q → A q) (hK : va_K (dC, dI) vwCl [(cB, .byte), (cC, .char), (cI, .int), (cJ, .long), (cZ, .boolean), (cP, .object "StoryHouse$Play")] s) (hE : g_E A s s.heap) (hmc : ∀ (σ : MS) (sz q : Nat), mCells h ad sz q → va_A (mW cB cI cZ h qK qS ad σ) sz q) (hDM : mDis cB cI cZ h qK qS ad) (hKS : (∃ v : Nat, g_S qK v bytK A s s.heap) ∧ ∃ v : Nat, g_S qS v bytS A s s.heap) {k cells slots : Nat} (hk : 4 * k + 4 ≤ L) (hL : L ≤ 2048) (hc2 : cells + 2 ≤ 601024) (hs2 : slots + 12 ≤ 7293034) {oA : Nat → Nat} {rA : Nat → Nat → Nat} {T : TS} {og om : Option Nat} {σ : MS} {ol : Nat → Int64} {L' : Nat} (hL8 : L' ≤ 8 * k) (hT : TOP L' σ T) {H : Heap} {locs : List Loc} (hP : va_P (dC, dI) vwCl ([(oo, .inl (cJ, 1, .inr (.inl ol)))] ++ b_H cB cC cI cJ cZ cP oA rA T og om ++ mW cB cI cZ h qK qS ad σ) H) (hDD : (∀ (T : TS) (og om : Option Nat) (σ : MS) (ol : Nat → Int64), va_D A ([(oo, .inl (cJ, 1, .inr (.inl ol)))] ++ b_H cB cC cI cJ cZ cP oA rA T og om ++ mW cB cI cZ h qK qS ad σ))) (hS : va_S A s.heap H locs) {ls : Array Slot} (hl : lv_has ls 7 [(4, .int (J ((4 * k : Nat) : Int))), (0, .ref b), (1, .ref (oA 0)), (2, .ref h), (3, .ref oo)]) (KK : ∀ (oA' : Nat → Nat) (rA' : Nat → Nat → Nat) (T' : TS) (og' om' : Option Nat) (σ' : MS) (ol' : Nat → Int64) (L2 : Nat) (H' : Heap) (locs' : List Loc) (ls' : Array Slot), oA' 0 = oA 0 → L2 ≤ 8 * (k + 1) → TOP L2 σ' T' → va_P (dC, dI) vwCl ([(oo, .inl (cJ, 1, .inr (.inl ol')))] ++ b_H cB cC cI cJ cZ cP oA' rA' T' og' om' ++ mW cB cI cZ h qK qS ad σ') H' → (∀ (T : TS) (og om : Option Nat) (σ : MS) (ol : Nat → Int64), va_D A ([(oo, .inl (cJ, 1, .inr (.inl ol)))] ++ b_H cB cC cI cJ cZ cP oA' rA' T og om ++ mW cB cI cZ h qK qS ad σ)) → va_S A s.heap H' locs' → lv_has ls' 7 [(4, .int (J ((4 * k : Nat) : Int))), (0, .ref b), (1, .ref (oA 0)), (2, .ref h), (3, .ref oo)] → W p l e room_1 s m #[Value.ref b] below meth c H' locs' (cells + 2) (slots + 12) (lw_Z below #[Value.ref b] s) (F0 m 926 ls' [])) : W p l e room_1 s m #[Value.ref b] below meth c H locs cells slots (lw_Z below #[Value.ref b] s) (F0 m 120 ls []) := by
  have hN := hE.1
  refine lv_aload_n hx hb dL_law_120 rfl (lv_at hl 2 rfl) ?_
  refine lv_aload_n hx hb dL_law_121 rfl (lv_at hl 1 rfl) ?_
  refine lv_iload hx hb dL_law_122 (lv_at hl 0 rfl) ?_
  refine lv_iconst (v := 1) hx hb dL_law_124 (by decide +kernel) ?_
  refine lv_iadd hx hb dL_law_125 ?_
  rw [lw_k1 k]
  refine va_sld hx hb hX hbl hbA hS (i := J ((4 * k + 1 : Nat) : Int)) (gNn (by omega) (by omega)) dL_law_126 ?_
  refine lv_i2l hx hb dL_law_127 rfl ?_
  refine lv_bipush (v := 32) hx hb dL_law_128 (by decide +kernel) ?_
  refine lv_lshl hx hb dL_law_130 rfl ?_
  refine lv_topl (fun z130 ez130 => ?_)
  refine lv_aload_n hx hb dL_law_131 rfl (lv_at hl 1 rfl) ?_
  refine lv_iload hx hb dL_law_132 (lv_at hl 0 rfl) ?_
  refine lv_iconst (v := 2) hx hb dL_law_134 (by decide +kernel) ?_
  refine lv_iadd hx hb dL_law_135 ?_
  rw [lw_k2 k]
  refine va_sld hx hb hX hbl hbA hS (i := J ((4 * k + 2 : Nat) : Int)) (gNn (by omega) (by omega)) dL_law_136 ?_
  refine lv_i2l hx hb dL_law_137 rfl ?_
  refine lv_ldc2 (v := 4294967295) hx hb hown (hts (.constantLong RL 66 (4294967295)) wq_1976) dL_law_138 ?_
  refine lv_land hx hb dL_law_141 ?_
  refine lv_topl (fun z141 ez141 => ?_)
  refine lv_lor hx hb dL_law_142 ?_
  refine lv_topl (fun z142 ez142 => ?_)
  obtain ⟨v1, σ1, res, eR, eF, hcd, hth, hzz, hv, L2, hL2, hT2⟩ := tp_feed hT (by omega) z142 (xs (J ((4 * k + 3 : Nat) : Int)).toNatClampNeg)
  refine lv_aload_n hx hb dL_law_143 rfl (lv_at hl 1 rfl) ?_
  refine lv_iload hx hb dL_law_144 (lv_at hl 0 rfl) ?_
  refine lv_iconst (v := 3) hx hb dL_law_146 (by decide +kernel) ?_
  refine lv_iadd hx hb dL_law_147 ?_
  rw [lw_k3 k]
  refine va_sld hx hb hX hbl hbA hS (i := J ((4 * k + 3 : Nat) : Int)) (gNn (by omega) (by omega)) dL_law_148 ?_
  refine lv_aload_n hx hb dL_law_149 rfl (lv_at hl 4 rfl) ?_
  have hPc := bx_P (bs := [[(oo, .inl (cJ, 1, .inr (.inl ol)))], b_H cB cC cI cJ cZ cP oA rA T og om, mW cB cI cZ h qK qS ad σ]) (bs' := [[(oo, .inl (cJ, 1, .inr (.inl ol)))], b_H cB cC cI cJ cZ cP oA rA T og om]) (ws' := ([(oo, .inl (cJ, 1, .inr (.inl ol)))] ++ b_H cB cC cI cJ cZ cP oA rA T og om)) hP fl_3 fl_2 [0, 1] rfl
  have hDc := bx_D (bs := [[(oo, .inl (cJ, 1, .inr (.inl ol)))], b_H cB cC cI cJ cZ cP oA rA T og om, mW cB cI cZ h qK qS ad σ]) (bs' := [[(oo, .inl (cJ, 1, .inr (.inl ol)))], b_H cB cC cI cJ cZ cP oA rA T og om]) (ws' := ([(oo, .inl (cJ, 1, .inr (.inl ol)))] ++ b_H cB cC cI cJ cZ cP oA rA T og om)) (hDD T og om σ ol) fl_3 fl_2 [0, 1] (by decide +kernel) rfl
  have hFc := bx_F (bs := [[(oo, .inl (cJ, 1, .inr (.inl ol)))], b_H cB cC cI cJ cZ cP oA rA T og om, mW cB cI cZ h qK qS ad σ]) (bs' := [[(oo, .inl (cJ, 1, .inr (.inl ol)))], b_H cB cC cI cJ cZ cP oA rA T og om]) (wc := ([(oo, .inl (cJ, 1, .inr (.inl ol)))] ++ b_H cB cC cI cJ cZ cP oA rA T og om)) (hDD T og om σ ol) hS hA fl_3 fl_2 [0, 1] rfl
  refine g_ofi (wc := ([(oo, .inl (cJ, 1, .inr (.inl ol)))] ++ b_H cB cC cI cJ cZ cP oA rA T og om)) (wr := (mW cB cI cZ h qK qS ad σ)) hP (hDD T og om σ ol) hS hFc (bx_ix [[(oo, .inl (cJ, 1, .inr (.inl ol)))], b_H cB cC cI cJ cZ cP oA rA T og om, mW cB cI cZ h qK qS ad σ] [0, 1]) (bx_ix [[(oo, .inl (cJ, 1, .inr (.inl ol)))], b_H cB cC cI cJ cZ cP oA rA T og om, mW cB cI cZ h qK qS ad σ] [2]) (bx_C (bs := [[(oo, .inl (cJ, 1, .inr (.inl ol)))], b_H cB cC cI cJ cZ cP oA rA T og om, mW cB cI cZ h qK qS ad σ]) (bs' := [[(oo, .inl (cJ, 1, .inr (.inl ol)))], b_H cB cC cI cJ cZ cP oA rA T og om]) (is := [0, 1]) fl_3 fl_2 rfl) (bx_C (bs := [[(oo, .inl (cJ, 1, .inr (.inl ol)))], b_H cB cC cI cJ cZ cP oA rA T og om, mW cB cI cZ h qK qS ad σ]) (bs' := [mW cB cI cZ h qK qS ad σ]) (is := [2]) fl_3 fl_1 rfl) (bx_n (by decide +kernel)) (bx_d (by decide +kernel)) (vx_runSW (As := [.ref (oA 0), .long z142, .int (xs (J ((4 * k + 3 : Nat) : Int)).toNatClampNeg), .ref oo]) (rest := []) ⟨hx, hb, hml, hown, hts⟩ (l_L_feed l dC dI cB cC cI cJ cZ cP oA rA hfl oo ol og om _ z142 (xs (J ((4 * k + 3 : Nat) : Int)).toNatClampNeg) T _ eF hcd) (vx_cwSW 4 hts (g_gSW wq_916 wq_917 wq_0 wq_918) rfl rfl rfl (by decide +kernel) ⟨Nat.le_of_ble_eq_true rfl, Nat.le_of_ble_eq_true rfl⟩) (g_preS g_bl0 hK hPc hDc hS hE hFc g_to0) rfl rfl hl.1 rfl (lv_room (Nat.le_of_ble_eq_true rfl)) dL_law_150 ⟨(show cells + 1 ≤ 601024 from by omega), (show slots + 6 ≤ 7293034 from by omega)⟩) (fun r9 g2 H locs hw9 hP' hD' hS => ?_)
  clear hPc hDc hFc hD'
  obtain ⟨e9, hg⟩ := hw9
  subst e9
  have hP : va_P (dC, dI) vwCl ([(oo, .inl (cJ, 1, .inr (.inl g2)))] ++ b_H cB cC cI cJ cZ cP oA rA res.2 og om ++ mW cB cI cZ h qK qS ad σ) H := bx_P (bs := [mW cB cI cZ h qK qS ad σ] ++ [[(oo, .inl (cJ, 1, .inr (.inl g2)))], b_H cB cC cI cJ cZ cP oA rA res.2 og om]) (bs' := [[(oo, .inl (cJ, 1, .inr (.inl g2)))], b_H cB cC cI cJ cZ cP oA rA res.2 og om, mW cB cI cZ h qK qS ad σ]) hP' (fl_a fl_1 fl_2) fl_3 [1, 2, 0] rfl
  clear hP'
  refine lv_istore (lv' := [(5, .int (wn_feed res.1.1)), (4, .int (J ((4 * k : Nat) : Int))), (0, .ref b), (1, .ref (oA 0)), (2, .ref h), (3, .ref oo)]) hx hb dL_law_153 hl (by decide) rfl (fun ls hl => ?_)
  refine lv_aload_n hx hb dL_law_155 rfl (lv_at hl 4 rfl) ?_
  refine lv_aload_n hx hb dL_law_156 rfl (lv_at hl 2 rfl) ?_
  refine lv_iload hx hb dL_law_157 (lv_at hl 1 rfl) ?_
  refine lv_iconst (v := 1) hx hb dL_law_159 (by decide +kernel) ?_
  refine lv_iadd hx hb dL_law_160 ?_
  rw [lw_k1 k]
  refine va_sld hx hb hX hbl hbA hS (i := J ((4 * k + 1 : Nat) : Int)) (gNn (by omega) (by omega)) dL_law_161 ?_
  refine lv_i2l hx hb dL_law_162 rfl ?_
  refine lv_bipush (v := 32) hx hb dL_law_163 (by decide +kernel) ?_
  refine lv_lshl hx hb dL_law_165 rfl ?_
  refine lv_topl (fun z165 ez165 => ?_)
  refine lv_aload_n hx hb dL_law_166 rfl (lv_at hl 2 rfl) ?_
  refine lv_iload hx hb dL_law_167 (lv_at hl 1 rfl) ?_
  refine lv_iconst (v := 2) hx hb dL_law_169 (by decide +kernel) ?_
  refine lv_iadd hx hb dL_law_170 ?_
  rw [lw_k2 k]
  refine va_sld hx hb hX hbl hbA hS (i := J ((4 * k + 2 : Nat) : Int)) (gNn (by omega) (by omega)) dL_law_171 ?_
  refine lv_i2l hx hb dL_law_172 rfl ?_
  refine lv_ldc2 (v := 4294967295) hx hb hown (hts (.constantLong RL 66 (4294967295)) wq_1976) dL_law_173 ?_
  refine lv_land hx hb dL_law_176 ?_
  refine lv_topl (fun z176 ez176 => ?_)
  refine lv_lor hx hb dL_law_177 ?_
  refine lv_topl (fun z177 ez177 => ?_)
  obtain rfl : z142 = z177 := by rw [ez142, ez177, ez141, ez176, ez130, ez165]
  refine lv_aload_n hx hb dL_law_178 rfl (lv_at hl 2 rfl) ?_
  refine lv_iload hx hb dL_law_179 (lv_at hl 1 rfl) ?_
  refine lv_iconst (v := 3) hx hb dL_law_181 (by decide +kernel) ?_
  refine lv_iadd hx hb dL_law_182 ?_
  rw [lw_k3 k]
  refine va_sld hx hb hX hbl hbA hS (i := J ((4 * k + 3 : Nat) : Int)) (gNn (by omega) (by omega)) dL_law_183 ?_
  have hFm : ∀ q, va_A (mW cB cI cZ h qK qS ad σ) _ q → A q := bx_F (bs := [([(oo, .inl (cJ, 1, .inr (.inl g2)))] ++ b_H cB cC cI cJ cZ cP oA rA res.2 og om), mW cB cI cZ h qK qS ad σ]) (bs' := [mW cB cI cZ h qK qS ad σ]) (wc := mW cB cI cZ h qK qS ad σ) (hDD _ _ _ _ _) hS hA fl_2 fl_1 [1] rfl
  refine lb_ci (X := ([(oo, .inl (cJ, 1, .inr (.inl g2)))] ++ b_H cB cC cI cJ cZ cP oA rA res.2 og om)) (σ := σ) (σ' := σ1) hP (hDD _ _ _ _ _) hS hFm (hmc σ _) hDM (va_runV (As := [.long z142, .int (xs (J ((4 * k + 3 : Nat) : Int)).toNatClampNeg)]) (rest := []) ⟨hx, hb, hml, hown, hts⟩ (m_X12_feed l dC dI cB cC cI cJ cZ cP h qK qS ad hDM _ z142 (xs (J ((4 * k + 3 : Nat) : Int)).toNatClampNeg) σ _ eR) (cwV 2 hts (g_gV wq_1483 wq_1484 wq_1485 wq_13 wq_1486) rfl rfl rfl (by decide +kernel) ⟨Nat.le_of_ble_eq_true rfl, Nat.le_of_ble_eq_true rfl⟩) (lb_preV (X := ([(oo, .inl (cJ, 1, .inr (.inl g2)))] ++ b_H cB cC cI cJ cZ cP oA rA res.2 og om)) (σ := σ) hK hP hS hE (fun q z => hFm q (hmc σ _ q z)) hKS) rfl rfl hl.1 rfl (lv_room (Nat.le_of_ble_eq_true rfl)) dL_law_184 ⟨(show cells + 1 + 0 ≤ 601024 from by omega), (show slots + 6 + 0 ≤ 7293034 from by omega)⟩) (fun H locs hP hS => ?_)
  clear hFm
  refine lv_istore (lv' := [(6, .int v1), (5, .int (wn_feed res.1.1)), (4, .int (J ((4 * k : Nat) : Int))), (0, .ref b), (1, .ref (oA 0)), (2, .ref h), (3, .ref oo)]) hx hb dL_law_187 hl (by decide) rfl (fun ls hl => ?_)
  refine lv_aload_n hx hb dL_law_189 rfl (lv_at hl 5 rfl) ?_
  have hFm : ∀ q, va_A (mW cB cI cZ h qK qS ad σ1) _ q → A q := bx_F (bs := [([(oo, .inl (cJ, 1, .inr (.inl g2)))] ++ b_H cB cC cI cJ cZ cP oA rA res.2 og om), mW cB cI cZ h qK qS ad σ1]) (bs' := [mW cB cI cZ h qK qS ad σ1]) (wc := mW cB cI cZ h qK qS ad σ1) (hDD _ _ _ _ _) hS hA fl_2 fl_1 [1] rfl
  refine lb_ci (X := ([(oo, .inl (cJ, 1, .inr (.inl g2)))] ++ b_H cB cC cI cJ cZ cP oA rA res.2 og om)) (σ := σ1) (σ' := σ1) hP (hDD _ _ _ _ _) hS hFm (hmc σ1 _) hDM (va_runV (As := []) (rest := []) ⟨hx, hb, hml, hown, hts⟩ (m_X12_thrown l dC dI cB cC cI cJ cZ cP h qK qS ad hDM _  σ1 _ (thr_eq σ1)) (cwV 0 hts (g_gV wq_1479 wq_1480 wq_1481 wq_13 wq_1482) rfl rfl rfl (by decide +kernel) ⟨Nat.le_of_ble_eq_true rfl, Nat.le_of_ble_eq_true rfl⟩) (lb_preV (X := ([(oo, .inl (cJ, 1, .inr (.inl g2)))] ++ b_H cB cC cI cJ cZ cP oA rA res.2 og om)) (σ := σ1) hK hP hS hE (fun q z => hFm q (hmc σ1 _ q z)) hKS) rfl rfl hl.1 rfl (lv_room (Nat.le_of_ble_eq_true rfl)) dL_law_190 ⟨(show cells + 1 + 0 ≤ 601024 from by omega), (show slots + 6 + 0 ≤ 7293034 from by omega)⟩) (fun H locs hP hS => ?_)
  clear hFm
  refine lv_iload hx hb dL_law_193 (lv_at hl 1 rfl) ?_
  refine lv_icmp_eq (tgt := 200) hx hb dL_law_195 (by decide) (fun c_195 => ?_) (fun c_195 => absurd (by exact hth) c_195)
  refine lv_iload hx hb dL_law_200 (lv_at hl 1 rfl) ?_
  refine lv_if_ne (tgt := 217) hx hb dL_law_202 (by decide) (fun c_202 => ?_) (fun c_202 => ?_)
  · skip
    refine lv_goto (tgt := 926) hx hb dL_law_217 (by decide) ?_
    refine W.widen (k := cells + 2) (n := slots + 12) (Nat.le_trans (Nat.le_of_eq rfl) (Nat.add_le_add_left (Nat.le_of_ble_eq_true rfl) _)) (Nat.le_trans (Nat.le_of_eq rfl) (Nat.add_le_add_left (Nat.le_of_ble_eq_true rfl) _)) ?_
    exact KK oA rA res.2 og om σ1 g2 L2 _ _ _ rfl (by omega) hT2 hP hDD hS (lv_sub hl [2, 3, 4, 5, 6] rfl)
  · skip
    refine lv_aload_n hx hb dL_law_205 rfl (lv_at hl 6 rfl) ?_
    refine lv_iconst (v := 0) hx hb dL_law_206 (by decide +kernel) ?_
    refine va_lald hx hb hK hP 0 3 rfl rfl (vp_in_iff.mpr (by decide +kernel)) dL_law_207 ?_
    refine lv_iload hx hb dL_law_208 (lv_at hl 0 rfl) ?_
    refine lv_i2l hx hb dL_law_210 rfl ?_
    refine W.lcmp hx hb dL_law_211 ?_
    refine lv_if_eq (tgt := 217) hx hb dL_law_212 (by decide) (fun c_212 => ?_) (fun c_212 => absurd (by rw [g_lz0, hg (hzz c_202), hv (hzz c_202)]; exact g_cmp0 _) c_212)
    refine lv_goto (tgt := 926) hx hb dL_law_217 (by decide) ?_
    refine W.widen (k := cells + 2) (n := slots + 12) (Nat.le_trans (Nat.le_of_eq rfl) (Nat.add_le_add_left (Nat.le_of_ble_eq_true rfl) _)) (Nat.le_trans (Nat.le_of_eq rfl) (Nat.add_le_add_left (Nat.le_of_ble_eq_true rfl) _)) ?_
    exact KK oA rA res.2 og om σ1 g2 L2 _ _ _ rfl (by omega) hT2 hP hDD hS (lv_sub hl [2, 3, 4, 5, 6] rfl)
