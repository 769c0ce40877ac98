/-! the law's wrappers over the whole house -/
theorem g_u0 (f : Nat → Int64) (x : Int64) : vp_updL f (0 : Int32).toNatClampNeg x 0 = x := by
  have h : (0 : Int32).toNatClampNeg = 0 := by decide +kernel
  rw [h]; simp [vp_updL]
theorem dL_feed_0 : decode cL_feed 0 = .ok (.aload 4, 2) := by decide +kernel
theorem dL_feed_2 : decode cL_feed 2 = .ok (.iconst 0, 1) := by decide +kernel
theorem dL_feed_3 : decode cL_feed 3 = .ok (.aload_n 0, 1) := by decide +kernel
theorem dL_feed_4 : decode cL_feed 4 = .ok (.lload_n 1, 1) := by decide +kernel
theorem dL_feed_5 : decode cL_feed 5 = .ok (.iload_n 3, 1) := by decide +kernel
theorem dL_feed_6 : decode cL_feed 6 = .ok (.invokevirtual 7, 3) := by decide +kernel
theorem dL_feed_9 : decode cL_feed 9 = .ok (.i2l, 1) := by decide +kernel
theorem dL_feed_10 : decode cL_feed 10 = .ok (.lastore, 1) := by decide +kernel
theorem dL_feed_11 : decode cL_feed 11 = .ok (.goto 11, 3) := by decide +kernel
theorem dL_feed_14 : decode cL_feed 14 = .ok (.astore 5, 2) := by decide +kernel
theorem dL_feed_16 : decode cL_feed 16 = .ok (.iconst 1, 1) := by decide +kernel
theorem dL_feed_17 : decode cL_feed 17 = .ok (.ireturn, 1) := by decide +kernel
theorem dL_feed_18 : decode cL_feed 18 = .ok (.astore 5, 2) := by decide +kernel
theorem dL_feed_20 : decode cL_feed 20 = .ok (.iconst 2, 1) := by decide +kernel
theorem dL_feed_21 : decode cL_feed 21 = .ok (.ireturn, 1) := by decide +kernel
theorem dL_feed_22 : decode cL_feed 22 = .ok (.iconst 0, 1) := by decide +kernel
theorem dL_feed_23 : decode cL_feed 23 = .ok (.ireturn, 1) := by decide +kernel
def wn_feed : Int32 → Int32 := fun k => if k = 1 then 1 else if k = 2 then 2 else 0
set_option maxHeartbeats 8000000 in
set_option maxRecDepth 100000 in
theorem l_L_feed (l : Launch) (dC : Nat → ClassId) (dI : Nat → Nat → Nat) (cB cC cI cJ cZ cP : ClassId) (oA : Nat → Nat) (rA : Nat → Nat → Nat) (hfl : l.stackTraces = false) (oo : Nat) (ol : Nat → Int64) (og om : Option Nat) (sz : Nat) (p0 : Int64) (p1 : Int32) (T : TS) (res : (Int32 × Int32) × TS) (hF : F_X11_feed p0 p1 T = some res) (hk : res.1.1 = 0 ∨ res.1.1 = 1 ∨ res.1.1 = 2) : Met l yL_feed (g_wsW yL_feed cL_feed 6 (some .int) [(0, 11, 14, 13), (0, 11, 18, 15)]) ({ frames := 7, cells := 1, slots := 6, locals := 114 }) (va_Pc [.ref (oA 0), .long p0, .int p1, .ref oo] (g_B (dC, dI) [(cB, .byte), (cC, .char), (cI, .int), (cJ, .long), (cZ, .boolean), (cP, .object "StoryHouse$Play")] sz ([(oo, .inl (cJ, 1, .inr (.inl ol)))] ++ b_H cB cC cI cJ cZ cP oA rA T og om) g_0)) (va_Qi (fun (r : Int32) (g2 : Nat → Int64) => r = wn_feed res.1.1 ∧ (res.1.1 = 0 → g2 0 = res.1.2.toInt64)) (g_Bo (dC, dI) (va_A ([(oo, .inl (cJ, 1, .inr (.inl ol)))] ++ b_H cB cC cI cJ cZ cP oA rA T og om) sz) (fun (g2 : Nat → Int64) => ([(oo, .inl (cJ, 1, .inr (.inl g2)))] ++ b_H cB cC cI cJ cZ cP oA rA res.2 og om))) (va_A ([(oo, .inl (cJ, 1, .inr (.inl ol)))] ++ b_H cB cC cI cJ cZ cP oA rA T og om) sz)) 1 6 (va_A ([(oo, .inl (cJ, 1, .inr (.inl ol)))] ++ b_H cB cC cI cJ cZ cP oA rA T og om) sz) := by
  refine va_MetW (cc := cL_feed) (maxL := 6) (ret := (some .int)) (hh := [(0, 11, 14, 13), (0, 11, 18, 15)]) (by decide) rfl ?_
  intro p e s m args below meth c s₁ B hml hv
  obtain ⟨rfl, hsz, hP, hK, hD0, hE, hX⟩ := hv
  have hx := B.exec
  have hb := B.bytes
  have hr := B.returns
  have hts0 := atoms_spec (ws := (g_wsW yL_feed cL_feed 6 (some .int) [(0, 11, 14, 13), (0, 11, 18, 15)])) B.pre
  have hts : ∀ w ∈ lw_good, w.before ([.ref (oA 0), .long p0, .int p1, .ref oo] : List Value).toArray s = true := fun w h => hts0 w (List.mem_cons_of_mem _ h)
  have hown : s.vm.findClass RL = some m.cls := findClass_of_methodNamed B.named
  have hlocks := B.notSynchronized
  subst hsz
  have hD := hD0.self (sz := s.heap.size)
  generalize hAe : va_A ([(oo, .inl (cJ, 1, .inr (.inl ol)))] ++ b_H cB cC cI cJ cZ cP oA rA T og om) s.heap.size = A at hD hE hX ⊢
  have hA : ∀ q : Nat, s.heap.size ≤ q → A q := fun q h => by rw [← hAe]; exact Or.inr h
  have hN := hE.1
  have hS : va_S A s.heap s.heap [] := va_S.rf
  have htb := vx_table (x := yL_feed) B (hts0 (.codeWith yL_feed cL_feed 6 (some .int) [(0, 11, 14, 13), (0, 11, 18, 15)]) List.mem_cons_self)
  have hP : va_P (dC, dI) vwCl ([(oo, .inl (cJ, 1, .inr (.inl ol)))] ++ b_H cB cC cI cJ cZ cP oA rA T og om) s.heap := hP
  have hl := lv_entry ([.ref (oA 0), .long p0, .int p1, .ref oo]) (n := 6) (Nat.le_of_ble_eq_true rfl)
  rw [lg_entry_eq]
  generalize (lg_sl ([.ref (oA 0), .long p0, .int p1, .ref oo]) ++ List.replicate (6 - (lg_sl ([.ref (oA 0), .long p0, .int p1, .ref oo])).length) Slot.unset).toArray = ls at hl ⊢
  have hl : lv_has ls 6 [(0, .ref (oA 0)), (1, .long p0), (3, .int p1), (4, .ref oo)] := hl
  refine lv_aload hx hb dL_feed_0 (lv_at hl 3 rfl) ?_
  refine lv_iconst (v := 0) hx hb dL_feed_2 (by decide +kernel) ?_
  refine lv_aload_n hx hb dL_feed_3 rfl (lv_at hl 0 rfl) ?_
  refine lv_lload_n hx hb dL_feed_4 rfl (lv_at hl 1 rfl) ?_
  refine lv_iload_n hx hb dL_feed_5 rfl (lv_at hl 2 rfl) ?_
  have hPc := bx_P (bs := [[(oo, .inl (cJ, 1, .inr (.inl ol)))], b_H cB cC cI cJ cZ cP oA rA T og om]) (bs' := [b_H cB cC cI cJ cZ cP oA rA T og om]) (ws' := (b_H cB cC cI cJ cZ cP oA rA T og om)) hP fl_2 fl_1 [1] rfl
  have hDc := bx_D (bs := [[(oo, .inl (cJ, 1, .inr (.inl ol)))], b_H cB cC cI cJ cZ cP oA rA T og om]) (bs' := [b_H cB cC cI cJ cZ cP oA rA T og om]) (ws' := (b_H cB cC cI cJ cZ cP oA rA T og om)) hD fl_2 fl_1 [1] (by decide +kernel) rfl
  have hFc := bx_F (bs := [[(oo, .inl (cJ, 1, .inr (.inl ol)))], b_H cB cC cI cJ cZ cP oA rA T og om]) (bs' := [b_H cB cC cI cJ cZ cP oA rA T og om]) (wc := (b_H cB cC cI cJ cZ cP oA rA T og om)) hD hS hA fl_2 fl_1 [1] rfl
  refine g_oxi (wc := (b_H cB cC cI cJ cZ cP oA rA T og om)) (wr := [(oo, .inl (cJ, 1, .inr (.inl ol)))]) hP hD hS hFc (bx_ix [[(oo, .inl (cJ, 1, .inr (.inl ol)))], b_H cB cC cI cJ cZ cP oA rA T og om] [1]) (bx_ix [[(oo, .inl (cJ, 1, .inr (.inl ol)))], b_H cB cC cI cJ cZ cP oA rA T og om] [0]) (bx_C (bs := [[(oo, .inl (cJ, 1, .inr (.inl ol)))], b_H cB cC cI cJ cZ cP oA rA T og om]) (bs' := [b_H cB cC cI cJ cZ cP oA rA T og om]) (is := [1]) fl_2 fl_1 rfl) (bx_C (bs := [[(oo, .inl (cJ, 1, .inr (.inl ol)))], b_H cB cC cI cJ cZ cP oA rA T og om]) (bs' := [[(oo, .inl (cJ, 1, .inr (.inl ol)))]]) (is := [0]) fl_2 fl_1 rfl) (bx_n (by decide +kernel)) (bx_d (by decide +kernel)) (vx_runV (As := [.long p0, .int p1]) (rest := [.int 0, .ref oo]) ⟨hx, hb, hml, hown, hts⟩ (h_X11_feed l dC dI cB cC cI cJ cZ cP oA rA hfl og om s.heap.size p0 p1 T _ hF) (cwV 2 hts (g_gV wq_921 wq_922 wq_923 wq_1 wq_924) rfl rfl rfl (by decide +kernel) ⟨Nat.le_of_ble_eq_true rfl, Nat.le_of_ble_eq_true rfl⟩) (g_preV g_bl0 hK hPc hDc hS hE hFc g_to0 (q0 := 0) (ci := 11) rfl rfl) rfl rfl hl.1 rfl (lv_room (Nat.le_of_ble_eq_true rfl)) dL_feed_6 ⟨Nat.le_of_ble_eq_true rfl, Nat.le_of_ble_eq_true rfl⟩) (fun E ce q9 H1 locs1 hXP hP' hD' hS' hce hcv hcl => ?_) (fun r9 u9 H locs hw9 hP' hD' hS' => ?_)
  · clear hPc hDc hFc
    replace hP : va_P (dC, dI) vwCl ([(oo, .inl (cJ, 1, .inr (.inl ol)))] ++ b_H cB cC cI cJ cZ cP oA rA res.2 og om) H1 := hP'
    replace hD : va_D A ([(oo, .inl (cJ, 1, .inr (.inl ol)))] ++ b_H cB cC cI cJ cZ cP oA rA res.2 og om) := hD'
    replace hS := hS'; clear hP' hD' hS'
    rcases hXP with ⟨hc1, rfl⟩ | ⟨hc1, rfl⟩ | ⟨hc1, rfl⟩
    · refine vx_catch (E := "java/lang/IllegalArgumentException") (name := "java/lang/IllegalArgumentException") hown [] ⟨0, 11, 14, 13⟩ [⟨0, 11, 18, 15⟩] (by rw [htb]; rfl) (fun z hz => nomatch hz) (by decide +kernel) (by decide) (hts (.classLink RL 13 "java/lang/IllegalArgumentException") wq_919) (va_Nw.use rfl (hN.2.2.2.1 _ (List.mem_of_getElem? (i := 0) rfl)).1) hce hcv hcl ?_
      refine lv_astore (lv' := [(5, .ref q9), (0, .ref (oA 0)), (1, .long p0), (3, .int p1), (4, .ref oo)]) hx hb dL_feed_14 hl (by decide) rfl (fun ls hl => ?_)
      refine lv_iconst (v := 1) hx hb dL_feed_16 (by decide +kernel) ?_
      refine W.widen (k := 1) (n := 6) (Nat.le_of_ble_eq_true rfl) (Nat.le_of_ble_eq_true rfl) ?_
      exact W.iret (v := 1) hx hb hr (fun t ht hW => ⟨⟨1, ol, rfl, ⟨(by rw [hc1]; decide), fun z => absurd z (by rw [hc1]; decide)⟩, by rw [ht]; exact hP, hD⟩, hS.F ht⟩) hS.2.2 dL_feed_17
    · refine vx_catch (E := "java/lang/IllegalStateException") (name := "java/lang/IllegalStateException") hown [⟨0, 11, 14, 13⟩] ⟨0, 11, 18, 15⟩ [] (by rw [htb]; rfl) (fun z hz => by obtain rfl := List.mem_singleton.mp hz; exact Or.inr ⟨by decide, "java/lang/IllegalArgumentException", (hts (.classLink RL 13 "java/lang/IllegalArgumentException") wq_919), (hN.2.2.2.1 _ (List.mem_of_getElem? (i := 1) rfl)).2 _ (List.mem_of_getElem? (i := 0) rfl) (by decide)⟩) (by decide +kernel) (by decide) (hts (.classLink RL 15 "java/lang/IllegalStateException") wq_920) (va_Nw.use rfl (hN.2.2.2.1 _ (List.mem_of_getElem? (i := 1) rfl)).1) hce hcv hcl ?_
      refine lv_astore (lv' := [(5, .ref q9), (0, .ref (oA 0)), (1, .long p0), (3, .int p1), (4, .ref oo)]) hx hb dL_feed_18 hl (by decide) rfl (fun ls hl => ?_)
      refine lv_iconst (v := 2) hx hb dL_feed_20 (by decide +kernel) ?_
      refine W.widen (k := 1) (n := 6) (Nat.le_of_ble_eq_true rfl) (Nat.le_of_ble_eq_true rfl) ?_
      exact W.iret (v := 2) hx hb hr (fun t ht hW => ⟨⟨2, ol, rfl, ⟨(by rw [hc1]; decide), fun z => absurd z (by rw [hc1]; decide)⟩, by rw [ht]; exact hP, hD⟩, hS.F ht⟩) hS.2.2 dL_feed_21
    · exact absurd hk (by rw [hc1]; decide)
  clear hPc hDc hFc
  obtain ⟨hc0, e9⟩ := hw9
  subst e9
  replace hP : va_P (dC, dI) vwCl ([(oo, .inl (cJ, 1, .inr (.inl ol)))] ++ b_H cB cC cI cJ cZ cP oA rA res.2 og om) H := hP'
  replace hD : va_D A ([(oo, .inl (cJ, 1, .inr (.inl ol)))] ++ b_H cB cC cI cJ cZ cP oA rA res.2 og om) := hD'
  replace hS := hS'
  clear hP' hD' hS'
  refine lv_i2l hx hb dL_feed_9 rfl ?_
  refine va_last hx hb hK hP hD hS 0 3 rfl rfl (vp_in_iff.mpr (by decide +kernel)) dL_feed_10 (fun H locs hP' hD' hS' => ?_)
  replace hP : va_P (dC, dI) vwCl ([(oo, .inl (cJ, 1, .inr (.inl (vp_updL ol (0 : Int32).toNatClampNeg res.1.2.toInt64))))] ++ b_H cB cC cI cJ cZ cP oA rA res.2 og om) H := hP'
  replace hD : va_D A ([(oo, .inl (cJ, 1, .inr (.inl (vp_updL ol (0 : Int32).toNatClampNeg res.1.2.toInt64))))] ++ b_H cB cC cI cJ cZ cP oA rA res.2 og om) := hD'
  replace hS := hS'
  clear hP' hD' hS'
  refine lv_goto (tgt := 22) hx hb dL_feed_11 (by decide) ?_
  refine lv_iconst (v := 0) hx hb dL_feed_22 (by decide +kernel) ?_
  refine W.widen (k := 1) (n := 6) (Nat.le_of_ble_eq_true rfl) (Nat.le_of_ble_eq_true rfl) ?_
  exact W.iret (v := 0) hx hb hr (fun t ht hW => ⟨⟨0, (vp_updL ol (0 : Int32).toNatClampNeg res.1.2.toInt64), rfl, ⟨(by rw [hc0]; decide), fun _ => g_u0 ol _⟩, by rw [ht]; exact hP, hD⟩, hS.F ht⟩) hS.2.2 dL_feed_23

theorem dL_begin_0 : decode cL_begin 0 = .ok (.aload_n 0, 1) := by decide +kernel
theorem dL_begin_1 : decode cL_begin 1 = .ok (.iload_n 1, 1) := by decide +kernel
theorem dL_begin_2 : decode cL_begin 2 = .ok (.invokevirtual 17, 3) := by decide +kernel
theorem dL_begin_5 : decode cL_begin 5 = .ok (.goto 6, 3) := by decide +kernel
theorem dL_begin_8 : decode cL_begin 8 = .ok (.astore_n 2, 1) := by decide +kernel
theorem dL_begin_9 : decode cL_begin 9 = .ok (.iconst 1, 1) := by decide +kernel
theorem dL_begin_10 : decode cL_begin 10 = .ok (.ireturn, 1) := by decide +kernel
theorem dL_begin_11 : decode cL_begin 11 = .ok (.iconst 0, 1) := by decide +kernel
theorem dL_begin_12 : decode cL_begin 12 = .ok (.ireturn, 1) := by decide +kernel
def wn_begin : Int32 → Int32 := fun k => if k = 2 then 1 else 0
set_option maxHeartbeats 8000000 in
set_option maxRecDepth 100000 in
theorem l_L_begin (l : Launch) (dC : Nat → ClassId) (dI : Nat → Nat → Nat) (cB cC cI cJ cZ cP : ClassId) (oA : Nat → Nat) (rA : Nat → Nat → Nat) (hfl : l.stackTraces = false) (oo : Nat) (ol : Nat → Int64) (og om : Option Nat) (sz : Nat) (p0 : Int32) (T : TS) (res : (Int32 × Int32) × TS) (hF : F_X11_begin p0 T = some res) (hk : res.1.1 = 0 ∨ res.1.1 = 2) : Met l yL_begin (g_wsW yL_begin cL_begin 3 (some .int) [(0, 5, 8, 15)]) ({ frames := 11, cells := 1, slots := 6, locals := 264 }) (va_Pc [.ref (oA 0), .int p0] (g_B (dC, dI) [(cB, .byte), (cC, .char), (cI, .int), (cJ, .long), (cZ, .boolean), (cP, .object "StoryHouse$Play")] sz (b_H cB cC cI cJ cZ cP oA rA T og om) g_0)) (va_Qi (fun (r : Int32) (_ : Unit) => r = wn_begin res.1.1) (g_Bo (dC, dI) (va_A (b_H cB cC cI cJ cZ cP oA rA T og om) sz) (fun (_ : Unit) => (b_H cB cC cI cJ cZ cP oA rA res.2 og om))) (va_A (b_H cB cC cI cJ cZ cP oA rA T og om) sz)) 1 6 (va_A (b_H cB cC cI cJ cZ cP oA rA T og om) sz) := by
  refine va_MetW (cc := cL_begin) (maxL := 3) (ret := (some .int)) (hh := [(0, 5, 8, 15)]) (by decide) rfl ?_
  intro p e s m args below meth c s₁ B hml hv
  obtain ⟨rfl, hsz, hP, hK, hD0, hE, hX⟩ := hv
  have hx := B.exec
  have hb := B.bytes
  have hr := B.returns
  have hts0 := atoms_spec (ws := (g_wsW yL_begin cL_begin 3 (some .int) [(0, 5, 8, 15)])) B.pre
  have hts : ∀ w ∈ lw_good, w.before ([.ref (oA 0), .int p0] : List Value).toArray s = true := fun w h => hts0 w (List.mem_cons_of_mem _ h)
  have hown : s.vm.findClass RL = some m.cls := findClass_of_methodNamed B.named
  have hlocks := B.notSynchronized
  subst hsz
  have hD := hD0.self (sz := s.heap.size)
  generalize hAe : va_A (b_H cB cC cI cJ cZ cP oA rA T og om) s.heap.size = A at hD hE hX ⊢
  have hA : ∀ q : Nat, s.heap.size ≤ q → A q := fun q h => by rw [← hAe]; exact Or.inr h
  have hN := hE.1
  have hS : va_S A s.heap s.heap [] := va_S.rf
  have htb := vx_table (x := yL_begin) B (hts0 (.codeWith yL_begin cL_begin 3 (some .int) [(0, 5, 8, 15)]) List.mem_cons_self)
  have hP : va_P (dC, dI) vwCl (b_H cB cC cI cJ cZ cP oA rA T og om) s.heap := hP
  have hl := lv_entry ([.ref (oA 0), .int p0]) (n := 3) (Nat.le_of_ble_eq_true rfl)
  rw [lg_entry_eq]
  generalize (lg_sl ([.ref (oA 0), .int p0]) ++ List.replicate (3 - (lg_sl ([.ref (oA 0), .int p0])).length) Slot.unset).toArray = ls at hl ⊢
  have hl : lv_has ls 3 [(0, .ref (oA 0)), (1, .int p0)] := hl
  refine lv_aload_n hx hb dL_begin_0 rfl (lv_at hl 0 rfl) ?_
  refine lv_iload_n hx hb dL_begin_1 rfl (lv_at hl 1 rfl) ?_
  have hPc := bx_P (bs := [b_H cB cC cI cJ cZ cP oA rA T og om]) (bs' := [b_H cB cC cI cJ cZ cP oA rA T og om]) (ws' := (b_H cB cC cI cJ cZ cP oA rA T og om)) hP fl_1 fl_1 [0] rfl
  have hDc := bx_D (bs := [b_H cB cC cI cJ cZ cP oA rA T og om]) (bs' := [b_H cB cC cI cJ cZ cP oA rA T og om]) (ws' := (b_H cB cC cI cJ cZ cP oA rA T og om)) hD fl_1 fl_1 [0] (by decide +kernel) rfl
  have hFc := bx_F (bs := [b_H cB cC cI cJ cZ cP oA rA T og om]) (bs' := [b_H cB cC cI cJ cZ cP oA rA T og om]) (wc := (b_H cB cC cI cJ cZ cP oA rA T og om)) hD hS hA fl_1 fl_1 [0] rfl
  refine g_oxv (wc := (b_H cB cC cI cJ cZ cP oA rA T og om)) (wr := ([] : va_W)) hP hD hS hFc (bx_ix [b_H cB cC cI cJ cZ cP oA rA T og om] [0]) (bx_ix [b_H cB cC cI cJ cZ cP oA rA T og om] []) (bx_C (bs := [b_H cB cC cI cJ cZ cP oA rA T og om]) (bs' := [b_H cB cC cI cJ cZ cP oA rA T og om]) (is := [0]) fl_1 fl_1 rfl) (bx_C (bs := [b_H cB cC cI cJ cZ cP oA rA T og om]) (bs' := ([] : List va_W)) (is := []) fl_1 fl_0 rfl) (bx_n (by decide +kernel)) (bx_d (by decide +kernel)) (vx_runV (As := [.int p0]) (rest := []) ⟨hx, hb, hml, hown, hts⟩ (h_X11_begin l dC dI cB cC cI cJ cZ cP oA rA hfl og om s.heap.size p0 T _ hF) (cwV 1 hts (g_gV wq_947 wq_948 wq_949 wq_1 wq_950) rfl rfl rfl (by decide +kernel) ⟨Nat.le_of_ble_eq_true rfl, Nat.le_of_ble_eq_true rfl⟩) (g_preV g_bl0 hK hPc hDc hS hE hFc g_to0 (q0 := 0) (ci := 11) rfl rfl) rfl rfl hl.1 rfl (lv_room (Nat.le_of_ble_eq_true rfl)) dL_begin_2 ⟨Nat.le_of_ble_eq_true rfl, Nat.le_of_ble_eq_true rfl⟩) (fun E ce q9 H1 locs1 hXP hP' hD' hS' hce hcv hcl => ?_) (fun u9 H locs hw9 hP' hD' hS' => ?_)
  · clear hPc hDc hFc
    replace hP : va_P (dC, dI) vwCl (b_H cB cC cI cJ cZ cP oA rA res.2 og om) H1 := hP'
    replace hD : va_D A (b_H cB cC cI cJ cZ cP oA rA res.2 og om) := hD'
    replace hS := hS'; clear hP' hD' hS'
    rcases hXP with ⟨hc1, rfl⟩ | ⟨hc1, rfl⟩ | ⟨hc1, rfl⟩
    · exact absurd hk (by rw [hc1]; decide)
    · refine vx_catch (E := "java/lang/IllegalStateException") (name := "java/lang/IllegalStateException") hown [] ⟨0, 5, 8, 15⟩ [] (by rw [htb]; rfl) (fun z hz => nomatch hz) (by decide +kernel) (by decide) (hts (.classLink RL 15 "java/lang/IllegalStateException") wq_920) (va_Nw.use rfl (hN.2.2.2.1 _ (List.mem_of_getElem? (i := 1) rfl)).1) hce hcv hcl ?_
      refine lv_astore_n (lv' := [(2, .ref q9), (0, .ref (oA 0)), (1, .int p0)]) hx hb dL_begin_8 rfl hl (by decide) rfl (fun ls hl => ?_)
      refine lv_iconst (v := 1) hx hb dL_begin_9 (by decide +kernel) ?_
      refine W.widen (k := 1) (n := 6) (Nat.le_of_ble_eq_true rfl) (Nat.le_of_ble_eq_true rfl) ?_
      exact W.iret (v := 1) hx hb hr (fun t ht hW => ⟨⟨1, (), rfl, (by rw [hc1]; decide), by rw [ht]; exact hP, hD⟩, hS.F ht⟩) hS.2.2 dL_begin_10
    · exact absurd hk (by rw [hc1]; decide)
  clear hPc hDc hFc
  have hc0 : res.1.1 = 0 := hw9
  replace hP : va_P (dC, dI) vwCl (b_H cB cC cI cJ cZ cP oA rA res.2 og om) H := hP'
  replace hD : va_D A (b_H cB cC cI cJ cZ cP oA rA res.2 og om) := hD'
  replace hS := hS'
  clear hP' hD' hS'
  refine lv_goto (tgt := 11) hx hb dL_begin_5 (by decide) ?_
  refine lv_iconst (v := 0) hx hb dL_begin_11 (by decide +kernel) ?_
  refine W.widen (k := 1) (n := 6) (Nat.le_of_ble_eq_true rfl) (Nat.le_of_ble_eq_true rfl) ?_
  exact W.iret (v := 0) hx hb hr (fun t ht hW => ⟨⟨0, (), rfl, (by rw [hc0]; decide), by rw [ht]; exact hP, hD⟩, hS.F ht⟩) hS.2.2 dL_begin_12

theorem dL_enter_0 : decode cL_enter 0 = .ok (.aload_n 1, 1) := by decide +kernel
theorem dL_enter_1 : decode cL_enter 1 = .ok (.iconst 0, 1) := by decide +kernel
theorem dL_enter_2 : decode cL_enter 2 = .ok (.aload_n 0, 1) := by decide +kernel
theorem dL_enter_3 : decode cL_enter 3 = .ok (.invokevirtual 21, 3) := by decide +kernel
theorem dL_enter_6 : decode cL_enter 6 = .ok (.i2l, 1) := by decide +kernel
theorem dL_enter_7 : decode cL_enter 7 = .ok (.lastore, 1) := by decide +kernel
theorem dL_enter_8 : decode cL_enter 8 = .ok (.goto 6, 3) := by decide +kernel
theorem dL_enter_11 : decode cL_enter 11 = .ok (.astore_n 2, 1) := by decide +kernel
theorem dL_enter_12 : decode cL_enter 12 = .ok (.iconst 1, 1) := by decide +kernel
theorem dL_enter_13 : decode cL_enter 13 = .ok (.ireturn, 1) := by decide +kernel
theorem dL_enter_14 : decode cL_enter 14 = .ok (.iconst 0, 1) := by decide +kernel
theorem dL_enter_15 : decode cL_enter 15 = .ok (.ireturn, 1) := by decide +kernel
def wn_enter : Int32 → Int32 := fun k => if k = 2 then 1 else 0
set_option maxHeartbeats 8000000 in
set_option maxRecDepth 100000 in
theorem l_L_enter (l : Launch) (dC : Nat → ClassId) (dI : Nat → Nat → Nat) (cB cC cI cJ cZ cP : ClassId) (oA : Nat → Nat) (rA : Nat → Nat → Nat) (hfl : l.stackTraces = false) (oo : Nat) (ol : Nat → Int64) (og om : Option Nat) (sz : Nat)  (T : TS) (res : (Int32 × Int32) × TS) (hF : F_X11_enter  T = some res) (hk : res.1.1 = 0 ∨ res.1.1 = 2) : Met l yL_enter (g_wsW yL_enter cL_enter 3 (some .int) [(0, 8, 11, 15)]) ({ frames := 13, cells := 1, slots := 6, locals := 313 }) (va_Pc [.ref (oA 0), .ref oo] (g_B (dC, dI) [(cB, .byte), (cC, .char), (cI, .int), (cJ, .long), (cZ, .boolean), (cP, .object "StoryHouse$Play")] sz ([(oo, .inl (cJ, 1, .inr (.inl ol)))] ++ b_H cB cC cI cJ cZ cP oA rA T og om) g_0)) (va_Qi (fun (r : Int32) (g2 : Nat → Int64) => r = wn_enter res.1.1 ∧ (res.1.1 = 0 → g2 0 = res.1.2.toInt64)) (g_Bo (dC, dI) (va_A ([(oo, .inl (cJ, 1, .inr (.inl ol)))] ++ b_H cB cC cI cJ cZ cP oA rA T og om) sz) (fun (g2 : Nat → Int64) => ([(oo, .inl (cJ, 1, .inr (.inl g2)))] ++ b_H cB cC cI cJ cZ cP oA rA res.2 og om))) (va_A ([(oo, .inl (cJ, 1, .inr (.inl ol)))] ++ b_H cB cC cI cJ cZ cP oA rA T og om) sz)) 1 6 (va_A ([(oo, .inl (cJ, 1, .inr (.inl ol)))] ++ b_H cB cC cI cJ cZ cP oA rA T og om) sz) := by
  refine va_MetW (cc := cL_enter) (maxL := 3) (ret := (some .int)) (hh := [(0, 8, 11, 15)]) (by decide) rfl ?_
  intro p e s m args below meth c s₁ B hml hv
  obtain ⟨rfl, hsz, hP, hK, hD0, hE, hX⟩ := hv
  have hx := B.exec
  have hb := B.bytes
  have hr := B.returns
  have hts0 := atoms_spec (ws := (g_wsW yL_enter cL_enter 3 (some .int) [(0, 8, 11, 15)])) B.pre
  have hts : ∀ w ∈ lw_good, w.before ([.ref (oA 0), .ref oo] : List Value).toArray s = true := fun w h => hts0 w (List.mem_cons_of_mem _ h)
  have hown : s.vm.findClass RL = some m.cls := findClass_of_methodNamed B.named
  have hlocks := B.notSynchronized
  subst hsz
  have hD := hD0.self (sz := s.heap.size)
  generalize hAe : va_A ([(oo, .inl (cJ, 1, .inr (.inl ol)))] ++ b_H cB cC cI cJ cZ cP oA rA T og om) s.heap.size = A at hD hE hX ⊢
  have hA : ∀ q : Nat, s.heap.size ≤ q → A q := fun q h => by rw [← hAe]; exact Or.inr h
  have hN := hE.1
  have hS : va_S A s.heap s.heap [] := va_S.rf
  have htb := vx_table (x := yL_enter) B (hts0 (.codeWith yL_enter cL_enter 3 (some .int) [(0, 8, 11, 15)]) List.mem_cons_self)
  have hP : va_P (dC, dI) vwCl ([(oo, .inl (cJ, 1, .inr (.inl ol)))] ++ b_H cB cC cI cJ cZ cP oA rA T og om) s.heap := hP
  have hl := lv_entry ([.ref (oA 0), .ref oo]) (n := 3) (Nat.le_of_ble_eq_true rfl)
  rw [lg_entry_eq]
  generalize (lg_sl ([.ref (oA 0), .ref oo]) ++ List.replicate (3 - (lg_sl ([.ref (oA 0), .ref oo])).length) Slot.unset).toArray = ls at hl ⊢
  have hl : lv_has ls 3 [(0, .ref (oA 0)), (1, .ref oo)] := hl
  refine lv_aload_n hx hb dL_enter_0 rfl (lv_at hl 1 rfl) ?_
  refine lv_iconst (v := 0) hx hb dL_enter_1 (by decide +kernel) ?_
  refine lv_aload_n hx hb dL_enter_2 rfl (lv_at hl 0 rfl) ?_
  have hPc := bx_P (bs := [[(oo, .inl (cJ, 1, .inr (.inl ol)))], b_H cB cC cI cJ cZ cP oA rA T og om]) (bs' := [b_H cB cC cI cJ cZ cP oA rA T og om]) (ws' := (b_H cB cC cI cJ cZ cP oA rA T og om)) hP fl_2 fl_1 [1] rfl
  have hDc := bx_D (bs := [[(oo, .inl (cJ, 1, .inr (.inl ol)))], b_H cB cC cI cJ cZ cP oA rA T og om]) (bs' := [b_H cB cC cI cJ cZ cP oA rA T og om]) (ws' := (b_H cB cC cI cJ cZ cP oA rA T og om)) hD fl_2 fl_1 [1] (by decide +kernel) rfl
  have hFc := bx_F (bs := [[(oo, .inl (cJ, 1, .inr (.inl ol)))], b_H cB cC cI cJ cZ cP oA rA T og om]) (bs' := [b_H cB cC cI cJ cZ cP oA rA T og om]) (wc := (b_H cB cC cI cJ cZ cP oA rA T og om)) hD hS hA fl_2 fl_1 [1] rfl
  refine g_oxi (wc := (b_H cB cC cI cJ cZ cP oA rA T og om)) (wr := [(oo, .inl (cJ, 1, .inr (.inl ol)))]) hP hD hS hFc (bx_ix [[(oo, .inl (cJ, 1, .inr (.inl ol)))], b_H cB cC cI cJ cZ cP oA rA T og om] [1]) (bx_ix [[(oo, .inl (cJ, 1, .inr (.inl ol)))], b_H cB cC cI cJ cZ cP oA rA T og om] [0]) (bx_C (bs := [[(oo, .inl (cJ, 1, .inr (.inl ol)))], b_H cB cC cI cJ cZ cP oA rA T og om]) (bs' := [b_H cB cC cI cJ cZ cP oA rA T og om]) (is := [1]) fl_2 fl_1 rfl) (bx_C (bs := [[(oo, .inl (cJ, 1, .inr (.inl ol)))], b_H cB cC cI cJ cZ cP oA rA T og om]) (bs' := [[(oo, .inl (cJ, 1, .inr (.inl ol)))]]) (is := [0]) fl_2 fl_1 rfl) (bx_n (by decide +kernel)) (bx_d (by decide +kernel)) (vx_runV (As := []) (rest := [.int 0, .ref oo]) ⟨hx, hb, hml, hown, hts⟩ (h_X11_enter l dC dI cB cC cI cJ cZ cP oA rA hfl og om s.heap.size  T _ hF) (cwV 0 hts (g_gV wq_1039 wq_1040 wq_1041 wq_1 wq_1042) rfl rfl rfl (by decide +kernel) ⟨Nat.le_of_ble_eq_true rfl, Nat.le_of_ble_eq_true rfl⟩) (g_preV g_bl0 hK hPc hDc hS hE hFc g_to0 (q0 := 0) (ci := 11) rfl rfl) rfl rfl hl.1 rfl (lv_room (Nat.le_of_ble_eq_true rfl)) dL_enter_3 ⟨Nat.le_of_ble_eq_true rfl, Nat.le_of_ble_eq_true rfl⟩) (fun E ce q9 H1 locs1 hXP hP' hD' hS' hce hcv hcl => ?_) (fun r9 u9 H locs hw9 hP' hD' hS' => ?_)
  · clear hPc hDc hFc
    replace hP : va_P (dC, dI) vwCl ([(oo, .inl (cJ, 1, .inr (.inl ol)))] ++ b_H cB cC cI cJ cZ cP oA rA res.2 og om) H1 := hP'
    replace hD : va_D A ([(oo, .inl (cJ, 1, .inr (.inl ol)))] ++ b_H cB cC cI cJ cZ cP oA rA res.2 og om) := hD'
    replace hS := hS'; clear hP' hD' hS'
    rcases hXP with ⟨hc1, rfl⟩ | ⟨hc1, rfl⟩ | ⟨hc1, rfl⟩
    · exact absurd hk (by rw [hc1]; decide)
    · refine vx_catch (E := "java/lang/IllegalStateException") (name := "java/lang/IllegalStateException") hown [] ⟨0, 8, 11, 15⟩ [] (by rw [htb]; rfl) (fun z hz => nomatch hz) (by decide +kernel) (by decide) (hts (.classLink RL 15 "java/lang/IllegalStateException") wq_920) (va_Nw.use rfl (hN.2.2.2.1 _ (List.mem_of_getElem? (i := 1) rfl)).1) hce hcv hcl ?_
      refine lv_astore_n (lv' := [(2, .ref q9), (0, .ref (oA 0)), (1, .ref oo)]) hx hb dL_enter_11 rfl hl (by decide) rfl (fun ls hl => ?_)
      refine lv_iconst (v := 1) hx hb dL_enter_12 (by decide +kernel) ?_
      refine W.widen (k := 1) (n := 6) (Nat.le_of_ble_eq_true rfl) (Nat.le_of_ble_eq_true rfl) ?_
      exact W.iret (v := 1) hx hb hr (fun t ht hW => ⟨⟨1, ol, rfl, ⟨(by rw [hc1]; decide), fun z => absurd z (by rw [hc1]; decide)⟩, by rw [ht]; exact hP, hD⟩, hS.F ht⟩) hS.2.2 dL_enter_13
    · exact absurd hk (by rw [hc1]; decide)
  clear hPc hDc hFc
  obtain ⟨hc0, e9⟩ := hw9
  subst e9
  replace hP : va_P (dC, dI) vwCl ([(oo, .inl (cJ, 1, .inr (.inl ol)))] ++ b_H cB cC cI cJ cZ cP oA rA res.2 og om) H := hP'
  replace hD : va_D A ([(oo, .inl (cJ, 1, .inr (.inl ol)))] ++ b_H cB cC cI cJ cZ cP oA rA res.2 og om) := hD'
  replace hS := hS'
  clear hP' hD' hS'
  refine lv_i2l hx hb dL_enter_6 rfl ?_
  refine va_last hx hb hK hP hD hS 0 3 rfl rfl (vp_in_iff.mpr (by decide +kernel)) dL_enter_7 (fun H locs hP' hD' hS' => ?_)
  replace hP : va_P (dC, dI) vwCl ([(oo, .inl (cJ, 1, .inr (.inl (vp_updL ol (0 : Int32).toNatClampNeg res.1.2.toInt64))))] ++ b_H cB cC cI cJ cZ cP oA rA res.2 og om) H := hP'
  replace hD : va_D A ([(oo, .inl (cJ, 1, .inr (.inl (vp_updL ol (0 : Int32).toNatClampNeg res.1.2.toInt64))))] ++ b_H cB cC cI cJ cZ cP oA rA res.2 og om) := hD'
  replace hS := hS'
  clear hP' hD' hS'
  refine lv_goto (tgt := 14) hx hb dL_enter_8 (by decide) ?_
  refine lv_iconst (v := 0) hx hb dL_enter_14 (by decide +kernel) ?_
  refine W.widen (k := 1) (n := 6) (Nat.le_of_ble_eq_true rfl) (Nat.le_of_ble_eq_true rfl) ?_
  exact W.iret (v := 0) hx hb hr (fun t ht hW => ⟨⟨0, (vp_updL ol (0 : Int32).toNatClampNeg res.1.2.toInt64), rfl, ⟨(by rw [hc0]; decide), fun _ => g_u0 ol _⟩, by rw [ht]; exact hP, hD⟩, hS.F ht⟩) hS.2.2 dL_enter_15

theorem dL_out_0 : decode cL_out 0 = .ok (.aload_n 2, 1) := by decide +kernel
theorem dL_out_1 : decode cL_out 1 = .ok (.iconst 0, 1) := by decide +kernel
theorem dL_out_2 : decode cL_out 2 = .ok (.aload_n 0, 1) := by decide +kernel
theorem dL_out_3 : decode cL_out 3 = .ok (.iload_n 1, 1) := by decide +kernel
theorem dL_out_4 : decode cL_out 4 = .ok (.invokevirtual 25, 3) := by decide +kernel
theorem dL_out_7 : decode cL_out 7 = .ok (.i2l, 1) := by decide +kernel
theorem dL_out_8 : decode cL_out 8 = .ok (.lastore, 1) := by decide +kernel
theorem dL_out_9 : decode cL_out 9 = .ok (.goto 6, 3) := by decide +kernel
theorem dL_out_12 : decode cL_out 12 = .ok (.astore_n 3, 1) := by decide +kernel
theorem dL_out_13 : decode cL_out 13 = .ok (.iconst 1, 1) := by decide +kernel
theorem dL_out_14 : decode cL_out 14 = .ok (.ireturn, 1) := by decide +kernel
theorem dL_out_15 : decode cL_out 15 = .ok (.iconst 0, 1) := by decide +kernel
theorem dL_out_16 : decode cL_out 16 = .ok (.ireturn, 1) := by decide +kernel
def wn_out : Int32 → Int32 := fun k => if k = 3 then 1 else 0
set_option maxHeartbeats 8000000 in
set_option maxRecDepth 100000 in
theorem l_L_out (l : Launch) (dC : Nat → ClassId) (dI : Nat → Nat → Nat) (cB cC cI cJ cZ cP : ClassId) (oA : Nat → Nat) (rA : Nat → Nat → Nat) (hfl : l.stackTraces = false) (oo : Nat) (ol : Nat → Int64) (og om : Option Nat) (sz : Nat) (p0 : Int32) (T : TS) (res : (Int32 × Int32) × TS) (hF : F_X11_out p0 T = some res) (hk : res.1.1 = 0 ∨ res.1.1 = 3) : Met l yL_out (g_wsW yL_out cL_out 4 (some .int) [(0, 9, 12, 29)]) ({ frames := 7, cells := 1, slots := 6, locals := 111 }) (va_Pc [.ref (oA 0), .int p0, .ref oo] (g_B (dC, dI) [(cB, .byte), (cC, .char), (cI, .int), (cJ, .long), (cZ, .boolean), (cP, .object "StoryHouse$Play")] sz ([(oo, .inl (cJ, 1, .inr (.inl ol)))] ++ b_H cB cC cI cJ cZ cP oA rA T og om) g_0)) (va_Qi (fun (r : Int32) (g2 : Nat → Int64) => r = wn_out res.1.1 ∧ (res.1.1 = 0 → g2 0 = res.1.2.toInt64)) (g_Bo (dC, dI) (va_A ([(oo, .inl (cJ, 1, .inr (.inl ol)))] ++ b_H cB cC cI cJ cZ cP oA rA T og om) sz) (fun (g2 : Nat → Int64) => ([(oo, .inl (cJ, 1, .inr (.inl g2)))] ++ b_H cB cC cI cJ cZ cP oA rA res.2 og om))) (va_A ([(oo, .inl (cJ, 1, .inr (.inl ol)))] ++ b_H cB cC cI cJ cZ cP oA rA T og om) sz)) 1 6 (va_A ([(oo, .inl (cJ, 1, .inr (.inl ol)))] ++ b_H cB cC cI cJ cZ cP oA rA T og om) sz) := by
  refine va_MetW (cc := cL_out) (maxL := 4) (ret := (some .int)) (hh := [(0, 9, 12, 29)]) (by decide) rfl ?_
  intro p e s m args below meth c s₁ B hml hv
  obtain ⟨rfl, hsz, hP, hK, hD0, hE, hX⟩ := hv
  have hx := B.exec
  have hb := B.bytes
  have hr := B.returns
  have hts0 := atoms_spec (ws := (g_wsW yL_out cL_out 4 (some .int) [(0, 9, 12, 29)])) B.pre
  have hts : ∀ w ∈ lw_good, w.before ([.ref (oA 0), .int p0, .ref oo] : List Value).toArray s = true := fun w h => hts0 w (List.mem_cons_of_mem _ h)
  have hown : s.vm.findClass RL = some m.cls := findClass_of_methodNamed B.named
  have hlocks := B.notSynchronized
  subst hsz
  have hD := hD0.self (sz := s.heap.size)
  generalize hAe : va_A ([(oo, .inl (cJ, 1, .inr (.inl ol)))] ++ b_H cB cC cI cJ cZ cP oA rA T og om) s.heap.size = A at hD hE hX ⊢
  have hA : ∀ q : Nat, s.heap.size ≤ q → A q := fun q h => by rw [← hAe]; exact Or.inr h
  have hN := hE.1
  have hS : va_S A s.heap s.heap [] := va_S.rf
  have htb := vx_table (x := yL_out) B (hts0 (.codeWith yL_out cL_out 4 (some .int) [(0, 9, 12, 29)]) List.mem_cons_self)
  have hP : va_P (dC, dI) vwCl ([(oo, .inl (cJ, 1, .inr (.inl ol)))] ++ b_H cB cC cI cJ cZ cP oA rA T og om) s.heap := hP
  have hl := lv_entry ([.ref (oA 0), .int p0, .ref oo]) (n := 4) (Nat.le_of_ble_eq_true rfl)
  rw [lg_entry_eq]
  generalize (lg_sl ([.ref (oA 0), .int p0, .ref oo]) ++ List.replicate (4 - (lg_sl ([.ref (oA 0), .int p0, .ref oo])).length) Slot.unset).toArray = ls at hl ⊢
  have hl : lv_has ls 4 [(0, .ref (oA 0)), (1, .int p0), (2, .ref oo)] := hl
  refine lv_aload_n hx hb dL_out_0 rfl (lv_at hl 2 rfl) ?_
  refine lv_iconst (v := 0) hx hb dL_out_1 (by decide +kernel) ?_
  refine lv_aload_n hx hb dL_out_2 rfl (lv_at hl 0 rfl) ?_
  refine lv_iload_n hx hb dL_out_3 rfl (lv_at hl 1 rfl) ?_
  have hPc := bx_P (bs := [[(oo, .inl (cJ, 1, .inr (.inl ol)))], b_H cB cC cI cJ cZ cP oA rA T og om]) (bs' := [b_H cB cC cI cJ cZ cP oA rA T og om]) (ws' := (b_H cB cC cI cJ cZ cP oA rA T og om)) hP fl_2 fl_1 [1] rfl
  have hDc := bx_D (bs := [[(oo, .inl (cJ, 1, .inr (.inl ol)))], b_H cB cC cI cJ cZ cP oA rA T og om]) (bs' := [b_H cB cC cI cJ cZ cP oA rA T og om]) (ws' := (b_H cB cC cI cJ cZ cP oA rA T og om)) hD fl_2 fl_1 [1] (by decide +kernel) rfl
  have hFc := bx_F (bs := [[(oo, .inl (cJ, 1, .inr (.inl ol)))], b_H cB cC cI cJ cZ cP oA rA T og om]) (bs' := [b_H cB cC cI cJ cZ cP oA rA T og om]) (wc := (b_H cB cC cI cJ cZ cP oA rA T og om)) hD hS hA fl_2 fl_1 [1] rfl
  refine g_oxi (wc := (b_H cB cC cI cJ cZ cP oA rA T og om)) (wr := [(oo, .inl (cJ, 1, .inr (.inl ol)))]) hP hD hS hFc (bx_ix [[(oo, .inl (cJ, 1, .inr (.inl ol)))], b_H cB cC cI cJ cZ cP oA rA T og om] [1]) (bx_ix [[(oo, .inl (cJ, 1, .inr (.inl ol)))], b_H cB cC cI cJ cZ cP oA rA T og om] [0]) (bx_C (bs := [[(oo, .inl (cJ, 1, .inr (.inl ol)))], b_H cB cC cI cJ cZ cP oA rA T og om]) (bs' := [b_H cB cC cI cJ cZ cP oA rA T og om]) (is := [1]) fl_2 fl_1 rfl) (bx_C (bs := [[(oo, .inl (cJ, 1, .inr (.inl ol)))], b_H cB cC cI cJ cZ cP oA rA T og om]) (bs' := [[(oo, .inl (cJ, 1, .inr (.inl ol)))]]) (is := [0]) fl_2 fl_1 rfl) (bx_n (by decide +kernel)) (bx_d (by decide +kernel)) (vx_runV (As := [.int p0]) (rest := [.int 0, .ref oo]) ⟨hx, hb, hml, hown, hts⟩ (h_X11_out l dC dI cB cC cI cJ cZ cP oA rA hfl og om s.heap.size p0 T _ hF) (cwV 1 hts (g_gV wq_1269 wq_1270 wq_1271 wq_1 wq_1272) rfl rfl rfl (by decide +kernel) ⟨Nat.le_of_ble_eq_true rfl, Nat.le_of_ble_eq_true rfl⟩) (g_preV g_bl0 hK hPc hDc hS hE hFc g_to0 (q0 := 0) (ci := 11) rfl rfl) rfl rfl hl.1 rfl (lv_room (Nat.le_of_ble_eq_true rfl)) dL_out_4 ⟨Nat.le_of_ble_eq_true rfl, Nat.le_of_ble_eq_true rfl⟩) (fun E ce q9 H1 locs1 hXP hP' hD' hS' hce hcv hcl => ?_) (fun r9 u9 H locs hw9 hP' hD' hS' => ?_)
  · clear hPc hDc hFc
    replace hP : va_P (dC, dI) vwCl ([(oo, .inl (cJ, 1, .inr (.inl ol)))] ++ b_H cB cC cI cJ cZ cP oA rA res.2 og om) H1 := hP'
    replace hD : va_D A ([(oo, .inl (cJ, 1, .inr (.inl ol)))] ++ b_H cB cC cI cJ cZ cP oA rA res.2 og om) := hD'
    replace hS := hS'; clear hP' hD' hS'
    rcases hXP with ⟨hc1, rfl⟩ | ⟨hc1, rfl⟩ | ⟨hc1, rfl⟩
    · exact absurd hk (by rw [hc1]; decide)
    · exact absurd hk (by rw [hc1]; decide)
    · refine vx_catch (E := "java/lang/IndexOutOfBoundsException") (name := "java/lang/IndexOutOfBoundsException") hown [] ⟨0, 9, 12, 29⟩ [] (by rw [htb]; rfl) (fun z hz => nomatch hz) (by decide +kernel) (by decide) (hts (.classLink RL 29 "java/lang/IndexOutOfBoundsException") wq_1268) (va_Nw.use rfl (hN.2.2.2.1 _ (List.mem_of_getElem? (i := 2) rfl)).1) hce hcv hcl ?_
      refine lv_astore_n (lv' := [(3, .ref q9), (0, .ref (oA 0)), (1, .int p0), (2, .ref oo)]) hx hb dL_out_12 rfl hl (by decide) rfl (fun ls hl => ?_)
      refine lv_iconst (v := 1) hx hb dL_out_13 (by decide +kernel) ?_
      refine W.widen (k := 1) (n := 6) (Nat.le_of_ble_eq_true rfl) (Nat.le_of_ble_eq_true rfl) ?_
      exact W.iret (v := 1) hx hb hr (fun t ht hW => ⟨⟨1, ol, rfl, ⟨(by rw [hc1]; decide), fun z => absurd z (by rw [hc1]; decide)⟩, by rw [ht]; exact hP, hD⟩, hS.F ht⟩) hS.2.2 dL_out_14
  clear hPc hDc hFc
  obtain ⟨hc0, e9⟩ := hw9
  subst e9
  replace hP : va_P (dC, dI) vwCl ([(oo, .inl (cJ, 1, .inr (.inl ol)))] ++ b_H cB cC cI cJ cZ cP oA rA res.2 og om) H := hP'
  replace hD : va_D A ([(oo, .inl (cJ, 1, .inr (.inl ol)))] ++ b_H cB cC cI cJ cZ cP oA rA res.2 og om) := hD'
  replace hS := hS'
  clear hP' hD' hS'
  refine lv_i2l hx hb dL_out_7 rfl ?_
  refine va_last hx hb hK hP hD hS 0 3 rfl rfl (vp_in_iff.mpr (by decide +kernel)) dL_out_8 (fun H locs hP' hD' hS' => ?_)
  replace hP : va_P (dC, dI) vwCl ([(oo, .inl (cJ, 1, .inr (.inl (vp_updL ol (0 : Int32).toNatClampNeg res.1.2.toInt64))))] ++ b_H cB cC cI cJ cZ cP oA rA res.2 og om) H := hP'
  replace hD : va_D A ([(oo, .inl (cJ, 1, .inr (.inl (vp_updL ol (0 : Int32).toNatClampNeg res.1.2.toInt64))))] ++ b_H cB cC cI cJ cZ cP oA rA res.2 og om) := hD'
  replace hS := hS'
  clear hP' hD' hS'
  refine lv_goto (tgt := 15) hx hb dL_out_9 (by decide) ?_
  refine lv_iconst (v := 0) hx hb dL_out_15 (by decide +kernel) ?_
  refine W.widen (k := 1) (n := 6) (Nat.le_of_ble_eq_true rfl) (Nat.le_of_ble_eq_true rfl) ?_
  exact W.iret (v := 0) hx hb hr (fun t ht hW => ⟨⟨0, (vp_updL ol (0 : Int32).toNatClampNeg res.1.2.toInt64), rfl, ⟨(by rw [hc0]; decide), fun _ => g_u0 ol _⟩, by rw [ht]; exact hP, hD⟩, hS.F ht⟩) hS.2.2 dL_out_16

theorem dL_save_0 : decode cL_save 0 = .ok (.aload_n 0, 1) := by decide +kernel
theorem dL_save_1 : decode cL_save 1 = .ok (.iload_n 1, 1) := by decide +kernel
theorem dL_save_2 : decode cL_save 2 = .ok (.invokevirtual 31, 3) := by decide +kernel
theorem dL_save_5 : decode cL_save 5 = .ok (.goto 9, 3) := by decide +kernel
theorem dL_save_8 : decode cL_save 8 = .ok (.astore_n 2, 1) := by decide +kernel
theorem dL_save_9 : decode cL_save 9 = .ok (.iconst 1, 1) := by decide +kernel
theorem dL_save_10 : decode cL_save 10 = .ok (.ireturn, 1) := by decide +kernel
theorem dL_save_11 : decode cL_save 11 = .ok (.astore_n 2, 1) := by decide +kernel
theorem dL_save_12 : decode cL_save 12 = .ok (.iconst 2, 1) := by decide +kernel
theorem dL_save_13 : decode cL_save 13 = .ok (.ireturn, 1) := by decide +kernel
theorem dL_save_14 : decode cL_save 14 = .ok (.iconst 0, 1) := by decide +kernel
theorem dL_save_15 : decode cL_save 15 = .ok (.ireturn, 1) := by decide +kernel
def wn_save : Int32 → Int32 := fun k => if k = 3 then 1 else if k = 2 then 2 else 0
set_option maxHeartbeats 8000000 in
set_option maxRecDepth 100000 in
theorem l_L_save (l : Launch) (dC : Nat → ClassId) (dI : Nat → Nat → Nat) (cB cC cI cJ cZ cP : ClassId) (oA : Nat → Nat) (rA : Nat → Nat → Nat) (hfl : l.stackTraces = false) (oo : Nat) (ol : Nat → Int64) (og om : Option Nat) (sz : Nat) (p0 : Int32) (T : TS) (res : (Int32 × Int32) × TS) (hF : F_X11_save p0 T = some res) (hk : res.1.1 = 0 ∨ res.1.1 = 3 ∨ res.1.1 = 2) : Met l yL_save (g_wsW yL_save cL_save 3 (some .int) [(0, 5, 8, 29), (0, 5, 11, 15)]) ({ frames := 8, cells := 2, slots := 12, locals := 132 }) (va_Pc [.ref (oA 0), .int p0] (g_B (dC, dI) [(cB, .byte), (cC, .char), (cI, .int), (cJ, .long), (cZ, .boolean), (cP, .object "StoryHouse$Play")] sz (b_H cB cC cI cJ cZ cP oA rA T og om) g_0)) (va_Qi (fun (r : Int32) (_ : Unit) => r = wn_save res.1.1) (g_Bo (dC, dI) (va_A (b_H cB cC cI cJ cZ cP oA rA T og om) sz) (fun (_ : Unit) => (b_H cB cC cI cJ cZ cP oA rA res.2 og om))) (va_A (b_H cB cC cI cJ cZ cP oA rA T og om) sz)) 2 12 (va_A (b_H cB cC cI cJ cZ cP oA rA T og om) sz) := by
  refine va_MetW (cc := cL_save) (maxL := 3) (ret := (some .int)) (hh := [(0, 5, 8, 29), (0, 5, 11, 15)]) (by decide) rfl ?_
  intro p e s m args below meth c s₁ B hml hv
  obtain ⟨rfl, hsz, hP, hK, hD0, hE, hX⟩ := hv
  have hx := B.exec
  have hb := B.bytes
  have hr := B.returns
  have hts0 := atoms_spec (ws := (g_wsW yL_save cL_save 3 (some .int) [(0, 5, 8, 29), (0, 5, 11, 15)])) B.pre
  have hts : ∀ w ∈ lw_good, w.before ([.ref (oA 0), .int p0] : List Value).toArray s = true := fun w h => hts0 w (List.mem_cons_of_mem _ h)
  have hown : s.vm.findClass RL = some m.cls := findClass_of_methodNamed B.named
  have hlocks := B.notSynchronized
  subst hsz
  have hD := hD0.self (sz := s.heap.size)
  generalize hAe : va_A (b_H cB cC cI cJ cZ cP oA rA T og om) s.heap.size = A at hD hE hX ⊢
  have hA : ∀ q : Nat, s.heap.size ≤ q → A q := fun q h => by rw [← hAe]; exact Or.inr h
  have hN := hE.1
  have hS : va_S A s.heap s.heap [] := va_S.rf
  have htb := vx_table (x := yL_save) B (hts0 (.codeWith yL_save cL_save 3 (some .int) [(0, 5, 8, 29), (0, 5, 11, 15)]) List.mem_cons_self)
  have hP : va_P (dC, dI) vwCl (b_H cB cC cI cJ cZ cP oA rA T og om) s.heap := hP
  have hl := lv_entry ([.ref (oA 0), .int p0]) (n := 3) (Nat.le_of_ble_eq_true rfl)
  rw [lg_entry_eq]
  generalize (lg_sl ([.ref (oA 0), .int p0]) ++ List.replicate (3 - (lg_sl ([.ref (oA 0), .int p0])).length) Slot.unset).toArray = ls at hl ⊢
  have hl : lv_has ls 3 [(0, .ref (oA 0)), (1, .int p0)] := hl
  refine lv_aload_n hx hb dL_save_0 rfl (lv_at hl 0 rfl) ?_
  refine lv_iload_n hx hb dL_save_1 rfl (lv_at hl 1 rfl) ?_
  have hPc := bx_P (bs := [b_H cB cC cI cJ cZ cP oA rA T og om]) (bs' := [b_H cB cC cI cJ cZ cP oA rA T og om]) (ws' := (b_H cB cC cI cJ cZ cP oA rA T og om)) hP fl_1 fl_1 [0] rfl
  have hDc := bx_D (bs := [b_H cB cC cI cJ cZ cP oA rA T og om]) (bs' := [b_H cB cC cI cJ cZ cP oA rA T og om]) (ws' := (b_H cB cC cI cJ cZ cP oA rA T og om)) hD fl_1 fl_1 [0] (by decide +kernel) rfl
  have hFc := bx_F (bs := [b_H cB cC cI cJ cZ cP oA rA T og om]) (bs' := [b_H cB cC cI cJ cZ cP oA rA T og om]) (wc := (b_H cB cC cI cJ cZ cP oA rA T og om)) hD hS hA fl_1 fl_1 [0] rfl
  refine g_oxv (wc := (b_H cB cC cI cJ cZ cP oA rA T og om)) (wr := ([] : va_W)) hP hD hS hFc (bx_ix [b_H cB cC cI cJ cZ cP oA rA T og om] [0]) (bx_ix [b_H cB cC cI cJ cZ cP oA rA T og om] []) (bx_C (bs := [b_H cB cC cI cJ cZ cP oA rA T og om]) (bs' := [b_H cB cC cI cJ cZ cP oA rA T og om]) (is := [0]) fl_1 fl_1 rfl) (bx_C (bs := [b_H cB cC cI cJ cZ cP oA rA T og om]) (bs' := ([] : List va_W)) (is := []) fl_1 fl_0 rfl) (bx_n (by decide +kernel)) (bx_d (by decide +kernel)) (vx_runV (As := [.int p0]) (rest := []) ⟨hx, hb, hml, hown, hts⟩ (h_X11_save l dC dI cB cC cI cJ cZ cP oA rA hfl og om s.heap.size p0 T _ hF) (cwV 1 hts (g_gV wq_1278 wq_1279 wq_1280 wq_1 wq_1281) rfl rfl rfl (by decide +kernel) ⟨Nat.le_of_ble_eq_true rfl, Nat.le_of_ble_eq_true rfl⟩) (g_preV g_bl0 hK hPc hDc hS hE hFc g_to0 (q0 := 0) (ci := 11) rfl rfl) rfl rfl hl.1 rfl (lv_room (Nat.le_of_ble_eq_true rfl)) dL_save_2 ⟨Nat.le_of_ble_eq_true rfl, Nat.le_of_ble_eq_true rfl⟩) (fun E ce q9 H1 locs1 hXP hP' hD' hS' hce hcv hcl => ?_) (fun u9 H locs hw9 hP' hD' hS' => ?_)
  · clear hPc hDc hFc
    replace hP : va_P (dC, dI) vwCl (b_H cB cC cI cJ cZ cP oA rA res.2 og om) H1 := hP'
    replace hD : va_D A (b_H cB cC cI cJ cZ cP oA rA res.2 og om) := hD'
    replace hS := hS'; clear hP' hD' hS'
    rcases hXP with ⟨hc1, rfl⟩ | ⟨hc1, rfl⟩ | ⟨hc1, rfl⟩
    · exact absurd hk (by rw [hc1]; decide)
    · refine vx_catch (E := "java/lang/IllegalStateException") (name := "java/lang/IllegalStateException") hown [⟨0, 5, 8, 29⟩] ⟨0, 5, 11, 15⟩ [] (by rw [htb]; rfl) (fun z hz => by obtain rfl := List.mem_singleton.mp hz; exact Or.inr ⟨by decide, "java/lang/IndexOutOfBoundsException", (hts (.classLink RL 29 "java/lang/IndexOutOfBoundsException") wq_1268), (hN.2.2.2.1 _ (List.mem_of_getElem? (i := 1) rfl)).2 _ (List.mem_of_getElem? (i := 2) rfl) (by decide)⟩) (by decide +kernel) (by decide) (hts (.classLink RL 15 "java/lang/IllegalStateException") wq_920) (va_Nw.use rfl (hN.2.2.2.1 _ (List.mem_of_getElem? (i := 1) rfl)).1) hce hcv hcl ?_
      refine lv_astore_n (lv' := [(2, .ref q9), (0, .ref (oA 0)), (1, .int p0)]) hx hb dL_save_11 rfl hl (by decide) rfl (fun ls hl => ?_)
      refine lv_iconst (v := 2) hx hb dL_save_12 (by decide +kernel) ?_
      refine W.widen (k := 2) (n := 12) (Nat.le_of_ble_eq_true rfl) (Nat.le_of_ble_eq_true rfl) ?_
      exact W.iret (v := 2) hx hb hr (fun t ht hW => ⟨⟨2, (), rfl, (by rw [hc1]; decide), by rw [ht]; exact hP, hD⟩, hS.F ht⟩) hS.2.2 dL_save_13
    · refine vx_catch (E := "java/lang/IndexOutOfBoundsException") (name := "java/lang/IndexOutOfBoundsException") hown [] ⟨0, 5, 8, 29⟩ [⟨0, 5, 11, 15⟩] (by rw [htb]; rfl) (fun z hz => nomatch hz) (by decide +kernel) (by decide) (hts (.classLink RL 29 "java/lang/IndexOutOfBoundsException") wq_1268) (va_Nw.use rfl (hN.2.2.2.1 _ (List.mem_of_getElem? (i := 2) rfl)).1) hce hcv hcl ?_
      refine lv_astore_n (lv' := [(2, .ref q9), (0, .ref (oA 0)), (1, .int p0)]) hx hb dL_save_8 rfl hl (by decide) rfl (fun ls hl => ?_)
      refine lv_iconst (v := 1) hx hb dL_save_9 (by decide +kernel) ?_
      refine W.widen (k := 2) (n := 12) (Nat.le_of_ble_eq_true rfl) (Nat.le_of_ble_eq_true rfl) ?_
      exact W.iret (v := 1) hx hb hr (fun t ht hW => ⟨⟨1, (), rfl, (by rw [hc1]; decide), by rw [ht]; exact hP, hD⟩, hS.F ht⟩) hS.2.2 dL_save_10
  clear hPc hDc hFc
  have hc0 : res.1.1 = 0 := hw9
  replace hP : va_P (dC, dI) vwCl (b_H cB cC cI cJ cZ cP oA rA res.2 og om) H := hP'
  replace hD : va_D A (b_H cB cC cI cJ cZ cP oA rA res.2 og om) := hD'
  replace hS := hS'
  clear hP' hD' hS'
  refine lv_goto (tgt := 14) hx hb dL_save_5 (by decide) ?_
  refine lv_iconst (v := 0) hx hb dL_save_14 (by decide +kernel) ?_
  refine W.widen (k := 2) (n := 12) (Nat.le_of_ble_eq_true rfl) (Nat.le_of_ble_eq_true rfl) ?_
  exact W.iret (v := 0) hx hb hr (fun t ht hW => ⟨⟨0, (), rfl, (by rw [hc0]; decide), by rw [ht]; exact hP, hD⟩, hS.F ht⟩) hS.2.2 dL_save_15

theorem dL_restore_0 : decode cL_restore 0 = .ok (.aload_n 0, 1) := by decide +kernel
theorem dL_restore_1 : decode cL_restore 1 = .ok (.iload_n 1, 1) := by decide +kernel
theorem dL_restore_2 : decode cL_restore 2 = .ok (.invokevirtual 34, 3) := by decide +kernel
theorem dL_restore_5 : decode cL_restore 5 = .ok (.goto 9, 3) := by decide +kernel
theorem dL_restore_8 : decode cL_restore 8 = .ok (.astore_n 2, 1) := by decide +kernel
theorem dL_restore_9 : decode cL_restore 9 = .ok (.iconst 1, 1) := by decide +kernel
theorem dL_restore_10 : decode cL_restore 10 = .ok (.ireturn, 1) := by decide +kernel
theorem dL_restore_11 : decode cL_restore 11 = .ok (.astore_n 2, 1) := by decide +kernel
theorem dL_restore_12 : decode cL_restore 12 = .ok (.iconst 2, 1) := by decide +kernel
theorem dL_restore_13 : decode cL_restore 13 = .ok (.ireturn, 1) := by decide +kernel
theorem dL_restore_14 : decode cL_restore 14 = .ok (.iconst 0, 1) := by decide +kernel
theorem dL_restore_15 : decode cL_restore 15 = .ok (.ireturn, 1) := by decide +kernel
def wn_restore : Int32 → Int32 := fun k => if k = 3 then 1 else if k = 2 then 2 else 0
set_option maxHeartbeats 8000000 in
set_option maxRecDepth 100000 in
theorem l_L_restore (l : Launch) (dC : Nat → ClassId) (dI : Nat → Nat → Nat) (cB cC cI cJ cZ cP : ClassId) (oA : Nat → Nat) (rA : Nat → Nat → Nat) (hfl : l.stackTraces = false) (oo : Nat) (ol : Nat → Int64) (og om : Option Nat) (sz : Nat) (p0 : Int32) (T : TS) (res : (Int32 × Int32) × TS) (hF : F_X11_restore p0 T = some res) (hk : res.1.1 = 0 ∨ res.1.1 = 3 ∨ res.1.1 = 2) : Met l yL_restore (g_wsW yL_restore cL_restore 3 (some .int) [(0, 5, 8, 29), (0, 5, 11, 15)]) ({ frames := 8, cells := 2, slots := 12, locals := 132 }) (va_Pc [.ref (oA 0), .int p0] (g_B (dC, dI) [(cB, .byte), (cC, .char), (cI, .int), (cJ, .long), (cZ, .boolean), (cP, .object "StoryHouse$Play")] sz (b_H cB cC cI cJ cZ cP oA rA T og om) g_0)) (va_Qi (fun (r : Int32) (_ : Unit) => r = wn_restore res.1.1) (g_Bo (dC, dI) (va_A (b_H cB cC cI cJ cZ cP oA rA T og om) sz) (fun (_ : Unit) => (b_H cB cC cI cJ cZ cP oA rA res.2 og om))) (va_A (b_H cB cC cI cJ cZ cP oA rA T og om) sz)) 2 12 (va_A (b_H cB cC cI cJ cZ cP oA rA T og om) sz) := by
  refine va_MetW (cc := cL_restore) (maxL := 3) (ret := (some .int)) (hh := [(0, 5, 8, 29), (0, 5, 11, 15)]) (by decide) rfl ?_
  intro p e s m args below meth c s₁ B hml hv
  obtain ⟨rfl, hsz, hP, hK, hD0, hE, hX⟩ := hv
  have hx := B.exec
  have hb := B.bytes
  have hr := B.returns
  have hts0 := atoms_spec (ws := (g_wsW yL_restore cL_restore 3 (some .int) [(0, 5, 8, 29), (0, 5, 11, 15)])) B.pre
  have hts : ∀ w ∈ lw_good, w.before ([.ref (oA 0), .int p0] : List Value).toArray s = true := fun w h => hts0 w (List.mem_cons_of_mem _ h)
  have hown : s.vm.findClass RL = some m.cls := findClass_of_methodNamed B.named
  have hlocks := B.notSynchronized
  subst hsz
  have hD := hD0.self (sz := s.heap.size)
  generalize hAe : va_A (b_H cB cC cI cJ cZ cP oA rA T og om) s.heap.size = A at hD hE hX ⊢
  have hA : ∀ q : Nat, s.heap.size ≤ q → A q := fun q h => by rw [← hAe]; exact Or.inr h
  have hN := hE.1
  have hS : va_S A s.heap s.heap [] := va_S.rf
  have htb := vx_table (x := yL_restore) B (hts0 (.codeWith yL_restore cL_restore 3 (some .int) [(0, 5, 8, 29), (0, 5, 11, 15)]) List.mem_cons_self)
  have hP : va_P (dC, dI) vwCl (b_H cB cC cI cJ cZ cP oA rA T og om) s.heap := hP
  have hl := lv_entry ([.ref (oA 0), .int p0]) (n := 3) (Nat.le_of_ble_eq_true rfl)
  rw [lg_entry_eq]
  generalize (lg_sl ([.ref (oA 0), .int p0]) ++ List.replicate (3 - (lg_sl ([.ref (oA 0), .int p0])).length) Slot.unset).toArray = ls at hl ⊢
  have hl : lv_has ls 3 [(0, .ref (oA 0)), (1, .int p0)] := hl
  refine lv_aload_n hx hb dL_restore_0 rfl (lv_at hl 0 rfl) ?_
  refine lv_iload_n hx hb dL_restore_1 rfl (lv_at hl 1 rfl) ?_
  have hPc := bx_P (bs := [b_H cB cC cI cJ cZ cP oA rA T og om]) (bs' := [b_H cB cC cI cJ cZ cP oA rA T og om]) (ws' := (b_H cB cC cI cJ cZ cP oA rA T og om)) hP fl_1 fl_1 [0] rfl
  have hDc := bx_D (bs := [b_H cB cC cI cJ cZ cP oA rA T og om]) (bs' := [b_H cB cC cI cJ cZ cP oA rA T og om]) (ws' := (b_H cB cC cI cJ cZ cP oA rA T og om)) hD fl_1 fl_1 [0] (by decide +kernel) rfl
  have hFc := bx_F (bs := [b_H cB cC cI cJ cZ cP oA rA T og om]) (bs' := [b_H cB cC cI cJ cZ cP oA rA T og om]) (wc := (b_H cB cC cI cJ cZ cP oA rA T og om)) hD hS hA fl_1 fl_1 [0] rfl
  refine g_oxv (wc := (b_H cB cC cI cJ cZ cP oA rA T og om)) (wr := ([] : va_W)) hP hD hS hFc (bx_ix [b_H cB cC cI cJ cZ cP oA rA T og om] [0]) (bx_ix [b_H cB cC cI cJ cZ cP oA rA T og om] []) (bx_C (bs := [b_H cB cC cI cJ cZ cP oA rA T og om]) (bs' := [b_H cB cC cI cJ cZ cP oA rA T og om]) (is := [0]) fl_1 fl_1 rfl) (bx_C (bs := [b_H cB cC cI cJ cZ cP oA rA T og om]) (bs' := ([] : List va_W)) (is := []) fl_1 fl_0 rfl) (bx_n (by decide +kernel)) (bx_d (by decide +kernel)) (vx_runV (As := [.int p0]) (rest := []) ⟨hx, hb, hml, hown, hts⟩ (h_X11_restore l dC dI cB cC cI cJ cZ cP oA rA hfl og om s.heap.size p0 T _ hF) (cwV 1 hts (g_gV wq_1288 wq_1289 wq_1290 wq_1 wq_1291) rfl rfl rfl (by decide +kernel) ⟨Nat.le_of_ble_eq_true rfl, Nat.le_of_ble_eq_true rfl⟩) (g_preV g_bl0 hK hPc hDc hS hE hFc g_to0 (q0 := 0) (ci := 11) rfl rfl) rfl rfl hl.1 rfl (lv_room (Nat.le_of_ble_eq_true rfl)) dL_restore_2 ⟨Nat.le_of_ble_eq_true rfl, Nat.le_of_ble_eq_true rfl⟩) (fun E ce q9 H1 locs1 hXP hP' hD' hS' hce hcv hcl => ?_) (fun u9 H locs hw9 hP' hD' hS' => ?_)
  · clear hPc hDc hFc
    replace hP : va_P (dC, dI) vwCl (b_H cB cC cI cJ cZ cP oA rA res.2 og om) H1 := hP'
    replace hD : va_D A (b_H cB cC cI cJ cZ cP oA rA res.2 og om) := hD'
    replace hS := hS'; clear hP' hD' hS'
    rcases hXP with ⟨hc1, rfl⟩ | ⟨hc1, rfl⟩ | ⟨hc1, rfl⟩
    · exact absurd hk (by rw [hc1]; decide)
    · refine vx_catch (E := "java/lang/IllegalStateException") (name := "java/lang/IllegalStateException") hown [⟨0, 5, 8, 29⟩] ⟨0, 5, 11, 15⟩ [] (by rw [htb]; rfl) (fun z hz => by obtain rfl := List.mem_singleton.mp hz; exact Or.inr ⟨by decide, "java/lang/IndexOutOfBoundsException", (hts (.classLink RL 29 "java/lang/IndexOutOfBoundsException") wq_1268), (hN.2.2.2.1 _ (List.mem_of_getElem? (i := 1) rfl)).2 _ (List.mem_of_getElem? (i := 2) rfl) (by decide)⟩) (by decide +kernel) (by decide) (hts (.classLink RL 15 "java/lang/IllegalStateException") wq_920) (va_Nw.use rfl (hN.2.2.2.1 _ (List.mem_of_getElem? (i := 1) rfl)).1) hce hcv hcl ?_
      refine lv_astore_n (lv' := [(2, .ref q9), (0, .ref (oA 0)), (1, .int p0)]) hx hb dL_restore_11 rfl hl (by decide) rfl (fun ls hl => ?_)
      refine lv_iconst (v := 2) hx hb dL_restore_12 (by decide +kernel) ?_
      refine W.widen (k := 2) (n := 12) (Nat.le_of_ble_eq_true rfl) (Nat.le_of_ble_eq_true rfl) ?_
      exact W.iret (v := 2) hx hb hr (fun t ht hW => ⟨⟨2, (), rfl, (by rw [hc1]; decide), by rw [ht]; exact hP, hD⟩, hS.F ht⟩) hS.2.2 dL_restore_13
    · refine vx_catch (E := "java/lang/IndexOutOfBoundsException") (name := "java/lang/IndexOutOfBoundsException") hown [] ⟨0, 5, 8, 29⟩ [⟨0, 5, 11, 15⟩] (by rw [htb]; rfl) (fun z hz => nomatch hz) (by decide +kernel) (by decide) (hts (.classLink RL 29 "java/lang/IndexOutOfBoundsException") wq_1268) (va_Nw.use rfl (hN.2.2.2.1 _ (List.mem_of_getElem? (i := 2) rfl)).1) hce hcv hcl ?_
      refine lv_astore_n (lv' := [(2, .ref q9), (0, .ref (oA 0)), (1, .int p0)]) hx hb dL_restore_8 rfl hl (by decide) rfl (fun ls hl => ?_)
      refine lv_iconst (v := 1) hx hb dL_restore_9 (by decide +kernel) ?_
      refine W.widen (k := 2) (n := 12) (Nat.le_of_ble_eq_true rfl) (Nat.le_of_ble_eq_true rfl) ?_
      exact W.iret (v := 1) hx hb hr (fun t ht hW => ⟨⟨1, (), rfl, (by rw [hc1]; decide), by rw [ht]; exact hP, hD⟩, hS.F ht⟩) hS.2.2 dL_restore_10
  clear hPc hDc hFc
  have hc0 : res.1.1 = 0 := hw9
  replace hP : va_P (dC, dI) vwCl (b_H cB cC cI cJ cZ cP oA rA res.2 og om) H := hP'
  replace hD : va_D A (b_H cB cC cI cJ cZ cP oA rA res.2 og om) := hD'
  replace hS := hS'
  clear hP' hD' hS'
  refine lv_goto (tgt := 14) hx hb dL_restore_5 (by decide) ?_
  refine lv_iconst (v := 0) hx hb dL_restore_14 (by decide +kernel) ?_
  refine W.widen (k := 2) (n := 12) (Nat.le_of_ble_eq_true rfl) (Nat.le_of_ble_eq_true rfl) ?_
  exact W.iret (v := 0) hx hb hr (fun t ht hW => ⟨⟨0, (), rfl, (by rw [hc0]; decide), by rw [ht]; exact hP, hD⟩, hS.F ht⟩) hS.2.2 dL_restore_15
