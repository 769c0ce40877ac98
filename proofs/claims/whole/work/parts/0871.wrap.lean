/-! the law's wrappers, on -/
theorem dL_undo_0 : decode cL_undo 0 = .ok (.aload_n 1, 1) := by decide +kernel
theorem dL_undo_1 : decode cL_undo 1 = .ok (.iconst 0, 1) := by decide +kernel
theorem dL_undo_2 : decode cL_undo 2 = .ok (.aload_n 0, 1) := by decide +kernel
theorem dL_undo_3 : decode cL_undo 3 = .ok (.invokevirtual 37, 3) := by decide +kernel
theorem dL_undo_6 : decode cL_undo 6 = .ok (.ifCond .eq 7, 3) := by decide +kernel
theorem dL_undo_9 : decode cL_undo 9 = .ok (.lconst 1, 1) := by decide +kernel
theorem dL_undo_10 : decode cL_undo 10 = .ok (.goto 4, 3) := by decide +kernel
theorem dL_undo_13 : decode cL_undo 13 = .ok (.lconst 0, 1) := by decide +kernel
theorem dL_undo_14 : decode cL_undo 14 = .ok (.lastore, 1) := by decide +kernel
theorem dL_undo_15 : decode cL_undo 15 = .ok (.goto 6, 3) := by decide +kernel
theorem dL_undo_18 : decode cL_undo 18 = .ok (.astore_n 2, 1) := by decide +kernel
theorem dL_undo_19 : decode cL_undo 19 = .ok (.iconst 1, 1) := by decide +kernel
theorem dL_undo_20 : decode cL_undo 20 = .ok (.ireturn, 1) := by decide +kernel
theorem dL_undo_21 : decode cL_undo 21 = .ok (.iconst 0, 1) := by decide +kernel
theorem dL_undo_22 : decode cL_undo 22 = .ok (.ireturn, 1) := by decide +kernel
def wn_undo : Int32 → Int32 := fun k => if k = 2 then 1 else 0
set_option maxHeartbeats 8000000 in
set_option maxRecDepth 100000 in
theorem l_L_undo (l : Launch) (dC : Nat → ClassId) (dI : Nat → Nat → Nat) (cB cC cI cJ cZ cP : ClassId) (oA : Nat → Nat) (rA : Nat → Nat → Nat) (hfl : l.stackTraces = false) (oo : Nat) (ol : Nat → Int64) (og om : Option Nat) (sz : Nat)  (T : TS) (res : (Int32 × Int32) × TS) (hF : F_X11_undo  T = some res) (hk : res.1.1 = 0 ∨ res.1.1 = 2) : Met l yL_undo (g_wsW yL_undo cL_undo 3 (some .int) [(0, 15, 18, 15)]) ({ frames := 8, cells := 1, slots := 6, locals := 130 }) (va_Pc [.ref (oA 0), .ref oo] (g_B (dC, dI) [(cB, .byte), (cC, .char), (cI, .int), (cJ, .long), (cZ, .boolean), (cP, .object "StoryHouse$Play")] sz ([(oo, .inl (cJ, 1, .inr (.inl ol)))] ++ b_H cB cC cI cJ cZ cP oA rA T og om) g_0)) (va_Qi (fun (r : Int32) (g2 : Nat → Int64) => r = wn_undo res.1.1 ∧ (res.1.1 = 0 → g2 0 = (if res.1.2 = 0 then 0 else 1))) (g_Bo (dC, dI) (va_A ([(oo, .inl (cJ, 1, .inr (.inl ol)))] ++ b_H cB cC cI cJ cZ cP oA rA T og om) sz) (fun (g2 : Nat → Int64) => ([(oo, .inl (cJ, 1, .inr (.inl g2)))] ++ b_H cB cC cI cJ cZ cP oA rA res.2 og om))) (va_A ([(oo, .inl (cJ, 1, .inr (.inl ol)))] ++ b_H cB cC cI cJ cZ cP oA rA T og om) sz)) 1 6 (va_A ([(oo, .inl (cJ, 1, .inr (.inl ol)))] ++ b_H cB cC cI cJ cZ cP oA rA T og om) sz) := by
  refine va_MetW (cc := cL_undo) (maxL := 3) (ret := (some .int)) (hh := [(0, 15, 18, 15)]) (by decide) rfl ?_
  intro p e s m args below meth c s₁ B hml hv
  obtain ⟨rfl, hsz, hP, hK, hD0, hE, hX⟩ := hv
  have hx := B.exec
  have hb := B.bytes
  have hr := B.returns
  have hts0 := atoms_spec (ws := (g_wsW yL_undo cL_undo 3 (some .int) [(0, 15, 18, 15)])) B.pre
  have hts : ∀ w ∈ lw_good, w.before ([.ref (oA 0), .ref oo] : List Value).toArray s = true := fun w h => hts0 w (List.mem_cons_of_mem _ h)
  have hown : s.vm.findClass RL = some m.cls := findClass_of_methodNamed B.named
  have hlocks := B.notSynchronized
  subst hsz
  have hD := hD0.self (sz := s.heap.size)
  generalize hAe : va_A ([(oo, .inl (cJ, 1, .inr (.inl ol)))] ++ b_H cB cC cI cJ cZ cP oA rA T og om) s.heap.size = A at hD hE hX ⊢
  have hA : ∀ q : Nat, s.heap.size ≤ q → A q := fun q h => by rw [← hAe]; exact Or.inr h
  have hN := hE.1
  have hS : va_S A s.heap s.heap [] := va_S.rf
  have htb := vx_table (x := yL_undo) B (hts0 (.codeWith yL_undo cL_undo 3 (some .int) [(0, 15, 18, 15)]) List.mem_cons_self)
  have hP : va_P (dC, dI) vwCl ([(oo, .inl (cJ, 1, .inr (.inl ol)))] ++ b_H cB cC cI cJ cZ cP oA rA T og om) s.heap := hP
  have hl := lv_entry ([.ref (oA 0), .ref oo]) (n := 3) (Nat.le_of_ble_eq_true rfl)
  rw [lg_entry_eq]
  generalize (lg_sl ([.ref (oA 0), .ref oo]) ++ List.replicate (3 - (lg_sl ([.ref (oA 0), .ref oo])).length) Slot.unset).toArray = ls at hl ⊢
  have hl : lv_has ls 3 [(0, .ref (oA 0)), (1, .ref oo)] := hl
  refine lv_aload_n hx hb dL_undo_0 rfl (lv_at hl 1 rfl) ?_
  refine lv_iconst (v := 0) hx hb dL_undo_1 (by decide +kernel) ?_
  refine lv_aload_n hx hb dL_undo_2 rfl (lv_at hl 0 rfl) ?_
  have hPc := bx_P (bs := [[(oo, .inl (cJ, 1, .inr (.inl ol)))], b_H cB cC cI cJ cZ cP oA rA T og om]) (bs' := [b_H cB cC cI cJ cZ cP oA rA T og om]) (ws' := (b_H cB cC cI cJ cZ cP oA rA T og om)) hP fl_2 fl_1 [1] rfl
  have hDc := bx_D (bs := [[(oo, .inl (cJ, 1, .inr (.inl ol)))], b_H cB cC cI cJ cZ cP oA rA T og om]) (bs' := [b_H cB cC cI cJ cZ cP oA rA T og om]) (ws' := (b_H cB cC cI cJ cZ cP oA rA T og om)) hD fl_2 fl_1 [1] (by decide +kernel) rfl
  have hFc := bx_F (bs := [[(oo, .inl (cJ, 1, .inr (.inl ol)))], b_H cB cC cI cJ cZ cP oA rA T og om]) (bs' := [b_H cB cC cI cJ cZ cP oA rA T og om]) (wc := (b_H cB cC cI cJ cZ cP oA rA T og om)) hD hS hA fl_2 fl_1 [1] rfl
  refine g_oxi (wc := (b_H cB cC cI cJ cZ cP oA rA T og om)) (wr := [(oo, .inl (cJ, 1, .inr (.inl ol)))]) hP hD hS hFc (bx_ix [[(oo, .inl (cJ, 1, .inr (.inl ol)))], b_H cB cC cI cJ cZ cP oA rA T og om] [1]) (bx_ix [[(oo, .inl (cJ, 1, .inr (.inl ol)))], b_H cB cC cI cJ cZ cP oA rA T og om] [0]) (bx_C (bs := [[(oo, .inl (cJ, 1, .inr (.inl ol)))], b_H cB cC cI cJ cZ cP oA rA T og om]) (bs' := [b_H cB cC cI cJ cZ cP oA rA T og om]) (is := [1]) fl_2 fl_1 rfl) (bx_C (bs := [[(oo, .inl (cJ, 1, .inr (.inl ol)))], b_H cB cC cI cJ cZ cP oA rA T og om]) (bs' := [[(oo, .inl (cJ, 1, .inr (.inl ol)))]]) (is := [0]) fl_2 fl_1 rfl) (bx_n (by decide +kernel)) (bx_d (by decide +kernel)) (vx_runV (As := []) (rest := [.int 0, .ref oo]) ⟨hx, hb, hml, hown, hts⟩ (h_X11_undo l dC dI cB cC cI cJ cZ cP oA rA hfl og om s.heap.size  T _ hF) (cwV 0 hts (g_gV wq_1295 wq_1296 wq_1297 wq_1 wq_1298) rfl rfl rfl (by decide +kernel) ⟨Nat.le_of_ble_eq_true rfl, Nat.le_of_ble_eq_true rfl⟩) (g_preV g_bl0 hK hPc hDc hS hE hFc g_to0 (q0 := 0) (ci := 11) rfl rfl) rfl rfl hl.1 rfl (lv_room (Nat.le_of_ble_eq_true rfl)) dL_undo_3 ⟨Nat.le_of_ble_eq_true rfl, Nat.le_of_ble_eq_true rfl⟩) (fun E ce q9 H1 locs1 hXP hP' hD' hS' hce hcv hcl => ?_) (fun r9 u9 H locs hw9 hP' hD' hS' => ?_)
  · clear hPc hDc hFc
    replace hP : va_P (dC, dI) vwCl ([(oo, .inl (cJ, 1, .inr (.inl ol)))] ++ b_H cB cC cI cJ cZ cP oA rA res.2 og om) H1 := hP'
    replace hD : va_D A ([(oo, .inl (cJ, 1, .inr (.inl ol)))] ++ b_H cB cC cI cJ cZ cP oA rA res.2 og om) := hD'
    replace hS := hS'; clear hP' hD' hS'
    rcases hXP with ⟨hc1, rfl⟩ | ⟨hc1, rfl⟩ | ⟨hc1, rfl⟩
    · exact absurd hk (by rw [hc1]; decide)
    · refine vx_catch (E := "java/lang/IllegalStateException") (name := "java/lang/IllegalStateException") hown [] ⟨0, 15, 18, 15⟩ [] (by rw [htb]; rfl) (fun z hz => nomatch hz) (by decide +kernel) (by decide) (hts (.classLink RL 15 "java/lang/IllegalStateException") wq_920) (va_Nw.use rfl (hN.2.2.2.1 _ (List.mem_of_getElem? (i := 1) rfl)).1) hce hcv hcl ?_
      refine lv_astore_n (lv' := [(2, .ref q9), (0, .ref (oA 0)), (1, .ref oo)]) hx hb dL_undo_18 rfl hl (by decide) rfl (fun ls hl => ?_)
      refine lv_iconst (v := 1) hx hb dL_undo_19 (by decide +kernel) ?_
      refine W.widen (k := 1) (n := 6) (Nat.le_of_ble_eq_true rfl) (Nat.le_of_ble_eq_true rfl) ?_
      exact W.iret (v := 1) hx hb hr (fun t ht hW => ⟨⟨1, ol, rfl, ⟨(by rw [hc1]; decide), fun z => absurd z (by rw [hc1]; decide)⟩, by rw [ht]; exact hP, hD⟩, hS.F ht⟩) hS.2.2 dL_undo_20
    · exact absurd hk (by rw [hc1]; decide)
  clear hPc hDc hFc
  obtain ⟨hc0, e9⟩ := hw9
  subst e9
  replace hP : va_P (dC, dI) vwCl ([(oo, .inl (cJ, 1, .inr (.inl ol)))] ++ b_H cB cC cI cJ cZ cP oA rA res.2 og om) H := hP'
  replace hD : va_D A ([(oo, .inl (cJ, 1, .inr (.inl ol)))] ++ b_H cB cC cI cJ cZ cP oA rA res.2 og om) := hD'
  replace hS := hS'
  clear hP' hD' hS'
  refine lv_if_eq (tgt := 13) hx hb dL_undo_6 (by decide) (fun c_1 => ?_) (fun c_1 => ?_)
  · skip
    refine lv_lconst (v := 0) hx hb dL_undo_13 (by decide +kernel) ?_
    refine va_last hx hb hK hP hD hS 0 3 rfl rfl (vp_in_iff.mpr (by decide +kernel)) dL_undo_14 (fun H locs hP' hD' hS' => ?_)
    replace hP : va_P (dC, dI) vwCl ([(oo, .inl (cJ, 1, .inr (.inl (vp_updL ol (0 : Int32).toNatClampNeg 0))))] ++ b_H cB cC cI cJ cZ cP oA rA res.2 og om) H := hP'
    replace hD : va_D A ([(oo, .inl (cJ, 1, .inr (.inl (vp_updL ol (0 : Int32).toNatClampNeg 0))))] ++ b_H cB cC cI cJ cZ cP oA rA res.2 og om) := hD'
    replace hS := hS'
    clear hP' hD' hS'
    refine lv_goto (tgt := 21) hx hb dL_undo_15 (by decide) ?_
    refine lv_iconst (v := 0) hx hb dL_undo_21 (by decide +kernel) ?_
    refine W.widen (k := 1) (n := 6) (Nat.le_of_ble_eq_true rfl) (Nat.le_of_ble_eq_true rfl) ?_
    exact W.iret (v := 0) hx hb hr (fun t ht hW => ⟨⟨0, (vp_updL ol (0 : Int32).toNatClampNeg 0), rfl, ⟨(by rw [hc0]; decide), fun _ => (g_u0 ol _).trans (by rw [if_pos c_1])⟩, by rw [ht]; exact hP, hD⟩, hS.F ht⟩) hS.2.2 dL_undo_22
  · skip
    refine lv_lconst (v := 1) hx hb dL_undo_9 (by decide +kernel) ?_
    refine lv_goto (tgt := 14) hx hb dL_undo_10 (by decide) ?_
    refine va_last hx hb hK hP hD hS 0 3 rfl rfl (vp_in_iff.mpr (by decide +kernel)) dL_undo_14 (fun H locs hP' hD' hS' => ?_)
    replace hP : va_P (dC, dI) vwCl ([(oo, .inl (cJ, 1, .inr (.inl (vp_updL ol (0 : Int32).toNatClampNeg 1))))] ++ b_H cB cC cI cJ cZ cP oA rA res.2 og om) H := hP'
    replace hD : va_D A ([(oo, .inl (cJ, 1, .inr (.inl (vp_updL ol (0 : Int32).toNatClampNeg 1))))] ++ b_H cB cC cI cJ cZ cP oA rA res.2 og om) := hD'
    replace hS := hS'
    clear hP' hD' hS'
    refine lv_goto (tgt := 21) hx hb dL_undo_15 (by decide) ?_
    refine lv_iconst (v := 0) hx hb dL_undo_21 (by decide +kernel) ?_
    refine W.widen (k := 1) (n := 6) (Nat.le_of_ble_eq_true rfl) (Nat.le_of_ble_eq_true rfl) ?_
    exact W.iret (v := 0) hx hb hr (fun t ht hW => ⟨⟨0, (vp_updL ol (0 : Int32).toNatClampNeg 1), rfl, ⟨(by rw [hc0]; decide), fun _ => (g_u0 ol _).trans (by rw [if_neg c_1])⟩, by rw [ht]; exact hP, hD⟩, hS.F ht⟩) hS.2.2 dL_undo_22

theorem dL_holder_0 : decode cL_holder 0 = .ok (.aload_n 2, 1) := by decide +kernel
theorem dL_holder_1 : decode cL_holder 1 = .ok (.iconst 0, 1) := by decide +kernel
theorem dL_holder_2 : decode cL_holder 2 = .ok (.aload_n 0, 1) := by decide +kernel
theorem dL_holder_3 : decode cL_holder 3 = .ok (.iload_n 1, 1) := by decide +kernel
theorem dL_holder_4 : decode cL_holder 4 = .ok (.invokevirtual 41, 3) := by decide +kernel
theorem dL_holder_7 : decode cL_holder 7 = .ok (.i2l, 1) := by decide +kernel
theorem dL_holder_8 : decode cL_holder 8 = .ok (.lastore, 1) := by decide +kernel
theorem dL_holder_9 : decode cL_holder 9 = .ok (.goto 9, 3) := by decide +kernel
theorem dL_holder_12 : decode cL_holder 12 = .ok (.astore_n 3, 1) := by decide +kernel
theorem dL_holder_13 : decode cL_holder 13 = .ok (.iconst 1, 1) := by decide +kernel
theorem dL_holder_14 : decode cL_holder 14 = .ok (.ireturn, 1) := by decide +kernel
theorem dL_holder_15 : decode cL_holder 15 = .ok (.astore_n 3, 1) := by decide +kernel
theorem dL_holder_16 : decode cL_holder 16 = .ok (.iconst 2, 1) := by decide +kernel
theorem dL_holder_17 : decode cL_holder 17 = .ok (.ireturn, 1) := by decide +kernel
theorem dL_holder_18 : decode cL_holder 18 = .ok (.iconst 0, 1) := by decide +kernel
theorem dL_holder_19 : decode cL_holder 19 = .ok (.ireturn, 1) := by decide +kernel
def wn_holder : Int32 → Int32 := fun k => if k = 3 then 1 else if k = 2 then 2 else 0
set_option maxHeartbeats 8000000 in
set_option maxRecDepth 100000 in
theorem l_L_holder (l : Launch) (dC : Nat → ClassId) (dI : Nat → Nat → Nat) (cB cC cI cJ cZ cP : ClassId) (oA : Nat → Nat) (rA : Nat → Nat → Nat) (hfl : l.stackTraces = false) (oo : Nat) (ol : Nat → Int64) (og om : Option Nat) (sz : Nat) (p0 : Int32) (T : TS) (res : (Int32 × Int32) × TS) (hF : F_X11_holder p0 T = some res) (hk : res.1.1 = 0 ∨ res.1.1 = 3 ∨ res.1.1 = 2) : Met l yL_holder (g_wsW yL_holder cL_holder 4 (some .int) [(0, 9, 12, 29), (0, 9, 15, 15)]) ({ frames := 8, cells := 2, slots := 12, locals := 132 }) (va_Pc [.ref (oA 0), .int p0, .ref oo] (g_B (dC, dI) [(cB, .byte), (cC, .char), (cI, .int), (cJ, .long), (cZ, .boolean), (cP, .object "StoryHouse$Play")] sz ([(oo, .inl (cJ, 1, .inr (.inl ol)))] ++ b_H cB cC cI cJ cZ cP oA rA T og om) g_0)) (va_Qi (fun (r : Int32) (g2 : Nat → Int64) => r = wn_holder res.1.1 ∧ (res.1.1 = 0 → g2 0 = res.1.2.toInt64)) (g_Bo (dC, dI) (va_A ([(oo, .inl (cJ, 1, .inr (.inl ol)))] ++ b_H cB cC cI cJ cZ cP oA rA T og om) sz) (fun (g2 : Nat → Int64) => ([(oo, .inl (cJ, 1, .inr (.inl g2)))] ++ b_H cB cC cI cJ cZ cP oA rA res.2 og om))) (va_A ([(oo, .inl (cJ, 1, .inr (.inl ol)))] ++ b_H cB cC cI cJ cZ cP oA rA T og om) sz)) 2 12 (va_A ([(oo, .inl (cJ, 1, .inr (.inl ol)))] ++ b_H cB cC cI cJ cZ cP oA rA T og om) sz) := by
  refine va_MetW (cc := cL_holder) (maxL := 4) (ret := (some .int)) (hh := [(0, 9, 12, 29), (0, 9, 15, 15)]) (by decide) rfl ?_
  intro p e s m args below meth c s₁ B hml hv
  obtain ⟨rfl, hsz, hP, hK, hD0, hE, hX⟩ := hv
  have hx := B.exec
  have hb := B.bytes
  have hr := B.returns
  have hts0 := atoms_spec (ws := (g_wsW yL_holder cL_holder 4 (some .int) [(0, 9, 12, 29), (0, 9, 15, 15)])) B.pre
  have hts : ∀ w ∈ lw_good, w.before ([.ref (oA 0), .int p0, .ref oo] : List Value).toArray s = true := fun w h => hts0 w (List.mem_cons_of_mem _ h)
  have hown : s.vm.findClass RL = some m.cls := findClass_of_methodNamed B.named
  have hlocks := B.notSynchronized
  subst hsz
  have hD := hD0.self (sz := s.heap.size)
  generalize hAe : va_A ([(oo, .inl (cJ, 1, .inr (.inl ol)))] ++ b_H cB cC cI cJ cZ cP oA rA T og om) s.heap.size = A at hD hE hX ⊢
  have hA : ∀ q : Nat, s.heap.size ≤ q → A q := fun q h => by rw [← hAe]; exact Or.inr h
  have hN := hE.1
  have hS : va_S A s.heap s.heap [] := va_S.rf
  have htb := vx_table (x := yL_holder) B (hts0 (.codeWith yL_holder cL_holder 4 (some .int) [(0, 9, 12, 29), (0, 9, 15, 15)]) List.mem_cons_self)
  have hP : va_P (dC, dI) vwCl ([(oo, .inl (cJ, 1, .inr (.inl ol)))] ++ b_H cB cC cI cJ cZ cP oA rA T og om) s.heap := hP
  have hl := lv_entry ([.ref (oA 0), .int p0, .ref oo]) (n := 4) (Nat.le_of_ble_eq_true rfl)
  rw [lg_entry_eq]
  generalize (lg_sl ([.ref (oA 0), .int p0, .ref oo]) ++ List.replicate (4 - (lg_sl ([.ref (oA 0), .int p0, .ref oo])).length) Slot.unset).toArray = ls at hl ⊢
  have hl : lv_has ls 4 [(0, .ref (oA 0)), (1, .int p0), (2, .ref oo)] := hl
  refine lv_aload_n hx hb dL_holder_0 rfl (lv_at hl 2 rfl) ?_
  refine lv_iconst (v := 0) hx hb dL_holder_1 (by decide +kernel) ?_
  refine lv_aload_n hx hb dL_holder_2 rfl (lv_at hl 0 rfl) ?_
  refine lv_iload_n hx hb dL_holder_3 rfl (lv_at hl 1 rfl) ?_
  have hPc := bx_P (bs := [[(oo, .inl (cJ, 1, .inr (.inl ol)))], b_H cB cC cI cJ cZ cP oA rA T og om]) (bs' := [b_H cB cC cI cJ cZ cP oA rA T og om]) (ws' := (b_H cB cC cI cJ cZ cP oA rA T og om)) hP fl_2 fl_1 [1] rfl
  have hDc := bx_D (bs := [[(oo, .inl (cJ, 1, .inr (.inl ol)))], b_H cB cC cI cJ cZ cP oA rA T og om]) (bs' := [b_H cB cC cI cJ cZ cP oA rA T og om]) (ws' := (b_H cB cC cI cJ cZ cP oA rA T og om)) hD fl_2 fl_1 [1] (by decide +kernel) rfl
  have hFc := bx_F (bs := [[(oo, .inl (cJ, 1, .inr (.inl ol)))], b_H cB cC cI cJ cZ cP oA rA T og om]) (bs' := [b_H cB cC cI cJ cZ cP oA rA T og om]) (wc := (b_H cB cC cI cJ cZ cP oA rA T og om)) hD hS hA fl_2 fl_1 [1] rfl
  refine g_oxi (wc := (b_H cB cC cI cJ cZ cP oA rA T og om)) (wr := [(oo, .inl (cJ, 1, .inr (.inl ol)))]) hP hD hS hFc (bx_ix [[(oo, .inl (cJ, 1, .inr (.inl ol)))], b_H cB cC cI cJ cZ cP oA rA T og om] [1]) (bx_ix [[(oo, .inl (cJ, 1, .inr (.inl ol)))], b_H cB cC cI cJ cZ cP oA rA T og om] [0]) (bx_C (bs := [[(oo, .inl (cJ, 1, .inr (.inl ol)))], b_H cB cC cI cJ cZ cP oA rA T og om]) (bs' := [b_H cB cC cI cJ cZ cP oA rA T og om]) (is := [1]) fl_2 fl_1 rfl) (bx_C (bs := [[(oo, .inl (cJ, 1, .inr (.inl ol)))], b_H cB cC cI cJ cZ cP oA rA T og om]) (bs' := [[(oo, .inl (cJ, 1, .inr (.inl ol)))]]) (is := [0]) fl_2 fl_1 rfl) (bx_n (by decide +kernel)) (bx_d (by decide +kernel)) (vx_runV (As := [.int p0]) (rest := [.int 0, .ref oo]) ⟨hx, hb, hml, hown, hts⟩ (h_X11_holder l dC dI cB cC cI cJ cZ cP oA rA hfl og om s.heap.size p0 T _ hF) (cwV 1 hts (g_gV wq_1302 wq_1303 wq_1304 wq_1 wq_1305) rfl rfl rfl (by decide +kernel) ⟨Nat.le_of_ble_eq_true rfl, Nat.le_of_ble_eq_true rfl⟩) (g_preV g_bl0 hK hPc hDc hS hE hFc g_to0 (q0 := 0) (ci := 11) rfl rfl) rfl rfl hl.1 rfl (lv_room (Nat.le_of_ble_eq_true rfl)) dL_holder_4 ⟨Nat.le_of_ble_eq_true rfl, Nat.le_of_ble_eq_true rfl⟩) (fun E ce q9 H1 locs1 hXP hP' hD' hS' hce hcv hcl => ?_) (fun r9 u9 H locs hw9 hP' hD' hS' => ?_)
  · clear hPc hDc hFc
    replace hP : va_P (dC, dI) vwCl ([(oo, .inl (cJ, 1, .inr (.inl ol)))] ++ b_H cB cC cI cJ cZ cP oA rA res.2 og om) H1 := hP'
    replace hD : va_D A ([(oo, .inl (cJ, 1, .inr (.inl ol)))] ++ b_H cB cC cI cJ cZ cP oA rA res.2 og om) := hD'
    replace hS := hS'; clear hP' hD' hS'
    rcases hXP with ⟨hc1, rfl⟩ | ⟨hc1, rfl⟩ | ⟨hc1, rfl⟩
    · exact absurd hk (by rw [hc1]; decide)
    · refine vx_catch (E := "java/lang/IllegalStateException") (name := "java/lang/IllegalStateException") hown [⟨0, 9, 12, 29⟩] ⟨0, 9, 15, 15⟩ [] (by rw [htb]; rfl) (fun z hz => by obtain rfl := List.mem_singleton.mp hz; exact Or.inr ⟨by decide, "java/lang/IndexOutOfBoundsException", (hts (.classLink RL 29 "java/lang/IndexOutOfBoundsException") wq_1268), (hN.2.2.2.1 _ (List.mem_of_getElem? (i := 1) rfl)).2 _ (List.mem_of_getElem? (i := 2) rfl) (by decide)⟩) (by decide +kernel) (by decide) (hts (.classLink RL 15 "java/lang/IllegalStateException") wq_920) (va_Nw.use rfl (hN.2.2.2.1 _ (List.mem_of_getElem? (i := 1) rfl)).1) hce hcv hcl ?_
      refine lv_astore_n (lv' := [(3, .ref q9), (0, .ref (oA 0)), (1, .int p0), (2, .ref oo)]) hx hb dL_holder_15 rfl hl (by decide) rfl (fun ls hl => ?_)
      refine lv_iconst (v := 2) hx hb dL_holder_16 (by decide +kernel) ?_
      refine W.widen (k := 2) (n := 12) (Nat.le_of_ble_eq_true rfl) (Nat.le_of_ble_eq_true rfl) ?_
      exact W.iret (v := 2) hx hb hr (fun t ht hW => ⟨⟨2, ol, rfl, ⟨(by rw [hc1]; decide), fun z => absurd z (by rw [hc1]; decide)⟩, by rw [ht]; exact hP, hD⟩, hS.F ht⟩) hS.2.2 dL_holder_17
    · refine vx_catch (E := "java/lang/IndexOutOfBoundsException") (name := "java/lang/IndexOutOfBoundsException") hown [] ⟨0, 9, 12, 29⟩ [⟨0, 9, 15, 15⟩] (by rw [htb]; rfl) (fun z hz => nomatch hz) (by decide +kernel) (by decide) (hts (.classLink RL 29 "java/lang/IndexOutOfBoundsException") wq_1268) (va_Nw.use rfl (hN.2.2.2.1 _ (List.mem_of_getElem? (i := 2) rfl)).1) hce hcv hcl ?_
      refine lv_astore_n (lv' := [(3, .ref q9), (0, .ref (oA 0)), (1, .int p0), (2, .ref oo)]) hx hb dL_holder_12 rfl hl (by decide) rfl (fun ls hl => ?_)
      refine lv_iconst (v := 1) hx hb dL_holder_13 (by decide +kernel) ?_
      refine W.widen (k := 2) (n := 12) (Nat.le_of_ble_eq_true rfl) (Nat.le_of_ble_eq_true rfl) ?_
      exact W.iret (v := 1) hx hb hr (fun t ht hW => ⟨⟨1, ol, rfl, ⟨(by rw [hc1]; decide), fun z => absurd z (by rw [hc1]; decide)⟩, by rw [ht]; exact hP, hD⟩, hS.F ht⟩) hS.2.2 dL_holder_14
  clear hPc hDc hFc
  obtain ⟨hc0, e9⟩ := hw9
  subst e9
  replace hP : va_P (dC, dI) vwCl ([(oo, .inl (cJ, 1, .inr (.inl ol)))] ++ b_H cB cC cI cJ cZ cP oA rA res.2 og om) H := hP'
  replace hD : va_D A ([(oo, .inl (cJ, 1, .inr (.inl ol)))] ++ b_H cB cC cI cJ cZ cP oA rA res.2 og om) := hD'
  replace hS := hS'
  clear hP' hD' hS'
  refine lv_i2l hx hb dL_holder_7 rfl ?_
  refine va_last hx hb hK hP hD hS 0 3 rfl rfl (vp_in_iff.mpr (by decide +kernel)) dL_holder_8 (fun H locs hP' hD' hS' => ?_)
  replace hP : va_P (dC, dI) vwCl ([(oo, .inl (cJ, 1, .inr (.inl (vp_updL ol (0 : Int32).toNatClampNeg res.1.2.toInt64))))] ++ b_H cB cC cI cJ cZ cP oA rA res.2 og om) H := hP'
  replace hD : va_D A ([(oo, .inl (cJ, 1, .inr (.inl (vp_updL ol (0 : Int32).toNatClampNeg res.1.2.toInt64))))] ++ b_H cB cC cI cJ cZ cP oA rA res.2 og om) := hD'
  replace hS := hS'
  clear hP' hD' hS'
  refine lv_goto (tgt := 18) hx hb dL_holder_9 (by decide) ?_
  refine lv_iconst (v := 0) hx hb dL_holder_18 (by decide +kernel) ?_
  refine W.widen (k := 2) (n := 12) (Nat.le_of_ble_eq_true rfl) (Nat.le_of_ble_eq_true rfl) ?_
  exact W.iret (v := 0) hx hb hr (fun t ht hW => ⟨⟨0, (vp_updL ol (0 : Int32).toNatClampNeg res.1.2.toInt64), rfl, ⟨(by rw [hc0]; decide), fun _ => g_u0 ol _⟩, by rw [ht]; exact hP, hD⟩, hS.F ht⟩) hS.2.2 dL_holder_19

theorem dL_first_0 : decode cL_first 0 = .ok (.aload_n 3, 1) := by decide +kernel
theorem dL_first_1 : decode cL_first 1 = .ok (.iconst 0, 1) := by decide +kernel
theorem dL_first_2 : decode cL_first 2 = .ok (.aload_n 0, 1) := by decide +kernel
theorem dL_first_3 : decode cL_first 3 = .ok (.iload_n 1, 1) := by decide +kernel
theorem dL_first_4 : decode cL_first 4 = .ok (.iload_n 2, 1) := by decide +kernel
theorem dL_first_5 : decode cL_first 5 = .ok (.invokevirtual 44, 3) := by decide +kernel
theorem dL_first_8 : decode cL_first 8 = .ok (.i2l, 1) := by decide +kernel
theorem dL_first_9 : decode cL_first 9 = .ok (.lastore, 1) := by decide +kernel
theorem dL_first_10 : decode cL_first 10 = .ok (.goto 11, 3) := by decide +kernel
theorem dL_first_13 : decode cL_first 13 = .ok (.astore 4, 2) := by decide +kernel
theorem dL_first_15 : decode cL_first 15 = .ok (.iconst 1, 1) := by decide +kernel
theorem dL_first_16 : decode cL_first 16 = .ok (.ireturn, 1) := by decide +kernel
theorem dL_first_17 : decode cL_first 17 = .ok (.astore 4, 2) := by decide +kernel
theorem dL_first_19 : decode cL_first 19 = .ok (.iconst 2, 1) := by decide +kernel
theorem dL_first_20 : decode cL_first 20 = .ok (.ireturn, 1) := by decide +kernel
theorem dL_first_21 : decode cL_first 21 = .ok (.iconst 0, 1) := by decide +kernel
theorem dL_first_22 : decode cL_first 22 = .ok (.ireturn, 1) := by decide +kernel
def wn_first : Int32 → Int32 := fun k => if k = 3 then 1 else if k = 2 then 2 else 0
set_option maxHeartbeats 8000000 in
set_option maxRecDepth 100000 in
theorem l_L_first (l : Launch) (dC : Nat → ClassId) (dI : Nat → Nat → Nat) (cB cC cI cJ cZ cP : ClassId) (oA : Nat → Nat) (rA : Nat → Nat → Nat) (hfl : l.stackTraces = false) (oo : Nat) (ol : Nat → Int64) (og om : Option Nat) (sz : Nat) (p0 : Int32) (p1 : Int32) (T : TS) (res : (Int32 × Int32) × TS) (hF : F_X11_first p0 p1 T = some res) (hk : res.1.1 = 0 ∨ res.1.1 = 3 ∨ res.1.1 = 2) : Met l yL_first (g_wsW yL_first cL_first 5 (some .int) [(0, 10, 13, 29), (0, 10, 17, 15)]) ({ frames := 8, cells := 2, slots := 12, locals := 133 }) (va_Pc [.ref (oA 0), .int p0, .int p1, .ref oo] (g_B (dC, dI) [(cB, .byte), (cC, .char), (cI, .int), (cJ, .long), (cZ, .boolean), (cP, .object "StoryHouse$Play")] sz ([(oo, .inl (cJ, 1, .inr (.inl ol)))] ++ b_H cB cC cI cJ cZ cP oA rA T og om) g_0)) (va_Qi (fun (r : Int32) (g2 : Nat → Int64) => r = wn_first res.1.1 ∧ (res.1.1 = 0 → g2 0 = res.1.2.toInt64)) (g_Bo (dC, dI) (va_A ([(oo, .inl (cJ, 1, .inr (.inl ol)))] ++ b_H cB cC cI cJ cZ cP oA rA T og om) sz) (fun (g2 : Nat → Int64) => ([(oo, .inl (cJ, 1, .inr (.inl g2)))] ++ b_H cB cC cI cJ cZ cP oA rA res.2 og om))) (va_A ([(oo, .inl (cJ, 1, .inr (.inl ol)))] ++ b_H cB cC cI cJ cZ cP oA rA T og om) sz)) 2 12 (va_A ([(oo, .inl (cJ, 1, .inr (.inl ol)))] ++ b_H cB cC cI cJ cZ cP oA rA T og om) sz) := by
  refine va_MetW (cc := cL_first) (maxL := 5) (ret := (some .int)) (hh := [(0, 10, 13, 29), (0, 10, 17, 15)]) (by decide) rfl ?_
  intro p e s m args below meth c s₁ B hml hv
  obtain ⟨rfl, hsz, hP, hK, hD0, hE, hX⟩ := hv
  have hx := B.exec
  have hb := B.bytes
  have hr := B.returns
  have hts0 := atoms_spec (ws := (g_wsW yL_first cL_first 5 (some .int) [(0, 10, 13, 29), (0, 10, 17, 15)])) B.pre
  have hts : ∀ w ∈ lw_good, w.before ([.ref (oA 0), .int p0, .int p1, .ref oo] : List Value).toArray s = true := fun w h => hts0 w (List.mem_cons_of_mem _ h)
  have hown : s.vm.findClass RL = some m.cls := findClass_of_methodNamed B.named
  have hlocks := B.notSynchronized
  subst hsz
  have hD := hD0.self (sz := s.heap.size)
  generalize hAe : va_A ([(oo, .inl (cJ, 1, .inr (.inl ol)))] ++ b_H cB cC cI cJ cZ cP oA rA T og om) s.heap.size = A at hD hE hX ⊢
  have hA : ∀ q : Nat, s.heap.size ≤ q → A q := fun q h => by rw [← hAe]; exact Or.inr h
  have hN := hE.1
  have hS : va_S A s.heap s.heap [] := va_S.rf
  have htb := vx_table (x := yL_first) B (hts0 (.codeWith yL_first cL_first 5 (some .int) [(0, 10, 13, 29), (0, 10, 17, 15)]) List.mem_cons_self)
  have hP : va_P (dC, dI) vwCl ([(oo, .inl (cJ, 1, .inr (.inl ol)))] ++ b_H cB cC cI cJ cZ cP oA rA T og om) s.heap := hP
  have hl := lv_entry ([.ref (oA 0), .int p0, .int p1, .ref oo]) (n := 5) (Nat.le_of_ble_eq_true rfl)
  rw [lg_entry_eq]
  generalize (lg_sl ([.ref (oA 0), .int p0, .int p1, .ref oo]) ++ List.replicate (5 - (lg_sl ([.ref (oA 0), .int p0, .int p1, .ref oo])).length) Slot.unset).toArray = ls at hl ⊢
  have hl : lv_has ls 5 [(0, .ref (oA 0)), (1, .int p0), (2, .int p1), (3, .ref oo)] := hl
  refine lv_aload_n hx hb dL_first_0 rfl (lv_at hl 3 rfl) ?_
  refine lv_iconst (v := 0) hx hb dL_first_1 (by decide +kernel) ?_
  refine lv_aload_n hx hb dL_first_2 rfl (lv_at hl 0 rfl) ?_
  refine lv_iload_n hx hb dL_first_3 rfl (lv_at hl 1 rfl) ?_
  refine lv_iload_n hx hb dL_first_4 rfl (lv_at hl 2 rfl) ?_
  have hPc := bx_P (bs := [[(oo, .inl (cJ, 1, .inr (.inl ol)))], b_H cB cC cI cJ cZ cP oA rA T og om]) (bs' := [b_H cB cC cI cJ cZ cP oA rA T og om]) (ws' := (b_H cB cC cI cJ cZ cP oA rA T og om)) hP fl_2 fl_1 [1] rfl
  have hDc := bx_D (bs := [[(oo, .inl (cJ, 1, .inr (.inl ol)))], b_H cB cC cI cJ cZ cP oA rA T og om]) (bs' := [b_H cB cC cI cJ cZ cP oA rA T og om]) (ws' := (b_H cB cC cI cJ cZ cP oA rA T og om)) hD fl_2 fl_1 [1] (by decide +kernel) rfl
  have hFc := bx_F (bs := [[(oo, .inl (cJ, 1, .inr (.inl ol)))], b_H cB cC cI cJ cZ cP oA rA T og om]) (bs' := [b_H cB cC cI cJ cZ cP oA rA T og om]) (wc := (b_H cB cC cI cJ cZ cP oA rA T og om)) hD hS hA fl_2 fl_1 [1] rfl
  refine g_oxi (wc := (b_H cB cC cI cJ cZ cP oA rA T og om)) (wr := [(oo, .inl (cJ, 1, .inr (.inl ol)))]) hP hD hS hFc (bx_ix [[(oo, .inl (cJ, 1, .inr (.inl ol)))], b_H cB cC cI cJ cZ cP oA rA T og om] [1]) (bx_ix [[(oo, .inl (cJ, 1, .inr (.inl ol)))], b_H cB cC cI cJ cZ cP oA rA T og om] [0]) (bx_C (bs := [[(oo, .inl (cJ, 1, .inr (.inl ol)))], b_H cB cC cI cJ cZ cP oA rA T og om]) (bs' := [b_H cB cC cI cJ cZ cP oA rA T og om]) (is := [1]) fl_2 fl_1 rfl) (bx_C (bs := [[(oo, .inl (cJ, 1, .inr (.inl ol)))], b_H cB cC cI cJ cZ cP oA rA T og om]) (bs' := [[(oo, .inl (cJ, 1, .inr (.inl ol)))]]) (is := [0]) fl_2 fl_1 rfl) (bx_n (by decide +kernel)) (bx_d (by decide +kernel)) (vx_runV (As := [.int p0, .int p1]) (rest := [.int 0, .ref oo]) ⟨hx, hb, hml, hown, hts⟩ (h_X11_first l dC dI cB cC cI cJ cZ cP oA rA hfl og om s.heap.size p0 p1 T _ hF) (cwV 2 hts (g_gV wq_1313 wq_1314 wq_1315 wq_1 wq_1316) rfl rfl rfl (by decide +kernel) ⟨Nat.le_of_ble_eq_true rfl, Nat.le_of_ble_eq_true rfl⟩) (g_preV g_bl0 hK hPc hDc hS hE hFc g_to0 (q0 := 0) (ci := 11) rfl rfl) rfl rfl hl.1 rfl (lv_room (Nat.le_of_ble_eq_true rfl)) dL_first_5 ⟨Nat.le_of_ble_eq_true rfl, Nat.le_of_ble_eq_true rfl⟩) (fun E ce q9 H1 locs1 hXP hP' hD' hS' hce hcv hcl => ?_) (fun r9 u9 H locs hw9 hP' hD' hS' => ?_)
  · clear hPc hDc hFc
    replace hP : va_P (dC, dI) vwCl ([(oo, .inl (cJ, 1, .inr (.inl ol)))] ++ b_H cB cC cI cJ cZ cP oA rA res.2 og om) H1 := hP'
    replace hD : va_D A ([(oo, .inl (cJ, 1, .inr (.inl ol)))] ++ b_H cB cC cI cJ cZ cP oA rA res.2 og om) := hD'
    replace hS := hS'; clear hP' hD' hS'
    rcases hXP with ⟨hc1, rfl⟩ | ⟨hc1, rfl⟩ | ⟨hc1, rfl⟩
    · exact absurd hk (by rw [hc1]; decide)
    · refine vx_catch (E := "java/lang/IllegalStateException") (name := "java/lang/IllegalStateException") hown [⟨0, 10, 13, 29⟩] ⟨0, 10, 17, 15⟩ [] (by rw [htb]; rfl) (fun z hz => by obtain rfl := List.mem_singleton.mp hz; exact Or.inr ⟨by decide, "java/lang/IndexOutOfBoundsException", (hts (.classLink RL 29 "java/lang/IndexOutOfBoundsException") wq_1268), (hN.2.2.2.1 _ (List.mem_of_getElem? (i := 1) rfl)).2 _ (List.mem_of_getElem? (i := 2) rfl) (by decide)⟩) (by decide +kernel) (by decide) (hts (.classLink RL 15 "java/lang/IllegalStateException") wq_920) (va_Nw.use rfl (hN.2.2.2.1 _ (List.mem_of_getElem? (i := 1) rfl)).1) hce hcv hcl ?_
      refine lv_astore (lv' := [(4, .ref q9), (0, .ref (oA 0)), (1, .int p0), (2, .int p1), (3, .ref oo)]) hx hb dL_first_17 hl (by decide) rfl (fun ls hl => ?_)
      refine lv_iconst (v := 2) hx hb dL_first_19 (by decide +kernel) ?_
      refine W.widen (k := 2) (n := 12) (Nat.le_of_ble_eq_true rfl) (Nat.le_of_ble_eq_true rfl) ?_
      exact W.iret (v := 2) hx hb hr (fun t ht hW => ⟨⟨2, ol, rfl, ⟨(by rw [hc1]; decide), fun z => absurd z (by rw [hc1]; decide)⟩, by rw [ht]; exact hP, hD⟩, hS.F ht⟩) hS.2.2 dL_first_20
    · refine vx_catch (E := "java/lang/IndexOutOfBoundsException") (name := "java/lang/IndexOutOfBoundsException") hown [] ⟨0, 10, 13, 29⟩ [⟨0, 10, 17, 15⟩] (by rw [htb]; rfl) (fun z hz => nomatch hz) (by decide +kernel) (by decide) (hts (.classLink RL 29 "java/lang/IndexOutOfBoundsException") wq_1268) (va_Nw.use rfl (hN.2.2.2.1 _ (List.mem_of_getElem? (i := 2) rfl)).1) hce hcv hcl ?_
      refine lv_astore (lv' := [(4, .ref q9), (0, .ref (oA 0)), (1, .int p0), (2, .int p1), (3, .ref oo)]) hx hb dL_first_13 hl (by decide) rfl (fun ls hl => ?_)
      refine lv_iconst (v := 1) hx hb dL_first_15 (by decide +kernel) ?_
      refine W.widen (k := 2) (n := 12) (Nat.le_of_ble_eq_true rfl) (Nat.le_of_ble_eq_true rfl) ?_
      exact W.iret (v := 1) hx hb hr (fun t ht hW => ⟨⟨1, ol, rfl, ⟨(by rw [hc1]; decide), fun z => absurd z (by rw [hc1]; decide)⟩, by rw [ht]; exact hP, hD⟩, hS.F ht⟩) hS.2.2 dL_first_16
  clear hPc hDc hFc
  obtain ⟨hc0, e9⟩ := hw9
  subst e9
  replace hP : va_P (dC, dI) vwCl ([(oo, .inl (cJ, 1, .inr (.inl ol)))] ++ b_H cB cC cI cJ cZ cP oA rA res.2 og om) H := hP'
  replace hD : va_D A ([(oo, .inl (cJ, 1, .inr (.inl ol)))] ++ b_H cB cC cI cJ cZ cP oA rA res.2 og om) := hD'
  replace hS := hS'
  clear hP' hD' hS'
  refine lv_i2l hx hb dL_first_8 rfl ?_
  refine va_last hx hb hK hP hD hS 0 3 rfl rfl (vp_in_iff.mpr (by decide +kernel)) dL_first_9 (fun H locs hP' hD' hS' => ?_)
  replace hP : va_P (dC, dI) vwCl ([(oo, .inl (cJ, 1, .inr (.inl (vp_updL ol (0 : Int32).toNatClampNeg res.1.2.toInt64))))] ++ b_H cB cC cI cJ cZ cP oA rA res.2 og om) H := hP'
  replace hD : va_D A ([(oo, .inl (cJ, 1, .inr (.inl (vp_updL ol (0 : Int32).toNatClampNeg res.1.2.toInt64))))] ++ b_H cB cC cI cJ cZ cP oA rA res.2 og om) := hD'
  replace hS := hS'
  clear hP' hD' hS'
  refine lv_goto (tgt := 21) hx hb dL_first_10 (by decide) ?_
  refine lv_iconst (v := 0) hx hb dL_first_21 (by decide +kernel) ?_
  refine W.widen (k := 2) (n := 12) (Nat.le_of_ble_eq_true rfl) (Nat.le_of_ble_eq_true rfl) ?_
  exact W.iret (v := 0) hx hb hr (fun t ht hW => ⟨⟨0, (vp_updL ol (0 : Int32).toNatClampNeg res.1.2.toInt64), rfl, ⟨(by rw [hc0]; decide), fun _ => g_u0 ol _⟩, by rw [ht]; exact hP, hD⟩, hS.F ht⟩) hS.2.2 dL_first_22

theorem dL_has_0 : decode cL_has 0 = .ok (.aload_n 3, 1) := by decide +kernel
theorem dL_has_1 : decode cL_has 1 = .ok (.iconst 0, 1) := by decide +kernel
theorem dL_has_2 : decode cL_has 2 = .ok (.aload_n 0, 1) := by decide +kernel
theorem dL_has_3 : decode cL_has 3 = .ok (.iload_n 1, 1) := by decide +kernel
theorem dL_has_4 : decode cL_has 4 = .ok (.iload_n 2, 1) := by decide +kernel
theorem dL_has_5 : decode cL_has 5 = .ok (.invokevirtual 48, 3) := by decide +kernel
theorem dL_has_8 : decode cL_has 8 = .ok (.ifCond .eq 7, 3) := by decide +kernel
theorem dL_has_11 : decode cL_has 11 = .ok (.lconst 1, 1) := by decide +kernel
theorem dL_has_12 : decode cL_has 12 = .ok (.goto 4, 3) := by decide +kernel
theorem dL_has_15 : decode cL_has 15 = .ok (.lconst 0, 1) := by decide +kernel
theorem dL_has_16 : decode cL_has 16 = .ok (.lastore, 1) := by decide +kernel
theorem dL_has_17 : decode cL_has 17 = .ok (.goto 15, 3) := by decide +kernel
theorem dL_has_20 : decode cL_has 20 = .ok (.astore 4, 2) := by decide +kernel
theorem dL_has_22 : decode cL_has 22 = .ok (.iconst 1, 1) := by decide +kernel
theorem dL_has_23 : decode cL_has 23 = .ok (.ireturn, 1) := by decide +kernel
theorem dL_has_24 : decode cL_has 24 = .ok (.astore 4, 2) := by decide +kernel
theorem dL_has_26 : decode cL_has 26 = .ok (.iconst 2, 1) := by decide +kernel
theorem dL_has_27 : decode cL_has 27 = .ok (.ireturn, 1) := by decide +kernel
theorem dL_has_28 : decode cL_has 28 = .ok (.astore 4, 2) := by decide +kernel
theorem dL_has_30 : decode cL_has 30 = .ok (.iconst 3, 1) := by decide +kernel
theorem dL_has_31 : decode cL_has 31 = .ok (.ireturn, 1) := by decide +kernel
theorem dL_has_32 : decode cL_has 32 = .ok (.iconst 0, 1) := by decide +kernel
theorem dL_has_33 : decode cL_has 33 = .ok (.ireturn, 1) := by decide +kernel
def wn_has : Int32 → Int32 := fun k => if k = 3 then 1 else if k = 1 then 2 else if k = 2 then 3 else 0
set_option maxHeartbeats 8000000 in
set_option maxRecDepth 100000 in
theorem l_L_has (l : Launch) (dC : Nat → ClassId) (dI : Nat → Nat → Nat) (cB cC cI cJ cZ cP : ClassId) (oA : Nat → Nat) (rA : Nat → Nat → Nat) (hfl : l.stackTraces = false) (oo : Nat) (ol : Nat → Int64) (og om : Option Nat) (sz : Nat) (p0 : Int32) (p1 : Int32) (T : TS) (res : (Int32 × Int32) × TS) (hF : F_X11_has p0 p1 T = some res) (hk : res.1.1 = 0 ∨ res.1.1 = 3 ∨ res.1.1 = 1 ∨ res.1.1 = 2) : Met l yL_has (g_wsW yL_has cL_has 5 (some .int) [(0, 17, 20, 29), (0, 17, 24, 13), (0, 17, 28, 15)]) ({ frames := 8, cells := 2, slots := 12, locals := 133 }) (va_Pc [.ref (oA 0), .int p0, .int p1, .ref oo] (g_B (dC, dI) [(cB, .byte), (cC, .char), (cI, .int), (cJ, .long), (cZ, .boolean), (cP, .object "StoryHouse$Play")] sz ([(oo, .inl (cJ, 1, .inr (.inl ol)))] ++ b_H cB cC cI cJ cZ cP oA rA T og om) g_0)) (va_Qi (fun (r : Int32) (g2 : Nat → Int64) => r = wn_has res.1.1 ∧ (res.1.1 = 0 → g2 0 = (if res.1.2 = 0 then 0 else 1))) (g_Bo (dC, dI) (va_A ([(oo, .inl (cJ, 1, .inr (.inl ol)))] ++ b_H cB cC cI cJ cZ cP oA rA T og om) sz) (fun (g2 : Nat → Int64) => ([(oo, .inl (cJ, 1, .inr (.inl g2)))] ++ b_H cB cC cI cJ cZ cP oA rA res.2 og om))) (va_A ([(oo, .inl (cJ, 1, .inr (.inl ol)))] ++ b_H cB cC cI cJ cZ cP oA rA T og om) sz)) 2 12 (va_A ([(oo, .inl (cJ, 1, .inr (.inl ol)))] ++ b_H cB cC cI cJ cZ cP oA rA T og om) sz) := by
  refine va_MetW (cc := cL_has) (maxL := 5) (ret := (some .int)) (hh := [(0, 17, 20, 29), (0, 17, 24, 13), (0, 17, 28, 15)]) (by decide) rfl ?_
  intro p e s m args below meth c s₁ B hml hv
  obtain ⟨rfl, hsz, hP, hK, hD0, hE, hX⟩ := hv
  have hx := B.exec
  have hb := B.bytes
  have hr := B.returns
  have hts0 := atoms_spec (ws := (g_wsW yL_has cL_has 5 (some .int) [(0, 17, 20, 29), (0, 17, 24, 13), (0, 17, 28, 15)])) B.pre
  have hts : ∀ w ∈ lw_good, w.before ([.ref (oA 0), .int p0, .int p1, .ref oo] : List Value).toArray s = true := fun w h => hts0 w (List.mem_cons_of_mem _ h)
  have hown : s.vm.findClass RL = some m.cls := findClass_of_methodNamed B.named
  have hlocks := B.notSynchronized
  subst hsz
  have hD := hD0.self (sz := s.heap.size)
  generalize hAe : va_A ([(oo, .inl (cJ, 1, .inr (.inl ol)))] ++ b_H cB cC cI cJ cZ cP oA rA T og om) s.heap.size = A at hD hE hX ⊢
  have hA : ∀ q : Nat, s.heap.size ≤ q → A q := fun q h => by rw [← hAe]; exact Or.inr h
  have hN := hE.1
  have hS : va_S A s.heap s.heap [] := va_S.rf
  have htb := vx_table (x := yL_has) B (hts0 (.codeWith yL_has cL_has 5 (some .int) [(0, 17, 20, 29), (0, 17, 24, 13), (0, 17, 28, 15)]) List.mem_cons_self)
  have hP : va_P (dC, dI) vwCl ([(oo, .inl (cJ, 1, .inr (.inl ol)))] ++ b_H cB cC cI cJ cZ cP oA rA T og om) s.heap := hP
  have hl := lv_entry ([.ref (oA 0), .int p0, .int p1, .ref oo]) (n := 5) (Nat.le_of_ble_eq_true rfl)
  rw [lg_entry_eq]
  generalize (lg_sl ([.ref (oA 0), .int p0, .int p1, .ref oo]) ++ List.replicate (5 - (lg_sl ([.ref (oA 0), .int p0, .int p1, .ref oo])).length) Slot.unset).toArray = ls at hl ⊢
  have hl : lv_has ls 5 [(0, .ref (oA 0)), (1, .int p0), (2, .int p1), (3, .ref oo)] := hl
  refine lv_aload_n hx hb dL_has_0 rfl (lv_at hl 3 rfl) ?_
  refine lv_iconst (v := 0) hx hb dL_has_1 (by decide +kernel) ?_
  refine lv_aload_n hx hb dL_has_2 rfl (lv_at hl 0 rfl) ?_
  refine lv_iload_n hx hb dL_has_3 rfl (lv_at hl 1 rfl) ?_
  refine lv_iload_n hx hb dL_has_4 rfl (lv_at hl 2 rfl) ?_
  have hPc := bx_P (bs := [[(oo, .inl (cJ, 1, .inr (.inl ol)))], b_H cB cC cI cJ cZ cP oA rA T og om]) (bs' := [b_H cB cC cI cJ cZ cP oA rA T og om]) (ws' := (b_H cB cC cI cJ cZ cP oA rA T og om)) hP fl_2 fl_1 [1] rfl
  have hDc := bx_D (bs := [[(oo, .inl (cJ, 1, .inr (.inl ol)))], b_H cB cC cI cJ cZ cP oA rA T og om]) (bs' := [b_H cB cC cI cJ cZ cP oA rA T og om]) (ws' := (b_H cB cC cI cJ cZ cP oA rA T og om)) hD fl_2 fl_1 [1] (by decide +kernel) rfl
  have hFc := bx_F (bs := [[(oo, .inl (cJ, 1, .inr (.inl ol)))], b_H cB cC cI cJ cZ cP oA rA T og om]) (bs' := [b_H cB cC cI cJ cZ cP oA rA T og om]) (wc := (b_H cB cC cI cJ cZ cP oA rA T og om)) hD hS hA fl_2 fl_1 [1] rfl
  refine g_oxi (wc := (b_H cB cC cI cJ cZ cP oA rA T og om)) (wr := [(oo, .inl (cJ, 1, .inr (.inl ol)))]) hP hD hS hFc (bx_ix [[(oo, .inl (cJ, 1, .inr (.inl ol)))], b_H cB cC cI cJ cZ cP oA rA T og om] [1]) (bx_ix [[(oo, .inl (cJ, 1, .inr (.inl ol)))], b_H cB cC cI cJ cZ cP oA rA T og om] [0]) (bx_C (bs := [[(oo, .inl (cJ, 1, .inr (.inl ol)))], b_H cB cC cI cJ cZ cP oA rA T og om]) (bs' := [b_H cB cC cI cJ cZ cP oA rA T og om]) (is := [1]) fl_2 fl_1 rfl) (bx_C (bs := [[(oo, .inl (cJ, 1, .inr (.inl ol)))], b_H cB cC cI cJ cZ cP oA rA T og om]) (bs' := [[(oo, .inl (cJ, 1, .inr (.inl ol)))]]) (is := [0]) fl_2 fl_1 rfl) (bx_n (by decide +kernel)) (bx_d (by decide +kernel)) (vx_runV (As := [.int p0, .int p1]) (rest := [.int 0, .ref oo]) ⟨hx, hb, hml, hown, hts⟩ (h_X11_has l dC dI cB cC cI cJ cZ cP oA rA hfl og om s.heap.size p0 p1 T _ hF) (cwV 2 hts (g_gV wq_1320 wq_1321 wq_1322 wq_1 wq_1323) rfl rfl rfl (by decide +kernel) ⟨Nat.le_of_ble_eq_true rfl, Nat.le_of_ble_eq_true rfl⟩) (g_preV g_bl0 hK hPc hDc hS hE hFc g_to0 (q0 := 0) (ci := 11) rfl rfl) rfl rfl hl.1 rfl (lv_room (Nat.le_of_ble_eq_true rfl)) dL_has_5 ⟨Nat.le_of_ble_eq_true rfl, Nat.le_of_ble_eq_true rfl⟩) (fun E ce q9 H1 locs1 hXP hP' hD' hS' hce hcv hcl => ?_) (fun r9 u9 H locs hw9 hP' hD' hS' => ?_)
  · clear hPc hDc hFc
    replace hP : va_P (dC, dI) vwCl ([(oo, .inl (cJ, 1, .inr (.inl ol)))] ++ b_H cB cC cI cJ cZ cP oA rA res.2 og om) H1 := hP'
    replace hD : va_D A ([(oo, .inl (cJ, 1, .inr (.inl ol)))] ++ b_H cB cC cI cJ cZ cP oA rA res.2 og om) := hD'
    replace hS := hS'; clear hP' hD' hS'
    rcases hXP with ⟨hc1, rfl⟩ | ⟨hc1, rfl⟩ | ⟨hc1, rfl⟩
    · refine vx_catch (E := "java/lang/IllegalArgumentException") (name := "java/lang/IllegalArgumentException") hown [⟨0, 17, 20, 29⟩] ⟨0, 17, 24, 13⟩ [⟨0, 17, 28, 15⟩] (by rw [htb]; rfl) (fun z hz => by obtain rfl := List.mem_singleton.mp hz; exact Or.inr ⟨by decide, "java/lang/IndexOutOfBoundsException", (hts (.classLink RL 29 "java/lang/IndexOutOfBoundsException") wq_1268), (hN.2.2.2.1 _ (List.mem_of_getElem? (i := 0) rfl)).2 _ (List.mem_of_getElem? (i := 2) rfl) (by decide)⟩) (by decide +kernel) (by decide) (hts (.classLink RL 13 "java/lang/IllegalArgumentException") wq_919) (va_Nw.use rfl (hN.2.2.2.1 _ (List.mem_of_getElem? (i := 0) rfl)).1) hce hcv hcl ?_
      refine lv_astore (lv' := [(4, .ref q9), (0, .ref (oA 0)), (1, .int p0), (2, .int p1), (3, .ref oo)]) hx hb dL_has_24 hl (by decide) rfl (fun ls hl => ?_)
      refine lv_iconst (v := 2) hx hb dL_has_26 (by decide +kernel) ?_
      refine W.widen (k := 2) (n := 12) (Nat.le_of_ble_eq_true rfl) (Nat.le_of_ble_eq_true rfl) ?_
      exact W.iret (v := 2) hx hb hr (fun t ht hW => ⟨⟨2, ol, rfl, ⟨(by rw [hc1]; decide), fun z => absurd z (by rw [hc1]; decide)⟩, by rw [ht]; exact hP, hD⟩, hS.F ht⟩) hS.2.2 dL_has_27
    · refine vx_catch (E := "java/lang/IllegalStateException") (name := "java/lang/IllegalStateException") hown [⟨0, 17, 20, 29⟩, ⟨0, 17, 24, 13⟩] ⟨0, 17, 28, 15⟩ [] (by rw [htb]; rfl) (fun z hz => by
        rcases List.mem_cons.mp hz with rfl | hz
        · exact Or.inr ⟨by decide, "java/lang/IndexOutOfBoundsException", (hts (.classLink RL 29 "java/lang/IndexOutOfBoundsException") wq_1268), (hN.2.2.2.1 _ (List.mem_of_getElem? (i := 1) rfl)).2 _ (List.mem_of_getElem? (i := 2) rfl) (by decide)⟩
        · obtain rfl := List.mem_singleton.mp hz; exact Or.inr ⟨by decide, "java/lang/IllegalArgumentException", (hts (.classLink RL 13 "java/lang/IllegalArgumentException") wq_919), (hN.2.2.2.1 _ (List.mem_of_getElem? (i := 1) rfl)).2 _ (List.mem_of_getElem? (i := 0) rfl) (by decide)⟩) (by decide +kernel) (by decide) (hts (.classLink RL 15 "java/lang/IllegalStateException") wq_920) (va_Nw.use rfl (hN.2.2.2.1 _ (List.mem_of_getElem? (i := 1) rfl)).1) hce hcv hcl ?_
      refine lv_astore (lv' := [(4, .ref q9), (0, .ref (oA 0)), (1, .int p0), (2, .int p1), (3, .ref oo)]) hx hb dL_has_28 hl (by decide) rfl (fun ls hl => ?_)
      refine lv_iconst (v := 3) hx hb dL_has_30 (by decide +kernel) ?_
      refine W.widen (k := 2) (n := 12) (Nat.le_of_ble_eq_true rfl) (Nat.le_of_ble_eq_true rfl) ?_
      exact W.iret (v := 3) hx hb hr (fun t ht hW => ⟨⟨3, ol, rfl, ⟨(by rw [hc1]; decide), fun z => absurd z (by rw [hc1]; decide)⟩, by rw [ht]; exact hP, hD⟩, hS.F ht⟩) hS.2.2 dL_has_31
    · refine vx_catch (E := "java/lang/IndexOutOfBoundsException") (name := "java/lang/IndexOutOfBoundsException") hown [] ⟨0, 17, 20, 29⟩ [⟨0, 17, 24, 13⟩, ⟨0, 17, 28, 15⟩] (by rw [htb]; rfl) (fun z hz => nomatch hz) (by decide +kernel) (by decide) (hts (.classLink RL 29 "java/lang/IndexOutOfBoundsException") wq_1268) (va_Nw.use rfl (hN.2.2.2.1 _ (List.mem_of_getElem? (i := 2) rfl)).1) hce hcv hcl ?_
      refine lv_astore (lv' := [(4, .ref q9), (0, .ref (oA 0)), (1, .int p0), (2, .int p1), (3, .ref oo)]) hx hb dL_has_20 hl (by decide) rfl (fun ls hl => ?_)
      refine lv_iconst (v := 1) hx hb dL_has_22 (by decide +kernel) ?_
      refine W.widen (k := 2) (n := 12) (Nat.le_of_ble_eq_true rfl) (Nat.le_of_ble_eq_true rfl) ?_
      exact W.iret (v := 1) hx hb hr (fun t ht hW => ⟨⟨1, ol, rfl, ⟨(by rw [hc1]; decide), fun z => absurd z (by rw [hc1]; decide)⟩, by rw [ht]; exact hP, hD⟩, hS.F ht⟩) hS.2.2 dL_has_23
  clear hPc hDc hFc
  obtain ⟨hc0, e9⟩ := hw9
  subst e9
  replace hP : va_P (dC, dI) vwCl ([(oo, .inl (cJ, 1, .inr (.inl ol)))] ++ b_H cB cC cI cJ cZ cP oA rA res.2 og om) H := hP'
  replace hD : va_D A ([(oo, .inl (cJ, 1, .inr (.inl ol)))] ++ b_H cB cC cI cJ cZ cP oA rA res.2 og om) := hD'
  replace hS := hS'
  clear hP' hD' hS'
  refine lv_if_eq (tgt := 15) hx hb dL_has_8 (by decide) (fun c_1 => ?_) (fun c_1 => ?_)
  · skip
    refine lv_lconst (v := 0) hx hb dL_has_15 (by decide +kernel) ?_
    refine va_last hx hb hK hP hD hS 0 3 rfl rfl (vp_in_iff.mpr (by decide +kernel)) dL_has_16 (fun H locs hP' hD' hS' => ?_)
    replace hP : va_P (dC, dI) vwCl ([(oo, .inl (cJ, 1, .inr (.inl (vp_updL ol (0 : Int32).toNatClampNeg 0))))] ++ b_H cB cC cI cJ cZ cP oA rA res.2 og om) H := hP'
    replace hD : va_D A ([(oo, .inl (cJ, 1, .inr (.inl (vp_updL ol (0 : Int32).toNatClampNeg 0))))] ++ b_H cB cC cI cJ cZ cP oA rA res.2 og om) := hD'
    replace hS := hS'
    clear hP' hD' hS'
    refine lv_goto (tgt := 32) hx hb dL_has_17 (by decide) ?_
    refine lv_iconst (v := 0) hx hb dL_has_32 (by decide +kernel) ?_
    refine W.widen (k := 2) (n := 12) (Nat.le_of_ble_eq_true rfl) (Nat.le_of_ble_eq_true rfl) ?_
    exact W.iret (v := 0) hx hb hr (fun t ht hW => ⟨⟨0, (vp_updL ol (0 : Int32).toNatClampNeg 0), rfl, ⟨(by rw [hc0]; decide), fun _ => (g_u0 ol _).trans (by rw [if_pos c_1])⟩, by rw [ht]; exact hP, hD⟩, hS.F ht⟩) hS.2.2 dL_has_33
  · skip
    refine lv_lconst (v := 1) hx hb dL_has_11 (by decide +kernel) ?_
    refine lv_goto (tgt := 16) hx hb dL_has_12 (by decide) ?_
    refine va_last hx hb hK hP hD hS 0 3 rfl rfl (vp_in_iff.mpr (by decide +kernel)) dL_has_16 (fun H locs hP' hD' hS' => ?_)
    replace hP : va_P (dC, dI) vwCl ([(oo, .inl (cJ, 1, .inr (.inl (vp_updL ol (0 : Int32).toNatClampNeg 1))))] ++ b_H cB cC cI cJ cZ cP oA rA res.2 og om) H := hP'
    replace hD : va_D A ([(oo, .inl (cJ, 1, .inr (.inl (vp_updL ol (0 : Int32).toNatClampNeg 1))))] ++ b_H cB cC cI cJ cZ cP oA rA res.2 og om) := hD'
    replace hS := hS'
    clear hP' hD' hS'
    refine lv_goto (tgt := 32) hx hb dL_has_17 (by decide) ?_
    refine lv_iconst (v := 0) hx hb dL_has_32 (by decide +kernel) ?_
    refine W.widen (k := 2) (n := 12) (Nat.le_of_ble_eq_true rfl) (Nat.le_of_ble_eq_true rfl) ?_
    exact W.iret (v := 0) hx hb hr (fun t ht hW => ⟨⟨0, (vp_updL ol (0 : Int32).toNatClampNeg 1), rfl, ⟨(by rw [hc0]; decide), fun _ => (g_u0 ol _).trans (by rw [if_neg c_1])⟩, by rw [ht]; exact hP, hD⟩, hS.F ht⟩) hS.2.2 dL_has_33

theorem dL_value_0 : decode cL_value 0 = .ok (.aload_n 2, 1) := by decide +kernel
theorem dL_value_1 : decode cL_value 1 = .ok (.iconst 0, 1) := by decide +kernel
theorem dL_value_2 : decode cL_value 2 = .ok (.aload_n 0, 1) := by decide +kernel
theorem dL_value_3 : decode cL_value 3 = .ok (.iload_n 1, 1) := by decide +kernel
theorem dL_value_4 : decode cL_value 4 = .ok (.invokevirtual 52, 3) := by decide +kernel
theorem dL_value_7 : decode cL_value 7 = .ok (.i2l, 1) := by decide +kernel
theorem dL_value_8 : decode cL_value 8 = .ok (.lastore, 1) := by decide +kernel
theorem dL_value_9 : decode cL_value 9 = .ok (.goto 9, 3) := by decide +kernel
theorem dL_value_12 : decode cL_value 12 = .ok (.astore_n 3, 1) := by decide +kernel
theorem dL_value_13 : decode cL_value 13 = .ok (.iconst 1, 1) := by decide +kernel
theorem dL_value_14 : decode cL_value 14 = .ok (.ireturn, 1) := by decide +kernel
theorem dL_value_15 : decode cL_value 15 = .ok (.astore_n 3, 1) := by decide +kernel
theorem dL_value_16 : decode cL_value 16 = .ok (.iconst 2, 1) := by decide +kernel
theorem dL_value_17 : decode cL_value 17 = .ok (.ireturn, 1) := by decide +kernel
theorem dL_value_18 : decode cL_value 18 = .ok (.iconst 0, 1) := by decide +kernel
theorem dL_value_19 : decode cL_value 19 = .ok (.ireturn, 1) := by decide +kernel
def wn_value : Int32 → Int32 := fun k => if k = 3 then 1 else if k = 2 then 2 else 0
set_option maxHeartbeats 8000000 in
set_option maxRecDepth 100000 in
theorem l_L_value (l : Launch) (dC : Nat → ClassId) (dI : Nat → Nat → Nat) (cB cC cI cJ cZ cP : ClassId) (oA : Nat → Nat) (rA : Nat → Nat → Nat) (hfl : l.stackTraces = false) (oo : Nat) (ol : Nat → Int64) (og om : Option Nat) (sz : Nat) (p0 : Int32) (T : TS) (res : (Int32 × Int32) × TS) (hF : F_X11_value p0 T = some res) (hk : res.1.1 = 0 ∨ res.1.1 = 3 ∨ res.1.1 = 2) : Met l yL_value (g_wsW yL_value cL_value 4 (some .int) [(0, 9, 12, 29), (0, 9, 15, 15)]) ({ frames := 8, cells := 1, slots := 6, locals := 131 }) (va_Pc [.ref (oA 0), .int p0, .ref oo] (g_B (dC, dI) [(cB, .byte), (cC, .char), (cI, .int), (cJ, .long), (cZ, .boolean), (cP, .object "StoryHouse$Play")] sz ([(oo, .inl (cJ, 1, .inr (.inl ol)))] ++ b_H cB cC cI cJ cZ cP oA rA T og om) g_0)) (va_Qi (fun (r : Int32) (g2 : Nat → Int64) => r = wn_value res.1.1 ∧ (res.1.1 = 0 → g2 0 = res.1.2.toInt64)) (g_Bo (dC, dI) (va_A ([(oo, .inl (cJ, 1, .inr (.inl ol)))] ++ b_H cB cC cI cJ cZ cP oA rA T og om) sz) (fun (g2 : Nat → Int64) => ([(oo, .inl (cJ, 1, .inr (.inl g2)))] ++ b_H cB cC cI cJ cZ cP oA rA res.2 og om))) (va_A ([(oo, .inl (cJ, 1, .inr (.inl ol)))] ++ b_H cB cC cI cJ cZ cP oA rA T og om) sz)) 1 6 (va_A ([(oo, .inl (cJ, 1, .inr (.inl ol)))] ++ b_H cB cC cI cJ cZ cP oA rA T og om) sz) := by
  refine va_MetW (cc := cL_value) (maxL := 4) (ret := (some .int)) (hh := [(0, 9, 12, 29), (0, 9, 15, 15)]) (by decide) rfl ?_
  intro p e s m args below meth c s₁ B hml hv
  obtain ⟨rfl, hsz, hP, hK, hD0, hE, hX⟩ := hv
  have hx := B.exec
  have hb := B.bytes
  have hr := B.returns
  have hts0 := atoms_spec (ws := (g_wsW yL_value cL_value 4 (some .int) [(0, 9, 12, 29), (0, 9, 15, 15)])) B.pre
  have hts : ∀ w ∈ lw_good, w.before ([.ref (oA 0), .int p0, .ref oo] : List Value).toArray s = true := fun w h => hts0 w (List.mem_cons_of_mem _ h)
  have hown : s.vm.findClass RL = some m.cls := findClass_of_methodNamed B.named
  have hlocks := B.notSynchronized
  subst hsz
  have hD := hD0.self (sz := s.heap.size)
  generalize hAe : va_A ([(oo, .inl (cJ, 1, .inr (.inl ol)))] ++ b_H cB cC cI cJ cZ cP oA rA T og om) s.heap.size = A at hD hE hX ⊢
  have hA : ∀ q : Nat, s.heap.size ≤ q → A q := fun q h => by rw [← hAe]; exact Or.inr h
  have hN := hE.1
  have hS : va_S A s.heap s.heap [] := va_S.rf
  have htb := vx_table (x := yL_value) B (hts0 (.codeWith yL_value cL_value 4 (some .int) [(0, 9, 12, 29), (0, 9, 15, 15)]) List.mem_cons_self)
  have hP : va_P (dC, dI) vwCl ([(oo, .inl (cJ, 1, .inr (.inl ol)))] ++ b_H cB cC cI cJ cZ cP oA rA T og om) s.heap := hP
  have hl := lv_entry ([.ref (oA 0), .int p0, .ref oo]) (n := 4) (Nat.le_of_ble_eq_true rfl)
  rw [lg_entry_eq]
  generalize (lg_sl ([.ref (oA 0), .int p0, .ref oo]) ++ List.replicate (4 - (lg_sl ([.ref (oA 0), .int p0, .ref oo])).length) Slot.unset).toArray = ls at hl ⊢
  have hl : lv_has ls 4 [(0, .ref (oA 0)), (1, .int p0), (2, .ref oo)] := hl
  refine lv_aload_n hx hb dL_value_0 rfl (lv_at hl 2 rfl) ?_
  refine lv_iconst (v := 0) hx hb dL_value_1 (by decide +kernel) ?_
  refine lv_aload_n hx hb dL_value_2 rfl (lv_at hl 0 rfl) ?_
  refine lv_iload_n hx hb dL_value_3 rfl (lv_at hl 1 rfl) ?_
  have hPc := bx_P (bs := [[(oo, .inl (cJ, 1, .inr (.inl ol)))], b_H cB cC cI cJ cZ cP oA rA T og om]) (bs' := [b_H cB cC cI cJ cZ cP oA rA T og om]) (ws' := (b_H cB cC cI cJ cZ cP oA rA T og om)) hP fl_2 fl_1 [1] rfl
  have hDc := bx_D (bs := [[(oo, .inl (cJ, 1, .inr (.inl ol)))], b_H cB cC cI cJ cZ cP oA rA T og om]) (bs' := [b_H cB cC cI cJ cZ cP oA rA T og om]) (ws' := (b_H cB cC cI cJ cZ cP oA rA T og om)) hD fl_2 fl_1 [1] (by decide +kernel) rfl
  have hFc := bx_F (bs := [[(oo, .inl (cJ, 1, .inr (.inl ol)))], b_H cB cC cI cJ cZ cP oA rA T og om]) (bs' := [b_H cB cC cI cJ cZ cP oA rA T og om]) (wc := (b_H cB cC cI cJ cZ cP oA rA T og om)) hD hS hA fl_2 fl_1 [1] rfl
  refine g_oxi (wc := (b_H cB cC cI cJ cZ cP oA rA T og om)) (wr := [(oo, .inl (cJ, 1, .inr (.inl ol)))]) hP hD hS hFc (bx_ix [[(oo, .inl (cJ, 1, .inr (.inl ol)))], b_H cB cC cI cJ cZ cP oA rA T og om] [1]) (bx_ix [[(oo, .inl (cJ, 1, .inr (.inl ol)))], b_H cB cC cI cJ cZ cP oA rA T og om] [0]) (bx_C (bs := [[(oo, .inl (cJ, 1, .inr (.inl ol)))], b_H cB cC cI cJ cZ cP oA rA T og om]) (bs' := [b_H cB cC cI cJ cZ cP oA rA T og om]) (is := [1]) fl_2 fl_1 rfl) (bx_C (bs := [[(oo, .inl (cJ, 1, .inr (.inl ol)))], b_H cB cC cI cJ cZ cP oA rA T og om]) (bs' := [[(oo, .inl (cJ, 1, .inr (.inl ol)))]]) (is := [0]) fl_2 fl_1 rfl) (bx_n (by decide +kernel)) (bx_d (by decide +kernel)) (vx_runV (As := [.int p0]) (rest := [.int 0, .ref oo]) ⟨hx, hb, hml, hown, hts⟩ (h_X11_value l dC dI cB cC cI cJ cZ cP oA rA hfl og om s.heap.size p0 T _ hF) (cwV 1 hts (g_gV wq_1328 wq_1329 wq_1330 wq_1 wq_1331) rfl rfl rfl (by decide +kernel) ⟨Nat.le_of_ble_eq_true rfl, Nat.le_of_ble_eq_true rfl⟩) (g_preV g_bl0 hK hPc hDc hS hE hFc g_to0 (q0 := 0) (ci := 11) rfl rfl) rfl rfl hl.1 rfl (lv_room (Nat.le_of_ble_eq_true rfl)) dL_value_4 ⟨Nat.le_of_ble_eq_true rfl, Nat.le_of_ble_eq_true rfl⟩) (fun E ce q9 H1 locs1 hXP hP' hD' hS' hce hcv hcl => ?_) (fun r9 u9 H locs hw9 hP' hD' hS' => ?_)
  · clear hPc hDc hFc
    replace hP : va_P (dC, dI) vwCl ([(oo, .inl (cJ, 1, .inr (.inl ol)))] ++ b_H cB cC cI cJ cZ cP oA rA res.2 og om) H1 := hP'
    replace hD : va_D A ([(oo, .inl (cJ, 1, .inr (.inl ol)))] ++ b_H cB cC cI cJ cZ cP oA rA res.2 og om) := hD'
    replace hS := hS'; clear hP' hD' hS'
    rcases hXP with ⟨hc1, rfl⟩ | ⟨hc1, rfl⟩ | ⟨hc1, rfl⟩
    · exact absurd hk (by rw [hc1]; decide)
    · refine vx_catch (E := "java/lang/IllegalStateException") (name := "java/lang/IllegalStateException") hown [⟨0, 9, 12, 29⟩] ⟨0, 9, 15, 15⟩ [] (by rw [htb]; rfl) (fun z hz => by obtain rfl := List.mem_singleton.mp hz; exact Or.inr ⟨by decide, "java/lang/IndexOutOfBoundsException", (hts (.classLink RL 29 "java/lang/IndexOutOfBoundsException") wq_1268), (hN.2.2.2.1 _ (List.mem_of_getElem? (i := 1) rfl)).2 _ (List.mem_of_getElem? (i := 2) rfl) (by decide)⟩) (by decide +kernel) (by decide) (hts (.classLink RL 15 "java/lang/IllegalStateException") wq_920) (va_Nw.use rfl (hN.2.2.2.1 _ (List.mem_of_getElem? (i := 1) rfl)).1) hce hcv hcl ?_
      refine lv_astore_n (lv' := [(3, .ref q9), (0, .ref (oA 0)), (1, .int p0), (2, .ref oo)]) hx hb dL_value_15 rfl hl (by decide) rfl (fun ls hl => ?_)
      refine lv_iconst (v := 2) hx hb dL_value_16 (by decide +kernel) ?_
      refine W.widen (k := 1) (n := 6) (Nat.le_of_ble_eq_true rfl) (Nat.le_of_ble_eq_true rfl) ?_
      exact W.iret (v := 2) hx hb hr (fun t ht hW => ⟨⟨2, ol, rfl, ⟨(by rw [hc1]; decide), fun z => absurd z (by rw [hc1]; decide)⟩, by rw [ht]; exact hP, hD⟩, hS.F ht⟩) hS.2.2 dL_value_17
    · refine vx_catch (E := "java/lang/IndexOutOfBoundsException") (name := "java/lang/IndexOutOfBoundsException") hown [] ⟨0, 9, 12, 29⟩ [⟨0, 9, 15, 15⟩] (by rw [htb]; rfl) (fun z hz => nomatch hz) (by decide +kernel) (by decide) (hts (.classLink RL 29 "java/lang/IndexOutOfBoundsException") wq_1268) (va_Nw.use rfl (hN.2.2.2.1 _ (List.mem_of_getElem? (i := 2) rfl)).1) hce hcv hcl ?_
      refine lv_astore_n (lv' := [(3, .ref q9), (0, .ref (oA 0)), (1, .int p0), (2, .ref oo)]) hx hb dL_value_12 rfl hl (by decide) rfl (fun ls hl => ?_)
      refine lv_iconst (v := 1) hx hb dL_value_13 (by decide +kernel) ?_
      refine W.widen (k := 1) (n := 6) (Nat.le_of_ble_eq_true rfl) (Nat.le_of_ble_eq_true rfl) ?_
      exact W.iret (v := 1) hx hb hr (fun t ht hW => ⟨⟨1, ol, rfl, ⟨(by rw [hc1]; decide), fun z => absurd z (by rw [hc1]; decide)⟩, by rw [ht]; exact hP, hD⟩, hS.F ht⟩) hS.2.2 dL_value_14
  clear hPc hDc hFc
  obtain ⟨hc0, e9⟩ := hw9
  subst e9
  replace hP : va_P (dC, dI) vwCl ([(oo, .inl (cJ, 1, .inr (.inl ol)))] ++ b_H cB cC cI cJ cZ cP oA rA res.2 og om) H := hP'
  replace hD : va_D A ([(oo, .inl (cJ, 1, .inr (.inl ol)))] ++ b_H cB cC cI cJ cZ cP oA rA res.2 og om) := hD'
  replace hS := hS'
  clear hP' hD' hS'
  refine lv_i2l hx hb dL_value_7 rfl ?_
  refine va_last hx hb hK hP hD hS 0 3 rfl rfl (vp_in_iff.mpr (by decide +kernel)) dL_value_8 (fun H locs hP' hD' hS' => ?_)
  replace hP : va_P (dC, dI) vwCl ([(oo, .inl (cJ, 1, .inr (.inl (vp_updL ol (0 : Int32).toNatClampNeg res.1.2.toInt64))))] ++ b_H cB cC cI cJ cZ cP oA rA res.2 og om) H := hP'
  replace hD : va_D A ([(oo, .inl (cJ, 1, .inr (.inl (vp_updL ol (0 : Int32).toNatClampNeg res.1.2.toInt64))))] ++ b_H cB cC cI cJ cZ cP oA rA res.2 og om) := hD'
  replace hS := hS'
  clear hP' hD' hS'
  refine lv_goto (tgt := 18) hx hb dL_value_9 (by decide) ?_
  refine lv_iconst (v := 0) hx hb dL_value_18 (by decide +kernel) ?_
  refine W.widen (k := 1) (n := 6) (Nat.le_of_ble_eq_true rfl) (Nat.le_of_ble_eq_true rfl) ?_
  exact W.iret (v := 0) hx hb hr (fun t ht hW => ⟨⟨0, (vp_updL ol (0 : Int32).toNatClampNeg res.1.2.toInt64), rfl, ⟨(by rw [hc0]; decide), fun _ => g_u0 ol _⟩, by rw [ht]; exact hP, hD⟩, hS.F ht⟩) hS.2.2 dL_value_19

theorem dL_cell_0 : decode cL_cell 0 = .ok (.aload_n 3, 1) := by decide +kernel
theorem dL_cell_1 : decode cL_cell 1 = .ok (.iconst 0, 1) := by decide +kernel
theorem dL_cell_2 : decode cL_cell 2 = .ok (.aload_n 0, 1) := by decide +kernel
theorem dL_cell_3 : decode cL_cell 3 = .ok (.iload_n 1, 1) := by decide +kernel
theorem dL_cell_4 : decode cL_cell 4 = .ok (.iload_n 2, 1) := by decide +kernel
theorem dL_cell_5 : decode cL_cell 5 = .ok (.invokevirtual 55, 3) := by decide +kernel
theorem dL_cell_8 : decode cL_cell 8 = .ok (.i2l, 1) := by decide +kernel
theorem dL_cell_9 : decode cL_cell 9 = .ok (.lastore, 1) := by decide +kernel
theorem dL_cell_10 : decode cL_cell 10 = .ok (.goto 11, 3) := by decide +kernel
theorem dL_cell_13 : decode cL_cell 13 = .ok (.astore 4, 2) := by decide +kernel
theorem dL_cell_15 : decode cL_cell 15 = .ok (.iconst 1, 1) := by decide +kernel
theorem dL_cell_16 : decode cL_cell 16 = .ok (.ireturn, 1) := by decide +kernel
theorem dL_cell_17 : decode cL_cell 17 = .ok (.astore 4, 2) := by decide +kernel
theorem dL_cell_19 : decode cL_cell 19 = .ok (.iconst 2, 1) := by decide +kernel
theorem dL_cell_20 : decode cL_cell 20 = .ok (.ireturn, 1) := by decide +kernel
theorem dL_cell_21 : decode cL_cell 21 = .ok (.iconst 0, 1) := by decide +kernel
theorem dL_cell_22 : decode cL_cell 22 = .ok (.ireturn, 1) := by decide +kernel
def wn_cell : Int32 → Int32 := fun k => if k = 3 then 1 else if k = 2 then 2 else 0
set_option maxHeartbeats 8000000 in
set_option maxRecDepth 100000 in
theorem l_L_cell (l : Launch) (dC : Nat → ClassId) (dI : Nat → Nat → Nat) (cB cC cI cJ cZ cP : ClassId) (oA : Nat → Nat) (rA : Nat → Nat → Nat) (hfl : l.stackTraces = false) (oo : Nat) (ol : Nat → Int64) (og om : Option Nat) (sz : Nat) (p0 : Int32) (p1 : Int32) (T : TS) (res : (Int32 × Int32) × TS) (hF : F_X11_cell p0 p1 T = some res) (hk : res.1.1 = 0 ∨ res.1.1 = 3 ∨ res.1.1 = 2) : Met l yL_cell (g_wsW yL_cell cL_cell 5 (some .int) [(0, 10, 13, 29), (0, 10, 17, 15)]) ({ frames := 8, cells := 1, slots := 6, locals := 132 }) (va_Pc [.ref (oA 0), .int p0, .int p1, .ref oo] (g_B (dC, dI) [(cB, .byte), (cC, .char), (cI, .int), (cJ, .long), (cZ, .boolean), (cP, .object "StoryHouse$Play")] sz ([(oo, .inl (cJ, 1, .inr (.inl ol)))] ++ b_H cB cC cI cJ cZ cP oA rA T og om) g_0)) (va_Qi (fun (r : Int32) (g2 : Nat → Int64) => r = wn_cell res.1.1 ∧ (res.1.1 = 0 → g2 0 = res.1.2.toInt64)) (g_Bo (dC, dI) (va_A ([(oo, .inl (cJ, 1, .inr (.inl ol)))] ++ b_H cB cC cI cJ cZ cP oA rA T og om) sz) (fun (g2 : Nat → Int64) => ([(oo, .inl (cJ, 1, .inr (.inl g2)))] ++ b_H cB cC cI cJ cZ cP oA rA res.2 og om))) (va_A ([(oo, .inl (cJ, 1, .inr (.inl ol)))] ++ b_H cB cC cI cJ cZ cP oA rA T og om) sz)) 1 6 (va_A ([(oo, .inl (cJ, 1, .inr (.inl ol)))] ++ b_H cB cC cI cJ cZ cP oA rA T og om) sz) := by
  refine va_MetW (cc := cL_cell) (maxL := 5) (ret := (some .int)) (hh := [(0, 10, 13, 29), (0, 10, 17, 15)]) (by decide) rfl ?_
  intro p e s m args below meth c s₁ B hml hv
  obtain ⟨rfl, hsz, hP, hK, hD0, hE, hX⟩ := hv
  have hx := B.exec
  have hb := B.bytes
  have hr := B.returns
  have hts0 := atoms_spec (ws := (g_wsW yL_cell cL_cell 5 (some .int) [(0, 10, 13, 29), (0, 10, 17, 15)])) B.pre
  have hts : ∀ w ∈ lw_good, w.before ([.ref (oA 0), .int p0, .int p1, .ref oo] : List Value).toArray s = true := fun w h => hts0 w (List.mem_cons_of_mem _ h)
  have hown : s.vm.findClass RL = some m.cls := findClass_of_methodNamed B.named
  have hlocks := B.notSynchronized
  subst hsz
  have hD := hD0.self (sz := s.heap.size)
  generalize hAe : va_A ([(oo, .inl (cJ, 1, .inr (.inl ol)))] ++ b_H cB cC cI cJ cZ cP oA rA T og om) s.heap.size = A at hD hE hX ⊢
  have hA : ∀ q : Nat, s.heap.size ≤ q → A q := fun q h => by rw [← hAe]; exact Or.inr h
  have hN := hE.1
  have hS : va_S A s.heap s.heap [] := va_S.rf
  have htb := vx_table (x := yL_cell) B (hts0 (.codeWith yL_cell cL_cell 5 (some .int) [(0, 10, 13, 29), (0, 10, 17, 15)]) List.mem_cons_self)
  have hP : va_P (dC, dI) vwCl ([(oo, .inl (cJ, 1, .inr (.inl ol)))] ++ b_H cB cC cI cJ cZ cP oA rA T og om) s.heap := hP
  have hl := lv_entry ([.ref (oA 0), .int p0, .int p1, .ref oo]) (n := 5) (Nat.le_of_ble_eq_true rfl)
  rw [lg_entry_eq]
  generalize (lg_sl ([.ref (oA 0), .int p0, .int p1, .ref oo]) ++ List.replicate (5 - (lg_sl ([.ref (oA 0), .int p0, .int p1, .ref oo])).length) Slot.unset).toArray = ls at hl ⊢
  have hl : lv_has ls 5 [(0, .ref (oA 0)), (1, .int p0), (2, .int p1), (3, .ref oo)] := hl
  refine lv_aload_n hx hb dL_cell_0 rfl (lv_at hl 3 rfl) ?_
  refine lv_iconst (v := 0) hx hb dL_cell_1 (by decide +kernel) ?_
  refine lv_aload_n hx hb dL_cell_2 rfl (lv_at hl 0 rfl) ?_
  refine lv_iload_n hx hb dL_cell_3 rfl (lv_at hl 1 rfl) ?_
  refine lv_iload_n hx hb dL_cell_4 rfl (lv_at hl 2 rfl) ?_
  have hPc := bx_P (bs := [[(oo, .inl (cJ, 1, .inr (.inl ol)))], b_H cB cC cI cJ cZ cP oA rA T og om]) (bs' := [b_H cB cC cI cJ cZ cP oA rA T og om]) (ws' := (b_H cB cC cI cJ cZ cP oA rA T og om)) hP fl_2 fl_1 [1] rfl
  have hDc := bx_D (bs := [[(oo, .inl (cJ, 1, .inr (.inl ol)))], b_H cB cC cI cJ cZ cP oA rA T og om]) (bs' := [b_H cB cC cI cJ cZ cP oA rA T og om]) (ws' := (b_H cB cC cI cJ cZ cP oA rA T og om)) hD fl_2 fl_1 [1] (by decide +kernel) rfl
  have hFc := bx_F (bs := [[(oo, .inl (cJ, 1, .inr (.inl ol)))], b_H cB cC cI cJ cZ cP oA rA T og om]) (bs' := [b_H cB cC cI cJ cZ cP oA rA T og om]) (wc := (b_H cB cC cI cJ cZ cP oA rA T og om)) hD hS hA fl_2 fl_1 [1] rfl
  refine g_oxi (wc := (b_H cB cC cI cJ cZ cP oA rA T og om)) (wr := [(oo, .inl (cJ, 1, .inr (.inl ol)))]) hP hD hS hFc (bx_ix [[(oo, .inl (cJ, 1, .inr (.inl ol)))], b_H cB cC cI cJ cZ cP oA rA T og om] [1]) (bx_ix [[(oo, .inl (cJ, 1, .inr (.inl ol)))], b_H cB cC cI cJ cZ cP oA rA T og om] [0]) (bx_C (bs := [[(oo, .inl (cJ, 1, .inr (.inl ol)))], b_H cB cC cI cJ cZ cP oA rA T og om]) (bs' := [b_H cB cC cI cJ cZ cP oA rA T og om]) (is := [1]) fl_2 fl_1 rfl) (bx_C (bs := [[(oo, .inl (cJ, 1, .inr (.inl ol)))], b_H cB cC cI cJ cZ cP oA rA T og om]) (bs' := [[(oo, .inl (cJ, 1, .inr (.inl ol)))]]) (is := [0]) fl_2 fl_1 rfl) (bx_n (by decide +kernel)) (bx_d (by decide +kernel)) (vx_runV (As := [.int p0, .int p1]) (rest := [.int 0, .ref oo]) ⟨hx, hb, hml, hown, hts⟩ (h_X11_cell l dC dI cB cC cI cJ cZ cP oA rA hfl og om s.heap.size p0 p1 T _ hF) (cwV 2 hts (g_gV wq_1335 wq_1336 wq_1337 wq_1 wq_1338) rfl rfl rfl (by decide +kernel) ⟨Nat.le_of_ble_eq_true rfl, Nat.le_of_ble_eq_true rfl⟩) (g_preV g_bl0 hK hPc hDc hS hE hFc g_to0 (q0 := 0) (ci := 11) rfl rfl) rfl rfl hl.1 rfl (lv_room (Nat.le_of_ble_eq_true rfl)) dL_cell_5 ⟨Nat.le_of_ble_eq_true rfl, Nat.le_of_ble_eq_true rfl⟩) (fun E ce q9 H1 locs1 hXP hP' hD' hS' hce hcv hcl => ?_) (fun r9 u9 H locs hw9 hP' hD' hS' => ?_)
  · clear hPc hDc hFc
    replace hP : va_P (dC, dI) vwCl ([(oo, .inl (cJ, 1, .inr (.inl ol)))] ++ b_H cB cC cI cJ cZ cP oA rA res.2 og om) H1 := hP'
    replace hD : va_D A ([(oo, .inl (cJ, 1, .inr (.inl ol)))] ++ b_H cB cC cI cJ cZ cP oA rA res.2 og om) := hD'
    replace hS := hS'; clear hP' hD' hS'
    rcases hXP with ⟨hc1, rfl⟩ | ⟨hc1, rfl⟩ | ⟨hc1, rfl⟩
    · exact absurd hk (by rw [hc1]; decide)
    · refine vx_catch (E := "java/lang/IllegalStateException") (name := "java/lang/IllegalStateException") hown [⟨0, 10, 13, 29⟩] ⟨0, 10, 17, 15⟩ [] (by rw [htb]; rfl) (fun z hz => by obtain rfl := List.mem_singleton.mp hz; exact Or.inr ⟨by decide, "java/lang/IndexOutOfBoundsException", (hts (.classLink RL 29 "java/lang/IndexOutOfBoundsException") wq_1268), (hN.2.2.2.1 _ (List.mem_of_getElem? (i := 1) rfl)).2 _ (List.mem_of_getElem? (i := 2) rfl) (by decide)⟩) (by decide +kernel) (by decide) (hts (.classLink RL 15 "java/lang/IllegalStateException") wq_920) (va_Nw.use rfl (hN.2.2.2.1 _ (List.mem_of_getElem? (i := 1) rfl)).1) hce hcv hcl ?_
      refine lv_astore (lv' := [(4, .ref q9), (0, .ref (oA 0)), (1, .int p0), (2, .int p1), (3, .ref oo)]) hx hb dL_cell_17 hl (by decide) rfl (fun ls hl => ?_)
      refine lv_iconst (v := 2) hx hb dL_cell_19 (by decide +kernel) ?_
      refine W.widen (k := 1) (n := 6) (Nat.le_of_ble_eq_true rfl) (Nat.le_of_ble_eq_true rfl) ?_
      exact W.iret (v := 2) hx hb hr (fun t ht hW => ⟨⟨2, ol, rfl, ⟨(by rw [hc1]; decide), fun z => absurd z (by rw [hc1]; decide)⟩, by rw [ht]; exact hP, hD⟩, hS.F ht⟩) hS.2.2 dL_cell_20
    · refine vx_catch (E := "java/lang/IndexOutOfBoundsException") (name := "java/lang/IndexOutOfBoundsException") hown [] ⟨0, 10, 13, 29⟩ [⟨0, 10, 17, 15⟩] (by rw [htb]; rfl) (fun z hz => nomatch hz) (by decide +kernel) (by decide) (hts (.classLink RL 29 "java/lang/IndexOutOfBoundsException") wq_1268) (va_Nw.use rfl (hN.2.2.2.1 _ (List.mem_of_getElem? (i := 2) rfl)).1) hce hcv hcl ?_
      refine lv_astore (lv' := [(4, .ref q9), (0, .ref (oA 0)), (1, .int p0), (2, .int p1), (3, .ref oo)]) hx hb dL_cell_13 hl (by decide) rfl (fun ls hl => ?_)
      refine lv_iconst (v := 1) hx hb dL_cell_15 (by decide +kernel) ?_
      refine W.widen (k := 1) (n := 6) (Nat.le_of_ble_eq_true rfl) (Nat.le_of_ble_eq_true rfl) ?_
      exact W.iret (v := 1) hx hb hr (fun t ht hW => ⟨⟨1, ol, rfl, ⟨(by rw [hc1]; decide), fun z => absurd z (by rw [hc1]; decide)⟩, by rw [ht]; exact hP, hD⟩, hS.F ht⟩) hS.2.2 dL_cell_16
  clear hPc hDc hFc
  obtain ⟨hc0, e9⟩ := hw9
  subst e9
  replace hP : va_P (dC, dI) vwCl ([(oo, .inl (cJ, 1, .inr (.inl ol)))] ++ b_H cB cC cI cJ cZ cP oA rA res.2 og om) H := hP'
  replace hD : va_D A ([(oo, .inl (cJ, 1, .inr (.inl ol)))] ++ b_H cB cC cI cJ cZ cP oA rA res.2 og om) := hD'
  replace hS := hS'
  clear hP' hD' hS'
  refine lv_i2l hx hb dL_cell_8 rfl ?_
  refine va_last hx hb hK hP hD hS 0 3 rfl rfl (vp_in_iff.mpr (by decide +kernel)) dL_cell_9 (fun H locs hP' hD' hS' => ?_)
  replace hP : va_P (dC, dI) vwCl ([(oo, .inl (cJ, 1, .inr (.inl (vp_updL ol (0 : Int32).toNatClampNeg res.1.2.toInt64))))] ++ b_H cB cC cI cJ cZ cP oA rA res.2 og om) H := hP'
  replace hD : va_D A ([(oo, .inl (cJ, 1, .inr (.inl (vp_updL ol (0 : Int32).toNatClampNeg res.1.2.toInt64))))] ++ b_H cB cC cI cJ cZ cP oA rA res.2 og om) := hD'
  replace hS := hS'
  clear hP' hD' hS'
  refine lv_goto (tgt := 21) hx hb dL_cell_10 (by decide) ?_
  refine lv_iconst (v := 0) hx hb dL_cell_21 (by decide +kernel) ?_
  refine W.widen (k := 1) (n := 6) (Nat.le_of_ble_eq_true rfl) (Nat.le_of_ble_eq_true rfl) ?_
  exact W.iret (v := 0) hx hb hr (fun t ht hW => ⟨⟨0, (vp_updL ol (0 : Int32).toNatClampNeg res.1.2.toInt64), rfl, ⟨(by rw [hc0]; decide), fun _ => g_u0 ol _⟩, by rw [ht]; exact hP, hD⟩, hS.F ht⟩) hS.2.2 dL_cell_22

theorem dL_told_0 : decode cL_told 0 = .ok (.aload_n 2, 1) := by decide +kernel
theorem dL_told_1 : decode cL_told 1 = .ok (.iconst 0, 1) := by decide +kernel
theorem dL_told_2 : decode cL_told 2 = .ok (.aload_n 0, 1) := by decide +kernel
theorem dL_told_3 : decode cL_told 3 = .ok (.iload_n 1, 1) := by decide +kernel
theorem dL_told_4 : decode cL_told 4 = .ok (.invokevirtual 59, 3) := by decide +kernel
theorem dL_told_7 : decode cL_told 7 = .ok (.i2l, 1) := by decide +kernel
theorem dL_told_8 : decode cL_told 8 = .ok (.lastore, 1) := by decide +kernel
theorem dL_told_9 : decode cL_told 9 = .ok (.goto 6, 3) := by decide +kernel
theorem dL_told_12 : decode cL_told 12 = .ok (.astore_n 3, 1) := by decide +kernel
theorem dL_told_13 : decode cL_told 13 = .ok (.iconst 1, 1) := by decide +kernel
theorem dL_told_14 : decode cL_told 14 = .ok (.ireturn, 1) := by decide +kernel
theorem dL_told_15 : decode cL_told 15 = .ok (.iconst 0, 1) := by decide +kernel
theorem dL_told_16 : decode cL_told 16 = .ok (.ireturn, 1) := by decide +kernel
def wn_told : Int32 → Int32 := fun k => if k = 1 then 1 else 0
set_option maxHeartbeats 8000000 in
set_option maxRecDepth 100000 in
theorem l_L_told (l : Launch) (dC : Nat → ClassId) (dI : Nat → Nat → Nat) (cB cC cI cJ cZ cP : ClassId) (oA : Nat → Nat) (rA : Nat → Nat → Nat) (hfl : l.stackTraces = false) (oo : Nat) (ol : Nat → Int64) (og om : Option Nat) (sz : Nat) (p0 : Int32) (T : TS) (res : (Int32 × Int32) × TS) (hF : F_X11_told p0 T = some res) (hk : res.1.1 = 0 ∨ res.1.1 = 1) : Met l yL_told (g_wsW yL_told cL_told 4 (some .int) [(0, 9, 12, 13)]) ({ frames := 7, cells := 1, slots := 6, locals := 111 }) (va_Pc [.ref (oA 0), .int p0, .ref oo] (g_B (dC, dI) [(cB, .byte), (cC, .char), (cI, .int), (cJ, .long), (cZ, .boolean), (cP, .object "StoryHouse$Play")] sz ([(oo, .inl (cJ, 1, .inr (.inl ol)))] ++ b_H cB cC cI cJ cZ cP oA rA T og om) g_0)) (va_Qi (fun (r : Int32) (g2 : Nat → Int64) => r = wn_told res.1.1 ∧ (res.1.1 = 0 → g2 0 = res.1.2.toInt64)) (g_Bo (dC, dI) (va_A ([(oo, .inl (cJ, 1, .inr (.inl ol)))] ++ b_H cB cC cI cJ cZ cP oA rA T og om) sz) (fun (g2 : Nat → Int64) => ([(oo, .inl (cJ, 1, .inr (.inl g2)))] ++ b_H cB cC cI cJ cZ cP oA rA res.2 og om))) (va_A ([(oo, .inl (cJ, 1, .inr (.inl ol)))] ++ b_H cB cC cI cJ cZ cP oA rA T og om) sz)) 1 6 (va_A ([(oo, .inl (cJ, 1, .inr (.inl ol)))] ++ b_H cB cC cI cJ cZ cP oA rA T og om) sz) := by
  refine va_MetW (cc := cL_told) (maxL := 4) (ret := (some .int)) (hh := [(0, 9, 12, 13)]) (by decide) rfl ?_
  intro p e s m args below meth c s₁ B hml hv
  obtain ⟨rfl, hsz, hP, hK, hD0, hE, hX⟩ := hv
  have hx := B.exec
  have hb := B.bytes
  have hr := B.returns
  have hts0 := atoms_spec (ws := (g_wsW yL_told cL_told 4 (some .int) [(0, 9, 12, 13)])) B.pre
  have hts : ∀ w ∈ lw_good, w.before ([.ref (oA 0), .int p0, .ref oo] : List Value).toArray s = true := fun w h => hts0 w (List.mem_cons_of_mem _ h)
  have hown : s.vm.findClass RL = some m.cls := findClass_of_methodNamed B.named
  have hlocks := B.notSynchronized
  subst hsz
  have hD := hD0.self (sz := s.heap.size)
  generalize hAe : va_A ([(oo, .inl (cJ, 1, .inr (.inl ol)))] ++ b_H cB cC cI cJ cZ cP oA rA T og om) s.heap.size = A at hD hE hX ⊢
  have hA : ∀ q : Nat, s.heap.size ≤ q → A q := fun q h => by rw [← hAe]; exact Or.inr h
  have hN := hE.1
  have hS : va_S A s.heap s.heap [] := va_S.rf
  have htb := vx_table (x := yL_told) B (hts0 (.codeWith yL_told cL_told 4 (some .int) [(0, 9, 12, 13)]) List.mem_cons_self)
  have hP : va_P (dC, dI) vwCl ([(oo, .inl (cJ, 1, .inr (.inl ol)))] ++ b_H cB cC cI cJ cZ cP oA rA T og om) s.heap := hP
  have hl := lv_entry ([.ref (oA 0), .int p0, .ref oo]) (n := 4) (Nat.le_of_ble_eq_true rfl)
  rw [lg_entry_eq]
  generalize (lg_sl ([.ref (oA 0), .int p0, .ref oo]) ++ List.replicate (4 - (lg_sl ([.ref (oA 0), .int p0, .ref oo])).length) Slot.unset).toArray = ls at hl ⊢
  have hl : lv_has ls 4 [(0, .ref (oA 0)), (1, .int p0), (2, .ref oo)] := hl
  refine lv_aload_n hx hb dL_told_0 rfl (lv_at hl 2 rfl) ?_
  refine lv_iconst (v := 0) hx hb dL_told_1 (by decide +kernel) ?_
  refine lv_aload_n hx hb dL_told_2 rfl (lv_at hl 0 rfl) ?_
  refine lv_iload_n hx hb dL_told_3 rfl (lv_at hl 1 rfl) ?_
  have hPc := bx_P (bs := [[(oo, .inl (cJ, 1, .inr (.inl ol)))], b_H cB cC cI cJ cZ cP oA rA T og om]) (bs' := [b_H cB cC cI cJ cZ cP oA rA T og om]) (ws' := (b_H cB cC cI cJ cZ cP oA rA T og om)) hP fl_2 fl_1 [1] rfl
  have hDc := bx_D (bs := [[(oo, .inl (cJ, 1, .inr (.inl ol)))], b_H cB cC cI cJ cZ cP oA rA T og om]) (bs' := [b_H cB cC cI cJ cZ cP oA rA T og om]) (ws' := (b_H cB cC cI cJ cZ cP oA rA T og om)) hD fl_2 fl_1 [1] (by decide +kernel) rfl
  have hFc := bx_F (bs := [[(oo, .inl (cJ, 1, .inr (.inl ol)))], b_H cB cC cI cJ cZ cP oA rA T og om]) (bs' := [b_H cB cC cI cJ cZ cP oA rA T og om]) (wc := (b_H cB cC cI cJ cZ cP oA rA T og om)) hD hS hA fl_2 fl_1 [1] rfl
  refine g_oxi (wc := (b_H cB cC cI cJ cZ cP oA rA T og om)) (wr := [(oo, .inl (cJ, 1, .inr (.inl ol)))]) hP hD hS hFc (bx_ix [[(oo, .inl (cJ, 1, .inr (.inl ol)))], b_H cB cC cI cJ cZ cP oA rA T og om] [1]) (bx_ix [[(oo, .inl (cJ, 1, .inr (.inl ol)))], b_H cB cC cI cJ cZ cP oA rA T og om] [0]) (bx_C (bs := [[(oo, .inl (cJ, 1, .inr (.inl ol)))], b_H cB cC cI cJ cZ cP oA rA T og om]) (bs' := [b_H cB cC cI cJ cZ cP oA rA T og om]) (is := [1]) fl_2 fl_1 rfl) (bx_C (bs := [[(oo, .inl (cJ, 1, .inr (.inl ol)))], b_H cB cC cI cJ cZ cP oA rA T og om]) (bs' := [[(oo, .inl (cJ, 1, .inr (.inl ol)))]]) (is := [0]) fl_2 fl_1 rfl) (bx_n (by decide +kernel)) (bx_d (by decide +kernel)) (vx_runV (As := [.int p0]) (rest := [.int 0, .ref oo]) ⟨hx, hb, hml, hown, hts⟩ (h_X11_told l dC dI cB cC cI cJ cZ cP oA rA hfl og om s.heap.size p0 T _ hF) (cwV 1 hts (g_gV wq_1343 wq_1344 wq_1345 wq_1 wq_1346) rfl rfl rfl (by decide +kernel) ⟨Nat.le_of_ble_eq_true rfl, Nat.le_of_ble_eq_true rfl⟩) (g_preV g_bl0 hK hPc hDc hS hE hFc g_to0 (q0 := 0) (ci := 11) rfl rfl) rfl rfl hl.1 rfl (lv_room (Nat.le_of_ble_eq_true rfl)) dL_told_4 ⟨Nat.le_of_ble_eq_true rfl, Nat.le_of_ble_eq_true rfl⟩) (fun E ce q9 H1 locs1 hXP hP' hD' hS' hce hcv hcl => ?_) (fun r9 u9 H locs hw9 hP' hD' hS' => ?_)
  · clear hPc hDc hFc
    replace hP : va_P (dC, dI) vwCl ([(oo, .inl (cJ, 1, .inr (.inl ol)))] ++ b_H cB cC cI cJ cZ cP oA rA res.2 og om) H1 := hP'
    replace hD : va_D A ([(oo, .inl (cJ, 1, .inr (.inl ol)))] ++ b_H cB cC cI cJ cZ cP oA rA res.2 og om) := hD'
    replace hS := hS'; clear hP' hD' hS'
    rcases hXP with ⟨hc1, rfl⟩ | ⟨hc1, rfl⟩ | ⟨hc1, rfl⟩
    · refine vx_catch (E := "java/lang/IllegalArgumentException") (name := "java/lang/IllegalArgumentException") hown [] ⟨0, 9, 12, 13⟩ [] (by rw [htb]; rfl) (fun z hz => nomatch hz) (by decide +kernel) (by decide) (hts (.classLink RL 13 "java/lang/IllegalArgumentException") wq_919) (va_Nw.use rfl (hN.2.2.2.1 _ (List.mem_of_getElem? (i := 0) rfl)).1) hce hcv hcl ?_
      refine lv_astore_n (lv' := [(3, .ref q9), (0, .ref (oA 0)), (1, .int p0), (2, .ref oo)]) hx hb dL_told_12 rfl hl (by decide) rfl (fun ls hl => ?_)
      refine lv_iconst (v := 1) hx hb dL_told_13 (by decide +kernel) ?_
      refine W.widen (k := 1) (n := 6) (Nat.le_of_ble_eq_true rfl) (Nat.le_of_ble_eq_true rfl) ?_
      exact W.iret (v := 1) hx hb hr (fun t ht hW => ⟨⟨1, ol, rfl, ⟨(by rw [hc1]; decide), fun z => absurd z (by rw [hc1]; decide)⟩, by rw [ht]; exact hP, hD⟩, hS.F ht⟩) hS.2.2 dL_told_14
    · exact absurd hk (by rw [hc1]; decide)
    · exact absurd hk (by rw [hc1]; decide)
  clear hPc hDc hFc
  obtain ⟨hc0, e9⟩ := hw9
  subst e9
  replace hP : va_P (dC, dI) vwCl ([(oo, .inl (cJ, 1, .inr (.inl ol)))] ++ b_H cB cC cI cJ cZ cP oA rA res.2 og om) H := hP'
  replace hD : va_D A ([(oo, .inl (cJ, 1, .inr (.inl ol)))] ++ b_H cB cC cI cJ cZ cP oA rA res.2 og om) := hD'
  replace hS := hS'
  clear hP' hD' hS'
  refine lv_i2l hx hb dL_told_7 rfl ?_
  refine va_last hx hb hK hP hD hS 0 3 rfl rfl (vp_in_iff.mpr (by decide +kernel)) dL_told_8 (fun H locs hP' hD' hS' => ?_)
  replace hP : va_P (dC, dI) vwCl ([(oo, .inl (cJ, 1, .inr (.inl (vp_updL ol (0 : Int32).toNatClampNeg res.1.2.toInt64))))] ++ b_H cB cC cI cJ cZ cP oA rA res.2 og om) H := hP'
  replace hD : va_D A ([(oo, .inl (cJ, 1, .inr (.inl (vp_updL ol (0 : Int32).toNatClampNeg res.1.2.toInt64))))] ++ b_H cB cC cI cJ cZ cP oA rA res.2 og om) := hD'
  replace hS := hS'
  clear hP' hD' hS'
  refine lv_goto (tgt := 15) hx hb dL_told_9 (by decide) ?_
  refine lv_iconst (v := 0) hx hb dL_told_15 (by decide +kernel) ?_
  refine W.widen (k := 1) (n := 6) (Nat.le_of_ble_eq_true rfl) (Nat.le_of_ble_eq_true rfl) ?_
  exact W.iret (v := 0) hx hb hr (fun t ht hW => ⟨⟨0, (vp_updL ol (0 : Int32).toNatClampNeg res.1.2.toInt64), rfl, ⟨(by rw [hc0]; decide), fun _ => g_u0 ol _⟩, by rw [ht]; exact hP, hD⟩, hS.F ht⟩) hS.2.2 dL_told_16
