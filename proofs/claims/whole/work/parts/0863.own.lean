/-! own methods -/
theorem dX11_feed_0 : decode cX11_feed 0 = .ok (.iload_n 3, 1) := by decide +kernel
theorem dX11_feed_1 : decode cX11_feed 1 = .ok (.iconst 1, 1) := by decide +kernel
theorem dX11_feed_2 : decode cX11_feed 2 = .ok (.if_icmp .lt 9, 3) := by decide +kernel
theorem dX11_feed_5 : decode cX11_feed 5 = .ok (.iload_n 3, 1) := by decide +kernel
theorem dX11_feed_6 : decode cX11_feed 6 = .ok (.bipush 8, 2) := by decide +kernel
theorem dX11_feed_8 : decode cX11_feed 8 = .ok (.if_icmp .le 13, 3) := by decide +kernel
theorem dX11_feed_11 : decode cX11_feed 11 = .ok (.new 95, 3) := by decide +kernel
theorem dX11_feed_14 : decode cX11_feed 14 = .ok (.dup, 1) := by decide +kernel
theorem dX11_feed_15 : decode cX11_feed 15 = .ok (.ldc 97, 2) := by decide +kernel
theorem dX11_feed_17 : decode cX11_feed 17 = .ok (.invokespecial 99, 3) := by decide +kernel
theorem dX11_feed_20 : decode cX11_feed 20 = .ok (.athrow, 1) := by decide +kernel
theorem dX11_feed_21 : decode cX11_feed 21 = .ok (.iconst 0, 1) := by decide +kernel
theorem dX11_feed_22 : decode cX11_feed 22 = .ok (.istore 4, 2) := by decide +kernel
theorem dX11_feed_24 : decode cX11_feed 24 = .ok (.iload 4, 2) := by decide +kernel
theorem dX11_feed_26 : decode cX11_feed 26 = .ok (.iload_n 3, 1) := by decide +kernel
theorem dX11_feed_27 : decode cX11_feed 27 = .ok (.if_icmp .ge 31, 3) := by decide +kernel
theorem dX11_feed_30 : decode cX11_feed 30 = .ok (.lload_n 1, 1) := by decide +kernel
theorem dX11_feed_31 : decode cX11_feed 31 = .ok (.iload 4, 2) := by decide +kernel
theorem dX11_feed_33 : decode cX11_feed 33 = .ok (.invokestatic 102, 3) := by decide +kernel
theorem dX11_feed_36 : decode cX11_feed 36 = .ok (.invokestatic 106, 3) := by decide +kernel
theorem dX11_feed_39 : decode cX11_feed 39 = .ok (.ifCond .ne 13, 3) := by decide +kernel
theorem dX11_feed_42 : decode cX11_feed 42 = .ok (.new 95, 3) := by decide +kernel
theorem dX11_feed_45 : decode cX11_feed 45 = .ok (.dup, 1) := by decide +kernel
theorem dX11_feed_46 : decode cX11_feed 46 = .ok (.ldc 110, 2) := by decide +kernel
theorem dX11_feed_48 : decode cX11_feed 48 = .ok (.invokespecial 99, 3) := by decide +kernel
theorem dX11_feed_51 : decode cX11_feed 51 = .ok (.athrow, 1) := by decide +kernel
theorem dX11_feed_52 : decode cX11_feed 52 = .ok (.iinc 4 1, 3) := by decide +kernel
theorem dX11_feed_55 : decode cX11_feed 55 = .ok (.goto (-31), 3) := by decide +kernel
theorem dX11_feed_58 : decode cX11_feed 58 = .ok (.aload_n 0, 1) := by decide +kernel
theorem dX11_feed_59 : decode cX11_feed 59 = .ok (.getfield 112, 3) := by decide +kernel
theorem dX11_feed_62 : decode cX11_feed 62 = .ok (.iload_n 3, 1) := by decide +kernel
theorem dX11_feed_63 : decode cX11_feed 63 = .ok (.iadd, 1) := by decide +kernel
theorem dX11_feed_64 : decode cX11_feed 64 = .ok (.sipush 16000, 3) := by decide +kernel
theorem dX11_feed_67 : decode cX11_feed 67 = .ok (.if_icmp .le 13, 3) := by decide +kernel
theorem dX11_feed_70 : decode cX11_feed 70 = .ok (.new 115, 3) := by decide +kernel
theorem dX11_feed_73 : decode cX11_feed 73 = .ok (.dup, 1) := by decide +kernel
theorem dX11_feed_74 : decode cX11_feed 74 = .ok (.ldc 117, 2) := by decide +kernel
theorem dX11_feed_76 : decode cX11_feed 76 = .ok (.invokespecial 119, 3) := by decide +kernel
theorem dX11_feed_79 : decode cX11_feed 79 = .ok (.athrow, 1) := by decide +kernel
theorem dX11_feed_80 : decode cX11_feed 80 = .ok (.iconst 0, 1) := by decide +kernel
theorem dX11_feed_81 : decode cX11_feed 81 = .ok (.istore 4, 2) := by decide +kernel
theorem dX11_feed_83 : decode cX11_feed 83 = .ok (.iload 4, 2) := by decide +kernel
theorem dX11_feed_85 : decode cX11_feed 85 = .ok (.iload_n 3, 1) := by decide +kernel
theorem dX11_feed_86 : decode cX11_feed 86 = .ok (.if_icmp .ge 35, 3) := by decide +kernel
theorem dX11_feed_89 : decode cX11_feed 89 = .ok (.aload_n 0, 1) := by decide +kernel
theorem dX11_feed_90 : decode cX11_feed 90 = .ok (.getfield 9, 3) := by decide +kernel
theorem dX11_feed_93 : decode cX11_feed 93 = .ok (.aload_n 0, 1) := by decide +kernel
theorem dX11_feed_94 : decode cX11_feed 94 = .ok (.getfield 112, 3) := by decide +kernel
theorem dX11_feed_97 : decode cX11_feed 97 = .ok (.lload_n 1, 1) := by decide +kernel
theorem dX11_feed_98 : decode cX11_feed 98 = .ok (.iload 4, 2) := by decide +kernel
theorem dX11_feed_100 : decode cX11_feed 100 = .ok (.invokestatic 102, 3) := by decide +kernel
theorem dX11_feed_103 : decode cX11_feed 103 = .ok (.i2b, 1) := by decide +kernel
theorem dX11_feed_104 : decode cX11_feed 104 = .ok (.bastore, 1) := by decide +kernel
theorem dX11_feed_105 : decode cX11_feed 105 = .ok (.aload_n 0, 1) := by decide +kernel
theorem dX11_feed_106 : decode cX11_feed 106 = .ok (.dup, 1) := by decide +kernel
theorem dX11_feed_107 : decode cX11_feed 107 = .ok (.getfield 112, 3) := by decide +kernel
theorem dX11_feed_110 : decode cX11_feed 110 = .ok (.iconst 1, 1) := by decide +kernel
theorem dX11_feed_111 : decode cX11_feed 111 = .ok (.iadd, 1) := by decide +kernel
theorem dX11_feed_112 : decode cX11_feed 112 = .ok (.putfield 112, 3) := by decide +kernel
theorem dX11_feed_115 : decode cX11_feed 115 = .ok (.iinc 4 1, 3) := by decide +kernel
theorem dX11_feed_118 : decode cX11_feed 118 = .ok (.goto (-35), 3) := by decide +kernel
theorem dX11_feed_121 : decode cX11_feed 121 = .ok (.aload_n 0, 1) := by decide +kernel
theorem dX11_feed_122 : decode cX11_feed 122 = .ok (.getfield 112, 3) := by decide +kernel
theorem dX11_feed_125 : decode cX11_feed 125 = .ok (.ireturn, 1) := by decide +kernel
def F_X11_feed (p0 : Int64) (p1 : Int32) (T : TS) : HA :=
  bnd (fun  (σ_1 : TS) => (
    some ((1, 0), σ_1)
  ) : TS → HA) fun j_2 =>
  if p1 < 1 then (
    j_2  T
  ) else (
    if p1 ≤ 8 then (
      loopF (fun (again_12 : (Int32 × TS) → HA) (s_11 : Int32 × TS) => (
        if p1 ≤ s_11.1 then (
          if (((s_11.2.1 0).1 1) + p1) ≤ 16000 then (
            loopF (fun (again_20 : (Int32 × TS) → HA) (s_19 : Int32 × TS) => (
              if p1 ≤ s_19.1 then (
                some ((0, ((s_19.2.1 0).1 1)), s_19.2)
              ) else (
                (F_X11_byteOf p0 s_19.1 s_19.2.1).bind fun u_26 =>
                bnd (u_26.1.toInt8.toInt32) fun (x_28 : Int32) =>
                if ((s_19.2.1 0).1 1) < 0 ∨ 16000 ≤ ((s_19.2.1 0).1 1).toNatClampNeg then none else
                bnd (((cA' s_19.2.1 13 0 (upd ((s_19.2.1 13).2.1 0) ((s_19.2.1 0).1 1).toNatClampNeg (vp_nar .byte x_28)), s_19.2.2) : TS)) fun σ_32 =>
                bnd (((cI' σ_32.1 0 1 (((σ_32.1 0).1 1) + 1), σ_32.2) : TS)) fun σ_34 =>
                bnd (s_19.1 + 1) fun (x_36 : Int32) =>
                again_20 (x_36, σ_34)
              )
            )) FU (0, s_11.2)
          ) else (
            some ((2, 0), s_11.2)
          )
        ) else (
          (F_X11_byteOf p0 s_11.1 s_11.2.1).bind fun u_41 =>
          (F_X11_isTapeByte u_41.1 s_11.2.1).bind fun u_43 =>
          if u_43.1 = 0 then (
            some ((1, 0), s_11.2)
          ) else (
            bnd (s_11.1 + 1) fun (x_49 : Int32) =>
            again_12 (x_49, s_11.2)
          )
        )
      )) FU (0, T)
    ) else (
      j_2  T
    )
  )
set_option maxHeartbeats 8000000 in
set_option maxRecDepth 100000 in
theorem h_X11_feed (l : Launch) (dC : Nat → ClassId) (dI : Nat → Nat → Nat) (cB cC cI cJ cZ cP : ClassId) (oA : Nat → Nat) (rA : Nat → Nat → Nat) (hfl : l.stackTraces = false) (og om : Option Nat) (sz : Nat) (p0 : Int64) (p1 : Int32) (T : TS) (res : (Int32 × Int32) × TS) (hF : F_X11_feed p0 p1 T = some res) : vx_Met l yX11_feed (g_ws yX11_feed cX11_feed 5 (some .int)) ({ frames := 6, cells := 1, slots := 6, locals := 90 }) (va_Pc [.ref (oA 0), .long p0, .int p1] (g_B (dC, dI) [(cB, .byte), (cC, .char), (cI, .int), (cJ, .long), (cZ, .boolean), (cP, .object "StoryHouse$Play")] sz (b_H cB cC cI cJ cZ cP oA rA T og om) g_0)) (va_Qi (fun r (_ : Unit) => res.1.1 = 0 ∧ r = res.1.2) (g_Bo (dC, dI) (va_A (b_H cB cC cI cJ cZ cP oA rA T og om) sz) (fun (_ : Unit) => (b_H cB cC cI cJ cZ cP oA rA res.2 og om))) (va_A (b_H cB cC cI cJ cZ cP oA rA T og om) sz)) (g_X (dC, dI) (va_A (b_H cB cC cI cJ cZ cP oA rA T og om) sz) (b_H cB cC cI cJ cZ cP oA rA res.2 og om) (fun E : String => XN res.1.1 E)) 1 6 (va_A (b_H cB cC cI cJ cZ cP oA rA T og om) sz) := by
  refine vx_ofW (cc := cX11_feed) (maxL := 5) (ret := (some .int)) (by decide) rfl ?_
  intro p e s m args below meth c s₁ B hml htab hv
  obtain ⟨rfl, hsz, hP, hK, hD0, hE, hX⟩ := hv
  have hx := B.exec
  have hb := B.bytes
  have hr := B.returns
  have hts0 := atoms_spec (ws := g_ws yX11_feed cX11_feed 5 (some .int)) B.pre
  have hts : ∀ w ∈ lw_good, w.before ([.ref (oA 0), .long p0, .int p1] : List Value).toArray s = true := fun w z => hts0 w (List.mem_cons_of_mem _ z)
  have hown : s.vm.findClass RX11 = some m.cls := findClass_of_methodNamed B.named
  have hlocks := B.notSynchronized
  subst hsz
  have hD1 := hD0.self (sz := s.heap.size)
  generalize hAe : va_A (b_H cB cC cI cJ cZ cP oA rA T og om) s.heap.size = A at hD1 hE hX ⊢
  have hA : ∀ q : Nat, s.heap.size ≤ q → A q := fun q z => by rw [← hAe]; exact Or.inr z
  have hDD : ∀ T : TS, va_D A (b_H cB cC cI cJ cZ cP oA rA T og om) := fun T9 => va_D_fst bH_fst hD1
  have hN := hE.1
  have hS : va_S A s.heap s.heap [] := va_S.rf
  have hl := lv_entry ([.ref (oA 0), .long p0, .int p1]) (n := 5) (Nat.le_of_ble_eq_true rfl)
  rw [lg_entry_eq]
  generalize (lg_sl ([.ref (oA 0), .long p0, .int p1]) ++ List.replicate (5 - (lg_sl ([.ref (oA 0), .long p0, .int p1])).length) Slot.unset).toArray = ls at hl ⊢
  have hl : lv_has ls 5 [(0, .ref (oA 0)), (1, .long p0), (3, .int p1)] := hl
  unfold F_X11_feed at hF
  refine lv_iload_n hx hb dX11_feed_0 rfl (lv_at hl 2 rfl) ?_
  refine lv_iconst (v := 1) hx hb dX11_feed_1 (by decide +kernel) ?_
  obtain ⟨j_2, ej_2, hF_3⟩ := bnd_e hF
  clear hF
  have Jj_2 : ∀  (σ_1 : TS), j_2  σ_1 = some res → ∀ (H : Heap) (locs : List Loc), va_P (dC, dI) vwCl (b_H cB cC cI cJ cZ cP oA rA σ_1 og om) H → va_S A s.heap H locs → ∀ ls : Array Slot, lv_has ls 5 [] → W p l e (headSpec (g_ws yX11_feed cX11_feed 5 (some .int)) { frames := 6, cells := 1, slots := 6, locals := 90 }).room s m ([.ref (oA 0), .long p0, .int p1] : List Value).toArray below meth c H locs 0 0 (vx_MQ below (va_Qi (fun r (_ : Unit) => res.1.1 = 0 ∧ r = res.1.2) (g_Bo (dC, dI) A (fun (_ : Unit) => (b_H cB cC cI cJ cZ cP oA rA res.2 og om))) A) (g_X (dC, dI) A (b_H cB cC cI cJ cZ cP oA rA res.2 og om) (fun E : String => XN res.1.1 E)) ([.ref (oA 0), .long p0, .int p1] : List Value).toArray s 1 6 A) (F0 m 11 ls []) := by
    intro  σ_1 hF0 H locs hP hS ls hl
    subst ej_2
    have hF_4 := hF0
    clear hF0
    have h9 := Option.some.inj hF_4
    subst h9
    obtain ⟨q_5, vq_5, hRq_5, hSq_5⟩ := hE.2.2.2.2 _ (List.mem_of_getElem? (i := 22) rfl)
    exact vx_throwS hx hb hfl (own := RX11) (cls := "java/lang/IllegalArgumentException") (text := "n is not 1 .. 8") (names := ["java/lang/RuntimeException", "java/lang/Exception"]) (A := A) hown (by decide +kernel) (by decide +kernel) (hts (.classLink RX11 95 "java/lang/IllegalArgumentException") wq_925) (hts (.initialized "java/lang/IllegalArgumentException") wq_17) hRq_5 (g_bad hN (fun w h => hts w (wx_99 w h)) (by decide +kernel) (g_badB hN (List.mem_of_getElem? (i := 0) rfl))) (by decide +kernel) hE.2.1 hE.2.2.1 hS (hl.1.trans hml.symm) dX11_feed_11 dX11_feed_14 dX11_feed_15 dX11_feed_17 dX11_feed_20 (fun x hx => (htab x hx).elim) (by decide) (by decide) (Nat.le_of_ble_eq_true rfl) (Nat.le_of_ble_eq_true rfl) hlocks (g_thr hP (hDD _) hS XN_1) hS.2.2 (Nat.le_of_ble_eq_true rfl) (Nat.le_of_ble_eq_true rfl)
  refine lv_icmp_lt (tgt := 11) hx hb dX11_feed_2 (by decide) (fun c_6 => ?_) (fun c_6 => ?_)
  · have hF_7 := ipos c_6 hF_3
    clear hF_3
    exact Jj_2  T hF_7 _ _ hP hS ls (lv_sub hl [] rfl)
  · have hF_8 := ineg c_6 hF_3
    clear hF_3
    refine lv_iload_n hx hb dX11_feed_5 rfl (lv_at hl 2 rfl) ?_
    refine lv_bipush (v := 8) hx hb dX11_feed_6 (by decide +kernel) ?_
    refine lv_icmp_le (tgt := 21) hx hb dX11_feed_8 (by decide) (fun c_9 => ?_) (fun c_9 => ?_)
    · have hF_10 := ipos c_9 hF_8
      clear hF_8
      refine lv_iconst (v := 0) hx hb dX11_feed_21 (by decide +kernel) ?_
      refine lv_istore (lv' := [(4, .int 0), (0, .ref (oA 0)), (1, .long p0), (3, .int p1)]) hx hb dX11_feed_22 hl (by decide) rfl (fun ls hl => ?_)
      refine loopF_ind (P := fun (s_11 : Int32 × TS) => ∀ (H : Heap) (locs : List Loc), va_P (dC, dI) vwCl (b_H cB cC cI cJ cZ cP oA rA s_11.2 og om) H → va_S A s.heap H locs → ∀ ls : Array Slot, lv_has ls 5 [(0, .ref (oA 0)), (1, .long p0), (3, .int p1), (4, .int s_11.1)] → W p l e (headSpec (g_ws yX11_feed cX11_feed 5 (some .int)) { frames := 6, cells := 1, slots := 6, locals := 90 }).room s m ([.ref (oA 0), .long p0, .int p1] : List Value).toArray below meth c H locs 0 0 (vx_MQ below (va_Qi (fun r (_ : Unit) => res.1.1 = 0 ∧ r = res.1.2) (g_Bo (dC, dI) A (fun (_ : Unit) => (b_H cB cC cI cJ cZ cP oA rA res.2 og om))) A) (g_X (dC, dI) A (b_H cB cC cI cJ cZ cP oA rA res.2 og om) (fun E : String => XN res.1.1 E)) ([.ref (oA 0), .long p0, .int p1] : List Value).toArray s 1 6 A) (F0 m 24 ls [])) ?_ _ _ hF_10 _ _ hP hS ls (lv_sub hl [1, 2, 3, 0] rfl)
      intro again_12 s_11 ih_13 hF_14
      intro H locs hP hS ls hl
      refine lv_iload hx hb dX11_feed_24 (lv_at hl 3 rfl) ?_
      refine lv_iload_n hx hb dX11_feed_26 rfl (lv_at hl 2 rfl) ?_
      refine lv_icmp_ge (tgt := 58) hx hb dX11_feed_27 (by decide) (fun c_15 => ?_) (fun c_15 => ?_)
      · have hF_16 := ipos c_15 hF_14
        clear hF_14
        refine lv_aload_n hx hb dX11_feed_58 rfl (lv_at hl 0 rfl) ?_
        refine va_get (D := (dC, dI)) (ci := 11) (v := .int ((s_11.2.1 0).1 1)) (C := RX11) (T := TX11) (N := 19) hx hb hts ii_X11 hown hK hP 0 rfl rfl 1 (by decide) (hts (.fieldLink RX11 112 "StoryHouse" "tapeLength" "I") wq_304) (fun _ h9 => h9) rfl dX11_feed_59 ?_
        refine lv_iload_n hx hb dX11_feed_62 rfl (lv_at hl 2 rfl) ?_
        refine lv_iadd hx hb dX11_feed_63 ?_
        refine lv_sipush (v := 16000) hx hb dX11_feed_64 (by decide +kernel) ?_
        refine lv_icmp_le (tgt := 80) hx hb dX11_feed_67 (by decide) (fun c_17 => ?_) (fun c_17 => ?_)
        · have hF_18 := ipos c_17 hF_16
          clear hF_16
          refine lv_iconst (v := 0) hx hb dX11_feed_80 (by decide +kernel) ?_
          refine lv_istore (lv' := [(4, .int 0), (0, .ref (oA 0)), (1, .long p0), (3, .int p1)]) hx hb dX11_feed_81 hl (by decide) rfl (fun ls hl => ?_)
          refine loopF_ind (P := fun (s_19 : Int32 × TS) => ∀ (H : Heap) (locs : List Loc), va_P (dC, dI) vwCl (b_H cB cC cI cJ cZ cP oA rA s_19.2 og om) H → va_S A s.heap H locs → ∀ ls : Array Slot, lv_has ls 5 [(0, .ref (oA 0)), (1, .long p0), (3, .int p1), (4, .int s_19.1)] → W p l e (headSpec (g_ws yX11_feed cX11_feed 5 (some .int)) { frames := 6, cells := 1, slots := 6, locals := 90 }).room s m ([.ref (oA 0), .long p0, .int p1] : List Value).toArray below meth c H locs 0 0 (vx_MQ below (va_Qi (fun r (_ : Unit) => res.1.1 = 0 ∧ r = res.1.2) (g_Bo (dC, dI) A (fun (_ : Unit) => (b_H cB cC cI cJ cZ cP oA rA res.2 og om))) A) (g_X (dC, dI) A (b_H cB cC cI cJ cZ cP oA rA res.2 og om) (fun E : String => XN res.1.1 E)) ([.ref (oA 0), .long p0, .int p1] : List Value).toArray s 1 6 A) (F0 m 83 ls [])) ?_ _ _ hF_18 _ _ hP hS ls (lv_sub hl [1, 2, 3, 0] rfl)
          intro again_20 s_19 ih_21 hF_22
          intro H locs hP hS ls hl
          refine lv_iload hx hb dX11_feed_83 (lv_at hl 3 rfl) ?_
          refine lv_iload_n hx hb dX11_feed_85 rfl (lv_at hl 2 rfl) ?_
          refine lv_icmp_ge (tgt := 121) hx hb dX11_feed_86 (by decide) (fun c_23 => ?_) (fun c_23 => ?_)
          · have hF_24 := ipos c_23 hF_22
            clear hF_22
            refine lv_aload_n hx hb dX11_feed_121 rfl (lv_at hl 0 rfl) ?_
            refine va_get (D := (dC, dI)) (ci := 11) (v := .int ((s_19.2.1 0).1 1)) (C := RX11) (T := TX11) (N := 19) hx hb hts ii_X11 hown hK hP 0 rfl rfl 1 (by decide) (hts (.fieldLink RX11 112 "StoryHouse" "tapeLength" "I") wq_304) (fun _ h9 => h9) rfl dX11_feed_122 ?_
            have h9 := Option.some.inj hF_24
            subst h9
            refine W.widen (k := 1) (n := 6) (Nat.le_of_ble_eq_true rfl) (Nat.le_of_ble_eq_true rfl) ?_
            refine vx_ret ?_
            exact W.iret (v := ((s_19.2.1 0).1 1)) hx hb hr (fun t ht hW => ⟨⟨((s_19.2.1 0).1 1), (), rfl, ⟨rfl, rfl⟩, m_end ht hP, hDD _⟩, hS.F ht⟩) hS.2.2 dX11_feed_125
          · have hF_25 := ineg c_23 hF_22
            clear hF_22
            refine lv_aload_n hx hb dX11_feed_89 rfl (lv_at hl 0 rfl) ?_
            refine va_get (D := (dC, dI)) (ci := 11) (v := .ref (rA 13 0)) (C := RX11) (T := TX11) (N := 19) hx hb hts ii_X11 hown hK hP 0 rfl rfl 0 (by decide) (hts (.fieldLink RX11 9 "StoryHouse" "tape" "[B") wq_303) (fun _ h9 => h9) rfl dX11_feed_90 ?_
            refine lv_aload_n hx hb dX11_feed_93 rfl (lv_at hl 0 rfl) ?_
            refine va_get (D := (dC, dI)) (ci := 11) (v := .int ((s_19.2.1 0).1 1)) (C := RX11) (T := TX11) (N := 19) hx hb hts ii_X11 hown hK hP 0 rfl rfl 1 (by decide) (hts (.fieldLink RX11 112 "StoryHouse" "tapeLength" "I") wq_304) (fun _ h9 => h9) rfl dX11_feed_94 ?_
            refine lv_lload_n hx hb dX11_feed_97 rfl (lv_at hl 1 rfl) ?_
            refine lv_iload hx hb dX11_feed_98 (lv_at hl 3 rfl) ?_
            obtain ⟨u_26, hu_26, hF_27⟩ := Option.bind_eq_some_iff.mp hF_25
            clear hF_25
            have hPc : va_P (dC, dI) vwCl [] H := fun k q z => by simp at z
            have hDc : va_D A [] := ⟨fun i j p q z => by simp at z, fun k q z => by simp at z⟩
            have hFc := c_nil hA hS
            refine c_cs (v := u_26.1) hA hP hS (va_runS (As := [.long p0, .int s_19.1]) (rest := [.int ((s_19.2.1 0).1 1), .ref (rA 13 0)]) ⟨hx, hb, hml, hown, hts⟩ (k_X11_byteOf l dC dI cB cC cI cJ cZ cP oA rA H.size p0 s_19.1 s_19.2.1 _ hu_26) (va_cwS 2 hts (g_gS wq_936 wq_937 wq_1 wq_938) rfl rfl rfl (by decide +kernel) ⟨Nat.le_of_ble_eq_true rfl, Nat.le_of_ble_eq_true rfl⟩) (g_preS g_bl0 hK hPc hDc hS hE hFc g_to0) rfl rfl hl.1 rfl (lv_room (Nat.le_of_ble_eq_true rfl)) dX11_feed_100 ⟨Nat.le_of_ble_eq_true rfl, Nat.le_of_ble_eq_true rfl⟩) (fun H locs hP hS => ?_)
            clear hPc hDc hFc
            refine lv_i2b hx hb dX11_feed_103 rfl ?_
            obtain ⟨x_28, ex_28, hF_29⟩ := bnd_e hF_27
            clear hF_27
            refine m_top ex_28 ?_
            obtain ⟨g_30, hF_31⟩ := nif_e hF_29
            clear hF_29
            obtain ⟨σ_32, eσ_32, hF_33⟩ := bnd_e hF_31
            clear hF_31
            refine va_bast (f := (s_19.2.1 13).2.1 0) hx hb hK hP (hDD _) hS 4 0 rfl rfl g_30 dX11_feed_104 (fun H locs hP' _ hS => ?_)
            have hP : va_P (dC, dI) vwCl (b_H cB cC cI cJ cZ cP oA rA σ_32 og om) H := by rw [eσ_32]; exact ch_hbgmwsctdopkeSCTD0123ABEFGH_b_0 ▸ hP'
            clear hP'
            refine lv_aload_n hx hb dX11_feed_105 rfl (lv_at hl 0 rfl) ?_
            refine lv_dup hx hb dX11_feed_106 rfl ?_
            refine va_get (D := (dC, dI)) (ci := 11) (v := .int ((σ_32.1 0).1 1)) (C := RX11) (T := TX11) (N := 19) hx hb hts ii_X11 hown hK hP 0 rfl rfl 1 (by decide) (hts (.fieldLink RX11 112 "StoryHouse" "tapeLength" "I") wq_304) (fun _ h9 => h9) rfl dX11_feed_107 ?_
            refine lv_iconst (v := 1) hx hb dX11_feed_110 (by decide +kernel) ?_
            refine lv_iadd hx hb dX11_feed_111 ?_
            obtain ⟨σ_34, eσ_34, hF_35⟩ := bnd_e hF_33
            clear hF_33
            refine va_put (D := (dC, dI)) (ci := 11) (v := .int (((σ_32.1 0).1 1) + 1)) (ty := .int) (C := RX11) (T := TX11) (N := 19) hx hb hts ii_X11 tyX11 tyX11_ok nmX11 hown hK hP (hDD _) hS 0 rfl rfl 1 (by decide) (hts (.fieldLink RX11 112 "StoryHouse" "tapeLength" "I") wq_304) (fun _ h9 => h9) rfl (by decide +kernel) rfl rfl (Nat.le_of_ble_eq_true rfl) dX11_feed_112 (fun H locs hP' _ hS => ?_)
            have hP : va_P (dC, dI) vwCl (b_H cB cC cI cJ cZ cP oA rA σ_34 og om) H := by rw [eσ_34]; exact ch_hbgmwsctdopkeSCTD0123ABEFGH_h_1 ▸ hP'
            clear hP'
            obtain ⟨x_36, ex_36, hF_37⟩ := bnd_e hF_35
            clear hF_35
            refine lv_iinc (v := x_36) (lv' := [(4, .int x_36), (0, .ref (oA 0)), (1, .long p0), (3, .int p1)]) hx hb dX11_feed_115 hl (k := 3) rfl (by rw [ex_36]; rfl) (by decide) rfl (fun ls hl => ?_)
            refine lv_goto (tgt := 83) hx hb dX11_feed_118 (by decide) ?_
            exact ih_21 (x_36, σ_34) hF_37 _ _ hP hS ls (lv_sub hl [1, 2, 3, 0] rfl)
        · have hF_38 := ineg c_17 hF_16
          clear hF_16
          have h9 := Option.some.inj hF_38
          subst h9
          obtain ⟨q_39, vq_39, hRq_39, hSq_39⟩ := hE.2.2.2.2 _ (List.mem_of_getElem? (i := 24) rfl)
          exact vx_throwS hx hb hfl (own := RX11) (cls := "java/lang/IllegalStateException") (text := "the tape is full") (names := ["java/lang/RuntimeException", "java/lang/Exception"]) (A := A) hown (by decide +kernel) (by decide +kernel) (hts (.classLink RX11 115 "java/lang/IllegalStateException") wq_942) (hts (.initialized "java/lang/IllegalStateException") wq_18) hRq_39 (g_bad hN (fun w h => hts w (wx_119 w h)) (by decide +kernel) (g_badB hN (List.mem_of_getElem? (i := 1) rfl))) (by decide +kernel) hE.2.1 hE.2.2.1 hS (hl.1.trans hml.symm) dX11_feed_70 dX11_feed_73 dX11_feed_74 dX11_feed_76 dX11_feed_79 (fun x hx => (htab x hx).elim) (by decide) (by decide) (Nat.le_of_ble_eq_true rfl) (Nat.le_of_ble_eq_true rfl) hlocks (g_thr hP (hDD _) hS XN_2) hS.2.2 (Nat.le_of_ble_eq_true rfl) (Nat.le_of_ble_eq_true rfl)
      · have hF_40 := ineg c_15 hF_14
        clear hF_14
        refine lv_lload_n hx hb dX11_feed_30 rfl (lv_at hl 1 rfl) ?_
        refine lv_iload hx hb dX11_feed_31 (lv_at hl 3 rfl) ?_
        obtain ⟨u_41, hu_41, hF_42⟩ := Option.bind_eq_some_iff.mp hF_40
        clear hF_40
        have hPc : va_P (dC, dI) vwCl [] H := fun k q z => by simp at z
        have hDc : va_D A [] := ⟨fun i j p q z => by simp at z, fun k q z => by simp at z⟩
        have hFc := c_nil hA hS
        refine c_cs (v := u_41.1) hA hP hS (va_runS (As := [.long p0, .int s_11.1]) (rest := []) ⟨hx, hb, hml, hown, hts⟩ (k_X11_byteOf l dC dI cB cC cI cJ cZ cP oA rA H.size p0 s_11.1 s_11.2.1 _ hu_41) (va_cwS 2 hts (g_gS wq_936 wq_937 wq_1 wq_938) rfl rfl rfl (by decide +kernel) ⟨Nat.le_of_ble_eq_true rfl, Nat.le_of_ble_eq_true rfl⟩) (g_preS g_bl0 hK hPc hDc hS hE hFc g_to0) rfl rfl hl.1 rfl (lv_room (Nat.le_of_ble_eq_true rfl)) dX11_feed_33 ⟨Nat.le_of_ble_eq_true rfl, Nat.le_of_ble_eq_true rfl⟩) (fun H locs hP hS => ?_)
        clear hPc hDc hFc
        obtain ⟨u_43, hu_43, hF_44⟩ := Option.bind_eq_some_iff.mp hF_42
        clear hF_42
        have hPc : va_P (dC, dI) vwCl [] H := fun k q z => by simp at z
        have hDc : va_D A [] := ⟨fun i j p q z => by simp at z, fun k q z => by simp at z⟩
        have hFc := c_nil hA hS
        refine c_cs (v := u_43.1) hA hP hS (va_runS (As := [.int u_41.1]) (rest := []) ⟨hx, hb, hml, hown, hts⟩ (k_X11_isTapeByte l dC dI cB cC cI cJ cZ cP oA rA H.size u_41.1 s_11.2.1 _ hu_43) (va_cwS 1 hts (g_gS wq_939 wq_940 wq_1 wq_941) rfl rfl rfl (by decide +kernel) ⟨Nat.le_of_ble_eq_true rfl, Nat.le_of_ble_eq_true rfl⟩) (g_preS g_bl0 hK hPc hDc hS hE hFc g_to0) rfl rfl hl.1 rfl (lv_room (Nat.le_of_ble_eq_true rfl)) dX11_feed_36 ⟨Nat.le_of_ble_eq_true rfl, Nat.le_of_ble_eq_true rfl⟩) (fun H locs hP hS => ?_)
        clear hPc hDc hFc
        refine lv_if_ne (tgt := 52) hx hb dX11_feed_39 (by decide) (fun c_45 => ?_) (fun c_45 => ?_)
        · have hF_48 := ineg c_45 hF_44
          clear hF_44
          obtain ⟨x_49, ex_49, hF_50⟩ := bnd_e hF_48
          clear hF_48
          refine lv_iinc (v := x_49) (lv' := [(4, .int x_49), (0, .ref (oA 0)), (1, .long p0), (3, .int p1)]) hx hb dX11_feed_52 hl (k := 3) rfl (by rw [ex_49]; rfl) (by decide) rfl (fun ls hl => ?_)
          refine lv_goto (tgt := 24) hx hb dX11_feed_55 (by decide) ?_
          exact ih_13 (x_49, s_11.2) hF_50 _ _ hP hS ls (lv_sub hl [1, 2, 3, 0] rfl)
        · have hF_46 := ipos c_45 hF_44
          clear hF_44
          have h9 := Option.some.inj hF_46
          subst h9
          obtain ⟨q_47, vq_47, hRq_47, hSq_47⟩ := hE.2.2.2.2 _ (List.mem_of_getElem? (i := 23) rfl)
          exact vx_throwS hx hb hfl (own := RX11) (cls := "java/lang/IllegalArgumentException") (text := "a byte is none of the tape's") (names := ["java/lang/RuntimeException", "java/lang/Exception"]) (A := A) hown (by decide +kernel) (by decide +kernel) (hts (.classLink RX11 95 "java/lang/IllegalArgumentException") wq_925) (hts (.initialized "java/lang/IllegalArgumentException") wq_17) hRq_47 (g_bad hN (fun w h => hts w (wx_99 w h)) (by decide +kernel) (g_badB hN (List.mem_of_getElem? (i := 0) rfl))) (by decide +kernel) hE.2.1 hE.2.2.1 hS (hl.1.trans hml.symm) dX11_feed_42 dX11_feed_45 dX11_feed_46 dX11_feed_48 dX11_feed_51 (fun x hx => (htab x hx).elim) (by decide) (by decide) (Nat.le_of_ble_eq_true rfl) (Nat.le_of_ble_eq_true rfl) hlocks (g_thr hP (hDD _) hS XN_1) hS.2.2 (Nat.le_of_ble_eq_true rfl) (Nat.le_of_ble_eq_true rfl)
    · have hF_51 := ineg c_9 hF_8
      clear hF_8
      exact Jj_2  T hF_51 _ _ hP hS ls (lv_sub hl [] rfl)

theorem dX11_sound_0 : decode cX11_sound 0 = .ok (.aload_n 0, 1) := by decide +kernel
theorem dX11_sound_1 : decode cX11_sound 1 = .ok (.getfield 162, 3) := by decide +kernel
theorem dX11_sound_4 : decode cX11_sound 4 = .ok (.ifCond .ne 5, 3) := by decide +kernel
theorem dX11_sound_7 : decode cX11_sound 7 = .ok (.iconst 1, 1) := by decide +kernel
theorem dX11_sound_8 : decode cX11_sound 8 = .ok (.ireturn, 1) := by decide +kernel
theorem dX11_sound_9 : decode cX11_sound 9 = .ok (.aload_n 0, 1) := by decide +kernel
theorem dX11_sound_10 : decode cX11_sound 10 = .ok (.getfield 39, 3) := by decide +kernel
theorem dX11_sound_13 : decode cX11_sound 13 = .ok (.getfield 283, 3) := by decide +kernel
theorem dX11_sound_16 : decode cX11_sound 16 = .ok (.invokevirtual 287, 3) := by decide +kernel
theorem dX11_sound_19 : decode cX11_sound 19 = .ok (.ifCond .eq 36, 3) := by decide +kernel
theorem dX11_sound_22 : decode cX11_sound 22 = .ok (.aload_n 0, 1) := by decide +kernel
theorem dX11_sound_23 : decode cX11_sound 23 = .ok (.getfield 39, 3) := by decide +kernel
theorem dX11_sound_26 : decode cX11_sound 26 = .ok (.getfield 127, 3) := by decide +kernel
theorem dX11_sound_29 : decode cX11_sound 29 = .ok (.aload_n 0, 1) := by decide +kernel
theorem dX11_sound_30 : decode cX11_sound 30 = .ok (.getfield 39, 3) := by decide +kernel
theorem dX11_sound_33 : decode cX11_sound 33 = .ok (.getfield 158, 3) := by decide +kernel
theorem dX11_sound_36 : decode cX11_sound 36 = .ok (.invokevirtual 292, 3) := by decide +kernel
theorem dX11_sound_39 : decode cX11_sound 39 = .ok (.ifCond .eq 16, 3) := by decide +kernel
theorem dX11_sound_42 : decode cX11_sound 42 = .ok (.aload_n 0, 1) := by decide +kernel
theorem dX11_sound_43 : decode cX11_sound 43 = .ok (.getfield 39, 3) := by decide +kernel
theorem dX11_sound_46 : decode cX11_sound 46 = .ok (.getfield 146, 3) := by decide +kernel
theorem dX11_sound_49 : decode cX11_sound 49 = .ok (.invokevirtual 296, 3) := by decide +kernel
theorem dX11_sound_52 : decode cX11_sound 52 = .ok (.ifCond .ne 5, 3) := by decide +kernel
theorem dX11_sound_55 : decode cX11_sound 55 = .ok (.iconst 0, 1) := by decide +kernel
theorem dX11_sound_56 : decode cX11_sound 56 = .ok (.ireturn, 1) := by decide +kernel
theorem dX11_sound_57 : decode cX11_sound 57 = .ok (.aload_n 0, 1) := by decide +kernel
theorem dX11_sound_58 : decode cX11_sound 58 = .ok (.getfield 178, 3) := by decide +kernel
theorem dX11_sound_61 : decode cX11_sound 61 = .ok (.ifCond .ne 5, 3) := by decide +kernel
theorem dX11_sound_64 : decode cX11_sound 64 = .ok (.iconst 1, 1) := by decide +kernel
theorem dX11_sound_65 : decode cX11_sound 65 = .ok (.ireturn, 1) := by decide +kernel
theorem dX11_sound_66 : decode cX11_sound 66 = .ok (.aload_n 0, 1) := by decide +kernel
theorem dX11_sound_67 : decode cX11_sound 67 = .ok (.getfield 60, 3) := by decide +kernel
theorem dX11_sound_70 : decode cX11_sound 70 = .ok (.aload_n 0, 1) := by decide +kernel
theorem dX11_sound_71 : decode cX11_sound 71 = .ok (.getfield 39, 3) := by decide +kernel
theorem dX11_sound_74 : decode cX11_sound 74 = .ok (.getfield 158, 3) := by decide +kernel
theorem dX11_sound_77 : decode cX11_sound 77 = .ok (.iconst 0, 1) := by decide +kernel
theorem dX11_sound_78 : decode cX11_sound 78 = .ok (.iaload, 1) := by decide +kernel
theorem dX11_sound_79 : decode cX11_sound 79 = .ok (.invokevirtual 299, 3) := by decide +kernel
theorem dX11_sound_82 : decode cX11_sound 82 = .ok (.ifCond .eq 27, 3) := by decide +kernel
theorem dX11_sound_85 : decode cX11_sound 85 = .ok (.aload_n 0, 1) := by decide +kernel
theorem dX11_sound_86 : decode cX11_sound 86 = .ok (.getfield 60, 3) := by decide +kernel
theorem dX11_sound_89 : decode cX11_sound 89 = .ok (.getfield 195, 3) := by decide +kernel
theorem dX11_sound_92 : decode cX11_sound 92 = .ok (.ifCond .ne 13, 3) := by decide +kernel
theorem dX11_sound_95 : decode cX11_sound 95 = .ok (.aload_n 0, 1) := by decide +kernel
theorem dX11_sound_96 : decode cX11_sound 96 = .ok (.getfield 69, 3) := by decide +kernel
theorem dX11_sound_99 : decode cX11_sound 99 = .ok (.invokevirtual 302, 3) := by decide +kernel
theorem dX11_sound_102 : decode cX11_sound 102 = .ok (.ifCond .eq 7, 3) := by decide +kernel
theorem dX11_sound_105 : decode cX11_sound 105 = .ok (.iconst 1, 1) := by decide +kernel
theorem dX11_sound_106 : decode cX11_sound 106 = .ok (.goto 4, 3) := by decide +kernel
theorem dX11_sound_109 : decode cX11_sound 109 = .ok (.iconst 0, 1) := by decide +kernel
theorem dX11_sound_110 : decode cX11_sound 110 = .ok (.ireturn, 1) := by decide +kernel
def F_X11_sound  (T : TS) : HA :=
  if ((T.1 0).1 7) = 0 then (
    some ((0, 1), T)
  ) else (
    (F_X1_isInOrder T.1).bind fun u_4 =>
    bnd (((mrg (fun j => j == 7) T.1 u_4.2, T.2) : TS)) fun σ_6 =>
    if u_4.1 = 0 then (
      some ((0, 0), σ_6)
    ) else (
      (F_X0_isWhole σ_6.1).bind fun u_11 =>
      bnd (((mrg (fun j => j == 4 || j == 5) σ_6.1 u_11.2, σ_6.2) : TS)) fun σ_13 =>
      if u_11.1 = 0 then (
        some ((0, 0), σ_13)
      ) else (
        (F_X9_isFaithful σ_13.1).bind fun u_18 =>
        bnd (((mrg (fun j => j == 6) σ_13.1 u_18.2, σ_13.2) : TS)) fun σ_20 =>
        if u_18.1 = 0 then (
          some ((0, 0), σ_20)
        ) else (
          if ((σ_20.1 0).1 8) = 0 then (
            some ((0, 1), σ_20)
          ) else (
            (F_X6_isTree ((σ_20.1 4).2.1 0 (0 : Int32).toNatClampNeg) σ_20.1).bind fun u_28 =>
            bnd (((mrg (fun j => j == 9) σ_20.1 u_28.2, σ_20.2) : TS)) fun σ_30 =>
            if u_28.1 = 0 then (
              some ((0, 0), σ_30)
            ) else (
              if ((σ_30.1 9).1 10) = 0 then (
                (F_X3_waits σ_30.1).bind fun u_37 =>
                bnd (((mrg (fun j => j == 10 || j == 9 || j == 8 || j == 4 || j == 5 || j == 6 || j == 7) σ_30.1 u_37.2, σ_30.2) : TS)) fun σ_39 =>
                if u_37.1 = 0 then (
                  some ((0, 0), σ_39)
                ) else (
                  some ((0, 1), σ_39)
                )
              ) else (
                some ((0, 1), σ_30)
              )
            )
          )
        )
      )
    )
  )
set_option maxHeartbeats 8000000 in
set_option maxRecDepth 100000 in
theorem h_X11_sound (l : Launch) (dC : Nat → ClassId) (dI : Nat → Nat → Nat) (cB cC cI cJ cZ cP : ClassId) (oA : Nat → Nat) (rA : Nat → Nat → Nat) (og om : Option Nat) (sz : Nat)  (T : TS) (res : (Int32 × Int32) × TS) (hF : F_X11_sound  T = some res) : Met l yX11_sound (g_ws yX11_sound cX11_sound 1 (some .boolean)) ({ frames := 7, cells := 0, slots := 0, locals := 178 }) (va_Pc [.ref (oA 0)] (g_B (dC, dI) [(cB, .byte), (cC, .char), (cI, .int), (cJ, .long), (cZ, .boolean), (cP, .object "StoryHouse$Play")] sz (b_H cB cC cI cJ cZ cP oA rA T og om) g_0)) (va_Qi (fun r (_ : Unit) => res.1.1 = 0 ∧ r = res.1.2) (g_Bo (dC, dI) (va_A (b_H cB cC cI cJ cZ cP oA rA T og om) sz) (fun (_ : Unit) => (b_H cB cC cI cJ cZ cP oA rA res.2 og om))) (va_A (b_H cB cC cI cJ cZ cP oA rA T og om) sz)) 0 0 (va_A (b_H cB cC cI cJ cZ cP oA rA T og om) sz) := by
  refine Met.ofW (cc := cX11_sound) (maxL := 1) (ret := (some .boolean)) (by decide) rfl ?_
  intro p e s m args below meth c s₁ B hml hv
  obtain ⟨rfl, hsz, hP, hK, hD0, hE, hX⟩ := hv
  have hx := B.exec
  have hb := B.bytes
  have hr := B.returns
  have hts0 := atoms_spec (ws := g_ws yX11_sound cX11_sound 1 (some .boolean)) B.pre
  have hts : ∀ w ∈ lw_good, w.before ([.ref (oA 0)] : List Value).toArray s = true := fun w z => hts0 w (List.mem_cons_of_mem _ z)
  have hown : s.vm.findClass RX11 = some m.cls := findClass_of_methodNamed B.named
  have hlocks := B.notSynchronized
  subst hsz
  have hD1 := hD0.self (sz := s.heap.size)
  generalize hAe : va_A (b_H cB cC cI cJ cZ cP oA rA T og om) s.heap.size = A at hD1 hE hX ⊢
  have hA : ∀ q : Nat, s.heap.size ≤ q → A q := fun q z => by rw [← hAe]; exact Or.inr z
  have hDD : ∀ T : TS, va_D A (b_H cB cC cI cJ cZ cP oA rA T og om) := fun T9 => va_D_fst bH_fst hD1
  have hN := hE.1
  have hS : va_S A s.heap s.heap [] := va_S.rf
  have hl := lv_entry ([.ref (oA 0)]) (n := 1) (Nat.le_of_ble_eq_true rfl)
  rw [lg_entry_eq]
  generalize (lg_sl ([.ref (oA 0)]) ++ List.replicate (1 - (lg_sl ([.ref (oA 0)])).length) Slot.unset).toArray = ls at hl ⊢
  have hl : lv_has ls 1 [(0, .ref (oA 0))] := hl
  unfold F_X11_sound at hF
  refine lv_aload_n hx hb dX11_sound_0 rfl (lv_at hl 0 rfl) ?_
  refine va_get (D := (dC, dI)) (ci := 11) (v := .int ((T.1 0).1 7)) (C := RX11) (T := TX11) (N := 19) hx hb hts ii_X11 hown hK hP 0 rfl rfl 7 (by decide) (hts (.fieldLink RX11 162 "StoryHouse" "built" "Z") wq_310) (fun _ h9 => h9) rfl dX11_sound_1 ?_
  refine lv_if_ne (tgt := 9) hx hb dX11_sound_4 (by decide) (fun c_1 => ?_) (fun c_1 => ?_)
  · have hF_3 := ineg c_1 hF
    clear hF
    refine lv_aload_n hx hb dX11_sound_9 rfl (lv_at hl 0 rfl) ?_
    refine va_get (D := (dC, dI)) (ci := 11) (v := .ref (oA 4)) (C := RX11) (T := TX11) (N := 19) hx hb hts ii_X11 hown hK hP 0 rfl rfl 5 (by decide) (hts (.fieldLink RX11 39 "StoryHouse" "story" "LStoryHouse$Story;") wq_308) (fun _ h9 => h9) rfl dX11_sound_10 ?_
    refine va_get (D := (dC, dI)) (ci := 7) (v := .ref (oA 7)) (C := RX7) (T := TX7) (N := 19) hx hb hts ii_X7 hown hK hP 22 rfl rfl 18 (by decide) (hts (.fieldLink RX11 283 "StoryHouse$Story" "dictionary" "LStoryHouse$Dictionary;") wq_201) (fun _ h9 => h9) rfl dX11_sound_13 ?_
    obtain ⟨u_4, hu_4, hF_5⟩ := Option.bind_eq_some_iff.mp hF_3
    clear hF_3
    have hPc := bx_P (bs := (b_HL cB cC cI cJ cZ cP oA rA T og om)) (bs' := [b_d cB cC cI cJ cZ oA rA T.1]) (ws' := (b_d cB cC cI cJ cZ oA rA T.1)) hP fl_H fl_1 [8] rfl
    have hDc := bx_D (bs := (b_HL cB cC cI cJ cZ cP oA rA T og om)) (bs' := [b_d cB cC cI cJ cZ oA rA T.1]) (ws' := (b_d cB cC cI cJ cZ oA rA T.1)) (hDD T) fl_H fl_1 [8] (by decide +kernel) rfl
    have hFc := bx_F (bs := (b_HL cB cC cI cJ cZ cP oA rA T og om)) (bs' := [b_d cB cC cI cJ cZ oA rA T.1]) (wc := (b_d cB cC cI cJ cZ oA rA T.1)) (hDD T) hS hA fl_H fl_1 [8] rfl
    refine g_ofi (wc := (b_d cB cC cI cJ cZ oA rA T.1)) (wr := (b_h cB cC cI cJ cZ cP oA rA T.1 ++ b_b cB cC cI cJ cZ oA rA T.1 ++ b_ga cB cC cI cJ cZ oA rA T.1 og ++ b_ma cB cC cI cJ cZ oA rA T.1 om ++ b_w cB cC cI cJ cZ oA rA T.1 ++ b_s cB cC cI cJ cZ oA rA T.1 ++ b_c cB cC cI cJ cZ oA rA T.1 ++ b_t cB cC cI cJ cZ oA rA T.1 ++ b_o cB cC cI cJ cZ oA rA T.1 ++ b_p cB cC cI cJ cZ oA rA T.1 ++ b_k cB cC cI cJ cZ oA rA T.1 ++ b_e cB cC cI cJ cZ oA rA T.1 ++ b_s cB cC cI cJ cZ (fun r => oA (dN r)) (fun r => rA (dN r)) T.2.1 ++ b_c cB cC cI cJ cZ (fun r => oA (dN r)) (fun r => rA (dN r)) T.2.1 ++ b_t cB cC cI cJ cZ (fun r => oA (dN r)) (fun r => rA (dN r)) T.2.1 ++ b_d cB cC cI cJ cZ (fun r => oA (dN r)) (fun r => rA (dN r)) T.2.1 ++ b_p cB cC cI cJ cZ (fun r => oA (pN 18 r)) (fun r => rA (pN 18 r)) (fun _ => T.2.2.1 0) ++ b_p cB cC cI cJ cZ (fun r => oA (pN 19 r)) (fun r => rA (pN 19 r)) (fun _ => T.2.2.1 1) ++ b_p cB cC cI cJ cZ (fun r => oA (pN 20 r)) (fun r => rA (pN 20 r)) (fun _ => T.2.2.1 2) ++ b_p cB cC cI cJ cZ (fun r => oA (pN 21 r)) (fun r => rA (pN 21 r)) (fun _ => T.2.2.1 3) ++ b_p cB cC cI cJ cZ (fun r => oA (pN 22 r)) (fun r => rA (pN 22 r)) (fun _ => T.2.2.2 0) ++ b_p cB cC cI cJ cZ (fun r => oA (pN 23 r)) (fun r => rA (pN 23 r)) (fun _ => T.2.2.2 1) ++ b_p cB cC cI cJ cZ (fun r => oA (pN 24 r)) (fun r => rA (pN 24 r)) (fun _ => T.2.2.2 2) ++ b_p cB cC cI cJ cZ (fun r => oA (pN 25 r)) (fun r => rA (pN 25 r)) (fun _ => T.2.2.2 3) ++ b_p cB cC cI cJ cZ (fun r => oA (pN 26 r)) (fun r => rA (pN 26 r)) (fun _ => T.2.2.2 4) ++ b_p cB cC cI cJ cZ (fun r => oA (pN 27 r)) (fun r => rA (pN 27 r)) (fun _ => T.2.2.2 5))) hP (hDD T) hS hFc (bx_ix (b_HL cB cC cI cJ cZ cP oA rA T og om) [8]) (bx_ix (b_HL cB cC cI cJ cZ cP oA rA T og om) [0, 1, 2, 3, 4, 5, 6, 7, 9, 10, 11, 12, 13, 14, 15, 16, 17, 18, 19, 20, 21, 22, 23, 24, 25, 26]) (bx_C (bs := (b_HL cB cC cI cJ cZ cP oA rA T og om)) (bs' := [b_d cB cC cI cJ cZ oA rA T.1]) (is := [8]) fl_H fl_1 rfl) (bx_C (bs := (b_HL cB cC cI cJ cZ cP oA rA T og om)) (bs' := [b_h cB cC cI cJ cZ cP oA rA T.1, b_b cB cC cI cJ cZ oA rA T.1, b_ga cB cC cI cJ cZ oA rA T.1 og, b_ma cB cC cI cJ cZ oA rA T.1 om, b_w cB cC cI cJ cZ oA rA T.1, b_s cB cC cI cJ cZ oA rA T.1, b_c cB cC cI cJ cZ oA rA T.1, b_t cB cC cI cJ cZ oA rA T.1, b_o cB cC cI cJ cZ oA rA T.1, b_p cB cC cI cJ cZ oA rA T.1, b_k cB cC cI cJ cZ oA rA T.1, b_e cB cC cI cJ cZ oA rA T.1, b_s cB cC cI cJ cZ (fun r => oA (dN r)) (fun r => rA (dN r)) T.2.1, b_c cB cC cI cJ cZ (fun r => oA (dN r)) (fun r => rA (dN r)) T.2.1, b_t cB cC cI cJ cZ (fun r => oA (dN r)) (fun r => rA (dN r)) T.2.1, b_d cB cC cI cJ cZ (fun r => oA (dN r)) (fun r => rA (dN r)) T.2.1, b_p cB cC cI cJ cZ (fun r => oA (pN 18 r)) (fun r => rA (pN 18 r)) (fun _ => T.2.2.1 0), b_p cB cC cI cJ cZ (fun r => oA (pN 19 r)) (fun r => rA (pN 19 r)) (fun _ => T.2.2.1 1), b_p cB cC cI cJ cZ (fun r => oA (pN 20 r)) (fun r => rA (pN 20 r)) (fun _ => T.2.2.1 2), b_p cB cC cI cJ cZ (fun r => oA (pN 21 r)) (fun r => rA (pN 21 r)) (fun _ => T.2.2.1 3), b_p cB cC cI cJ cZ (fun r => oA (pN 22 r)) (fun r => rA (pN 22 r)) (fun _ => T.2.2.2 0), b_p cB cC cI cJ cZ (fun r => oA (pN 23 r)) (fun r => rA (pN 23 r)) (fun _ => T.2.2.2 1), b_p cB cC cI cJ cZ (fun r => oA (pN 24 r)) (fun r => rA (pN 24 r)) (fun _ => T.2.2.2 2), b_p cB cC cI cJ cZ (fun r => oA (pN 25 r)) (fun r => rA (pN 25 r)) (fun _ => T.2.2.2 3), b_p cB cC cI cJ cZ (fun r => oA (pN 26 r)) (fun r => rA (pN 26 r)) (fun _ => T.2.2.2 4), b_p cB cC cI cJ cZ (fun r => oA (pN 27 r)) (fun r => rA (pN 27 r)) (fun _ => T.2.2.2 5)]) (is := [0, 1, 2, 3, 4, 5, 6, 7, 9, 10, 11, 12, 13, 14, 15, 16, 17, 18, 19, 20, 21, 22, 23, 24, 25, 26]) fl_H fl_26 rfl) (bx_n (by decide +kernel)) (bx_d (by decide +kernel)) (va_runV (As := []) (rest := []) ⟨hx, hb, hml, hown, hts⟩ (k_X1_isInOrder l dC dI cB cC cI cJ cZ cP oA rA s.heap.size T.1 _ hu_4) (cwV 0 hts (g_gV wq_884 wq_885 wq_886 wq_8 wq_887) rfl rfl rfl (by decide +kernel) ⟨Nat.le_of_ble_eq_true rfl, Nat.le_of_ble_eq_true rfl⟩) (g_preV g_bl0 hK hPc hDc hS hE hFc g_to0 (q0 := 0) (ci := 1) rfl rfl) rfl rfl hl.1 rfl (lv_room (Nat.le_of_ble_eq_true rfl)) dX11_sound_16 ⟨Nat.le_of_ble_eq_true rfl, Nat.le_of_ble_eq_true rfl⟩) (fun r9 u9 H locs hw9 hP' hD' hS => ?_)
    clear hPc hDc hFc
    subst hw9
    obtain ⟨σ_6, eσ_6, hF_7⟩ := bnd_e hF_5
    clear hF_5
    have hP : va_P (dC, dI) vwCl (b_H cB cC cI cJ cZ cP oA rA σ_6 og om) H := by rw [eσ_6]; exact bx_P (bs := [b_h cB cC cI cJ cZ cP oA rA T.1, b_b cB cC cI cJ cZ oA rA T.1, b_ga cB cC cI cJ cZ oA rA T.1 og, b_ma cB cC cI cJ cZ oA rA T.1 om, b_w cB cC cI cJ cZ oA rA T.1, b_s cB cC cI cJ cZ oA rA T.1, b_c cB cC cI cJ cZ oA rA T.1, b_t cB cC cI cJ cZ oA rA T.1, b_o cB cC cI cJ cZ oA rA T.1, b_p cB cC cI cJ cZ oA rA T.1, b_k cB cC cI cJ cZ oA rA T.1, b_e cB cC cI cJ cZ oA rA T.1, b_s cB cC cI cJ cZ (fun r => oA (dN r)) (fun r => rA (dN r)) T.2.1, b_c cB cC cI cJ cZ (fun r => oA (dN r)) (fun r => rA (dN r)) T.2.1, b_t cB cC cI cJ cZ (fun r => oA (dN r)) (fun r => rA (dN r)) T.2.1, b_d cB cC cI cJ cZ (fun r => oA (dN r)) (fun r => rA (dN r)) T.2.1, b_p cB cC cI cJ cZ (fun r => oA (pN 18 r)) (fun r => rA (pN 18 r)) (fun _ => T.2.2.1 0), b_p cB cC cI cJ cZ (fun r => oA (pN 19 r)) (fun r => rA (pN 19 r)) (fun _ => T.2.2.1 1), b_p cB cC cI cJ cZ (fun r => oA (pN 20 r)) (fun r => rA (pN 20 r)) (fun _ => T.2.2.1 2), b_p cB cC cI cJ cZ (fun r => oA (pN 21 r)) (fun r => rA (pN 21 r)) (fun _ => T.2.2.1 3), b_p cB cC cI cJ cZ (fun r => oA (pN 22 r)) (fun r => rA (pN 22 r)) (fun _ => T.2.2.2 0), b_p cB cC cI cJ cZ (fun r => oA (pN 23 r)) (fun r => rA (pN 23 r)) (fun _ => T.2.2.2 1), b_p cB cC cI cJ cZ (fun r => oA (pN 24 r)) (fun r => rA (pN 24 r)) (fun _ => T.2.2.2 2), b_p cB cC cI cJ cZ (fun r => oA (pN 25 r)) (fun r => rA (pN 25 r)) (fun _ => T.2.2.2 3), b_p cB cC cI cJ cZ (fun r => oA (pN 26 r)) (fun r => rA (pN 26 r)) (fun _ => T.2.2.2 4), b_p cB cC cI cJ cZ (fun r => oA (pN 27 r)) (fun r => rA (pN 27 r)) (fun _ => T.2.2.2 5)] ++ [b_d cB cC cI cJ cZ oA rA u_4.2]) (bs' := (b_HL cB cC cI cJ cZ cP oA rA ((mrg (fun j => j == 7) T.1 u_4.2, T.2) : TS) og om)) hP' (fl_a fl_26 fl_1) fl_H [0, 1, 2, 3, 4, 5, 6, 7, 26, 8, 9, 10, 11, 12, 13, 14, 15, 16, 17, 18, 19, 20, 21, 22, 23, 24, 25] rfl
    clear hP' hD'
    refine lv_if_eq (tgt := 55) hx hb dX11_sound_19 (by decide) (fun c_8 => ?_) (fun c_8 => ?_)
    · have hF_9 := ipos c_8 hF_7
      clear hF_7
      refine lv_iconst (v := 0) hx hb dX11_sound_55 (by decide +kernel) ?_
      have h9 := Option.some.inj hF_9
      subst h9
      exact W.zret (v := 0) hx hb hr (by decide +kernel) (fun t ht hW => ⟨⟨0, (), rfl, ⟨rfl, rfl⟩, m_end ht hP, hDD _⟩, hS.F ht⟩) hS.2.2 dX11_sound_56
    · have hF_10 := ineg c_8 hF_7
      clear hF_7
      refine lv_aload_n hx hb dX11_sound_22 rfl (lv_at hl 0 rfl) ?_
      refine va_get (D := (dC, dI)) (ci := 11) (v := .ref (oA 4)) (C := RX11) (T := TX11) (N := 19) hx hb hts ii_X11 hown hK hP 0 rfl rfl 5 (by decide) (hts (.fieldLink RX11 39 "StoryHouse" "story" "LStoryHouse$Story;") wq_308) (fun _ h9 => h9) rfl dX11_sound_23 ?_
      refine va_get (D := (dC, dI)) (ci := 7) (v := .ref (oA 5)) (C := RX7) (T := TX7) (N := 19) hx hb hts ii_X7 hown hK hP 22 rfl rfl 16 (by decide) (hts (.fieldLink RX11 127 "StoryHouse$Story" "code" "LStoryHouse$Code;") wq_193) (fun _ h9 => h9) rfl dX11_sound_26 ?_
      refine lv_aload_n hx hb dX11_sound_29 rfl (lv_at hl 0 rfl) ?_
      refine va_get (D := (dC, dI)) (ci := 11) (v := .ref (oA 4)) (C := RX11) (T := TX11) (N := 19) hx hb hts ii_X11 hown hK hP 0 rfl rfl 5 (by decide) (hts (.fieldLink RX11 39 "StoryHouse" "story" "LStoryHouse$Story;") wq_308) (fun _ h9 => h9) rfl dX11_sound_30 ?_
      refine va_get (D := (dC, dI)) (ci := 7) (v := .ref (rA 4 0)) (C := RX7) (T := TX7) (N := 19) hx hb hts ii_X7 hown hK hP 22 rfl rfl 0 (by decide) (hts (.fieldLink RX11 158 "StoryHouse$Story" "counts" "[I") wq_153) (fun _ h9 => h9) rfl dX11_sound_33 ?_
      obtain ⟨u_11, hu_11, hF_12⟩ := Option.bind_eq_some_iff.mp hF_10
      clear hF_10
      have hPc := bx_P (bs := (b_HL cB cC cI cJ cZ cP oA rA σ_6 og om)) (bs' := [b_s cB cC cI cJ cZ oA rA σ_6.1, b_c cB cC cI cJ cZ oA rA σ_6.1]) (ws' := (b_s cB cC cI cJ cZ oA rA σ_6.1 ++ b_c cB cC cI cJ cZ oA rA σ_6.1)) hP fl_H fl_2 [5, 6] rfl
      have hDc := bx_D (bs := (b_HL cB cC cI cJ cZ cP oA rA σ_6 og om)) (bs' := [b_s cB cC cI cJ cZ oA rA σ_6.1, b_c cB cC cI cJ cZ oA rA σ_6.1]) (ws' := (b_s cB cC cI cJ cZ oA rA σ_6.1 ++ b_c cB cC cI cJ cZ oA rA σ_6.1)) (hDD σ_6) fl_H fl_2 [5, 6] (by decide +kernel) rfl
      have hFc := bx_F (bs := (b_HL cB cC cI cJ cZ cP oA rA σ_6 og om)) (bs' := [b_s cB cC cI cJ cZ oA rA σ_6.1, b_c cB cC cI cJ cZ oA rA σ_6.1]) (wc := (b_s cB cC cI cJ cZ oA rA σ_6.1 ++ b_c cB cC cI cJ cZ oA rA σ_6.1)) (hDD σ_6) hS hA fl_H fl_2 [5, 6] rfl
      refine g_ofi (wc := (b_s cB cC cI cJ cZ oA rA σ_6.1 ++ b_c cB cC cI cJ cZ oA rA σ_6.1)) (wr := (b_h cB cC cI cJ cZ cP oA rA σ_6.1 ++ b_b cB cC cI cJ cZ oA rA σ_6.1 ++ b_ga cB cC cI cJ cZ oA rA σ_6.1 og ++ b_ma cB cC cI cJ cZ oA rA σ_6.1 om ++ b_w cB cC cI cJ cZ oA rA σ_6.1 ++ b_t cB cC cI cJ cZ oA rA σ_6.1 ++ b_d cB cC cI cJ cZ oA rA σ_6.1 ++ b_o cB cC cI cJ cZ oA rA σ_6.1 ++ b_p cB cC cI cJ cZ oA rA σ_6.1 ++ b_k cB cC cI cJ cZ oA rA σ_6.1 ++ b_e cB cC cI cJ cZ oA rA σ_6.1 ++ b_s cB cC cI cJ cZ (fun r => oA (dN r)) (fun r => rA (dN r)) σ_6.2.1 ++ b_c cB cC cI cJ cZ (fun r => oA (dN r)) (fun r => rA (dN r)) σ_6.2.1 ++ b_t cB cC cI cJ cZ (fun r => oA (dN r)) (fun r => rA (dN r)) σ_6.2.1 ++ b_d cB cC cI cJ cZ (fun r => oA (dN r)) (fun r => rA (dN r)) σ_6.2.1 ++ b_p cB cC cI cJ cZ (fun r => oA (pN 18 r)) (fun r => rA (pN 18 r)) (fun _ => σ_6.2.2.1 0) ++ b_p cB cC cI cJ cZ (fun r => oA (pN 19 r)) (fun r => rA (pN 19 r)) (fun _ => σ_6.2.2.1 1) ++ b_p cB cC cI cJ cZ (fun r => oA (pN 20 r)) (fun r => rA (pN 20 r)) (fun _ => σ_6.2.2.1 2) ++ b_p cB cC cI cJ cZ (fun r => oA (pN 21 r)) (fun r => rA (pN 21 r)) (fun _ => σ_6.2.2.1 3) ++ b_p cB cC cI cJ cZ (fun r => oA (pN 22 r)) (fun r => rA (pN 22 r)) (fun _ => σ_6.2.2.2 0) ++ b_p cB cC cI cJ cZ (fun r => oA (pN 23 r)) (fun r => rA (pN 23 r)) (fun _ => σ_6.2.2.2 1) ++ b_p cB cC cI cJ cZ (fun r => oA (pN 24 r)) (fun r => rA (pN 24 r)) (fun _ => σ_6.2.2.2 2) ++ b_p cB cC cI cJ cZ (fun r => oA (pN 25 r)) (fun r => rA (pN 25 r)) (fun _ => σ_6.2.2.2 3) ++ b_p cB cC cI cJ cZ (fun r => oA (pN 26 r)) (fun r => rA (pN 26 r)) (fun _ => σ_6.2.2.2 4) ++ b_p cB cC cI cJ cZ (fun r => oA (pN 27 r)) (fun r => rA (pN 27 r)) (fun _ => σ_6.2.2.2 5))) hP (hDD σ_6) hS hFc (bx_ix (b_HL cB cC cI cJ cZ cP oA rA σ_6 og om) [5, 6]) (bx_ix (b_HL cB cC cI cJ cZ cP oA rA σ_6 og om) [0, 1, 2, 3, 4, 7, 8, 9, 10, 11, 12, 13, 14, 15, 16, 17, 18, 19, 20, 21, 22, 23, 24, 25, 26]) (bx_C (bs := (b_HL cB cC cI cJ cZ cP oA rA σ_6 og om)) (bs' := [b_s cB cC cI cJ cZ oA rA σ_6.1, b_c cB cC cI cJ cZ oA rA σ_6.1]) (is := [5, 6]) fl_H fl_2 rfl) (bx_C (bs := (b_HL cB cC cI cJ cZ cP oA rA σ_6 og om)) (bs' := [b_h cB cC cI cJ cZ cP oA rA σ_6.1, b_b cB cC cI cJ cZ oA rA σ_6.1, b_ga cB cC cI cJ cZ oA rA σ_6.1 og, b_ma cB cC cI cJ cZ oA rA σ_6.1 om, b_w cB cC cI cJ cZ oA rA σ_6.1, b_t cB cC cI cJ cZ oA rA σ_6.1, b_d cB cC cI cJ cZ oA rA σ_6.1, b_o cB cC cI cJ cZ oA rA σ_6.1, b_p cB cC cI cJ cZ oA rA σ_6.1, b_k cB cC cI cJ cZ oA rA σ_6.1, b_e cB cC cI cJ cZ oA rA σ_6.1, b_s cB cC cI cJ cZ (fun r => oA (dN r)) (fun r => rA (dN r)) σ_6.2.1, b_c cB cC cI cJ cZ (fun r => oA (dN r)) (fun r => rA (dN r)) σ_6.2.1, b_t cB cC cI cJ cZ (fun r => oA (dN r)) (fun r => rA (dN r)) σ_6.2.1, b_d cB cC cI cJ cZ (fun r => oA (dN r)) (fun r => rA (dN r)) σ_6.2.1, b_p cB cC cI cJ cZ (fun r => oA (pN 18 r)) (fun r => rA (pN 18 r)) (fun _ => σ_6.2.2.1 0), b_p cB cC cI cJ cZ (fun r => oA (pN 19 r)) (fun r => rA (pN 19 r)) (fun _ => σ_6.2.2.1 1), b_p cB cC cI cJ cZ (fun r => oA (pN 20 r)) (fun r => rA (pN 20 r)) (fun _ => σ_6.2.2.1 2), b_p cB cC cI cJ cZ (fun r => oA (pN 21 r)) (fun r => rA (pN 21 r)) (fun _ => σ_6.2.2.1 3), b_p cB cC cI cJ cZ (fun r => oA (pN 22 r)) (fun r => rA (pN 22 r)) (fun _ => σ_6.2.2.2 0), b_p cB cC cI cJ cZ (fun r => oA (pN 23 r)) (fun r => rA (pN 23 r)) (fun _ => σ_6.2.2.2 1), b_p cB cC cI cJ cZ (fun r => oA (pN 24 r)) (fun r => rA (pN 24 r)) (fun _ => σ_6.2.2.2 2), b_p cB cC cI cJ cZ (fun r => oA (pN 25 r)) (fun r => rA (pN 25 r)) (fun _ => σ_6.2.2.2 3), b_p cB cC cI cJ cZ (fun r => oA (pN 26 r)) (fun r => rA (pN 26 r)) (fun _ => σ_6.2.2.2 4), b_p cB cC cI cJ cZ (fun r => oA (pN 27 r)) (fun r => rA (pN 27 r)) (fun _ => σ_6.2.2.2 5)]) (is := [0, 1, 2, 3, 4, 7, 8, 9, 10, 11, 12, 13, 14, 15, 16, 17, 18, 19, 20, 21, 22, 23, 24, 25, 26]) fl_H fl_25 rfl) (bx_n (by decide +kernel)) (bx_d (by decide +kernel)) (va_runV (As := [.ref (rA 4 0)]) (rest := []) ⟨hx, hb, hml, hown, hts⟩ (k_X0_isWhole l dC dI cB cC cI cJ cZ cP oA rA H.size σ_6.1 _ hu_11) (cwV 1 hts (g_gV wq_888 wq_889 wq_890 wq_6 wq_891) rfl rfl rfl (by decide +kernel) ⟨Nat.le_of_ble_eq_true rfl, Nat.le_of_ble_eq_true rfl⟩) (g_preV g_bl0 hK hPc hDc hS hE hFc g_to0 (q0 := 17) (ci := 0) rfl rfl) rfl rfl hl.1 rfl (lv_room (Nat.le_of_ble_eq_true rfl)) dX11_sound_36 ⟨Nat.le_of_ble_eq_true rfl, Nat.le_of_ble_eq_true rfl⟩) (fun r9 u9 H locs hw9 hP' hD' hS => ?_)
      clear hPc hDc hFc
      subst hw9
      obtain ⟨σ_13, eσ_13, hF_14⟩ := bnd_e hF_12
      clear hF_12
      have hP : va_P (dC, dI) vwCl (b_H cB cC cI cJ cZ cP oA rA σ_13 og om) H := by rw [eσ_13]; exact bx_P (bs := [b_h cB cC cI cJ cZ cP oA rA σ_6.1, b_b cB cC cI cJ cZ oA rA σ_6.1, b_ga cB cC cI cJ cZ oA rA σ_6.1 og, b_ma cB cC cI cJ cZ oA rA σ_6.1 om, b_w cB cC cI cJ cZ oA rA σ_6.1, b_t cB cC cI cJ cZ oA rA σ_6.1, b_d cB cC cI cJ cZ oA rA σ_6.1, b_o cB cC cI cJ cZ oA rA σ_6.1, b_p cB cC cI cJ cZ oA rA σ_6.1, b_k cB cC cI cJ cZ oA rA σ_6.1, b_e cB cC cI cJ cZ oA rA σ_6.1, b_s cB cC cI cJ cZ (fun r => oA (dN r)) (fun r => rA (dN r)) σ_6.2.1, b_c cB cC cI cJ cZ (fun r => oA (dN r)) (fun r => rA (dN r)) σ_6.2.1, b_t cB cC cI cJ cZ (fun r => oA (dN r)) (fun r => rA (dN r)) σ_6.2.1, b_d cB cC cI cJ cZ (fun r => oA (dN r)) (fun r => rA (dN r)) σ_6.2.1, b_p cB cC cI cJ cZ (fun r => oA (pN 18 r)) (fun r => rA (pN 18 r)) (fun _ => σ_6.2.2.1 0), b_p cB cC cI cJ cZ (fun r => oA (pN 19 r)) (fun r => rA (pN 19 r)) (fun _ => σ_6.2.2.1 1), b_p cB cC cI cJ cZ (fun r => oA (pN 20 r)) (fun r => rA (pN 20 r)) (fun _ => σ_6.2.2.1 2), b_p cB cC cI cJ cZ (fun r => oA (pN 21 r)) (fun r => rA (pN 21 r)) (fun _ => σ_6.2.2.1 3), b_p cB cC cI cJ cZ (fun r => oA (pN 22 r)) (fun r => rA (pN 22 r)) (fun _ => σ_6.2.2.2 0), b_p cB cC cI cJ cZ (fun r => oA (pN 23 r)) (fun r => rA (pN 23 r)) (fun _ => σ_6.2.2.2 1), b_p cB cC cI cJ cZ (fun r => oA (pN 24 r)) (fun r => rA (pN 24 r)) (fun _ => σ_6.2.2.2 2), b_p cB cC cI cJ cZ (fun r => oA (pN 25 r)) (fun r => rA (pN 25 r)) (fun _ => σ_6.2.2.2 3), b_p cB cC cI cJ cZ (fun r => oA (pN 26 r)) (fun r => rA (pN 26 r)) (fun _ => σ_6.2.2.2 4), b_p cB cC cI cJ cZ (fun r => oA (pN 27 r)) (fun r => rA (pN 27 r)) (fun _ => σ_6.2.2.2 5)] ++ [b_s cB cC cI cJ cZ oA rA u_11.2, b_c cB cC cI cJ cZ oA rA u_11.2]) (bs' := (b_HL cB cC cI cJ cZ cP oA rA ((mrg (fun j => j == 4 || j == 5) σ_6.1 u_11.2, σ_6.2) : TS) og om)) hP' (fl_a fl_25 fl_2) fl_H [0, 1, 2, 3, 4, 25, 26, 5, 6, 7, 8, 9, 10, 11, 12, 13, 14, 15, 16, 17, 18, 19, 20, 21, 22, 23, 24] rfl
      clear hP' hD'
      refine lv_if_eq (tgt := 55) hx hb dX11_sound_39 (by decide) (fun c_15 => ?_) (fun c_15 => ?_)
      · have hF_16 := ipos c_15 hF_14
        clear hF_14
        refine lv_iconst (v := 0) hx hb dX11_sound_55 (by decide +kernel) ?_
        have h9 := Option.some.inj hF_16
        subst h9
        exact W.zret (v := 0) hx hb hr (by decide +kernel) (fun t ht hW => ⟨⟨0, (), rfl, ⟨rfl, rfl⟩, m_end ht hP, hDD _⟩, hS.F ht⟩) hS.2.2 dX11_sound_56
      · have hF_17 := ineg c_15 hF_14
        clear hF_14
        refine lv_aload_n hx hb dX11_sound_42 rfl (lv_at hl 0 rfl) ?_
        refine va_get (D := (dC, dI)) (ci := 11) (v := .ref (oA 4)) (C := RX11) (T := TX11) (N := 19) hx hb hts ii_X11 hown hK hP 0 rfl rfl 5 (by decide) (hts (.fieldLink RX11 39 "StoryHouse" "story" "LStoryHouse$Story;") wq_308) (fun _ h9 => h9) rfl dX11_sound_43 ?_
        refine va_get (D := (dC, dI)) (ci := 7) (v := .ref (oA 6)) (C := RX7) (T := TX7) (N := 19) hx hb hts ii_X7 hown hK hP 22 rfl rfl 17 (by decide) (hts (.fieldLink RX11 146 "StoryHouse$Story" "texts" "LStoryHouse$Texts;") wq_197) (fun _ h9 => h9) rfl dX11_sound_46 ?_
        obtain ⟨u_18, hu_18, hF_19⟩ := Option.bind_eq_some_iff.mp hF_17
        clear hF_17
        have hPc := bx_P (bs := (b_HL cB cC cI cJ cZ cP oA rA σ_13 og om)) (bs' := [b_t cB cC cI cJ cZ oA rA σ_13.1]) (ws' := (b_t cB cC cI cJ cZ oA rA σ_13.1)) hP fl_H fl_1 [7] rfl
        have hDc := bx_D (bs := (b_HL cB cC cI cJ cZ cP oA rA σ_13 og om)) (bs' := [b_t cB cC cI cJ cZ oA rA σ_13.1]) (ws' := (b_t cB cC cI cJ cZ oA rA σ_13.1)) (hDD σ_13) fl_H fl_1 [7] (by decide +kernel) rfl
        have hFc := bx_F (bs := (b_HL cB cC cI cJ cZ cP oA rA σ_13 og om)) (bs' := [b_t cB cC cI cJ cZ oA rA σ_13.1]) (wc := (b_t cB cC cI cJ cZ oA rA σ_13.1)) (hDD σ_13) hS hA fl_H fl_1 [7] rfl
        refine g_ofi (wc := (b_t cB cC cI cJ cZ oA rA σ_13.1)) (wr := (b_h cB cC cI cJ cZ cP oA rA σ_13.1 ++ b_b cB cC cI cJ cZ oA rA σ_13.1 ++ b_ga cB cC cI cJ cZ oA rA σ_13.1 og ++ b_ma cB cC cI cJ cZ oA rA σ_13.1 om ++ b_w cB cC cI cJ cZ oA rA σ_13.1 ++ b_s cB cC cI cJ cZ oA rA σ_13.1 ++ b_c cB cC cI cJ cZ oA rA σ_13.1 ++ b_d cB cC cI cJ cZ oA rA σ_13.1 ++ b_o cB cC cI cJ cZ oA rA σ_13.1 ++ b_p cB cC cI cJ cZ oA rA σ_13.1 ++ b_k cB cC cI cJ cZ oA rA σ_13.1 ++ b_e cB cC cI cJ cZ oA rA σ_13.1 ++ b_s cB cC cI cJ cZ (fun r => oA (dN r)) (fun r => rA (dN r)) σ_13.2.1 ++ b_c cB cC cI cJ cZ (fun r => oA (dN r)) (fun r => rA (dN r)) σ_13.2.1 ++ b_t cB cC cI cJ cZ (fun r => oA (dN r)) (fun r => rA (dN r)) σ_13.2.1 ++ b_d cB cC cI cJ cZ (fun r => oA (dN r)) (fun r => rA (dN r)) σ_13.2.1 ++ b_p cB cC cI cJ cZ (fun r => oA (pN 18 r)) (fun r => rA (pN 18 r)) (fun _ => σ_13.2.2.1 0) ++ b_p cB cC cI cJ cZ (fun r => oA (pN 19 r)) (fun r => rA (pN 19 r)) (fun _ => σ_13.2.2.1 1) ++ b_p cB cC cI cJ cZ (fun r => oA (pN 20 r)) (fun r => rA (pN 20 r)) (fun _ => σ_13.2.2.1 2) ++ b_p cB cC cI cJ cZ (fun r => oA (pN 21 r)) (fun r => rA (pN 21 r)) (fun _ => σ_13.2.2.1 3) ++ b_p cB cC cI cJ cZ (fun r => oA (pN 22 r)) (fun r => rA (pN 22 r)) (fun _ => σ_13.2.2.2 0) ++ b_p cB cC cI cJ cZ (fun r => oA (pN 23 r)) (fun r => rA (pN 23 r)) (fun _ => σ_13.2.2.2 1) ++ b_p cB cC cI cJ cZ (fun r => oA (pN 24 r)) (fun r => rA (pN 24 r)) (fun _ => σ_13.2.2.2 2) ++ b_p cB cC cI cJ cZ (fun r => oA (pN 25 r)) (fun r => rA (pN 25 r)) (fun _ => σ_13.2.2.2 3) ++ b_p cB cC cI cJ cZ (fun r => oA (pN 26 r)) (fun r => rA (pN 26 r)) (fun _ => σ_13.2.2.2 4) ++ b_p cB cC cI cJ cZ (fun r => oA (pN 27 r)) (fun r => rA (pN 27 r)) (fun _ => σ_13.2.2.2 5))) hP (hDD σ_13) hS hFc (bx_ix (b_HL cB cC cI cJ cZ cP oA rA σ_13 og om) [7]) (bx_ix (b_HL cB cC cI cJ cZ cP oA rA σ_13 og om) [0, 1, 2, 3, 4, 5, 6, 8, 9, 10, 11, 12, 13, 14, 15, 16, 17, 18, 19, 20, 21, 22, 23, 24, 25, 26]) (bx_C (bs := (b_HL cB cC cI cJ cZ cP oA rA σ_13 og om)) (bs' := [b_t cB cC cI cJ cZ oA rA σ_13.1]) (is := [7]) fl_H fl_1 rfl) (bx_C (bs := (b_HL cB cC cI cJ cZ cP oA rA σ_13 og om)) (bs' := [b_h cB cC cI cJ cZ cP oA rA σ_13.1, b_b cB cC cI cJ cZ oA rA σ_13.1, b_ga cB cC cI cJ cZ oA rA σ_13.1 og, b_ma cB cC cI cJ cZ oA rA σ_13.1 om, b_w cB cC cI cJ cZ oA rA σ_13.1, b_s cB cC cI cJ cZ oA rA σ_13.1, b_c cB cC cI cJ cZ oA rA σ_13.1, b_d cB cC cI cJ cZ oA rA σ_13.1, b_o cB cC cI cJ cZ oA rA σ_13.1, b_p cB cC cI cJ cZ oA rA σ_13.1, b_k cB cC cI cJ cZ oA rA σ_13.1, b_e cB cC cI cJ cZ oA rA σ_13.1, b_s cB cC cI cJ cZ (fun r => oA (dN r)) (fun r => rA (dN r)) σ_13.2.1, b_c cB cC cI cJ cZ (fun r => oA (dN r)) (fun r => rA (dN r)) σ_13.2.1, b_t cB cC cI cJ cZ (fun r => oA (dN r)) (fun r => rA (dN r)) σ_13.2.1, b_d cB cC cI cJ cZ (fun r => oA (dN r)) (fun r => rA (dN r)) σ_13.2.1, b_p cB cC cI cJ cZ (fun r => oA (pN 18 r)) (fun r => rA (pN 18 r)) (fun _ => σ_13.2.2.1 0), b_p cB cC cI cJ cZ (fun r => oA (pN 19 r)) (fun r => rA (pN 19 r)) (fun _ => σ_13.2.2.1 1), b_p cB cC cI cJ cZ (fun r => oA (pN 20 r)) (fun r => rA (pN 20 r)) (fun _ => σ_13.2.2.1 2), b_p cB cC cI cJ cZ (fun r => oA (pN 21 r)) (fun r => rA (pN 21 r)) (fun _ => σ_13.2.2.1 3), b_p cB cC cI cJ cZ (fun r => oA (pN 22 r)) (fun r => rA (pN 22 r)) (fun _ => σ_13.2.2.2 0), b_p cB cC cI cJ cZ (fun r => oA (pN 23 r)) (fun r => rA (pN 23 r)) (fun _ => σ_13.2.2.2 1), b_p cB cC cI cJ cZ (fun r => oA (pN 24 r)) (fun r => rA (pN 24 r)) (fun _ => σ_13.2.2.2 2), b_p cB cC cI cJ cZ (fun r => oA (pN 25 r)) (fun r => rA (pN 25 r)) (fun _ => σ_13.2.2.2 3), b_p cB cC cI cJ cZ (fun r => oA (pN 26 r)) (fun r => rA (pN 26 r)) (fun _ => σ_13.2.2.2 4), b_p cB cC cI cJ cZ (fun r => oA (pN 27 r)) (fun r => rA (pN 27 r)) (fun _ => σ_13.2.2.2 5)]) (is := [0, 1, 2, 3, 4, 5, 6, 8, 9, 10, 11, 12, 13, 14, 15, 16, 17, 18, 19, 20, 21, 22, 23, 24, 25, 26]) fl_H fl_26 rfl) (bx_n (by decide +kernel)) (bx_d (by decide +kernel)) (va_runV (As := []) (rest := []) ⟨hx, hb, hml, hown, hts⟩ (k_X9_isFaithful l dC dI cB cC cI cJ cZ cP oA rA H.size σ_13.1 _ hu_18) (cwV 0 hts (g_gV wq_895 wq_896 wq_897 wq_7 wq_898) rfl rfl rfl (by decide +kernel) ⟨Nat.le_of_ble_eq_true rfl, Nat.le_of_ble_eq_true rfl⟩) (g_preV g_bl0 hK hPc hDc hS hE hFc g_to0 (q0 := 0) (ci := 9) rfl rfl) rfl rfl hl.1 rfl (lv_room (Nat.le_of_ble_eq_true rfl)) dX11_sound_49 ⟨Nat.le_of_ble_eq_true rfl, Nat.le_of_ble_eq_true rfl⟩) (fun r9 u9 H locs hw9 hP' hD' hS => ?_)
        clear hPc hDc hFc
        subst hw9
        obtain ⟨σ_20, eσ_20, hF_21⟩ := bnd_e hF_19
        clear hF_19
        have hP : va_P (dC, dI) vwCl (b_H cB cC cI cJ cZ cP oA rA σ_20 og om) H := by rw [eσ_20]; exact bx_P (bs := [b_h cB cC cI cJ cZ cP oA rA σ_13.1, b_b cB cC cI cJ cZ oA rA σ_13.1, b_ga cB cC cI cJ cZ oA rA σ_13.1 og, b_ma cB cC cI cJ cZ oA rA σ_13.1 om, b_w cB cC cI cJ cZ oA rA σ_13.1, b_s cB cC cI cJ cZ oA rA σ_13.1, b_c cB cC cI cJ cZ oA rA σ_13.1, b_d cB cC cI cJ cZ oA rA σ_13.1, b_o cB cC cI cJ cZ oA rA σ_13.1, b_p cB cC cI cJ cZ oA rA σ_13.1, b_k cB cC cI cJ cZ oA rA σ_13.1, b_e cB cC cI cJ cZ oA rA σ_13.1, b_s cB cC cI cJ cZ (fun r => oA (dN r)) (fun r => rA (dN r)) σ_13.2.1, b_c cB cC cI cJ cZ (fun r => oA (dN r)) (fun r => rA (dN r)) σ_13.2.1, b_t cB cC cI cJ cZ (fun r => oA (dN r)) (fun r => rA (dN r)) σ_13.2.1, b_d cB cC cI cJ cZ (fun r => oA (dN r)) (fun r => rA (dN r)) σ_13.2.1, b_p cB cC cI cJ cZ (fun r => oA (pN 18 r)) (fun r => rA (pN 18 r)) (fun _ => σ_13.2.2.1 0), b_p cB cC cI cJ cZ (fun r => oA (pN 19 r)) (fun r => rA (pN 19 r)) (fun _ => σ_13.2.2.1 1), b_p cB cC cI cJ cZ (fun r => oA (pN 20 r)) (fun r => rA (pN 20 r)) (fun _ => σ_13.2.2.1 2), b_p cB cC cI cJ cZ (fun r => oA (pN 21 r)) (fun r => rA (pN 21 r)) (fun _ => σ_13.2.2.1 3), b_p cB cC cI cJ cZ (fun r => oA (pN 22 r)) (fun r => rA (pN 22 r)) (fun _ => σ_13.2.2.2 0), b_p cB cC cI cJ cZ (fun r => oA (pN 23 r)) (fun r => rA (pN 23 r)) (fun _ => σ_13.2.2.2 1), b_p cB cC cI cJ cZ (fun r => oA (pN 24 r)) (fun r => rA (pN 24 r)) (fun _ => σ_13.2.2.2 2), b_p cB cC cI cJ cZ (fun r => oA (pN 25 r)) (fun r => rA (pN 25 r)) (fun _ => σ_13.2.2.2 3), b_p cB cC cI cJ cZ (fun r => oA (pN 26 r)) (fun r => rA (pN 26 r)) (fun _ => σ_13.2.2.2 4), b_p cB cC cI cJ cZ (fun r => oA (pN 27 r)) (fun r => rA (pN 27 r)) (fun _ => σ_13.2.2.2 5)] ++ [b_t cB cC cI cJ cZ oA rA u_18.2]) (bs' := (b_HL cB cC cI cJ cZ cP oA rA ((mrg (fun j => j == 6) σ_13.1 u_18.2, σ_13.2) : TS) og om)) hP' (fl_a fl_26 fl_1) fl_H [0, 1, 2, 3, 4, 5, 6, 26, 7, 8, 9, 10, 11, 12, 13, 14, 15, 16, 17, 18, 19, 20, 21, 22, 23, 24, 25] rfl
        clear hP' hD'
        refine lv_if_ne (tgt := 57) hx hb dX11_sound_52 (by decide) (fun c_22 => ?_) (fun c_22 => ?_)
        · have hF_24 := ineg c_22 hF_21
          clear hF_21
          refine lv_aload_n hx hb dX11_sound_57 rfl (lv_at hl 0 rfl) ?_
          refine va_get (D := (dC, dI)) (ci := 11) (v := .int ((σ_20.1 0).1 8)) (C := RX11) (T := TX11) (N := 19) hx hb hts ii_X11 hown hK hP 0 rfl rfl 8 (by decide) (hts (.fieldLink RX11 178 "StoryHouse" "playing" "Z") wq_311) (fun _ h9 => h9) rfl dX11_sound_58 ?_
          refine lv_if_ne (tgt := 66) hx hb dX11_sound_61 (by decide) (fun c_25 => ?_) (fun c_25 => ?_)
          · have hF_27 := ineg c_25 hF_24
            clear hF_24
            refine lv_aload_n hx hb dX11_sound_66 rfl (lv_at hl 0 rfl) ?_
            refine va_get (D := (dC, dI)) (ci := 11) (v := .ref (oA 9)) (C := RX11) (T := TX11) (N := 19) hx hb hts ii_X11 hown hK hP 0 rfl rfl 11 (by decide) (hts (.fieldLink RX11 60 "StoryHouse" "play" "LStoryHouse$Play;") wq_314) (fun _ h9 => h9) rfl dX11_sound_67 ?_
            refine lv_aload_n hx hb dX11_sound_70 rfl (lv_at hl 0 rfl) ?_
            refine va_get (D := (dC, dI)) (ci := 11) (v := .ref (oA 4)) (C := RX11) (T := TX11) (N := 19) hx hb hts ii_X11 hown hK hP 0 rfl rfl 5 (by decide) (hts (.fieldLink RX11 39 "StoryHouse" "story" "LStoryHouse$Story;") wq_308) (fun _ h9 => h9) rfl dX11_sound_71 ?_
            refine va_get (D := (dC, dI)) (ci := 7) (v := .ref (rA 4 0)) (C := RX7) (T := TX7) (N := 19) hx hb hts ii_X7 hown hK hP 22 rfl rfl 0 (by decide) (hts (.fieldLink RX11 158 "StoryHouse$Story" "counts" "[I") wq_153) (fun _ h9 => h9) rfl dX11_sound_74 ?_
            refine lv_iconst (v := 0) hx hb dX11_sound_77 (by decide +kernel) ?_
            refine va_iald (f := (σ_20.1 4).2.1 0) hx hb hK hP 23 2 rfl rfl (vp_in_iff.mpr (by decide +kernel)) dX11_sound_78 ?_
            obtain ⟨u_28, hu_28, hF_29⟩ := Option.bind_eq_some_iff.mp hF_27
            clear hF_27
            have hPc := bx_P (bs := (b_HL cB cC cI cJ cZ cP oA rA σ_20 og om)) (bs' := [b_p cB cC cI cJ cZ oA rA σ_20.1]) (ws' := (b_p cB cC cI cJ cZ oA rA σ_20.1)) hP fl_H fl_1 [10] rfl
            have hDc := bx_D (bs := (b_HL cB cC cI cJ cZ cP oA rA σ_20 og om)) (bs' := [b_p cB cC cI cJ cZ oA rA σ_20.1]) (ws' := (b_p cB cC cI cJ cZ oA rA σ_20.1)) (hDD σ_20) fl_H fl_1 [10] (by decide +kernel) rfl
            have hFc := bx_F (bs := (b_HL cB cC cI cJ cZ cP oA rA σ_20 og om)) (bs' := [b_p cB cC cI cJ cZ oA rA σ_20.1]) (wc := (b_p cB cC cI cJ cZ oA rA σ_20.1)) (hDD σ_20) hS hA fl_H fl_1 [10] rfl
            refine g_ofi (wc := (b_p cB cC cI cJ cZ oA rA σ_20.1)) (wr := (b_h cB cC cI cJ cZ cP oA rA σ_20.1 ++ b_b cB cC cI cJ cZ oA rA σ_20.1 ++ b_ga cB cC cI cJ cZ oA rA σ_20.1 og ++ b_ma cB cC cI cJ cZ oA rA σ_20.1 om ++ b_w cB cC cI cJ cZ oA rA σ_20.1 ++ b_s cB cC cI cJ cZ oA rA σ_20.1 ++ b_c cB cC cI cJ cZ oA rA σ_20.1 ++ b_t cB cC cI cJ cZ oA rA σ_20.1 ++ b_d cB cC cI cJ cZ oA rA σ_20.1 ++ b_o cB cC cI cJ cZ oA rA σ_20.1 ++ b_k cB cC cI cJ cZ oA rA σ_20.1 ++ b_e cB cC cI cJ cZ oA rA σ_20.1 ++ b_s cB cC cI cJ cZ (fun r => oA (dN r)) (fun r => rA (dN r)) σ_20.2.1 ++ b_c cB cC cI cJ cZ (fun r => oA (dN r)) (fun r => rA (dN r)) σ_20.2.1 ++ b_t cB cC cI cJ cZ (fun r => oA (dN r)) (fun r => rA (dN r)) σ_20.2.1 ++ b_d cB cC cI cJ cZ (fun r => oA (dN r)) (fun r => rA (dN r)) σ_20.2.1 ++ b_p cB cC cI cJ cZ (fun r => oA (pN 18 r)) (fun r => rA (pN 18 r)) (fun _ => σ_20.2.2.1 0) ++ b_p cB cC cI cJ cZ (fun r => oA (pN 19 r)) (fun r => rA (pN 19 r)) (fun _ => σ_20.2.2.1 1) ++ b_p cB cC cI cJ cZ (fun r => oA (pN 20 r)) (fun r => rA (pN 20 r)) (fun _ => σ_20.2.2.1 2) ++ b_p cB cC cI cJ cZ (fun r => oA (pN 21 r)) (fun r => rA (pN 21 r)) (fun _ => σ_20.2.2.1 3) ++ b_p cB cC cI cJ cZ (fun r => oA (pN 22 r)) (fun r => rA (pN 22 r)) (fun _ => σ_20.2.2.2 0) ++ b_p cB cC cI cJ cZ (fun r => oA (pN 23 r)) (fun r => rA (pN 23 r)) (fun _ => σ_20.2.2.2 1) ++ b_p cB cC cI cJ cZ (fun r => oA (pN 24 r)) (fun r => rA (pN 24 r)) (fun _ => σ_20.2.2.2 2) ++ b_p cB cC cI cJ cZ (fun r => oA (pN 25 r)) (fun r => rA (pN 25 r)) (fun _ => σ_20.2.2.2 3) ++ b_p cB cC cI cJ cZ (fun r => oA (pN 26 r)) (fun r => rA (pN 26 r)) (fun _ => σ_20.2.2.2 4) ++ b_p cB cC cI cJ cZ (fun r => oA (pN 27 r)) (fun r => rA (pN 27 r)) (fun _ => σ_20.2.2.2 5))) hP (hDD σ_20) hS hFc (bx_ix (b_HL cB cC cI cJ cZ cP oA rA σ_20 og om) [10]) (bx_ix (b_HL cB cC cI cJ cZ cP oA rA σ_20 og om) [0, 1, 2, 3, 4, 5, 6, 7, 8, 9, 11, 12, 13, 14, 15, 16, 17, 18, 19, 20, 21, 22, 23, 24, 25, 26]) (bx_C (bs := (b_HL cB cC cI cJ cZ cP oA rA σ_20 og om)) (bs' := [b_p cB cC cI cJ cZ oA rA σ_20.1]) (is := [10]) fl_H fl_1 rfl) (bx_C (bs := (b_HL cB cC cI cJ cZ cP oA rA σ_20 og om)) (bs' := [b_h cB cC cI cJ cZ cP oA rA σ_20.1, b_b cB cC cI cJ cZ oA rA σ_20.1, b_ga cB cC cI cJ cZ oA rA σ_20.1 og, b_ma cB cC cI cJ cZ oA rA σ_20.1 om, b_w cB cC cI cJ cZ oA rA σ_20.1, b_s cB cC cI cJ cZ oA rA σ_20.1, b_c cB cC cI cJ cZ oA rA σ_20.1, b_t cB cC cI cJ cZ oA rA σ_20.1, b_d cB cC cI cJ cZ oA rA σ_20.1, b_o cB cC cI cJ cZ oA rA σ_20.1, b_k cB cC cI cJ cZ oA rA σ_20.1, b_e cB cC cI cJ cZ oA rA σ_20.1, b_s cB cC cI cJ cZ (fun r => oA (dN r)) (fun r => rA (dN r)) σ_20.2.1, b_c cB cC cI cJ cZ (fun r => oA (dN r)) (fun r => rA (dN r)) σ_20.2.1, b_t cB cC cI cJ cZ (fun r => oA (dN r)) (fun r => rA (dN r)) σ_20.2.1, b_d cB cC cI cJ cZ (fun r => oA (dN r)) (fun r => rA (dN r)) σ_20.2.1, b_p cB cC cI cJ cZ (fun r => oA (pN 18 r)) (fun r => rA (pN 18 r)) (fun _ => σ_20.2.2.1 0), b_p cB cC cI cJ cZ (fun r => oA (pN 19 r)) (fun r => rA (pN 19 r)) (fun _ => σ_20.2.2.1 1), b_p cB cC cI cJ cZ (fun r => oA (pN 20 r)) (fun r => rA (pN 20 r)) (fun _ => σ_20.2.2.1 2), b_p cB cC cI cJ cZ (fun r => oA (pN 21 r)) (fun r => rA (pN 21 r)) (fun _ => σ_20.2.2.1 3), b_p cB cC cI cJ cZ (fun r => oA (pN 22 r)) (fun r => rA (pN 22 r)) (fun _ => σ_20.2.2.2 0), b_p cB cC cI cJ cZ (fun r => oA (pN 23 r)) (fun r => rA (pN 23 r)) (fun _ => σ_20.2.2.2 1), b_p cB cC cI cJ cZ (fun r => oA (pN 24 r)) (fun r => rA (pN 24 r)) (fun _ => σ_20.2.2.2 2), b_p cB cC cI cJ cZ (fun r => oA (pN 25 r)) (fun r => rA (pN 25 r)) (fun _ => σ_20.2.2.2 3), b_p cB cC cI cJ cZ (fun r => oA (pN 26 r)) (fun r => rA (pN 26 r)) (fun _ => σ_20.2.2.2 4), b_p cB cC cI cJ cZ (fun r => oA (pN 27 r)) (fun r => rA (pN 27 r)) (fun _ => σ_20.2.2.2 5)]) (is := [0, 1, 2, 3, 4, 5, 6, 7, 8, 9, 11, 12, 13, 14, 15, 16, 17, 18, 19, 20, 21, 22, 23, 24, 25, 26]) fl_H fl_26 rfl) (bx_n (by decide +kernel)) (bx_d (by decide +kernel)) (va_runV (As := [.int ((σ_20.1 4).2.1 0 (0 : Int32).toNatClampNeg)]) (rest := []) ⟨hx, hb, hml, hown, hts⟩ (k_X6_isTree l dC dI cB cC cI cJ cZ cP oA rA H.size ((σ_20.1 4).2.1 0 (0 : Int32).toNatClampNeg) σ_20.1 _ hu_28) (cwV 1 hts (g_gV wq_905 wq_906 wq_907 wq_10 wq_908) rfl rfl rfl (by decide +kernel) ⟨Nat.le_of_ble_eq_true rfl, Nat.le_of_ble_eq_true rfl⟩) (g_preV g_bl0 hK hPc hDc hS hE hFc g_to0 (q0 := 0) (ci := 6) rfl rfl) rfl rfl hl.1 rfl (lv_room (Nat.le_of_ble_eq_true rfl)) dX11_sound_79 ⟨Nat.le_of_ble_eq_true rfl, Nat.le_of_ble_eq_true rfl⟩) (fun r9 u9 H locs hw9 hP' hD' hS => ?_)
            clear hPc hDc hFc
            subst hw9
            obtain ⟨σ_30, eσ_30, hF_31⟩ := bnd_e hF_29
            clear hF_29
            have hP : va_P (dC, dI) vwCl (b_H cB cC cI cJ cZ cP oA rA σ_30 og om) H := by rw [eσ_30]; exact bx_P (bs := [b_h cB cC cI cJ cZ cP oA rA σ_20.1, b_b cB cC cI cJ cZ oA rA σ_20.1, b_ga cB cC cI cJ cZ oA rA σ_20.1 og, b_ma cB cC cI cJ cZ oA rA σ_20.1 om, b_w cB cC cI cJ cZ oA rA σ_20.1, b_s cB cC cI cJ cZ oA rA σ_20.1, b_c cB cC cI cJ cZ oA rA σ_20.1, b_t cB cC cI cJ cZ oA rA σ_20.1, b_d cB cC cI cJ cZ oA rA σ_20.1, b_o cB cC cI cJ cZ oA rA σ_20.1, b_k cB cC cI cJ cZ oA rA σ_20.1, b_e cB cC cI cJ cZ oA rA σ_20.1, b_s cB cC cI cJ cZ (fun r => oA (dN r)) (fun r => rA (dN r)) σ_20.2.1, b_c cB cC cI cJ cZ (fun r => oA (dN r)) (fun r => rA (dN r)) σ_20.2.1, b_t cB cC cI cJ cZ (fun r => oA (dN r)) (fun r => rA (dN r)) σ_20.2.1, b_d cB cC cI cJ cZ (fun r => oA (dN r)) (fun r => rA (dN r)) σ_20.2.1, b_p cB cC cI cJ cZ (fun r => oA (pN 18 r)) (fun r => rA (pN 18 r)) (fun _ => σ_20.2.2.1 0), b_p cB cC cI cJ cZ (fun r => oA (pN 19 r)) (fun r => rA (pN 19 r)) (fun _ => σ_20.2.2.1 1), b_p cB cC cI cJ cZ (fun r => oA (pN 20 r)) (fun r => rA (pN 20 r)) (fun _ => σ_20.2.2.1 2), b_p cB cC cI cJ cZ (fun r => oA (pN 21 r)) (fun r => rA (pN 21 r)) (fun _ => σ_20.2.2.1 3), b_p cB cC cI cJ cZ (fun r => oA (pN 22 r)) (fun r => rA (pN 22 r)) (fun _ => σ_20.2.2.2 0), b_p cB cC cI cJ cZ (fun r => oA (pN 23 r)) (fun r => rA (pN 23 r)) (fun _ => σ_20.2.2.2 1), b_p cB cC cI cJ cZ (fun r => oA (pN 24 r)) (fun r => rA (pN 24 r)) (fun _ => σ_20.2.2.2 2), b_p cB cC cI cJ cZ (fun r => oA (pN 25 r)) (fun r => rA (pN 25 r)) (fun _ => σ_20.2.2.2 3), b_p cB cC cI cJ cZ (fun r => oA (pN 26 r)) (fun r => rA (pN 26 r)) (fun _ => σ_20.2.2.2 4), b_p cB cC cI cJ cZ (fun r => oA (pN 27 r)) (fun r => rA (pN 27 r)) (fun _ => σ_20.2.2.2 5)] ++ [b_p cB cC cI cJ cZ oA rA u_28.2]) (bs' := (b_HL cB cC cI cJ cZ cP oA rA ((mrg (fun j => j == 9) σ_20.1 u_28.2, σ_20.2) : TS) og om)) hP' (fl_a fl_26 fl_1) fl_H [0, 1, 2, 3, 4, 5, 6, 7, 8, 9, 26, 10, 11, 12, 13, 14, 15, 16, 17, 18, 19, 20, 21, 22, 23, 24, 25] rfl
            clear hP' hD'
            refine lv_if_eq (tgt := 109) hx hb dX11_sound_82 (by decide) (fun c_32 => ?_) (fun c_32 => ?_)
            · have hF_33 := ipos c_32 hF_31
              clear hF_31
              refine lv_iconst (v := 0) hx hb dX11_sound_109 (by decide +kernel) ?_
              have h9 := Option.some.inj hF_33
              subst h9
              exact W.zret (v := 0) hx hb hr (by decide +kernel) (fun t ht hW => ⟨⟨0, (), rfl, ⟨rfl, rfl⟩, m_end ht hP, hDD _⟩, hS.F ht⟩) hS.2.2 dX11_sound_110
            · have hF_34 := ineg c_32 hF_31
              clear hF_31
              refine lv_aload_n hx hb dX11_sound_85 rfl (lv_at hl 0 rfl) ?_
              refine va_get (D := (dC, dI)) (ci := 11) (v := .ref (oA 9)) (C := RX11) (T := TX11) (N := 19) hx hb hts ii_X11 hown hK hP 0 rfl rfl 11 (by decide) (hts (.fieldLink RX11 60 "StoryHouse" "play" "LStoryHouse$Play;") wq_314) (fun _ h9 => h9) rfl dX11_sound_86 ?_
              refine va_get (D := (dC, dI)) (ci := 6) (v := .int ((σ_30.1 9).1 10)) (C := RX6) (T := TX6) (N := 12) hx hb hts ii_X6 hown hK hP 55 rfl rfl 10 (by decide) (hts (.fieldLink RX11 195 "StoryHouse$Play" "ended" "I") wq_248) (fun _ h9 => h9) rfl dX11_sound_89 ?_
              refine lv_if_ne (tgt := 105) hx hb dX11_sound_92 (by decide) (fun c_35 => ?_) (fun c_35 => ?_)
              · have hF_44 := ineg c_35 hF_34
                clear hF_34
                refine lv_iconst (v := 1) hx hb dX11_sound_105 (by decide +kernel) ?_
                refine lv_goto (tgt := 110) hx hb dX11_sound_106 (by decide) ?_
                have h9 := Option.some.inj hF_44
                subst h9
                exact W.zret (v := 1) hx hb hr (by decide +kernel) (fun t ht hW => ⟨⟨1, (), rfl, ⟨rfl, rfl⟩, m_end ht hP, hDD _⟩, hS.F ht⟩) hS.2.2 dX11_sound_110
              · have hF_36 := ipos c_35 hF_34
                clear hF_34
                refine lv_aload_n hx hb dX11_sound_95 rfl (lv_at hl 0 rfl) ?_
                refine va_get (D := (dC, dI)) (ci := 11) (v := .ref (oA 10)) (C := RX11) (T := TX11) (N := 19) hx hb hts ii_X11 hown hK hP 0 rfl rfl 12 (by decide) (hts (.fieldLink RX11 69 "StoryHouse" "machine" "LStoryHouse$Machine;") wq_315) (fun _ h9 => h9) rfl dX11_sound_96 ?_
                obtain ⟨u_37, hu_37, hF_38⟩ := Option.bind_eq_some_iff.mp hF_36
                clear hF_36
                have hPc := bx_P (bs := (b_HL cB cC cI cJ cZ cP oA rA σ_30 og om)) (bs' := [b_k cB cC cI cJ cZ oA rA σ_30.1, b_p cB cC cI cJ cZ oA rA σ_30.1, b_o cB cC cI cJ cZ oA rA σ_30.1, b_s cB cC cI cJ cZ oA rA σ_30.1, b_c cB cC cI cJ cZ oA rA σ_30.1, b_t cB cC cI cJ cZ oA rA σ_30.1, b_d cB cC cI cJ cZ oA rA σ_30.1]) (ws' := (b_k cB cC cI cJ cZ oA rA σ_30.1 ++ b_p cB cC cI cJ cZ oA rA σ_30.1 ++ b_o cB cC cI cJ cZ oA rA σ_30.1 ++ b_s cB cC cI cJ cZ oA rA σ_30.1 ++ b_c cB cC cI cJ cZ oA rA σ_30.1 ++ b_t cB cC cI cJ cZ oA rA σ_30.1 ++ b_d cB cC cI cJ cZ oA rA σ_30.1)) hP fl_H fl_7 [11, 10, 9, 5, 6, 7, 8] rfl
                have hDc := bx_D (bs := (b_HL cB cC cI cJ cZ cP oA rA σ_30 og om)) (bs' := [b_k cB cC cI cJ cZ oA rA σ_30.1, b_p cB cC cI cJ cZ oA rA σ_30.1, b_o cB cC cI cJ cZ oA rA σ_30.1, b_s cB cC cI cJ cZ oA rA σ_30.1, b_c cB cC cI cJ cZ oA rA σ_30.1, b_t cB cC cI cJ cZ oA rA σ_30.1, b_d cB cC cI cJ cZ oA rA σ_30.1]) (ws' := (b_k cB cC cI cJ cZ oA rA σ_30.1 ++ b_p cB cC cI cJ cZ oA rA σ_30.1 ++ b_o cB cC cI cJ cZ oA rA σ_30.1 ++ b_s cB cC cI cJ cZ oA rA σ_30.1 ++ b_c cB cC cI cJ cZ oA rA σ_30.1 ++ b_t cB cC cI cJ cZ oA rA σ_30.1 ++ b_d cB cC cI cJ cZ oA rA σ_30.1)) (hDD σ_30) fl_H fl_7 [11, 10, 9, 5, 6, 7, 8] (by decide +kernel) rfl
                have hFc := bx_F (bs := (b_HL cB cC cI cJ cZ cP oA rA σ_30 og om)) (bs' := [b_k cB cC cI cJ cZ oA rA σ_30.1, b_p cB cC cI cJ cZ oA rA σ_30.1, b_o cB cC cI cJ cZ oA rA σ_30.1, b_s cB cC cI cJ cZ oA rA σ_30.1, b_c cB cC cI cJ cZ oA rA σ_30.1, b_t cB cC cI cJ cZ oA rA σ_30.1, b_d cB cC cI cJ cZ oA rA σ_30.1]) (wc := (b_k cB cC cI cJ cZ oA rA σ_30.1 ++ b_p cB cC cI cJ cZ oA rA σ_30.1 ++ b_o cB cC cI cJ cZ oA rA σ_30.1 ++ b_s cB cC cI cJ cZ oA rA σ_30.1 ++ b_c cB cC cI cJ cZ oA rA σ_30.1 ++ b_t cB cC cI cJ cZ oA rA σ_30.1 ++ b_d cB cC cI cJ cZ oA rA σ_30.1)) (hDD σ_30) hS hA fl_H fl_7 [11, 10, 9, 5, 6, 7, 8] rfl
                refine g_ofi (wc := (b_k cB cC cI cJ cZ oA rA σ_30.1 ++ b_p cB cC cI cJ cZ oA rA σ_30.1 ++ b_o cB cC cI cJ cZ oA rA σ_30.1 ++ b_s cB cC cI cJ cZ oA rA σ_30.1 ++ b_c cB cC cI cJ cZ oA rA σ_30.1 ++ b_t cB cC cI cJ cZ oA rA σ_30.1 ++ b_d cB cC cI cJ cZ oA rA σ_30.1)) (wr := (b_h cB cC cI cJ cZ cP oA rA σ_30.1 ++ b_b cB cC cI cJ cZ oA rA σ_30.1 ++ b_ga cB cC cI cJ cZ oA rA σ_30.1 og ++ b_ma cB cC cI cJ cZ oA rA σ_30.1 om ++ b_w cB cC cI cJ cZ oA rA σ_30.1 ++ b_e cB cC cI cJ cZ oA rA σ_30.1 ++ b_s cB cC cI cJ cZ (fun r => oA (dN r)) (fun r => rA (dN r)) σ_30.2.1 ++ b_c cB cC cI cJ cZ (fun r => oA (dN r)) (fun r => rA (dN r)) σ_30.2.1 ++ b_t cB cC cI cJ cZ (fun r => oA (dN r)) (fun r => rA (dN r)) σ_30.2.1 ++ b_d cB cC cI cJ cZ (fun r => oA (dN r)) (fun r => rA (dN r)) σ_30.2.1 ++ b_p cB cC cI cJ cZ (fun r => oA (pN 18 r)) (fun r => rA (pN 18 r)) (fun _ => σ_30.2.2.1 0) ++ b_p cB cC cI cJ cZ (fun r => oA (pN 19 r)) (fun r => rA (pN 19 r)) (fun _ => σ_30.2.2.1 1) ++ b_p cB cC cI cJ cZ (fun r => oA (pN 20 r)) (fun r => rA (pN 20 r)) (fun _ => σ_30.2.2.1 2) ++ b_p cB cC cI cJ cZ (fun r => oA (pN 21 r)) (fun r => rA (pN 21 r)) (fun _ => σ_30.2.2.1 3) ++ b_p cB cC cI cJ cZ (fun r => oA (pN 22 r)) (fun r => rA (pN 22 r)) (fun _ => σ_30.2.2.2 0) ++ b_p cB cC cI cJ cZ (fun r => oA (pN 23 r)) (fun r => rA (pN 23 r)) (fun _ => σ_30.2.2.2 1) ++ b_p cB cC cI cJ cZ (fun r => oA (pN 24 r)) (fun r => rA (pN 24 r)) (fun _ => σ_30.2.2.2 2) ++ b_p cB cC cI cJ cZ (fun r => oA (pN 25 r)) (fun r => rA (pN 25 r)) (fun _ => σ_30.2.2.2 3) ++ b_p cB cC cI cJ cZ (fun r => oA (pN 26 r)) (fun r => rA (pN 26 r)) (fun _ => σ_30.2.2.2 4) ++ b_p cB cC cI cJ cZ (fun r => oA (pN 27 r)) (fun r => rA (pN 27 r)) (fun _ => σ_30.2.2.2 5))) hP (hDD σ_30) hS hFc (bx_ix (b_HL cB cC cI cJ cZ cP oA rA σ_30 og om) [11, 10, 9, 5, 6, 7, 8]) (bx_ix (b_HL cB cC cI cJ cZ cP oA rA σ_30 og om) [0, 1, 2, 3, 4, 12, 13, 14, 15, 16, 17, 18, 19, 20, 21, 22, 23, 24, 25, 26]) (bx_C (bs := (b_HL cB cC cI cJ cZ cP oA rA σ_30 og om)) (bs' := [b_k cB cC cI cJ cZ oA rA σ_30.1, b_p cB cC cI cJ cZ oA rA σ_30.1, b_o cB cC cI cJ cZ oA rA σ_30.1, b_s cB cC cI cJ cZ oA rA σ_30.1, b_c cB cC cI cJ cZ oA rA σ_30.1, b_t cB cC cI cJ cZ oA rA σ_30.1, b_d cB cC cI cJ cZ oA rA σ_30.1]) (is := [11, 10, 9, 5, 6, 7, 8]) fl_H fl_7 rfl) (bx_C (bs := (b_HL cB cC cI cJ cZ cP oA rA σ_30 og om)) (bs' := [b_h cB cC cI cJ cZ cP oA rA σ_30.1, b_b cB cC cI cJ cZ oA rA σ_30.1, b_ga cB cC cI cJ cZ oA rA σ_30.1 og, b_ma cB cC cI cJ cZ oA rA σ_30.1 om, b_w cB cC cI cJ cZ oA rA σ_30.1, b_e cB cC cI cJ cZ oA rA σ_30.1, b_s cB cC cI cJ cZ (fun r => oA (dN r)) (fun r => rA (dN r)) σ_30.2.1, b_c cB cC cI cJ cZ (fun r => oA (dN r)) (fun r => rA (dN r)) σ_30.2.1, b_t cB cC cI cJ cZ (fun r => oA (dN r)) (fun r => rA (dN r)) σ_30.2.1, b_d cB cC cI cJ cZ (fun r => oA (dN r)) (fun r => rA (dN r)) σ_30.2.1, b_p cB cC cI cJ cZ (fun r => oA (pN 18 r)) (fun r => rA (pN 18 r)) (fun _ => σ_30.2.2.1 0), b_p cB cC cI cJ cZ (fun r => oA (pN 19 r)) (fun r => rA (pN 19 r)) (fun _ => σ_30.2.2.1 1), b_p cB cC cI cJ cZ (fun r => oA (pN 20 r)) (fun r => rA (pN 20 r)) (fun _ => σ_30.2.2.1 2), b_p cB cC cI cJ cZ (fun r => oA (pN 21 r)) (fun r => rA (pN 21 r)) (fun _ => σ_30.2.2.1 3), b_p cB cC cI cJ cZ (fun r => oA (pN 22 r)) (fun r => rA (pN 22 r)) (fun _ => σ_30.2.2.2 0), b_p cB cC cI cJ cZ (fun r => oA (pN 23 r)) (fun r => rA (pN 23 r)) (fun _ => σ_30.2.2.2 1), b_p cB cC cI cJ cZ (fun r => oA (pN 24 r)) (fun r => rA (pN 24 r)) (fun _ => σ_30.2.2.2 2), b_p cB cC cI cJ cZ (fun r => oA (pN 25 r)) (fun r => rA (pN 25 r)) (fun _ => σ_30.2.2.2 3), b_p cB cC cI cJ cZ (fun r => oA (pN 26 r)) (fun r => rA (pN 26 r)) (fun _ => σ_30.2.2.2 4), b_p cB cC cI cJ cZ (fun r => oA (pN 27 r)) (fun r => rA (pN 27 r)) (fun _ => σ_30.2.2.2 5)]) (is := [0, 1, 2, 3, 4, 12, 13, 14, 15, 16, 17, 18, 19, 20, 21, 22, 23, 24, 25, 26]) fl_H fl_20 rfl) (bx_n (by decide +kernel)) (bx_d (by decide +kernel)) (va_runV (As := []) (rest := []) ⟨hx, hb, hml, hown, hts⟩ (k_X3_waits l dC dI cB cC cI cJ cZ cP oA rA H.size σ_30.1 _ hu_37) (cwV 0 hts (g_gV wq_912 wq_913 wq_914 wq_11 wq_915) rfl rfl rfl (by decide +kernel) ⟨Nat.le_of_ble_eq_true rfl, Nat.le_of_ble_eq_true rfl⟩) (g_preV g_bl0 hK hPc hDc hS hE hFc g_to0 (q0 := 0) (ci := 3) rfl rfl) rfl rfl hl.1 rfl (lv_room (Nat.le_of_ble_eq_true rfl)) dX11_sound_99 ⟨Nat.le_of_ble_eq_true rfl, Nat.le_of_ble_eq_true rfl⟩) (fun r9 u9 H locs hw9 hP' hD' hS => ?_)
                clear hPc hDc hFc
                subst hw9
                obtain ⟨σ_39, eσ_39, hF_40⟩ := bnd_e hF_38
                clear hF_38
                have hP : va_P (dC, dI) vwCl (b_H cB cC cI cJ cZ cP oA rA σ_39 og om) H := by rw [eσ_39]; exact bx_P (bs := [b_h cB cC cI cJ cZ cP oA rA σ_30.1, b_b cB cC cI cJ cZ oA rA σ_30.1, b_ga cB cC cI cJ cZ oA rA σ_30.1 og, b_ma cB cC cI cJ cZ oA rA σ_30.1 om, b_w cB cC cI cJ cZ oA rA σ_30.1, b_e cB cC cI cJ cZ oA rA σ_30.1, b_s cB cC cI cJ cZ (fun r => oA (dN r)) (fun r => rA (dN r)) σ_30.2.1, b_c cB cC cI cJ cZ (fun r => oA (dN r)) (fun r => rA (dN r)) σ_30.2.1, b_t cB cC cI cJ cZ (fun r => oA (dN r)) (fun r => rA (dN r)) σ_30.2.1, b_d cB cC cI cJ cZ (fun r => oA (dN r)) (fun r => rA (dN r)) σ_30.2.1, b_p cB cC cI cJ cZ (fun r => oA (pN 18 r)) (fun r => rA (pN 18 r)) (fun _ => σ_30.2.2.1 0), b_p cB cC cI cJ cZ (fun r => oA (pN 19 r)) (fun r => rA (pN 19 r)) (fun _ => σ_30.2.2.1 1), b_p cB cC cI cJ cZ (fun r => oA (pN 20 r)) (fun r => rA (pN 20 r)) (fun _ => σ_30.2.2.1 2), b_p cB cC cI cJ cZ (fun r => oA (pN 21 r)) (fun r => rA (pN 21 r)) (fun _ => σ_30.2.2.1 3), b_p cB cC cI cJ cZ (fun r => oA (pN 22 r)) (fun r => rA (pN 22 r)) (fun _ => σ_30.2.2.2 0), b_p cB cC cI cJ cZ (fun r => oA (pN 23 r)) (fun r => rA (pN 23 r)) (fun _ => σ_30.2.2.2 1), b_p cB cC cI cJ cZ (fun r => oA (pN 24 r)) (fun r => rA (pN 24 r)) (fun _ => σ_30.2.2.2 2), b_p cB cC cI cJ cZ (fun r => oA (pN 25 r)) (fun r => rA (pN 25 r)) (fun _ => σ_30.2.2.2 3), b_p cB cC cI cJ cZ (fun r => oA (pN 26 r)) (fun r => rA (pN 26 r)) (fun _ => σ_30.2.2.2 4), b_p cB cC cI cJ cZ (fun r => oA (pN 27 r)) (fun r => rA (pN 27 r)) (fun _ => σ_30.2.2.2 5)] ++ [b_k cB cC cI cJ cZ oA rA u_37.2, b_p cB cC cI cJ cZ oA rA u_37.2, b_o cB cC cI cJ cZ oA rA u_37.2, b_s cB cC cI cJ cZ oA rA u_37.2, b_c cB cC cI cJ cZ oA rA u_37.2, b_t cB cC cI cJ cZ oA rA u_37.2, b_d cB cC cI cJ cZ oA rA u_37.2]) (bs' := (b_HL cB cC cI cJ cZ cP oA rA ((mrg (fun j => j == 10 || j == 9 || j == 8 || j == 4 || j == 5 || j == 6 || j == 7) σ_30.1 u_37.2, σ_30.2) : TS) og om)) hP' (fl_a fl_20 fl_7) fl_H [0, 1, 2, 3, 4, 23, 24, 25, 26, 22, 21, 20, 5, 6, 7, 8, 9, 10, 11, 12, 13, 14, 15, 16, 17, 18, 19] rfl
                clear hP' hD'
                refine lv_if_eq (tgt := 109) hx hb dX11_sound_102 (by decide) (fun c_41 => ?_) (fun c_41 => ?_)
                · have hF_42 := ipos c_41 hF_40
                  clear hF_40
                  refine lv_iconst (v := 0) hx hb dX11_sound_109 (by decide +kernel) ?_
                  have h9 := Option.some.inj hF_42
                  subst h9
                  exact W.zret (v := 0) hx hb hr (by decide +kernel) (fun t ht hW => ⟨⟨0, (), rfl, ⟨rfl, rfl⟩, m_end ht hP, hDD _⟩, hS.F ht⟩) hS.2.2 dX11_sound_110
                · have hF_43 := ineg c_41 hF_40
                  clear hF_40
                  refine lv_iconst (v := 1) hx hb dX11_sound_105 (by decide +kernel) ?_
                  refine lv_goto (tgt := 110) hx hb dX11_sound_106 (by decide) ?_
                  have h9 := Option.some.inj hF_43
                  subst h9
                  exact W.zret (v := 1) hx hb hr (by decide +kernel) (fun t ht hW => ⟨⟨1, (), rfl, ⟨rfl, rfl⟩, m_end ht hP, hDD _⟩, hS.F ht⟩) hS.2.2 dX11_sound_110
          · have hF_26 := ipos c_25 hF_24
            clear hF_24
            refine lv_iconst (v := 1) hx hb dX11_sound_64 (by decide +kernel) ?_
            have h9 := Option.some.inj hF_26
            subst h9
            exact W.zret (v := 1) hx hb hr (by decide +kernel) (fun t ht hW => ⟨⟨1, (), rfl, ⟨rfl, rfl⟩, m_end ht hP, hDD _⟩, hS.F ht⟩) hS.2.2 dX11_sound_65
        · have hF_23 := ipos c_22 hF_21
          clear hF_21
          refine lv_iconst (v := 0) hx hb dX11_sound_55 (by decide +kernel) ?_
          have h9 := Option.some.inj hF_23
          subst h9
          exact W.zret (v := 0) hx hb hr (by decide +kernel) (fun t ht hW => ⟨⟨0, (), rfl, ⟨rfl, rfl⟩, m_end ht hP, hDD _⟩, hS.F ht⟩) hS.2.2 dX11_sound_56
  · have hF_2 := ipos c_1 hF
    clear hF
    refine lv_iconst (v := 1) hx hb dX11_sound_7 (by decide +kernel) ?_
    have h9 := Option.some.inj hF_2
    subst h9
    exact W.zret (v := 1) hx hb hr (by decide +kernel) (fun t ht hW => ⟨⟨1, (), rfl, ⟨rfl, rfl⟩, m_end ht hP, hDD _⟩, hS.F ht⟩) hS.2.2 dX11_sound_8

theorem dX11_begin_0 : decode cX11_begin 0 = .ok (.aload_n 0, 1) := by decide +kernel
theorem dX11_begin_1 : decode cX11_begin 1 = .ok (.getfield 162, 3) := by decide +kernel
theorem dX11_begin_4 : decode cX11_begin 4 = .ok (.ifCond .ne 13, 3) := by decide +kernel
theorem dX11_begin_7 : decode cX11_begin 7 = .ok (.new 115, 3) := by decide +kernel
theorem dX11_begin_10 : decode cX11_begin 10 = .ok (.dup, 1) := by decide +kernel
theorem dX11_begin_11 : decode cX11_begin 11 = .ok (.ldc 166, 2) := by decide +kernel
theorem dX11_begin_13 : decode cX11_begin 13 = .ok (.invokespecial 119, 3) := by decide +kernel
theorem dX11_begin_16 : decode cX11_begin 16 = .ok (.athrow, 1) := by decide +kernel
theorem dX11_begin_17 : decode cX11_begin 17 = .ok (.aload_n 0, 1) := by decide +kernel
theorem dX11_begin_18 : decode cX11_begin 18 = .ok (.getfield 53, 3) := by decide +kernel
theorem dX11_begin_21 : decode cX11_begin 21 = .ok (.invokevirtual 168, 3) := by decide +kernel
theorem dX11_begin_24 : decode cX11_begin 24 = .ok (.aload_n 0, 1) := by decide +kernel
theorem dX11_begin_25 : decode cX11_begin 25 = .ok (.iconst 0, 1) := by decide +kernel
theorem dX11_begin_26 : decode cX11_begin 26 = .ok (.putfield 171, 3) := by decide +kernel
theorem dX11_begin_29 : decode cX11_begin 29 = .ok (.aload_n 0, 1) := by decide +kernel
theorem dX11_begin_30 : decode cX11_begin 30 = .ok (.getfield 60, 3) := by decide +kernel
theorem dX11_begin_33 : decode cX11_begin 33 = .ok (.aload_n 0, 1) := by decide +kernel
theorem dX11_begin_34 : decode cX11_begin 34 = .ok (.getfield 39, 3) := by decide +kernel
theorem dX11_begin_37 : decode cX11_begin 37 = .ok (.iload_n 1, 1) := by decide +kernel
theorem dX11_begin_38 : decode cX11_begin 38 = .ok (.invokevirtual 174, 3) := by decide +kernel
theorem dX11_begin_41 : decode cX11_begin 41 = .ok (.aload_n 0, 1) := by decide +kernel
theorem dX11_begin_42 : decode cX11_begin 42 = .ok (.iconst 1, 1) := by decide +kernel
theorem dX11_begin_43 : decode cX11_begin 43 = .ok (.putfield 178, 3) := by decide +kernel
theorem dX11_begin_46 : decode cX11_begin 46 = .ok (.aload_n 0, 1) := by decide +kernel
theorem dX11_begin_47 : decode cX11_begin 47 = .ok (.getfield 78, 3) := by decide +kernel
theorem dX11_begin_50 : decode cX11_begin 50 = .ok (.invokevirtual 181, 3) := by decide +kernel
theorem dX11_begin_53 : decode cX11_begin 53 = .ok (.return_, 1) := by decide +kernel
def F_X11_begin (p0 : Int32) (T : TS) : HA :=
  if ((T.1 0).1 7) = 0 then (
    some ((2, 0), T)
  ) else (
    (F_X5_wipe T.1).bind fun u_5 =>
    bnd (((mrg (fun j => j == 8) T.1 u_5.2, T.2) : TS)) fun σ_7 =>
    bnd (((cI' σ_7.1 0 18 0, σ_7.2) : TS)) fun σ_9 =>
    (F_X6_start p0 σ_9.1).bind fun u_11 =>
    bnd (((mrg (fun j => j == 9 || j == 4 || j == 5 || j == 6 || j == 7) σ_9.1 u_11.2, σ_9.2) : TS)) fun σ_13 =>
    bnd (((cI' σ_13.1 0 8 1, σ_13.2) : TS)) fun σ_15 =>
    (F_X8_look σ_15.1).bind fun u_17 =>
    bnd (((mrg (fun j => j == 11 || j == 10 || j == 9 || j == 8 || j == 4 || j == 5 || j == 6 || j == 7) σ_15.1 u_17.2, σ_15.2) : TS)) fun σ_19 =>
    some ((0, 0), σ_19)
  )
set_option maxHeartbeats 8000000 in
set_option maxRecDepth 100000 in
theorem h_X11_begin (l : Launch) (dC : Nat → ClassId) (dI : Nat → Nat → Nat) (cB cC cI cJ cZ cP : ClassId) (oA : Nat → Nat) (rA : Nat → Nat → Nat) (hfl : l.stackTraces = false) (og om : Option Nat) (sz : Nat) (p0 : Int32) (T : TS) (res : (Int32 × Int32) × TS) (hF : F_X11_begin p0 T = some res) : vx_Met l yX11_begin (g_ws yX11_begin cX11_begin 2 none) ({ frames := 10, cells := 1, slots := 6, locals := 243 }) (va_Pc [.ref (oA 0), .int p0] (g_B (dC, dI) [(cB, .byte), (cC, .char), (cI, .int), (cJ, .long), (cZ, .boolean), (cP, .object "StoryHouse$Play")] sz (b_H cB cC cI cJ cZ cP oA rA T og om) g_0)) (va_Qv (fun (_ : Unit) => res.1.1 = 0) (g_Bo (dC, dI) (va_A (b_H cB cC cI cJ cZ cP oA rA T og om) sz) (fun (_ : Unit) => (b_H cB cC cI cJ cZ cP oA rA res.2 og om))) (va_A (b_H cB cC cI cJ cZ cP oA rA T og om) sz)) (g_X (dC, dI) (va_A (b_H cB cC cI cJ cZ cP oA rA T og om) sz) (b_H cB cC cI cJ cZ cP oA rA res.2 og om) (fun E : String => XN res.1.1 E)) 1 6 (va_A (b_H cB cC cI cJ cZ cP oA rA T og om) sz) := by
  refine vx_ofW (cc := cX11_begin) (maxL := 2) (ret := none) (by decide) rfl ?_
  intro p e s m args below meth c s₁ B hml htab hv
  obtain ⟨rfl, hsz, hP, hK, hD0, hE, hX⟩ := hv
  have hx := B.exec
  have hb := B.bytes
  have hr := B.returns
  have hts0 := atoms_spec (ws := g_ws yX11_begin cX11_begin 2 none) B.pre
  have hts : ∀ w ∈ lw_good, w.before ([.ref (oA 0), .int p0] : List Value).toArray s = true := fun w z => hts0 w (List.mem_cons_of_mem _ z)
  have hown : s.vm.findClass RX11 = some m.cls := findClass_of_methodNamed B.named
  have hlocks := B.notSynchronized
  subst hsz
  have hD1 := hD0.self (sz := s.heap.size)
  generalize hAe : va_A (b_H cB cC cI cJ cZ cP oA rA T og om) s.heap.size = A at hD1 hE hX ⊢
  have hA : ∀ q : Nat, s.heap.size ≤ q → A q := fun q z => by rw [← hAe]; exact Or.inr z
  have hDD : ∀ T : TS, va_D A (b_H cB cC cI cJ cZ cP oA rA T og om) := fun T9 => va_D_fst bH_fst hD1
  have hN := hE.1
  have hS : va_S A s.heap s.heap [] := va_S.rf
  have hl := lv_entry ([.ref (oA 0), .int p0]) (n := 2) (Nat.le_of_ble_eq_true rfl)
  rw [lg_entry_eq]
  generalize (lg_sl ([.ref (oA 0), .int p0]) ++ List.replicate (2 - (lg_sl ([.ref (oA 0), .int p0])).length) Slot.unset).toArray = ls at hl ⊢
  have hl : lv_has ls 2 [(0, .ref (oA 0)), (1, .int p0)] := hl
  unfold F_X11_begin at hF
  refine lv_aload_n hx hb dX11_begin_0 rfl (lv_at hl 0 rfl) ?_
  refine va_get (D := (dC, dI)) (ci := 11) (v := .int ((T.1 0).1 7)) (C := RX11) (T := TX11) (N := 19) hx hb hts ii_X11 hown hK hP 0 rfl rfl 7 (by decide) (hts (.fieldLink RX11 162 "StoryHouse" "built" "Z") wq_310) (fun _ h9 => h9) rfl dX11_begin_1 ?_
  refine lv_if_ne (tgt := 17) hx hb dX11_begin_4 (by decide) (fun c_1 => ?_) (fun c_1 => ?_)
  · have hF_4 := ineg c_1 hF
    clear hF
    refine lv_aload_n hx hb dX11_begin_17 rfl (lv_at hl 0 rfl) ?_
    refine va_get (D := (dC, dI)) (ci := 11) (v := .ref (oA 8)) (C := RX11) (T := TX11) (N := 19) hx hb hts ii_X11 hown hK hP 0 rfl rfl 10 (by decide) (hts (.fieldLink RX11 53 "StoryHouse" "told" "LStoryHouse$Out;") wq_313) (fun _ h9 => h9) rfl dX11_begin_18 ?_
    obtain ⟨u_5, hu_5, hF_6⟩ := Option.bind_eq_some_iff.mp hF_4
    clear hF_4
    have hPc := bx_P (bs := (b_HL cB cC cI cJ cZ cP oA rA T og om)) (bs' := [b_o cB cC cI cJ cZ oA rA T.1]) (ws' := (b_o cB cC cI cJ cZ oA rA T.1)) hP fl_H fl_1 [9] rfl
    have hDc := bx_D (bs := (b_HL cB cC cI cJ cZ cP oA rA T og om)) (bs' := [b_o cB cC cI cJ cZ oA rA T.1]) (ws' := (b_o cB cC cI cJ cZ oA rA T.1)) (hDD T) fl_H fl_1 [9] (by decide +kernel) rfl
    have hFc := bx_F (bs := (b_HL cB cC cI cJ cZ cP oA rA T og om)) (bs' := [b_o cB cC cI cJ cZ oA rA T.1]) (wc := (b_o cB cC cI cJ cZ oA rA T.1)) (hDD T) hS hA fl_H fl_1 [9] rfl
    refine g_ofv (wc := (b_o cB cC cI cJ cZ oA rA T.1)) (wr := (b_h cB cC cI cJ cZ cP oA rA T.1 ++ b_b cB cC cI cJ cZ oA rA T.1 ++ b_ga cB cC cI cJ cZ oA rA T.1 og ++ b_ma cB cC cI cJ cZ oA rA T.1 om ++ b_w cB cC cI cJ cZ oA rA T.1 ++ b_s cB cC cI cJ cZ oA rA T.1 ++ b_c cB cC cI cJ cZ oA rA T.1 ++ b_t cB cC cI cJ cZ oA rA T.1 ++ b_d cB cC cI cJ cZ oA rA T.1 ++ b_p cB cC cI cJ cZ oA rA T.1 ++ b_k cB cC cI cJ cZ oA rA T.1 ++ b_e cB cC cI cJ cZ oA rA T.1 ++ b_s cB cC cI cJ cZ (fun r => oA (dN r)) (fun r => rA (dN r)) T.2.1 ++ b_c cB cC cI cJ cZ (fun r => oA (dN r)) (fun r => rA (dN r)) T.2.1 ++ b_t cB cC cI cJ cZ (fun r => oA (dN r)) (fun r => rA (dN r)) T.2.1 ++ b_d cB cC cI cJ cZ (fun r => oA (dN r)) (fun r => rA (dN r)) T.2.1 ++ b_p cB cC cI cJ cZ (fun r => oA (pN 18 r)) (fun r => rA (pN 18 r)) (fun _ => T.2.2.1 0) ++ b_p cB cC cI cJ cZ (fun r => oA (pN 19 r)) (fun r => rA (pN 19 r)) (fun _ => T.2.2.1 1) ++ b_p cB cC cI cJ cZ (fun r => oA (pN 20 r)) (fun r => rA (pN 20 r)) (fun _ => T.2.2.1 2) ++ b_p cB cC cI cJ cZ (fun r => oA (pN 21 r)) (fun r => rA (pN 21 r)) (fun _ => T.2.2.1 3) ++ b_p cB cC cI cJ cZ (fun r => oA (pN 22 r)) (fun r => rA (pN 22 r)) (fun _ => T.2.2.2 0) ++ b_p cB cC cI cJ cZ (fun r => oA (pN 23 r)) (fun r => rA (pN 23 r)) (fun _ => T.2.2.2 1) ++ b_p cB cC cI cJ cZ (fun r => oA (pN 24 r)) (fun r => rA (pN 24 r)) (fun _ => T.2.2.2 2) ++ b_p cB cC cI cJ cZ (fun r => oA (pN 25 r)) (fun r => rA (pN 25 r)) (fun _ => T.2.2.2 3) ++ b_p cB cC cI cJ cZ (fun r => oA (pN 26 r)) (fun r => rA (pN 26 r)) (fun _ => T.2.2.2 4) ++ b_p cB cC cI cJ cZ (fun r => oA (pN 27 r)) (fun r => rA (pN 27 r)) (fun _ => T.2.2.2 5))) hP (hDD T) hS hFc (bx_ix (b_HL cB cC cI cJ cZ cP oA rA T og om) [9]) (bx_ix (b_HL cB cC cI cJ cZ cP oA rA T og om) [0, 1, 2, 3, 4, 5, 6, 7, 8, 10, 11, 12, 13, 14, 15, 16, 17, 18, 19, 20, 21, 22, 23, 24, 25, 26]) (bx_C (bs := (b_HL cB cC cI cJ cZ cP oA rA T og om)) (bs' := [b_o cB cC cI cJ cZ oA rA T.1]) (is := [9]) fl_H fl_1 rfl) (bx_C (bs := (b_HL cB cC cI cJ cZ cP oA rA T og om)) (bs' := [b_h cB cC cI cJ cZ cP oA rA T.1, b_b cB cC cI cJ cZ oA rA T.1, b_ga cB cC cI cJ cZ oA rA T.1 og, b_ma cB cC cI cJ cZ oA rA T.1 om, b_w cB cC cI cJ cZ oA rA T.1, b_s cB cC cI cJ cZ oA rA T.1, b_c cB cC cI cJ cZ oA rA T.1, b_t cB cC cI cJ cZ oA rA T.1, b_d cB cC cI cJ cZ oA rA T.1, b_p cB cC cI cJ cZ oA rA T.1, b_k cB cC cI cJ cZ oA rA T.1, b_e cB cC cI cJ cZ oA rA T.1, b_s cB cC cI cJ cZ (fun r => oA (dN r)) (fun r => rA (dN r)) T.2.1, b_c cB cC cI cJ cZ (fun r => oA (dN r)) (fun r => rA (dN r)) T.2.1, b_t cB cC cI cJ cZ (fun r => oA (dN r)) (fun r => rA (dN r)) T.2.1, b_d cB cC cI cJ cZ (fun r => oA (dN r)) (fun r => rA (dN r)) T.2.1, b_p cB cC cI cJ cZ (fun r => oA (pN 18 r)) (fun r => rA (pN 18 r)) (fun _ => T.2.2.1 0), b_p cB cC cI cJ cZ (fun r => oA (pN 19 r)) (fun r => rA (pN 19 r)) (fun _ => T.2.2.1 1), b_p cB cC cI cJ cZ (fun r => oA (pN 20 r)) (fun r => rA (pN 20 r)) (fun _ => T.2.2.1 2), b_p cB cC cI cJ cZ (fun r => oA (pN 21 r)) (fun r => rA (pN 21 r)) (fun _ => T.2.2.1 3), b_p cB cC cI cJ cZ (fun r => oA (pN 22 r)) (fun r => rA (pN 22 r)) (fun _ => T.2.2.2 0), b_p cB cC cI cJ cZ (fun r => oA (pN 23 r)) (fun r => rA (pN 23 r)) (fun _ => T.2.2.2 1), b_p cB cC cI cJ cZ (fun r => oA (pN 24 r)) (fun r => rA (pN 24 r)) (fun _ => T.2.2.2 2), b_p cB cC cI cJ cZ (fun r => oA (pN 25 r)) (fun r => rA (pN 25 r)) (fun _ => T.2.2.2 3), b_p cB cC cI cJ cZ (fun r => oA (pN 26 r)) (fun r => rA (pN 26 r)) (fun _ => T.2.2.2 4), b_p cB cC cI cJ cZ (fun r => oA (pN 27 r)) (fun r => rA (pN 27 r)) (fun _ => T.2.2.2 5)]) (is := [0, 1, 2, 3, 4, 5, 6, 7, 8, 10, 11, 12, 13, 14, 15, 16, 17, 18, 19, 20, 21, 22, 23, 24, 25, 26]) fl_H fl_26 rfl) (bx_n (by decide +kernel)) (bx_d (by decide +kernel)) (va_runV (As := []) (rest := []) ⟨hx, hb, hml, hown, hts⟩ (k_X5_wipe l dC dI cB cC cI cJ cZ cP oA rA s.heap.size T.1 _ hu_5) (cwV 0 hts (g_gV wq_951 wq_952 wq_953 wq_9 wq_954) rfl rfl rfl (by decide +kernel) ⟨Nat.le_of_ble_eq_true rfl, Nat.le_of_ble_eq_true rfl⟩) (g_preV g_bl0 hK hPc hDc hS hE hFc g_to0 (q0 := 0) (ci := 5) rfl rfl) rfl rfl hl.1 rfl (lv_room (Nat.le_of_ble_eq_true rfl)) dX11_begin_21 ⟨Nat.le_of_ble_eq_true rfl, Nat.le_of_ble_eq_true rfl⟩) (fun u9 H locs hw9 hP' hD' hS => ?_)
    clear hPc hDc hFc
    obtain ⟨σ_7, eσ_7, hF_8⟩ := bnd_e hF_6
    clear hF_6
    have hP : va_P (dC, dI) vwCl (b_H cB cC cI cJ cZ cP oA rA σ_7 og om) H := by rw [eσ_7]; exact bx_P (bs := [b_h cB cC cI cJ cZ cP oA rA T.1, b_b cB cC cI cJ cZ oA rA T.1, b_ga cB cC cI cJ cZ oA rA T.1 og, b_ma cB cC cI cJ cZ oA rA T.1 om, b_w cB cC cI cJ cZ oA rA T.1, b_s cB cC cI cJ cZ oA rA T.1, b_c cB cC cI cJ cZ oA rA T.1, b_t cB cC cI cJ cZ oA rA T.1, b_d cB cC cI cJ cZ oA rA T.1, b_p cB cC cI cJ cZ oA rA T.1, b_k cB cC cI cJ cZ oA rA T.1, b_e cB cC cI cJ cZ oA rA T.1, b_s cB cC cI cJ cZ (fun r => oA (dN r)) (fun r => rA (dN r)) T.2.1, b_c cB cC cI cJ cZ (fun r => oA (dN r)) (fun r => rA (dN r)) T.2.1, b_t cB cC cI cJ cZ (fun r => oA (dN r)) (fun r => rA (dN r)) T.2.1, b_d cB cC cI cJ cZ (fun r => oA (dN r)) (fun r => rA (dN r)) T.2.1, b_p cB cC cI cJ cZ (fun r => oA (pN 18 r)) (fun r => rA (pN 18 r)) (fun _ => T.2.2.1 0), b_p cB cC cI cJ cZ (fun r => oA (pN 19 r)) (fun r => rA (pN 19 r)) (fun _ => T.2.2.1 1), b_p cB cC cI cJ cZ (fun r => oA (pN 20 r)) (fun r => rA (pN 20 r)) (fun _ => T.2.2.1 2), b_p cB cC cI cJ cZ (fun r => oA (pN 21 r)) (fun r => rA (pN 21 r)) (fun _ => T.2.2.1 3), b_p cB cC cI cJ cZ (fun r => oA (pN 22 r)) (fun r => rA (pN 22 r)) (fun _ => T.2.2.2 0), b_p cB cC cI cJ cZ (fun r => oA (pN 23 r)) (fun r => rA (pN 23 r)) (fun _ => T.2.2.2 1), b_p cB cC cI cJ cZ (fun r => oA (pN 24 r)) (fun r => rA (pN 24 r)) (fun _ => T.2.2.2 2), b_p cB cC cI cJ cZ (fun r => oA (pN 25 r)) (fun r => rA (pN 25 r)) (fun _ => T.2.2.2 3), b_p cB cC cI cJ cZ (fun r => oA (pN 26 r)) (fun r => rA (pN 26 r)) (fun _ => T.2.2.2 4), b_p cB cC cI cJ cZ (fun r => oA (pN 27 r)) (fun r => rA (pN 27 r)) (fun _ => T.2.2.2 5)] ++ [b_o cB cC cI cJ cZ oA rA u_5.2]) (bs' := (b_HL cB cC cI cJ cZ cP oA rA ((mrg (fun j => j == 8) T.1 u_5.2, T.2) : TS) og om)) hP' (fl_a fl_26 fl_1) fl_H [0, 1, 2, 3, 4, 5, 6, 7, 8, 26, 9, 10, 11, 12, 13, 14, 15, 16, 17, 18, 19, 20, 21, 22, 23, 24, 25] rfl
    clear hP' hD'
    refine lv_aload_n hx hb dX11_begin_24 rfl (lv_at hl 0 rfl) ?_
    refine lv_iconst (v := 0) hx hb dX11_begin_25 (by decide +kernel) ?_
    obtain ⟨σ_9, eσ_9, hF_10⟩ := bnd_e hF_8
    clear hF_8
    refine va_put (D := (dC, dI)) (ci := 11) (v := .int 0) (ty := .int) (C := RX11) (T := TX11) (N := 19) hx hb hts ii_X11 tyX11 tyX11_ok nmX11 hown hK hP (hDD _) hS 0 rfl rfl 18 (by decide) (hts (.fieldLink RX11 171 "StoryHouse" "undoable" "I") wq_321) (fun _ h9 => h9) rfl (by decide +kernel) rfl rfl (Nat.le_of_ble_eq_true rfl) dX11_begin_26 (fun H locs hP' _ hS => ?_)
    have hP : va_P (dC, dI) vwCl (b_H cB cC cI cJ cZ cP oA rA σ_9 og om) H := by rw [eσ_9]; exact ch_hbgmwsctdopkeSCTD0123ABEFGH_h_18 ▸ hP'
    clear hP'
    refine lv_aload_n hx hb dX11_begin_29 rfl (lv_at hl 0 rfl) ?_
    refine va_get (D := (dC, dI)) (ci := 11) (v := .ref (oA 9)) (C := RX11) (T := TX11) (N := 19) hx hb hts ii_X11 hown hK hP 0 rfl rfl 11 (by decide) (hts (.fieldLink RX11 60 "StoryHouse" "play" "LStoryHouse$Play;") wq_314) (fun _ h9 => h9) rfl dX11_begin_30 ?_
    refine lv_aload_n hx hb dX11_begin_33 rfl (lv_at hl 0 rfl) ?_
    refine va_get (D := (dC, dI)) (ci := 11) (v := .ref (oA 4)) (C := RX11) (T := TX11) (N := 19) hx hb hts ii_X11 hown hK hP 0 rfl rfl 5 (by decide) (hts (.fieldLink RX11 39 "StoryHouse" "story" "LStoryHouse$Story;") wq_308) (fun _ h9 => h9) rfl dX11_begin_34 ?_
    refine lv_iload_n hx hb dX11_begin_37 rfl (lv_at hl 1 rfl) ?_
    obtain ⟨u_11, hu_11, hF_12⟩ := Option.bind_eq_some_iff.mp hF_10
    clear hF_10
    have hPc := bx_P (bs := (b_HL cB cC cI cJ cZ cP oA rA σ_9 og om)) (bs' := [b_p cB cC cI cJ cZ oA rA σ_9.1, b_s cB cC cI cJ cZ oA rA σ_9.1, b_c cB cC cI cJ cZ oA rA σ_9.1, b_t cB cC cI cJ cZ oA rA σ_9.1, b_d cB cC cI cJ cZ oA rA σ_9.1]) (ws' := (b_p cB cC cI cJ cZ oA rA σ_9.1 ++ b_s cB cC cI cJ cZ oA rA σ_9.1 ++ b_c cB cC cI cJ cZ oA rA σ_9.1 ++ b_t cB cC cI cJ cZ oA rA σ_9.1 ++ b_d cB cC cI cJ cZ oA rA σ_9.1)) hP fl_H fl_5 [10, 5, 6, 7, 8] rfl
    have hDc := bx_D (bs := (b_HL cB cC cI cJ cZ cP oA rA σ_9 og om)) (bs' := [b_p cB cC cI cJ cZ oA rA σ_9.1, b_s cB cC cI cJ cZ oA rA σ_9.1, b_c cB cC cI cJ cZ oA rA σ_9.1, b_t cB cC cI cJ cZ oA rA σ_9.1, b_d cB cC cI cJ cZ oA rA σ_9.1]) (ws' := (b_p cB cC cI cJ cZ oA rA σ_9.1 ++ b_s cB cC cI cJ cZ oA rA σ_9.1 ++ b_c cB cC cI cJ cZ oA rA σ_9.1 ++ b_t cB cC cI cJ cZ oA rA σ_9.1 ++ b_d cB cC cI cJ cZ oA rA σ_9.1)) (hDD σ_9) fl_H fl_5 [10, 5, 6, 7, 8] (by decide +kernel) rfl
    have hFc := bx_F (bs := (b_HL cB cC cI cJ cZ cP oA rA σ_9 og om)) (bs' := [b_p cB cC cI cJ cZ oA rA σ_9.1, b_s cB cC cI cJ cZ oA rA σ_9.1, b_c cB cC cI cJ cZ oA rA σ_9.1, b_t cB cC cI cJ cZ oA rA σ_9.1, b_d cB cC cI cJ cZ oA rA σ_9.1]) (wc := (b_p cB cC cI cJ cZ oA rA σ_9.1 ++ b_s cB cC cI cJ cZ oA rA σ_9.1 ++ b_c cB cC cI cJ cZ oA rA σ_9.1 ++ b_t cB cC cI cJ cZ oA rA σ_9.1 ++ b_d cB cC cI cJ cZ oA rA σ_9.1)) (hDD σ_9) hS hA fl_H fl_5 [10, 5, 6, 7, 8] rfl
    refine g_ofv (wc := (b_p cB cC cI cJ cZ oA rA σ_9.1 ++ b_s cB cC cI cJ cZ oA rA σ_9.1 ++ b_c cB cC cI cJ cZ oA rA σ_9.1 ++ b_t cB cC cI cJ cZ oA rA σ_9.1 ++ b_d cB cC cI cJ cZ oA rA σ_9.1)) (wr := (b_h cB cC cI cJ cZ cP oA rA σ_9.1 ++ b_b cB cC cI cJ cZ oA rA σ_9.1 ++ b_ga cB cC cI cJ cZ oA rA σ_9.1 og ++ b_ma cB cC cI cJ cZ oA rA σ_9.1 om ++ b_w cB cC cI cJ cZ oA rA σ_9.1 ++ b_o cB cC cI cJ cZ oA rA σ_9.1 ++ b_k cB cC cI cJ cZ oA rA σ_9.1 ++ b_e cB cC cI cJ cZ oA rA σ_9.1 ++ b_s cB cC cI cJ cZ (fun r => oA (dN r)) (fun r => rA (dN r)) σ_9.2.1 ++ b_c cB cC cI cJ cZ (fun r => oA (dN r)) (fun r => rA (dN r)) σ_9.2.1 ++ b_t cB cC cI cJ cZ (fun r => oA (dN r)) (fun r => rA (dN r)) σ_9.2.1 ++ b_d cB cC cI cJ cZ (fun r => oA (dN r)) (fun r => rA (dN r)) σ_9.2.1 ++ b_p cB cC cI cJ cZ (fun r => oA (pN 18 r)) (fun r => rA (pN 18 r)) (fun _ => σ_9.2.2.1 0) ++ b_p cB cC cI cJ cZ (fun r => oA (pN 19 r)) (fun r => rA (pN 19 r)) (fun _ => σ_9.2.2.1 1) ++ b_p cB cC cI cJ cZ (fun r => oA (pN 20 r)) (fun r => rA (pN 20 r)) (fun _ => σ_9.2.2.1 2) ++ b_p cB cC cI cJ cZ (fun r => oA (pN 21 r)) (fun r => rA (pN 21 r)) (fun _ => σ_9.2.2.1 3) ++ b_p cB cC cI cJ cZ (fun r => oA (pN 22 r)) (fun r => rA (pN 22 r)) (fun _ => σ_9.2.2.2 0) ++ b_p cB cC cI cJ cZ (fun r => oA (pN 23 r)) (fun r => rA (pN 23 r)) (fun _ => σ_9.2.2.2 1) ++ b_p cB cC cI cJ cZ (fun r => oA (pN 24 r)) (fun r => rA (pN 24 r)) (fun _ => σ_9.2.2.2 2) ++ b_p cB cC cI cJ cZ (fun r => oA (pN 25 r)) (fun r => rA (pN 25 r)) (fun _ => σ_9.2.2.2 3) ++ b_p cB cC cI cJ cZ (fun r => oA (pN 26 r)) (fun r => rA (pN 26 r)) (fun _ => σ_9.2.2.2 4) ++ b_p cB cC cI cJ cZ (fun r => oA (pN 27 r)) (fun r => rA (pN 27 r)) (fun _ => σ_9.2.2.2 5))) hP (hDD σ_9) hS hFc (bx_ix (b_HL cB cC cI cJ cZ cP oA rA σ_9 og om) [10, 5, 6, 7, 8]) (bx_ix (b_HL cB cC cI cJ cZ cP oA rA σ_9 og om) [0, 1, 2, 3, 4, 9, 11, 12, 13, 14, 15, 16, 17, 18, 19, 20, 21, 22, 23, 24, 25, 26]) (bx_C (bs := (b_HL cB cC cI cJ cZ cP oA rA σ_9 og om)) (bs' := [b_p cB cC cI cJ cZ oA rA σ_9.1, b_s cB cC cI cJ cZ oA rA σ_9.1, b_c cB cC cI cJ cZ oA rA σ_9.1, b_t cB cC cI cJ cZ oA rA σ_9.1, b_d cB cC cI cJ cZ oA rA σ_9.1]) (is := [10, 5, 6, 7, 8]) fl_H fl_5 rfl) (bx_C (bs := (b_HL cB cC cI cJ cZ cP oA rA σ_9 og om)) (bs' := [b_h cB cC cI cJ cZ cP oA rA σ_9.1, b_b cB cC cI cJ cZ oA rA σ_9.1, b_ga cB cC cI cJ cZ oA rA σ_9.1 og, b_ma cB cC cI cJ cZ oA rA σ_9.1 om, b_w cB cC cI cJ cZ oA rA σ_9.1, b_o cB cC cI cJ cZ oA rA σ_9.1, b_k cB cC cI cJ cZ oA rA σ_9.1, b_e cB cC cI cJ cZ oA rA σ_9.1, b_s cB cC cI cJ cZ (fun r => oA (dN r)) (fun r => rA (dN r)) σ_9.2.1, b_c cB cC cI cJ cZ (fun r => oA (dN r)) (fun r => rA (dN r)) σ_9.2.1, b_t cB cC cI cJ cZ (fun r => oA (dN r)) (fun r => rA (dN r)) σ_9.2.1, b_d cB cC cI cJ cZ (fun r => oA (dN r)) (fun r => rA (dN r)) σ_9.2.1, b_p cB cC cI cJ cZ (fun r => oA (pN 18 r)) (fun r => rA (pN 18 r)) (fun _ => σ_9.2.2.1 0), b_p cB cC cI cJ cZ (fun r => oA (pN 19 r)) (fun r => rA (pN 19 r)) (fun _ => σ_9.2.2.1 1), b_p cB cC cI cJ cZ (fun r => oA (pN 20 r)) (fun r => rA (pN 20 r)) (fun _ => σ_9.2.2.1 2), b_p cB cC cI cJ cZ (fun r => oA (pN 21 r)) (fun r => rA (pN 21 r)) (fun _ => σ_9.2.2.1 3), b_p cB cC cI cJ cZ (fun r => oA (pN 22 r)) (fun r => rA (pN 22 r)) (fun _ => σ_9.2.2.2 0), b_p cB cC cI cJ cZ (fun r => oA (pN 23 r)) (fun r => rA (pN 23 r)) (fun _ => σ_9.2.2.2 1), b_p cB cC cI cJ cZ (fun r => oA (pN 24 r)) (fun r => rA (pN 24 r)) (fun _ => σ_9.2.2.2 2), b_p cB cC cI cJ cZ (fun r => oA (pN 25 r)) (fun r => rA (pN 25 r)) (fun _ => σ_9.2.2.2 3), b_p cB cC cI cJ cZ (fun r => oA (pN 26 r)) (fun r => rA (pN 26 r)) (fun _ => σ_9.2.2.2 4), b_p cB cC cI cJ cZ (fun r => oA (pN 27 r)) (fun r => rA (pN 27 r)) (fun _ => σ_9.2.2.2 5)]) (is := [0, 1, 2, 3, 4, 9, 11, 12, 13, 14, 15, 16, 17, 18, 19, 20, 21, 22, 23, 24, 25, 26]) fl_H fl_22 rfl) (bx_n (by decide +kernel)) (bx_d (by decide +kernel)) (va_runV (As := [.ref (oA 4), .int p0]) (rest := []) ⟨hx, hb, hml, hown, hts⟩ (k_X6_start l dC dI cB cC cI cJ cZ cP oA rA H.size p0 σ_9.1 _ hu_11) (cwV 2 hts (g_gV wq_955 wq_956 wq_957 wq_10 wq_958) rfl rfl rfl (by decide +kernel) ⟨Nat.le_of_ble_eq_true rfl, Nat.le_of_ble_eq_true rfl⟩) (g_preV g_bl0 hK hPc hDc hS hE hFc g_to0 (q0 := 0) (ci := 6) rfl rfl) rfl rfl hl.1 rfl (lv_room (Nat.le_of_ble_eq_true rfl)) dX11_begin_38 ⟨Nat.le_of_ble_eq_true rfl, Nat.le_of_ble_eq_true rfl⟩) (fun u9 H locs hw9 hP' hD' hS => ?_)
    clear hPc hDc hFc
    obtain ⟨σ_13, eσ_13, hF_14⟩ := bnd_e hF_12
    clear hF_12
    have hP : va_P (dC, dI) vwCl (b_H cB cC cI cJ cZ cP oA rA σ_13 og om) H := by rw [eσ_13]; exact bx_P (bs := [b_h cB cC cI cJ cZ cP oA rA σ_9.1, b_b cB cC cI cJ cZ oA rA σ_9.1, b_ga cB cC cI cJ cZ oA rA σ_9.1 og, b_ma cB cC cI cJ cZ oA rA σ_9.1 om, b_w cB cC cI cJ cZ oA rA σ_9.1, b_o cB cC cI cJ cZ oA rA σ_9.1, b_k cB cC cI cJ cZ oA rA σ_9.1, b_e cB cC cI cJ cZ oA rA σ_9.1, b_s cB cC cI cJ cZ (fun r => oA (dN r)) (fun r => rA (dN r)) σ_9.2.1, b_c cB cC cI cJ cZ (fun r => oA (dN r)) (fun r => rA (dN r)) σ_9.2.1, b_t cB cC cI cJ cZ (fun r => oA (dN r)) (fun r => rA (dN r)) σ_9.2.1, b_d cB cC cI cJ cZ (fun r => oA (dN r)) (fun r => rA (dN r)) σ_9.2.1, b_p cB cC cI cJ cZ (fun r => oA (pN 18 r)) (fun r => rA (pN 18 r)) (fun _ => σ_9.2.2.1 0), b_p cB cC cI cJ cZ (fun r => oA (pN 19 r)) (fun r => rA (pN 19 r)) (fun _ => σ_9.2.2.1 1), b_p cB cC cI cJ cZ (fun r => oA (pN 20 r)) (fun r => rA (pN 20 r)) (fun _ => σ_9.2.2.1 2), b_p cB cC cI cJ cZ (fun r => oA (pN 21 r)) (fun r => rA (pN 21 r)) (fun _ => σ_9.2.2.1 3), b_p cB cC cI cJ cZ (fun r => oA (pN 22 r)) (fun r => rA (pN 22 r)) (fun _ => σ_9.2.2.2 0), b_p cB cC cI cJ cZ (fun r => oA (pN 23 r)) (fun r => rA (pN 23 r)) (fun _ => σ_9.2.2.2 1), b_p cB cC cI cJ cZ (fun r => oA (pN 24 r)) (fun r => rA (pN 24 r)) (fun _ => σ_9.2.2.2 2), b_p cB cC cI cJ cZ (fun r => oA (pN 25 r)) (fun r => rA (pN 25 r)) (fun _ => σ_9.2.2.2 3), b_p cB cC cI cJ cZ (fun r => oA (pN 26 r)) (fun r => rA (pN 26 r)) (fun _ => σ_9.2.2.2 4), b_p cB cC cI cJ cZ (fun r => oA (pN 27 r)) (fun r => rA (pN 27 r)) (fun _ => σ_9.2.2.2 5)] ++ [b_p cB cC cI cJ cZ oA rA u_11.2, b_s cB cC cI cJ cZ oA rA u_11.2, b_c cB cC cI cJ cZ oA rA u_11.2, b_t cB cC cI cJ cZ oA rA u_11.2, b_d cB cC cI cJ cZ oA rA u_11.2]) (bs' := (b_HL cB cC cI cJ cZ cP oA rA ((mrg (fun j => j == 9 || j == 4 || j == 5 || j == 6 || j == 7) σ_9.1 u_11.2, σ_9.2) : TS) og om)) hP' (fl_a fl_22 fl_5) fl_H [0, 1, 2, 3, 4, 23, 24, 25, 26, 5, 22, 6, 7, 8, 9, 10, 11, 12, 13, 14, 15, 16, 17, 18, 19, 20, 21] rfl
    clear hP' hD'
    refine lv_aload_n hx hb dX11_begin_41 rfl (lv_at hl 0 rfl) ?_
    refine lv_iconst (v := 1) hx hb dX11_begin_42 (by decide +kernel) ?_
    obtain ⟨σ_15, eσ_15, hF_16⟩ := bnd_e hF_14
    clear hF_14
    refine va_put (D := (dC, dI)) (ci := 11) (v := .int 1) (ty := .boolean) (C := RX11) (T := TX11) (N := 19) hx hb hts ii_X11 tyX11 tyX11_ok nmX11 hown hK hP (hDD _) hS 0 rfl rfl 8 (by decide) (hts (.fieldLink RX11 178 "StoryHouse" "playing" "Z") wq_311) (fun _ h9 => h9) rfl (by decide +kernel) (by decide +kernel) (by decide +kernel) (Nat.le_of_ble_eq_true rfl) dX11_begin_43 (fun H locs hP' _ hS => ?_)
    have hP : va_P (dC, dI) vwCl (b_H cB cC cI cJ cZ cP oA rA σ_15 og om) H := by rw [eσ_15]; exact ch_hbgmwsctdopkeSCTD0123ABEFGH_h_8 ▸ hP'
    clear hP'
    refine lv_aload_n hx hb dX11_begin_46 rfl (lv_at hl 0 rfl) ?_
    refine va_get (D := (dC, dI)) (ci := 11) (v := .ref (oA 11)) (C := RX11) (T := TX11) (N := 19) hx hb hts ii_X11 hown hK hP 0 rfl rfl 13 (by decide) (hts (.fieldLink RX11 78 "StoryHouse" "teller" "LStoryHouse$Teller;") wq_316) (fun _ h9 => h9) rfl dX11_begin_47 ?_
    obtain ⟨u_17, hu_17, hF_18⟩ := Option.bind_eq_some_iff.mp hF_16
    clear hF_16
    have hPc := bx_P (bs := (b_HL cB cC cI cJ cZ cP oA rA σ_15 og om)) (bs' := [b_e cB cC cI cJ cZ oA rA σ_15.1, b_k cB cC cI cJ cZ oA rA σ_15.1, b_p cB cC cI cJ cZ oA rA σ_15.1, b_o cB cC cI cJ cZ oA rA σ_15.1, b_s cB cC cI cJ cZ oA rA σ_15.1, b_c cB cC cI cJ cZ oA rA σ_15.1, b_t cB cC cI cJ cZ oA rA σ_15.1, b_d cB cC cI cJ cZ oA rA σ_15.1]) (ws' := (b_e cB cC cI cJ cZ oA rA σ_15.1 ++ b_k cB cC cI cJ cZ oA rA σ_15.1 ++ b_p cB cC cI cJ cZ oA rA σ_15.1 ++ b_o cB cC cI cJ cZ oA rA σ_15.1 ++ b_s cB cC cI cJ cZ oA rA σ_15.1 ++ b_c cB cC cI cJ cZ oA rA σ_15.1 ++ b_t cB cC cI cJ cZ oA rA σ_15.1 ++ b_d cB cC cI cJ cZ oA rA σ_15.1)) hP fl_H fl_8 [12, 11, 10, 9, 5, 6, 7, 8] rfl
    have hDc := bx_D (bs := (b_HL cB cC cI cJ cZ cP oA rA σ_15 og om)) (bs' := [b_e cB cC cI cJ cZ oA rA σ_15.1, b_k cB cC cI cJ cZ oA rA σ_15.1, b_p cB cC cI cJ cZ oA rA σ_15.1, b_o cB cC cI cJ cZ oA rA σ_15.1, b_s cB cC cI cJ cZ oA rA σ_15.1, b_c cB cC cI cJ cZ oA rA σ_15.1, b_t cB cC cI cJ cZ oA rA σ_15.1, b_d cB cC cI cJ cZ oA rA σ_15.1]) (ws' := (b_e cB cC cI cJ cZ oA rA σ_15.1 ++ b_k cB cC cI cJ cZ oA rA σ_15.1 ++ b_p cB cC cI cJ cZ oA rA σ_15.1 ++ b_o cB cC cI cJ cZ oA rA σ_15.1 ++ b_s cB cC cI cJ cZ oA rA σ_15.1 ++ b_c cB cC cI cJ cZ oA rA σ_15.1 ++ b_t cB cC cI cJ cZ oA rA σ_15.1 ++ b_d cB cC cI cJ cZ oA rA σ_15.1)) (hDD σ_15) fl_H fl_8 [12, 11, 10, 9, 5, 6, 7, 8] (by decide +kernel) rfl
    have hFc := bx_F (bs := (b_HL cB cC cI cJ cZ cP oA rA σ_15 og om)) (bs' := [b_e cB cC cI cJ cZ oA rA σ_15.1, b_k cB cC cI cJ cZ oA rA σ_15.1, b_p cB cC cI cJ cZ oA rA σ_15.1, b_o cB cC cI cJ cZ oA rA σ_15.1, b_s cB cC cI cJ cZ oA rA σ_15.1, b_c cB cC cI cJ cZ oA rA σ_15.1, b_t cB cC cI cJ cZ oA rA σ_15.1, b_d cB cC cI cJ cZ oA rA σ_15.1]) (wc := (b_e cB cC cI cJ cZ oA rA σ_15.1 ++ b_k cB cC cI cJ cZ oA rA σ_15.1 ++ b_p cB cC cI cJ cZ oA rA σ_15.1 ++ b_o cB cC cI cJ cZ oA rA σ_15.1 ++ b_s cB cC cI cJ cZ oA rA σ_15.1 ++ b_c cB cC cI cJ cZ oA rA σ_15.1 ++ b_t cB cC cI cJ cZ oA rA σ_15.1 ++ b_d cB cC cI cJ cZ oA rA σ_15.1)) (hDD σ_15) hS hA fl_H fl_8 [12, 11, 10, 9, 5, 6, 7, 8] rfl
    refine g_ofv (wc := (b_e cB cC cI cJ cZ oA rA σ_15.1 ++ b_k cB cC cI cJ cZ oA rA σ_15.1 ++ b_p cB cC cI cJ cZ oA rA σ_15.1 ++ b_o cB cC cI cJ cZ oA rA σ_15.1 ++ b_s cB cC cI cJ cZ oA rA σ_15.1 ++ b_c cB cC cI cJ cZ oA rA σ_15.1 ++ b_t cB cC cI cJ cZ oA rA σ_15.1 ++ b_d cB cC cI cJ cZ oA rA σ_15.1)) (wr := (b_h cB cC cI cJ cZ cP oA rA σ_15.1 ++ b_b cB cC cI cJ cZ oA rA σ_15.1 ++ b_ga cB cC cI cJ cZ oA rA σ_15.1 og ++ b_ma cB cC cI cJ cZ oA rA σ_15.1 om ++ b_w cB cC cI cJ cZ oA rA σ_15.1 ++ b_s cB cC cI cJ cZ (fun r => oA (dN r)) (fun r => rA (dN r)) σ_15.2.1 ++ b_c cB cC cI cJ cZ (fun r => oA (dN r)) (fun r => rA (dN r)) σ_15.2.1 ++ b_t cB cC cI cJ cZ (fun r => oA (dN r)) (fun r => rA (dN r)) σ_15.2.1 ++ b_d cB cC cI cJ cZ (fun r => oA (dN r)) (fun r => rA (dN r)) σ_15.2.1 ++ b_p cB cC cI cJ cZ (fun r => oA (pN 18 r)) (fun r => rA (pN 18 r)) (fun _ => σ_15.2.2.1 0) ++ b_p cB cC cI cJ cZ (fun r => oA (pN 19 r)) (fun r => rA (pN 19 r)) (fun _ => σ_15.2.2.1 1) ++ b_p cB cC cI cJ cZ (fun r => oA (pN 20 r)) (fun r => rA (pN 20 r)) (fun _ => σ_15.2.2.1 2) ++ b_p cB cC cI cJ cZ (fun r => oA (pN 21 r)) (fun r => rA (pN 21 r)) (fun _ => σ_15.2.2.1 3) ++ b_p cB cC cI cJ cZ (fun r => oA (pN 22 r)) (fun r => rA (pN 22 r)) (fun _ => σ_15.2.2.2 0) ++ b_p cB cC cI cJ cZ (fun r => oA (pN 23 r)) (fun r => rA (pN 23 r)) (fun _ => σ_15.2.2.2 1) ++ b_p cB cC cI cJ cZ (fun r => oA (pN 24 r)) (fun r => rA (pN 24 r)) (fun _ => σ_15.2.2.2 2) ++ b_p cB cC cI cJ cZ (fun r => oA (pN 25 r)) (fun r => rA (pN 25 r)) (fun _ => σ_15.2.2.2 3) ++ b_p cB cC cI cJ cZ (fun r => oA (pN 26 r)) (fun r => rA (pN 26 r)) (fun _ => σ_15.2.2.2 4) ++ b_p cB cC cI cJ cZ (fun r => oA (pN 27 r)) (fun r => rA (pN 27 r)) (fun _ => σ_15.2.2.2 5))) hP (hDD σ_15) hS hFc (bx_ix (b_HL cB cC cI cJ cZ cP oA rA σ_15 og om) [12, 11, 10, 9, 5, 6, 7, 8]) (bx_ix (b_HL cB cC cI cJ cZ cP oA rA σ_15 og om) [0, 1, 2, 3, 4, 13, 14, 15, 16, 17, 18, 19, 20, 21, 22, 23, 24, 25, 26]) (bx_C (bs := (b_HL cB cC cI cJ cZ cP oA rA σ_15 og om)) (bs' := [b_e cB cC cI cJ cZ oA rA σ_15.1, b_k cB cC cI cJ cZ oA rA σ_15.1, b_p cB cC cI cJ cZ oA rA σ_15.1, b_o cB cC cI cJ cZ oA rA σ_15.1, b_s cB cC cI cJ cZ oA rA σ_15.1, b_c cB cC cI cJ cZ oA rA σ_15.1, b_t cB cC cI cJ cZ oA rA σ_15.1, b_d cB cC cI cJ cZ oA rA σ_15.1]) (is := [12, 11, 10, 9, 5, 6, 7, 8]) fl_H fl_8 rfl) (bx_C (bs := (b_HL cB cC cI cJ cZ cP oA rA σ_15 og om)) (bs' := [b_h cB cC cI cJ cZ cP oA rA σ_15.1, b_b cB cC cI cJ cZ oA rA σ_15.1, b_ga cB cC cI cJ cZ oA rA σ_15.1 og, b_ma cB cC cI cJ cZ oA rA σ_15.1 om, b_w cB cC cI cJ cZ oA rA σ_15.1, b_s cB cC cI cJ cZ (fun r => oA (dN r)) (fun r => rA (dN r)) σ_15.2.1, b_c cB cC cI cJ cZ (fun r => oA (dN r)) (fun r => rA (dN r)) σ_15.2.1, b_t cB cC cI cJ cZ (fun r => oA (dN r)) (fun r => rA (dN r)) σ_15.2.1, b_d cB cC cI cJ cZ (fun r => oA (dN r)) (fun r => rA (dN r)) σ_15.2.1, b_p cB cC cI cJ cZ (fun r => oA (pN 18 r)) (fun r => rA (pN 18 r)) (fun _ => σ_15.2.2.1 0), b_p cB cC cI cJ cZ (fun r => oA (pN 19 r)) (fun r => rA (pN 19 r)) (fun _ => σ_15.2.2.1 1), b_p cB cC cI cJ cZ (fun r => oA (pN 20 r)) (fun r => rA (pN 20 r)) (fun _ => σ_15.2.2.1 2), b_p cB cC cI cJ cZ (fun r => oA (pN 21 r)) (fun r => rA (pN 21 r)) (fun _ => σ_15.2.2.1 3), b_p cB cC cI cJ cZ (fun r => oA (pN 22 r)) (fun r => rA (pN 22 r)) (fun _ => σ_15.2.2.2 0), b_p cB cC cI cJ cZ (fun r => oA (pN 23 r)) (fun r => rA (pN 23 r)) (fun _ => σ_15.2.2.2 1), b_p cB cC cI cJ cZ (fun r => oA (pN 24 r)) (fun r => rA (pN 24 r)) (fun _ => σ_15.2.2.2 2), b_p cB cC cI cJ cZ (fun r => oA (pN 25 r)) (fun r => rA (pN 25 r)) (fun _ => σ_15.2.2.2 3), b_p cB cC cI cJ cZ (fun r => oA (pN 26 r)) (fun r => rA (pN 26 r)) (fun _ => σ_15.2.2.2 4), b_p cB cC cI cJ cZ (fun r => oA (pN 27 r)) (fun r => rA (pN 27 r)) (fun _ => σ_15.2.2.2 5)]) (is := [0, 1, 2, 3, 4, 13, 14, 15, 16, 17, 18, 19, 20, 21, 22, 23, 24, 25, 26]) fl_H fl_19 rfl) (bx_n (by decide +kernel)) (bx_d (by decide +kernel)) (va_runV (As := []) (rest := []) ⟨hx, hb, hml, hown, hts⟩ (k_X8_look l dC dI cB cC cI cJ cZ cP oA rA H.size σ_15.1 _ hu_17) (cwV 0 hts (g_gV wq_974 wq_975 wq_976 wq_12 wq_977) rfl rfl rfl (by decide +kernel) ⟨Nat.le_of_ble_eq_true rfl, Nat.le_of_ble_eq_true rfl⟩) (g_preV g_bl0 hK hPc hDc hS hE hFc g_to0 (q0 := 0) (ci := 8) rfl rfl) rfl rfl hl.1 rfl (lv_room (Nat.le_of_ble_eq_true rfl)) dX11_begin_50 ⟨Nat.le_of_ble_eq_true rfl, Nat.le_of_ble_eq_true rfl⟩) (fun u9 H locs hw9 hP' hD' hS => ?_)
    clear hPc hDc hFc
    obtain ⟨σ_19, eσ_19, hF_20⟩ := bnd_e hF_18
    clear hF_18
    have hP : va_P (dC, dI) vwCl (b_H cB cC cI cJ cZ cP oA rA σ_19 og om) H := by rw [eσ_19]; exact bx_P (bs := [b_h cB cC cI cJ cZ cP oA rA σ_15.1, b_b cB cC cI cJ cZ oA rA σ_15.1, b_ga cB cC cI cJ cZ oA rA σ_15.1 og, b_ma cB cC cI cJ cZ oA rA σ_15.1 om, b_w cB cC cI cJ cZ oA rA σ_15.1, b_s cB cC cI cJ cZ (fun r => oA (dN r)) (fun r => rA (dN r)) σ_15.2.1, b_c cB cC cI cJ cZ (fun r => oA (dN r)) (fun r => rA (dN r)) σ_15.2.1, b_t cB cC cI cJ cZ (fun r => oA (dN r)) (fun r => rA (dN r)) σ_15.2.1, b_d cB cC cI cJ cZ (fun r => oA (dN r)) (fun r => rA (dN r)) σ_15.2.1, b_p cB cC cI cJ cZ (fun r => oA (pN 18 r)) (fun r => rA (pN 18 r)) (fun _ => σ_15.2.2.1 0), b_p cB cC cI cJ cZ (fun r => oA (pN 19 r)) (fun r => rA (pN 19 r)) (fun _ => σ_15.2.2.1 1), b_p cB cC cI cJ cZ (fun r => oA (pN 20 r)) (fun r => rA (pN 20 r)) (fun _ => σ_15.2.2.1 2), b_p cB cC cI cJ cZ (fun r => oA (pN 21 r)) (fun r => rA (pN 21 r)) (fun _ => σ_15.2.2.1 3), b_p cB cC cI cJ cZ (fun r => oA (pN 22 r)) (fun r => rA (pN 22 r)) (fun _ => σ_15.2.2.2 0), b_p cB cC cI cJ cZ (fun r => oA (pN 23 r)) (fun r => rA (pN 23 r)) (fun _ => σ_15.2.2.2 1), b_p cB cC cI cJ cZ (fun r => oA (pN 24 r)) (fun r => rA (pN 24 r)) (fun _ => σ_15.2.2.2 2), b_p cB cC cI cJ cZ (fun r => oA (pN 25 r)) (fun r => rA (pN 25 r)) (fun _ => σ_15.2.2.2 3), b_p cB cC cI cJ cZ (fun r => oA (pN 26 r)) (fun r => rA (pN 26 r)) (fun _ => σ_15.2.2.2 4), b_p cB cC cI cJ cZ (fun r => oA (pN 27 r)) (fun r => rA (pN 27 r)) (fun _ => σ_15.2.2.2 5)] ++ [b_e cB cC cI cJ cZ oA rA u_17.2, b_k cB cC cI cJ cZ oA rA u_17.2, b_p cB cC cI cJ cZ oA rA u_17.2, b_o cB cC cI cJ cZ oA rA u_17.2, b_s cB cC cI cJ cZ oA rA u_17.2, b_c cB cC cI cJ cZ oA rA u_17.2, b_t cB cC cI cJ cZ oA rA u_17.2, b_d cB cC cI cJ cZ oA rA u_17.2]) (bs' := (b_HL cB cC cI cJ cZ cP oA rA ((mrg (fun j => j == 11 || j == 10 || j == 9 || j == 8 || j == 4 || j == 5 || j == 6 || j == 7) σ_15.1 u_17.2, σ_15.2) : TS) og om)) hP' (fl_a fl_19 fl_8) fl_H [0, 1, 2, 3, 4, 23, 24, 25, 26, 22, 21, 20, 19, 5, 6, 7, 8, 9, 10, 11, 12, 13, 14, 15, 16, 17, 18] rfl
    clear hP' hD'
    have h9 := Option.some.inj hF_20
    subst h9
    refine W.widen (k := 1) (n := 6) (Nat.le_of_ble_eq_true rfl) (Nat.le_of_ble_eq_true rfl) ?_
    refine vx_ret ?_
    exact W.vret hx hb hr (fun t ht hW => ⟨⟨(), rfl, rfl, m_end ht hP, hDD _⟩, hS.F ht⟩) hS.2.2 dX11_begin_53
  · have hF_2 := ipos c_1 hF
    clear hF
    have h9 := Option.some.inj hF_2
    subst h9
    obtain ⟨q_3, vq_3, hRq_3, hSq_3⟩ := hE.2.2.2.2 _ (List.mem_of_getElem? (i := 25) rfl)
    exact vx_throwS hx hb hfl (own := RX11) (cls := "java/lang/IllegalStateException") (text := "nothing is built") (names := ["java/lang/RuntimeException", "java/lang/Exception"]) (A := A) hown (by decide +kernel) (by decide +kernel) (hts (.classLink RX11 115 "java/lang/IllegalStateException") wq_942) (hts (.initialized "java/lang/IllegalStateException") wq_18) hRq_3 (g_bad hN (fun w h => hts w (wx_119 w h)) (by decide +kernel) (g_badB hN (List.mem_of_getElem? (i := 1) rfl))) (by decide +kernel) hE.2.1 hE.2.2.1 hS (hl.1.trans hml.symm) dX11_begin_7 dX11_begin_10 dX11_begin_11 dX11_begin_13 dX11_begin_16 (fun x hx => (htab x hx).elim) (by decide) (by decide) (Nat.le_of_ble_eq_true rfl) (Nat.le_of_ble_eq_true rfl) hlocks (g_thr hP (hDD _) hS XN_2) hS.2.2 (Nat.le_of_ble_eq_true rfl) (Nat.le_of_ble_eq_true rfl)
