/-! methods of the class: what each does is its function -/
theorem dX2_thingItem_0 : decode cX2_thingItem 0 = .ok (.aload_n 0, 1) := by decide +kernel
theorem dX2_thingItem_1 : decode cX2_thingItem 1 = .ok (.iconst 2, 1) := by decide +kernel
theorem dX2_thingItem_2 : decode cX2_thingItem 2 = .ok (.invokevirtual 120, 3) := by decide +kernel
theorem dX2_thingItem_5 : decode cX2_thingItem 5 = .ok (.aload_n 0, 1) := by decide +kernel
theorem dX2_thingItem_6 : decode cX2_thingItem 6 = .ok (.iconst 4, 1) := by decide +kernel
theorem dX2_thingItem_7 : decode cX2_thingItem 7 = .ok (.invokevirtual 120, 3) := by decide +kernel
theorem dX2_thingItem_10 : decode cX2_thingItem 10 = .ok (.aload_n 0, 1) := by decide +kernel
theorem dX2_thingItem_11 : decode cX2_thingItem 11 = .ok (.bipush 123, 2) := by decide +kernel
theorem dX2_thingItem_13 : decode cX2_thingItem 13 = .ok (.invokevirtual 123, 3) := by decide +kernel
theorem dX2_thingItem_16 : decode cX2_thingItem 16 = .ok (.iconst 0, 1) := by decide +kernel
theorem dX2_thingItem_17 : decode cX2_thingItem 17 = .ok (.istore_n 1, 1) := by decide +kernel
theorem dX2_thingItem_18 : decode cX2_thingItem 18 = .ok (.iload_n 1, 1) := by decide +kernel
theorem dX2_thingItem_19 : decode cX2_thingItem 19 = .ok (.aload_n 0, 1) := by decide +kernel
theorem dX2_thingItem_20 : decode cX2_thingItem 20 = .ok (.getfield 9, 3) := by decide +kernel
theorem dX2_thingItem_23 : decode cX2_thingItem 23 = .ok (.getfield 38, 3) := by decide +kernel
theorem dX2_thingItem_26 : decode cX2_thingItem 26 = .ok (.if_icmp .ge 111, 3) := by decide +kernel
theorem dX2_thingItem_29 : decode cX2_thingItem 29 = .ok (.aload_n 0, 1) := by decide +kernel
theorem dX2_thingItem_30 : decode cX2_thingItem 30 = .ok (.getfield 29, 3) := by decide +kernel
theorem dX2_thingItem_33 : decode cX2_thingItem 33 = .ok (.bipush 125, 2) := by decide +kernel
theorem dX2_thingItem_35 : decode cX2_thingItem 35 = .ok (.if_icmp .eq 102, 3) := by decide +kernel
theorem dX2_thingItem_38 : decode cX2_thingItem 38 = .ok (.aload_n 0, 1) := by decide +kernel
theorem dX2_thingItem_39 : decode cX2_thingItem 39 = .ok (.getfield 29, 3) := by decide +kernel
theorem dX2_thingItem_42 : decode cX2_thingItem 42 = .ok (.ifCond .eq 95, 3) := by decide +kernel
theorem dX2_thingItem_45 : decode cX2_thingItem 45 = .ok (.aload_n 0, 1) := by decide +kernel
theorem dX2_thingItem_46 : decode cX2_thingItem 46 = .ok (.sipush 238, 3) := by decide +kernel
theorem dX2_thingItem_49 : decode cX2_thingItem 49 = .ok (.invokevirtual 126, 3) := by decide +kernel
theorem dX2_thingItem_52 : decode cX2_thingItem 52 = .ok (.ifCond .eq 11, 3) := by decide +kernel
theorem dX2_thingItem_55 : decode cX2_thingItem 55 = .ok (.aload_n 0, 1) := by decide +kernel
theorem dX2_thingItem_56 : decode cX2_thingItem 56 = .ok (.iconst 4, 1) := by decide +kernel
theorem dX2_thingItem_57 : decode cX2_thingItem 57 = .ok (.invokevirtual 120, 3) := by decide +kernel
theorem dX2_thingItem_60 : decode cX2_thingItem 60 = .ok (.goto 65, 3) := by decide +kernel
theorem dX2_thingItem_63 : decode cX2_thingItem 63 = .ok (.aload_n 0, 1) := by decide +kernel
theorem dX2_thingItem_64 : decode cX2_thingItem 64 = .ok (.sipush 219, 3) := by decide +kernel
theorem dX2_thingItem_67 : decode cX2_thingItem 67 = .ok (.invokevirtual 126, 3) := by decide +kernel
theorem dX2_thingItem_70 : decode cX2_thingItem 70 = .ok (.ifCond .eq 27, 3) := by decide +kernel
theorem dX2_thingItem_73 : decode cX2_thingItem 73 = .ok (.aload_n 0, 1) := by decide +kernel
theorem dX2_thingItem_74 : decode cX2_thingItem 74 = .ok (.aload_n 0, 1) := by decide +kernel
theorem dX2_thingItem_75 : decode cX2_thingItem 75 = .ok (.getfield 29, 3) := by decide +kernel
theorem dX2_thingItem_78 : decode cX2_thingItem 78 = .ok (.sipush 228, 3) := by decide +kernel
theorem dX2_thingItem_81 : decode cX2_thingItem 81 = .ok (.if_icmp .ne 9, 3) := by decide +kernel
theorem dX2_thingItem_84 : decode cX2_thingItem 84 = .ok (.sipush 228, 3) := by decide +kernel
theorem dX2_thingItem_87 : decode cX2_thingItem 87 = .ok (.goto 4, 3) := by decide +kernel
theorem dX2_thingItem_90 : decode cX2_thingItem 90 = .ok (.iconst 2, 1) := by decide +kernel
theorem dX2_thingItem_91 : decode cX2_thingItem 91 = .ok (.invokevirtual 120, 3) := by decide +kernel
theorem dX2_thingItem_94 : decode cX2_thingItem 94 = .ok (.goto 31, 3) := by decide +kernel
theorem dX2_thingItem_97 : decode cX2_thingItem 97 = .ok (.aload_n 0, 1) := by decide +kernel
theorem dX2_thingItem_98 : decode cX2_thingItem 98 = .ok (.sipush 240, 3) := by decide +kernel
theorem dX2_thingItem_101 : decode cX2_thingItem 101 = .ok (.invokevirtual 126, 3) := by decide +kernel
theorem dX2_thingItem_104 : decode cX2_thingItem 104 = .ok (.ifCond .eq 11, 3) := by decide +kernel
theorem dX2_thingItem_107 : decode cX2_thingItem 107 = .ok (.aload_n 0, 1) := by decide +kernel
theorem dX2_thingItem_108 : decode cX2_thingItem 108 = .ok (.invokevirtual 133, 3) := by decide +kernel
theorem dX2_thingItem_111 : decode cX2_thingItem 111 = .ok (.pop, 1) := by decide +kernel
theorem dX2_thingItem_112 : decode cX2_thingItem 112 = .ok (.goto 13, 3) := by decide +kernel
theorem dX2_thingItem_115 : decode cX2_thingItem 115 = .ok (.aload_n 0, 1) := by decide +kernel
theorem dX2_thingItem_116 : decode cX2_thingItem 116 = .ok (.sipush 206, 3) := by decide +kernel
theorem dX2_thingItem_119 : decode cX2_thingItem 119 = .ok (.sipush 211, 3) := by decide +kernel
theorem dX2_thingItem_122 : decode cX2_thingItem 122 = .ok (.invokevirtual 53, 3) := by decide +kernel
theorem dX2_thingItem_125 : decode cX2_thingItem 125 = .ok (.aload_n 0, 1) := by decide +kernel
theorem dX2_thingItem_126 : decode cX2_thingItem 126 = .ok (.bipush 59, 2) := by decide +kernel
theorem dX2_thingItem_128 : decode cX2_thingItem 128 = .ok (.invokevirtual 120, 3) := by decide +kernel
theorem dX2_thingItem_131 : decode cX2_thingItem 131 = .ok (.iinc 1 1, 3) := by decide +kernel
theorem dX2_thingItem_134 : decode cX2_thingItem 134 = .ok (.goto (-116), 3) := by decide +kernel
theorem dX2_thingItem_137 : decode cX2_thingItem 137 = .ok (.aload_n 0, 1) := by decide +kernel
theorem dX2_thingItem_138 : decode cX2_thingItem 138 = .ok (.bipush 125, 2) := by decide +kernel
theorem dX2_thingItem_140 : decode cX2_thingItem 140 = .ok (.invokevirtual 130, 3) := by decide +kernel
theorem dX2_thingItem_143 : decode cX2_thingItem 143 = .ok (.return_, 1) := by decide +kernel
def F_X2_thingItem  (Γ : HS) : HR :=
  (F_X2_need 2 Γ).bind fun u_1 =>
  (F_X2_need 4 u_1.2).bind fun u_3 =>
  (F_X2_open 123 u_3.2).bind fun u_5 =>
  loopF (fun (again_8 : (Int32 × HS) → HR) (s_7 : Int32 × HS) => (
    bnd (fun  (σ_11 : HS) => (
      (F_X2_shut 125 σ_11).bind fun u_15 =>
      some (0, u_15.2)
    ) : HS → HR) fun j_12 =>
    if ((s_7.2 1).1 2) ≤ s_7.1 then (
      j_12  s_7.2
    ) else (
      if ((s_7.2 2).1 3) = 125 then (
        j_12  s_7.2
      ) else (
        if ((s_7.2 2).1 3) = 0 then (
          j_12  s_7.2
        ) else (
          (F_X2_accept 238 s_7.2).bind fun u_26 =>
          bnd (fun  (σ_28 : HS) => (
            (F_X2_need 59 σ_28).bind fun u_32 =>
            bnd (s_7.1 + 1) fun (x_34 : Int32) =>
            again_8 (x_34, u_32.2)
          ) : HS → HR) fun j_29 =>
          if u_26.1 = 0 then (
            (F_X2_accept 219 u_26.2).bind fun u_38 =>
            if u_38.1 = 0 then (
              (F_X2_accept 240 u_38.2).bind fun u_42 =>
              if u_42.1 = 0 then (
                (F_X2_needFrom 206 211 u_42.2).bind fun u_46 =>
                j_29  u_46.2
              ) else (
                (F_X2_names u_42.2).bind fun u_49 =>
                j_29  u_49.2
              )
            ) else (
              bnd (fun (t_52 : Int32) (σ_53 : HS) => (
                (F_X2_need t_52 σ_53).bind fun u_57 =>
                j_29  u_57.2
              ) : Int32 → HS → HR) fun j_54 =>
              if ((u_38.2 2).1 3) = 228 then (
                j_54 228 u_38.2
              ) else (
                j_54 2 u_38.2
              )
            )
          ) else (
            (F_X2_need 4 u_26.2).bind fun u_63 =>
            j_29  u_63.2
          )
        )
      )
    )
  )) FU (0, u_5.2)
set_option maxHeartbeats 4000000 in
set_option maxRecDepth 100000 in
theorem k_X2_thingItem (l : Launch) (dC : Nat → ClassId) (dI : Nat → Nat → Nat) (cB cC cI cJ cZ cP : ClassId) (oA : Nat → Nat) (rA : Nat → Nat → Nat) (sz : Nat)   (Γ : HS) (res : Int32 × HS) (hF : F_X2_thingItem  Γ = some res) : Met l yX2_thingItem (g_ws yX2_thingItem cX2_thingItem 2 none) ({ frames := 4, cells := 0, slots := 0, locals := 103 }) (va_Pc [.ref (oA 2)] (g_B (dC, dI) [(cB, .byte), (cC, .char), (cI, .int), (cJ, .long), (cZ, .boolean), (cP, .object "StoryHouse$Play")] sz (b_g cB cC cI cJ cZ oA rA Γ ++ b_w cB cC cI cJ cZ oA rA Γ ++ b_c cB cC cI cJ cZ oA rA Γ) g_0)) (va_Qv (fun (_ : Unit) => True) (g_Bo (dC, dI) (va_A (b_g cB cC cI cJ cZ oA rA Γ ++ b_w cB cC cI cJ cZ oA rA Γ ++ b_c cB cC cI cJ cZ oA rA Γ) sz) (fun (_ : Unit) => (b_g cB cC cI cJ cZ oA rA res.2 ++ b_w cB cC cI cJ cZ oA rA res.2 ++ b_c cB cC cI cJ cZ oA rA res.2))) (va_A (b_g cB cC cI cJ cZ oA rA Γ ++ b_w cB cC cI cJ cZ oA rA Γ ++ b_c cB cC cI cJ cZ oA rA Γ) sz)) 0 0 (va_A (b_g cB cC cI cJ cZ oA rA Γ ++ b_w cB cC cI cJ cZ oA rA Γ ++ b_c cB cC cI cJ cZ oA rA Γ) sz) := by
  refine Met.ofW (cc := cX2_thingItem) (maxL := 2) (ret := none) (by decide) rfl ?_
  intro p e s m args below meth c s₁ B hml hv
  obtain ⟨rfl, hsz, hP, hK, hD0, hE, hX⟩ := hv
  have hx := B.exec
  have hb := B.bytes
  have hr := B.returns
  have hts0 := atoms_spec (ws := g_ws yX2_thingItem cX2_thingItem 2 none) B.pre
  have hts : ∀ w ∈ lw_good, w.before ([.ref (oA 2)] : List Value).toArray s = true := fun w z => hts0 w (List.mem_cons_of_mem _ z)
  have hown : s.vm.findClass RX2 = some m.cls := findClass_of_methodNamed B.named
  have hlocks := B.notSynchronized
  subst hsz
  have hD1 := hD0.self (sz := s.heap.size)
  generalize hAe : va_A (b_g cB cC cI cJ cZ oA rA Γ ++ b_w cB cC cI cJ cZ oA rA Γ ++ b_c cB cC cI cJ cZ oA rA Γ) s.heap.size = A at hD1 hE hX ⊢
  have hA : ∀ q : Nat, s.heap.size ≤ q → A q := fun q z => by rw [← hAe]; exact Or.inr z
  have hDD : ∀ Γ : HS, va_D A (b_g cB cC cI cJ cZ oA rA Γ ++ b_w cB cC cI cJ cZ oA rA Γ ++ b_c cB cC cI cJ cZ oA rA Γ) := fun Γ9 => va_D_fst (ws := (b_g cB cC cI cJ cZ oA rA Γ ++ b_w cB cC cI cJ cZ oA rA Γ ++ b_c cB cC cI cJ cZ oA rA Γ)) (ws' := (b_g cB cC cI cJ cZ oA rA Γ9 ++ b_w cB cC cI cJ cZ oA rA Γ9 ++ b_c cB cC cI cJ cZ oA rA Γ9)) rfl hD1
  have hN := hE.1
  have hS : va_S A s.heap s.heap [] := va_S.rf
  have hl := lv_entry ([.ref (oA 2)]) (n := 2) (Nat.le_of_ble_eq_true rfl)
  rw [lg_entry_eq]
  generalize (lg_sl ([.ref (oA 2)]) ++ List.replicate (2 - (lg_sl ([.ref (oA 2)])).length) Slot.unset).toArray = ls at hl ⊢
  have hl : lv_has ls 2 [(0, .ref (oA 2))] := hl
  unfold F_X2_thingItem at hF
  refine lv_aload_n hx hb dX2_thingItem_0 rfl (lv_at hl 0 rfl) ?_
  refine lv_iconst (v := 2) hx hb dX2_thingItem_1 (by decide +kernel) ?_
  obtain ⟨u_1, hu_1, hF_2⟩ := Option.bind_eq_some_iff.mp hF
  clear hF
  have hPc := hP.sub (ws' := (b_g cB cC cI cJ cZ oA rA Γ ++ b_w cB cC cI cJ cZ oA rA Γ ++ b_c cB cC cI cJ cZ oA rA Γ)) [0, 1, 2, 3, 4, 5, 6, 7, 8, 9, 10, 11, 12, 13, 14] rfl
  have hDc := (hDD Γ).sub (ws' := (b_g cB cC cI cJ cZ oA rA Γ ++ b_w cB cC cI cJ cZ oA rA Γ ++ b_c cB cC cI cJ cZ oA rA Γ)) [0, 1, 2, 3, 4, 5, 6, 7, 8, 9, 10, 11, 12, 13, 14] (by decide +kernel) rfl
  have hFc := va_free (wc := (b_g cB cC cI cJ cZ oA rA Γ ++ b_w cB cC cI cJ cZ oA rA Γ ++ b_c cB cC cI cJ cZ oA rA Γ)) (hDD Γ) hS hA [0, 1, 2, 3, 4, 5, 6, 7, 8, 9, 10, 11, 12, 13, 14] rfl
  refine g_ofv (wc := (b_g cB cC cI cJ cZ oA rA Γ ++ b_w cB cC cI cJ cZ oA rA Γ ++ b_c cB cC cI cJ cZ oA rA Γ)) (wr := ([] : va_W)) hP (hDD Γ) hS hFc [0, 1, 2, 3, 4, 5, 6, 7, 8, 9, 10, 11, 12, 13, 14] [] rfl rfl (by decide +kernel) (by decide +kernel) (va_runV (As := [.int 2]) (rest := []) ⟨hx, hb, hml, hown, hts⟩ (k_X2_need l dC dI cB cC cI cJ cZ cP oA rA s.heap.size  2 Γ _ hu_1) (cwV 1 hts (g_gV wq_564 wq_565 wq_2000 wq_3 wq_566) rfl rfl rfl (by decide +kernel) ⟨Nat.le_of_ble_eq_true rfl, Nat.le_of_ble_eq_true rfl⟩) (g_preV g_bl0 hK hPc hDc hS hE hFc g_to0 (q0 := 0) (ci := 2) rfl rfl) rfl rfl hl.1 rfl (lv_room (Nat.le_of_ble_eq_true rfl)) dX2_thingItem_2 ⟨Nat.le_of_ble_eq_true rfl, Nat.le_of_ble_eq_true rfl⟩) (fun u9 H locs hw9 hP' hD' hS => ?_)
  clear hPc hDc hFc
  have hP : va_P (dC, dI) vwCl (b_g cB cC cI cJ cZ oA rA u_1.2 ++ b_w cB cC cI cJ cZ oA rA u_1.2 ++ b_c cB cC cI cJ cZ oA rA u_1.2) H := hP'
  clear hP' hD'
  refine lv_aload_n hx hb dX2_thingItem_5 rfl (lv_at hl 0 rfl) ?_
  refine lv_iconst (v := 4) hx hb dX2_thingItem_6 (by decide +kernel) ?_
  obtain ⟨u_3, hu_3, hF_4⟩ := Option.bind_eq_some_iff.mp hF_2
  clear hF_2
  have hPc := hP.sub (ws' := (b_g cB cC cI cJ cZ oA rA u_1.2 ++ b_w cB cC cI cJ cZ oA rA u_1.2 ++ b_c cB cC cI cJ cZ oA rA u_1.2)) [0, 1, 2, 3, 4, 5, 6, 7, 8, 9, 10, 11, 12, 13, 14] rfl
  have hDc := (hDD u_1.2).sub (ws' := (b_g cB cC cI cJ cZ oA rA u_1.2 ++ b_w cB cC cI cJ cZ oA rA u_1.2 ++ b_c cB cC cI cJ cZ oA rA u_1.2)) [0, 1, 2, 3, 4, 5, 6, 7, 8, 9, 10, 11, 12, 13, 14] (by decide +kernel) rfl
  have hFc := va_free (wc := (b_g cB cC cI cJ cZ oA rA u_1.2 ++ b_w cB cC cI cJ cZ oA rA u_1.2 ++ b_c cB cC cI cJ cZ oA rA u_1.2)) (hDD u_1.2) hS hA [0, 1, 2, 3, 4, 5, 6, 7, 8, 9, 10, 11, 12, 13, 14] rfl
  refine g_ofv (wc := (b_g cB cC cI cJ cZ oA rA u_1.2 ++ b_w cB cC cI cJ cZ oA rA u_1.2 ++ b_c cB cC cI cJ cZ oA rA u_1.2)) (wr := ([] : va_W)) hP (hDD u_1.2) hS hFc [0, 1, 2, 3, 4, 5, 6, 7, 8, 9, 10, 11, 12, 13, 14] [] rfl rfl (by decide +kernel) (by decide +kernel) (va_runV (As := [.int 4]) (rest := []) ⟨hx, hb, hml, hown, hts⟩ (k_X2_need l dC dI cB cC cI cJ cZ cP oA rA H.size  4 u_1.2 _ hu_3) (cwV 1 hts (g_gV wq_564 wq_565 wq_2000 wq_3 wq_566) rfl rfl rfl (by decide +kernel) ⟨Nat.le_of_ble_eq_true rfl, Nat.le_of_ble_eq_true rfl⟩) (g_preV g_bl0 hK hPc hDc hS hE hFc g_to0 (q0 := 0) (ci := 2) rfl rfl) rfl rfl hl.1 rfl (lv_room (Nat.le_of_ble_eq_true rfl)) dX2_thingItem_7 ⟨Nat.le_of_ble_eq_true rfl, Nat.le_of_ble_eq_true rfl⟩) (fun u9 H locs hw9 hP' hD' hS => ?_)
  clear hPc hDc hFc
  have hP : va_P (dC, dI) vwCl (b_g cB cC cI cJ cZ oA rA u_3.2 ++ b_w cB cC cI cJ cZ oA rA u_3.2 ++ b_c cB cC cI cJ cZ oA rA u_3.2) H := hP'
  clear hP' hD'
  refine lv_aload_n hx hb dX2_thingItem_10 rfl (lv_at hl 0 rfl) ?_
  refine lv_bipush (v := 123) hx hb dX2_thingItem_11 (by decide +kernel) ?_
  obtain ⟨u_5, hu_5, hF_6⟩ := Option.bind_eq_some_iff.mp hF_4
  clear hF_4
  have hPc := hP.sub (ws' := (b_g cB cC cI cJ cZ oA rA u_3.2 ++ b_w cB cC cI cJ cZ oA rA u_3.2 ++ b_c cB cC cI cJ cZ oA rA u_3.2)) [0, 1, 2, 3, 4, 5, 6, 7, 8, 9, 10, 11, 12, 13, 14] rfl
  have hDc := (hDD u_3.2).sub (ws' := (b_g cB cC cI cJ cZ oA rA u_3.2 ++ b_w cB cC cI cJ cZ oA rA u_3.2 ++ b_c cB cC cI cJ cZ oA rA u_3.2)) [0, 1, 2, 3, 4, 5, 6, 7, 8, 9, 10, 11, 12, 13, 14] (by decide +kernel) rfl
  have hFc := va_free (wc := (b_g cB cC cI cJ cZ oA rA u_3.2 ++ b_w cB cC cI cJ cZ oA rA u_3.2 ++ b_c cB cC cI cJ cZ oA rA u_3.2)) (hDD u_3.2) hS hA [0, 1, 2, 3, 4, 5, 6, 7, 8, 9, 10, 11, 12, 13, 14] rfl
  refine g_ofv (wc := (b_g cB cC cI cJ cZ oA rA u_3.2 ++ b_w cB cC cI cJ cZ oA rA u_3.2 ++ b_c cB cC cI cJ cZ oA rA u_3.2)) (wr := ([] : va_W)) hP (hDD u_3.2) hS hFc [0, 1, 2, 3, 4, 5, 6, 7, 8, 9, 10, 11, 12, 13, 14] [] rfl rfl (by decide +kernel) (by decide +kernel) (va_runV (As := [.int 123]) (rest := []) ⟨hx, hb, hml, hown, hts⟩ (k_X2_open l dC dI cB cC cI cJ cZ cP oA rA H.size  123 u_3.2 _ hu_5) (cwV 1 hts (g_gV wq_567 wq_568 wq_2001 wq_3 wq_569) rfl rfl rfl (by decide +kernel) ⟨Nat.le_of_ble_eq_true rfl, Nat.le_of_ble_eq_true rfl⟩) (g_preV g_bl0 hK hPc hDc hS hE hFc g_to0 (q0 := 0) (ci := 2) rfl rfl) rfl rfl hl.1 rfl (lv_room (Nat.le_of_ble_eq_true rfl)) dX2_thingItem_13 ⟨Nat.le_of_ble_eq_true rfl, Nat.le_of_ble_eq_true rfl⟩) (fun u9 H locs hw9 hP' hD' hS => ?_)
  clear hPc hDc hFc
  have hP : va_P (dC, dI) vwCl (b_g cB cC cI cJ cZ oA rA u_5.2 ++ b_w cB cC cI cJ cZ oA rA u_5.2 ++ b_c cB cC cI cJ cZ oA rA u_5.2) H := hP'
  clear hP' hD'
  refine lv_iconst (v := 0) hx hb dX2_thingItem_16 (by decide +kernel) ?_
  refine lv_istore_n (lv' := [(1, .int 0), (0, .ref (oA 2))]) hx hb dX2_thingItem_17 rfl hl (by decide) rfl (fun ls hl => ?_)
  refine loopF_ind (P := fun (s_7 : Int32 × HS) => ∀ (H : Heap) (locs : List Loc), va_P (dC, dI) vwCl (b_g cB cC cI cJ cZ oA rA s_7.2 ++ b_w cB cC cI cJ cZ oA rA s_7.2 ++ b_c cB cC cI cJ cZ oA rA s_7.2) H → va_S A s.heap H locs → ∀ ls : Array Slot, lv_has ls 2 [(0, .ref (oA 2)), (1, .int s_7.1)] → W p l e (headSpec (g_ws yX2_thingItem cX2_thingItem 2 none) { frames := 4, cells := 0, slots := 0, locals := 103 }).room s m ([.ref (oA 2)] : List Value).toArray below meth c H locs 0 0 (MQ below (va_Qv (fun (_ : Unit) => True) (g_Bo (dC, dI) A (fun (_ : Unit) => (b_g cB cC cI cJ cZ oA rA res.2 ++ b_w cB cC cI cJ cZ oA rA res.2 ++ b_c cB cC cI cJ cZ oA rA res.2))) A) ([.ref (oA 2)] : List Value).toArray s 0 0 A) (F0 m 18 ls [])) ?_ _ _ hF_6 _ _ hP hS ls (lv_sub hl [1, 0] rfl)
  intro again_8 s_7 ih_9 hF_10
  intro H locs hP hS ls hl
  refine lv_iload_n hx hb dX2_thingItem_18 rfl (lv_at hl 1 rfl) ?_
  refine lv_aload_n hx hb dX2_thingItem_19 rfl (lv_at hl 0 rfl) ?_
  refine va_get (D := (dC, dI)) (ci := 2) (v := .ref (oA 1)) (C := RX2) (T := TX2) (N := 8) hx hb hts ii_X2 hown hK hP 0 rfl rfl 0 (by decide) (hts (.fieldLink RX2 9 "StoryHouse$Grammar" "words" "LStoryHouse$Words;") wq_71) (fun _ h9 => h9) rfl dX2_thingItem_20 ?_
  refine va_get (D := (dC, dI)) (ci := 10) (v := .int ((s_7.2 1).1 2)) (C := RX10) (T := TX10) (N := 12) hx hb hts ii_X10 hown hK hP 1 rfl rfl 2 (by decide) (hts (.fieldLink RX2 38 "StoryHouse$Words" "count" "I") wq_47) (fun _ h9 => h9) rfl dX2_thingItem_23 ?_
  obtain ⟨j_12, ej_12, hF_13⟩ := bnd_e hF_10
  clear hF_10
  have Jj_12 : ∀  (σ_11 : HS), j_12  σ_11 = some res → ∀ (H : Heap) (locs : List Loc), va_P (dC, dI) vwCl (b_g cB cC cI cJ cZ oA rA σ_11 ++ b_w cB cC cI cJ cZ oA rA σ_11 ++ b_c cB cC cI cJ cZ oA rA σ_11) H → va_S A s.heap H locs → ∀ ls : Array Slot, lv_has ls 2 [(0, .ref (oA 2))] → W p l e (headSpec (g_ws yX2_thingItem cX2_thingItem 2 none) { frames := 4, cells := 0, slots := 0, locals := 103 }).room s m ([.ref (oA 2)] : List Value).toArray below meth c H locs 0 0 (MQ below (va_Qv (fun (_ : Unit) => True) (g_Bo (dC, dI) A (fun (_ : Unit) => (b_g cB cC cI cJ cZ oA rA res.2 ++ b_w cB cC cI cJ cZ oA rA res.2 ++ b_c cB cC cI cJ cZ oA rA res.2))) A) ([.ref (oA 2)] : List Value).toArray s 0 0 A) (F0 m 137 ls []) := by
    intro  σ_11 hF0 H locs hP hS ls hl
    subst ej_12
    have hF_14 := hF0
    clear hF0
    refine lv_aload_n hx hb dX2_thingItem_137 rfl (lv_at hl 0 rfl) ?_
    refine lv_bipush (v := 125) hx hb dX2_thingItem_138 (by decide +kernel) ?_
    obtain ⟨u_15, hu_15, hF_16⟩ := Option.bind_eq_some_iff.mp hF_14
    clear hF_14
    have hPc := hP.sub (ws' := (b_g cB cC cI cJ cZ oA rA σ_11 ++ b_w cB cC cI cJ cZ oA rA σ_11 ++ b_c cB cC cI cJ cZ oA rA σ_11)) [0, 1, 2, 3, 4, 5, 6, 7, 8, 9, 10, 11, 12, 13, 14] rfl
    have hDc := (hDD σ_11).sub (ws' := (b_g cB cC cI cJ cZ oA rA σ_11 ++ b_w cB cC cI cJ cZ oA rA σ_11 ++ b_c cB cC cI cJ cZ oA rA σ_11)) [0, 1, 2, 3, 4, 5, 6, 7, 8, 9, 10, 11, 12, 13, 14] (by decide +kernel) rfl
    have hFc := va_free (wc := (b_g cB cC cI cJ cZ oA rA σ_11 ++ b_w cB cC cI cJ cZ oA rA σ_11 ++ b_c cB cC cI cJ cZ oA rA σ_11)) (hDD σ_11) hS hA [0, 1, 2, 3, 4, 5, 6, 7, 8, 9, 10, 11, 12, 13, 14] rfl
    refine g_ofv (wc := (b_g cB cC cI cJ cZ oA rA σ_11 ++ b_w cB cC cI cJ cZ oA rA σ_11 ++ b_c cB cC cI cJ cZ oA rA σ_11)) (wr := ([] : va_W)) hP (hDD σ_11) hS hFc [0, 1, 2, 3, 4, 5, 6, 7, 8, 9, 10, 11, 12, 13, 14] [] rfl rfl (by decide +kernel) (by decide +kernel) (va_runV (As := [.int 125]) (rest := []) ⟨hx, hb, hml, hown, hts⟩ (k_X2_shut l dC dI cB cC cI cJ cZ cP oA rA H.size  125 σ_11 _ hu_15) (cwV 1 hts (g_gV wq_576 wq_577 wq_2004 wq_3 wq_578) rfl rfl rfl (by decide +kernel) ⟨Nat.le_of_ble_eq_true rfl, Nat.le_of_ble_eq_true rfl⟩) (g_preV g_bl0 hK hPc hDc hS hE hFc g_to0 (q0 := 0) (ci := 2) rfl rfl) rfl rfl hl.1 rfl (lv_room (Nat.le_of_ble_eq_true rfl)) dX2_thingItem_140 ⟨Nat.le_of_ble_eq_true rfl, Nat.le_of_ble_eq_true rfl⟩) (fun u9 H locs hw9 hP' hD' hS => ?_)
    clear hPc hDc hFc
    have hP : va_P (dC, dI) vwCl (b_g cB cC cI cJ cZ oA rA u_15.2 ++ b_w cB cC cI cJ cZ oA rA u_15.2 ++ b_c cB cC cI cJ cZ oA rA u_15.2) H := hP'
    clear hP' hD'
    have h9 := Option.some.inj hF_16
    subst h9
    exact W.vret hx hb hr (fun t ht hW => ⟨⟨(), rfl, trivial, m_end ht hP, hDD _⟩, hS.F ht⟩) hS.2.2 dX2_thingItem_143
  refine lv_icmp_ge (tgt := 137) hx hb dX2_thingItem_26 (by decide) (fun c_17 => ?_) (fun c_17 => ?_)
  · have hF_18 := ipos c_17 hF_13
    clear hF_13
    exact Jj_12  s_7.2 hF_18 _ _ hP hS ls (lv_sub hl [0] rfl)
  · have hF_19 := ineg c_17 hF_13
    clear hF_13
    refine lv_aload_n hx hb dX2_thingItem_29 rfl (lv_at hl 0 rfl) ?_
    refine va_get (D := (dC, dI)) (ci := 2) (v := .int ((s_7.2 2).1 3)) (C := RX2) (T := TX2) (N := 8) hx hb hts ii_X2 hown hK hP 0 rfl rfl 3 (by decide) (hts (.fieldLink RX2 29 "StoryHouse$Grammar" "kind" "I") wq_74) (fun _ h9 => h9) rfl dX2_thingItem_30 ?_
    refine lv_bipush (v := 125) hx hb dX2_thingItem_33 (by decide +kernel) ?_
    refine lv_icmp_eq (tgt := 137) hx hb dX2_thingItem_35 (by decide) (fun c_20 => ?_) (fun c_20 => ?_)
    · have hF_21 := ipos c_20 hF_19
      clear hF_19
      exact Jj_12  s_7.2 hF_21 _ _ hP hS ls (lv_sub hl [0] rfl)
    · have hF_22 := ineg c_20 hF_19
      clear hF_19
      refine lv_aload_n hx hb dX2_thingItem_38 rfl (lv_at hl 0 rfl) ?_
      refine va_get (D := (dC, dI)) (ci := 2) (v := .int ((s_7.2 2).1 3)) (C := RX2) (T := TX2) (N := 8) hx hb hts ii_X2 hown hK hP 0 rfl rfl 3 (by decide) (hts (.fieldLink RX2 29 "StoryHouse$Grammar" "kind" "I") wq_74) (fun _ h9 => h9) rfl dX2_thingItem_39 ?_
      refine lv_if_eq (tgt := 137) hx hb dX2_thingItem_42 (by decide) (fun c_23 => ?_) (fun c_23 => ?_)
      · have hF_24 := ipos c_23 hF_22
        clear hF_22
        exact Jj_12  s_7.2 hF_24 _ _ hP hS ls (lv_sub hl [0] rfl)
      · have hF_25 := ineg c_23 hF_22
        clear hF_22
        refine lv_aload_n hx hb dX2_thingItem_45 rfl (lv_at hl 0 rfl) ?_
        refine lv_sipush (v := 238) hx hb dX2_thingItem_46 (by decide +kernel) ?_
        obtain ⟨u_26, hu_26, hF_27⟩ := Option.bind_eq_some_iff.mp hF_25
        clear hF_25
        have hPc := hP.sub (ws' := (b_g cB cC cI cJ cZ oA rA s_7.2 ++ b_w cB cC cI cJ cZ oA rA s_7.2 ++ b_c cB cC cI cJ cZ oA rA s_7.2)) [0, 1, 2, 3, 4, 5, 6, 7, 8, 9, 10, 11, 12, 13, 14] rfl
        have hDc := (hDD s_7.2).sub (ws' := (b_g cB cC cI cJ cZ oA rA s_7.2 ++ b_w cB cC cI cJ cZ oA rA s_7.2 ++ b_c cB cC cI cJ cZ oA rA s_7.2)) [0, 1, 2, 3, 4, 5, 6, 7, 8, 9, 10, 11, 12, 13, 14] (by decide +kernel) rfl
        have hFc := va_free (wc := (b_g cB cC cI cJ cZ oA rA s_7.2 ++ b_w cB cC cI cJ cZ oA rA s_7.2 ++ b_c cB cC cI cJ cZ oA rA s_7.2)) (hDD s_7.2) hS hA [0, 1, 2, 3, 4, 5, 6, 7, 8, 9, 10, 11, 12, 13, 14] rfl
        refine g_ofi (wc := (b_g cB cC cI cJ cZ oA rA s_7.2 ++ b_w cB cC cI cJ cZ oA rA s_7.2 ++ b_c cB cC cI cJ cZ oA rA s_7.2)) (wr := ([] : va_W)) hP (hDD s_7.2) hS hFc [0, 1, 2, 3, 4, 5, 6, 7, 8, 9, 10, 11, 12, 13, 14] [] rfl rfl (by decide +kernel) (by decide +kernel) (va_runV (As := [.int 238]) (rest := []) ⟨hx, hb, hml, hown, hts⟩ (k_X2_accept l dC dI cB cC cI cJ cZ cP oA rA H.size  238 s_7.2 _ hu_26) (cwV 1 hts (g_gV wq_573 wq_574 wq_2003 wq_3 wq_575) rfl rfl rfl (by decide +kernel) ⟨Nat.le_of_ble_eq_true rfl, Nat.le_of_ble_eq_true rfl⟩) (g_preV g_bl0 hK hPc hDc hS hE hFc g_to0 (q0 := 0) (ci := 2) rfl rfl) rfl rfl hl.1 rfl (lv_room (Nat.le_of_ble_eq_true rfl)) dX2_thingItem_49 ⟨Nat.le_of_ble_eq_true rfl, Nat.le_of_ble_eq_true rfl⟩) (fun r9 u9 H locs hw9 hP' hD' hS => ?_)
        clear hPc hDc hFc
        subst hw9
        have hP : va_P (dC, dI) vwCl (b_g cB cC cI cJ cZ oA rA u_26.2 ++ b_w cB cC cI cJ cZ oA rA u_26.2 ++ b_c cB cC cI cJ cZ oA rA u_26.2) H := hP'
        clear hP' hD'
        obtain ⟨j_29, ej_29, hF_30⟩ := bnd_e hF_27
        clear hF_27
        have Jj_29 : ∀  (σ_28 : HS), j_29  σ_28 = some res → ∀ (H : Heap) (locs : List Loc), va_P (dC, dI) vwCl (b_g cB cC cI cJ cZ oA rA σ_28 ++ b_w cB cC cI cJ cZ oA rA σ_28 ++ b_c cB cC cI cJ cZ oA rA σ_28) H → va_S A s.heap H locs → ∀ ls : Array Slot, lv_has ls 2 [(0, .ref (oA 2)), (1, .int s_7.1)] → W p l e (headSpec (g_ws yX2_thingItem cX2_thingItem 2 none) { frames := 4, cells := 0, slots := 0, locals := 103 }).room s m ([.ref (oA 2)] : List Value).toArray below meth c H locs 0 0 (MQ below (va_Qv (fun (_ : Unit) => True) (g_Bo (dC, dI) A (fun (_ : Unit) => (b_g cB cC cI cJ cZ oA rA res.2 ++ b_w cB cC cI cJ cZ oA rA res.2 ++ b_c cB cC cI cJ cZ oA rA res.2))) A) ([.ref (oA 2)] : List Value).toArray s 0 0 A) (F0 m 125 ls []) := by
          intro  σ_28 hF0 H locs hP hS ls hl
          subst ej_29
          have hF_31 := hF0
          clear hF0
          refine lv_aload_n hx hb dX2_thingItem_125 rfl (lv_at hl 0 rfl) ?_
          refine lv_bipush (v := 59) hx hb dX2_thingItem_126 (by decide +kernel) ?_
          obtain ⟨u_32, hu_32, hF_33⟩ := Option.bind_eq_some_iff.mp hF_31
          clear hF_31
          have hPc := hP.sub (ws' := (b_g cB cC cI cJ cZ oA rA σ_28 ++ b_w cB cC cI cJ cZ oA rA σ_28 ++ b_c cB cC cI cJ cZ oA rA σ_28)) [0, 1, 2, 3, 4, 5, 6, 7, 8, 9, 10, 11, 12, 13, 14] rfl
          have hDc := (hDD σ_28).sub (ws' := (b_g cB cC cI cJ cZ oA rA σ_28 ++ b_w cB cC cI cJ cZ oA rA σ_28 ++ b_c cB cC cI cJ cZ oA rA σ_28)) [0, 1, 2, 3, 4, 5, 6, 7, 8, 9, 10, 11, 12, 13, 14] (by decide +kernel) rfl
          have hFc := va_free (wc := (b_g cB cC cI cJ cZ oA rA σ_28 ++ b_w cB cC cI cJ cZ oA rA σ_28 ++ b_c cB cC cI cJ cZ oA rA σ_28)) (hDD σ_28) hS hA [0, 1, 2, 3, 4, 5, 6, 7, 8, 9, 10, 11, 12, 13, 14] rfl
          refine g_ofv (wc := (b_g cB cC cI cJ cZ oA rA σ_28 ++ b_w cB cC cI cJ cZ oA rA σ_28 ++ b_c cB cC cI cJ cZ oA rA σ_28)) (wr := ([] : va_W)) hP (hDD σ_28) hS hFc [0, 1, 2, 3, 4, 5, 6, 7, 8, 9, 10, 11, 12, 13, 14] [] rfl rfl (by decide +kernel) (by decide +kernel) (va_runV (As := [.int 59]) (rest := []) ⟨hx, hb, hml, hown, hts⟩ (k_X2_need l dC dI cB cC cI cJ cZ cP oA rA H.size  59 σ_28 _ hu_32) (cwV 1 hts (g_gV wq_564 wq_565 wq_2000 wq_3 wq_566) rfl rfl rfl (by decide +kernel) ⟨Nat.le_of_ble_eq_true rfl, Nat.le_of_ble_eq_true rfl⟩) (g_preV g_bl0 hK hPc hDc hS hE hFc g_to0 (q0 := 0) (ci := 2) rfl rfl) rfl rfl hl.1 rfl (lv_room (Nat.le_of_ble_eq_true rfl)) dX2_thingItem_128 ⟨Nat.le_of_ble_eq_true rfl, Nat.le_of_ble_eq_true rfl⟩) (fun u9 H locs hw9 hP' hD' hS => ?_)
          clear hPc hDc hFc
          have hP : va_P (dC, dI) vwCl (b_g cB cC cI cJ cZ oA rA u_32.2 ++ b_w cB cC cI cJ cZ oA rA u_32.2 ++ b_c cB cC cI cJ cZ oA rA u_32.2) H := hP'
          clear hP' hD'
          obtain ⟨x_34, ex_34, hF_35⟩ := bnd_e hF_33
          clear hF_33
          refine lv_iinc (v := x_34) (lv' := [(1, .int x_34), (0, .ref (oA 2))]) hx hb dX2_thingItem_131 hl (k := 1) rfl (by rw [ex_34]; rfl) (by decide) rfl (fun ls hl => ?_)
          refine lv_goto (tgt := 18) hx hb dX2_thingItem_134 (by decide) ?_
          exact ih_9 (x_34, u_32.2) hF_35 _ _ hP hS ls (lv_sub hl [1, 0] rfl)
        refine lv_if_eq (tgt := 63) hx hb dX2_thingItem_52 (by decide) (fun c_36 => ?_) (fun c_36 => ?_)
        · have hF_37 := ipos c_36 hF_30
          clear hF_30
          refine lv_aload_n hx hb dX2_thingItem_63 rfl (lv_at hl 0 rfl) ?_
          refine lv_sipush (v := 219) hx hb dX2_thingItem_64 (by decide +kernel) ?_
          obtain ⟨u_38, hu_38, hF_39⟩ := Option.bind_eq_some_iff.mp hF_37
          clear hF_37
          have hPc := hP.sub (ws' := (b_g cB cC cI cJ cZ oA rA u_26.2 ++ b_w cB cC cI cJ cZ oA rA u_26.2 ++ b_c cB cC cI cJ cZ oA rA u_26.2)) [0, 1, 2, 3, 4, 5, 6, 7, 8, 9, 10, 11, 12, 13, 14] rfl
          have hDc := (hDD u_26.2).sub (ws' := (b_g cB cC cI cJ cZ oA rA u_26.2 ++ b_w cB cC cI cJ cZ oA rA u_26.2 ++ b_c cB cC cI cJ cZ oA rA u_26.2)) [0, 1, 2, 3, 4, 5, 6, 7, 8, 9, 10, 11, 12, 13, 14] (by decide +kernel) rfl
          have hFc := va_free (wc := (b_g cB cC cI cJ cZ oA rA u_26.2 ++ b_w cB cC cI cJ cZ oA rA u_26.2 ++ b_c cB cC cI cJ cZ oA rA u_26.2)) (hDD u_26.2) hS hA [0, 1, 2, 3, 4, 5, 6, 7, 8, 9, 10, 11, 12, 13, 14] rfl
          refine g_ofi (wc := (b_g cB cC cI cJ cZ oA rA u_26.2 ++ b_w cB cC cI cJ cZ oA rA u_26.2 ++ b_c cB cC cI cJ cZ oA rA u_26.2)) (wr := ([] : va_W)) hP (hDD u_26.2) hS hFc [0, 1, 2, 3, 4, 5, 6, 7, 8, 9, 10, 11, 12, 13, 14] [] rfl rfl (by decide +kernel) (by decide +kernel) (va_runV (As := [.int 219]) (rest := []) ⟨hx, hb, hml, hown, hts⟩ (k_X2_accept l dC dI cB cC cI cJ cZ cP oA rA H.size  219 u_26.2 _ hu_38) (cwV 1 hts (g_gV wq_573 wq_574 wq_2003 wq_3 wq_575) rfl rfl rfl (by decide +kernel) ⟨Nat.le_of_ble_eq_true rfl, Nat.le_of_ble_eq_true rfl⟩) (g_preV g_bl0 hK hPc hDc hS hE hFc g_to0 (q0 := 0) (ci := 2) rfl rfl) rfl rfl hl.1 rfl (lv_room (Nat.le_of_ble_eq_true rfl)) dX2_thingItem_67 ⟨Nat.le_of_ble_eq_true rfl, Nat.le_of_ble_eq_true rfl⟩) (fun r9 u9 H locs hw9 hP' hD' hS => ?_)
          clear hPc hDc hFc
          subst hw9
          have hP : va_P (dC, dI) vwCl (b_g cB cC cI cJ cZ oA rA u_38.2 ++ b_w cB cC cI cJ cZ oA rA u_38.2 ++ b_c cB cC cI cJ cZ oA rA u_38.2) H := hP'
          clear hP' hD'
          refine lv_if_eq (tgt := 97) hx hb dX2_thingItem_70 (by decide) (fun c_40 => ?_) (fun c_40 => ?_)
          · have hF_41 := ipos c_40 hF_39
            clear hF_39
            refine lv_aload_n hx hb dX2_thingItem_97 rfl (lv_at hl 0 rfl) ?_
            refine lv_sipush (v := 240) hx hb dX2_thingItem_98 (by decide +kernel) ?_
            obtain ⟨u_42, hu_42, hF_43⟩ := Option.bind_eq_some_iff.mp hF_41
            clear hF_41
            have hPc := hP.sub (ws' := (b_g cB cC cI cJ cZ oA rA u_38.2 ++ b_w cB cC cI cJ cZ oA rA u_38.2 ++ b_c cB cC cI cJ cZ oA rA u_38.2)) [0, 1, 2, 3, 4, 5, 6, 7, 8, 9, 10, 11, 12, 13, 14] rfl
            have hDc := (hDD u_38.2).sub (ws' := (b_g cB cC cI cJ cZ oA rA u_38.2 ++ b_w cB cC cI cJ cZ oA rA u_38.2 ++ b_c cB cC cI cJ cZ oA rA u_38.2)) [0, 1, 2, 3, 4, 5, 6, 7, 8, 9, 10, 11, 12, 13, 14] (by decide +kernel) rfl
            have hFc := va_free (wc := (b_g cB cC cI cJ cZ oA rA u_38.2 ++ b_w cB cC cI cJ cZ oA rA u_38.2 ++ b_c cB cC cI cJ cZ oA rA u_38.2)) (hDD u_38.2) hS hA [0, 1, 2, 3, 4, 5, 6, 7, 8, 9, 10, 11, 12, 13, 14] rfl
            refine g_ofi (wc := (b_g cB cC cI cJ cZ oA rA u_38.2 ++ b_w cB cC cI cJ cZ oA rA u_38.2 ++ b_c cB cC cI cJ cZ oA rA u_38.2)) (wr := ([] : va_W)) hP (hDD u_38.2) hS hFc [0, 1, 2, 3, 4, 5, 6, 7, 8, 9, 10, 11, 12, 13, 14] [] rfl rfl (by decide +kernel) (by decide +kernel) (va_runV (As := [.int 240]) (rest := []) ⟨hx, hb, hml, hown, hts⟩ (k_X2_accept l dC dI cB cC cI cJ cZ cP oA rA H.size  240 u_38.2 _ hu_42) (cwV 1 hts (g_gV wq_573 wq_574 wq_2003 wq_3 wq_575) rfl rfl rfl (by decide +kernel) ⟨Nat.le_of_ble_eq_true rfl, Nat.le_of_ble_eq_true rfl⟩) (g_preV g_bl0 hK hPc hDc hS hE hFc g_to0 (q0 := 0) (ci := 2) rfl rfl) rfl rfl hl.1 rfl (lv_room (Nat.le_of_ble_eq_true rfl)) dX2_thingItem_101 ⟨Nat.le_of_ble_eq_true rfl, Nat.le_of_ble_eq_true rfl⟩) (fun r9 u9 H locs hw9 hP' hD' hS => ?_)
            clear hPc hDc hFc
            subst hw9
            have hP : va_P (dC, dI) vwCl (b_g cB cC cI cJ cZ oA rA u_42.2 ++ b_w cB cC cI cJ cZ oA rA u_42.2 ++ b_c cB cC cI cJ cZ oA rA u_42.2) H := hP'
            clear hP' hD'
            refine lv_if_eq (tgt := 115) hx hb dX2_thingItem_104 (by decide) (fun c_44 => ?_) (fun c_44 => ?_)
            · have hF_45 := ipos c_44 hF_43
              clear hF_43
              refine lv_aload_n hx hb dX2_thingItem_115 rfl (lv_at hl 0 rfl) ?_
              refine lv_sipush (v := 206) hx hb dX2_thingItem_116 (by decide +kernel) ?_
              refine lv_sipush (v := 211) hx hb dX2_thingItem_119 (by decide +kernel) ?_
              obtain ⟨u_46, hu_46, hF_47⟩ := Option.bind_eq_some_iff.mp hF_45
              clear hF_45
              have hPc := hP.sub (ws' := (b_g cB cC cI cJ cZ oA rA u_42.2 ++ b_w cB cC cI cJ cZ oA rA u_42.2 ++ b_c cB cC cI cJ cZ oA rA u_42.2)) [0, 1, 2, 3, 4, 5, 6, 7, 8, 9, 10, 11, 12, 13, 14] rfl
              have hDc := (hDD u_42.2).sub (ws' := (b_g cB cC cI cJ cZ oA rA u_42.2 ++ b_w cB cC cI cJ cZ oA rA u_42.2 ++ b_c cB cC cI cJ cZ oA rA u_42.2)) [0, 1, 2, 3, 4, 5, 6, 7, 8, 9, 10, 11, 12, 13, 14] (by decide +kernel) rfl
              have hFc := va_free (wc := (b_g cB cC cI cJ cZ oA rA u_42.2 ++ b_w cB cC cI cJ cZ oA rA u_42.2 ++ b_c cB cC cI cJ cZ oA rA u_42.2)) (hDD u_42.2) hS hA [0, 1, 2, 3, 4, 5, 6, 7, 8, 9, 10, 11, 12, 13, 14] rfl
              refine g_ofv (wc := (b_g cB cC cI cJ cZ oA rA u_42.2 ++ b_w cB cC cI cJ cZ oA rA u_42.2 ++ b_c cB cC cI cJ cZ oA rA u_42.2)) (wr := ([] : va_W)) hP (hDD u_42.2) hS hFc [0, 1, 2, 3, 4, 5, 6, 7, 8, 9, 10, 11, 12, 13, 14] [] rfl rfl (by decide +kernel) (by decide +kernel) (va_runV (As := [.int 206, .int 211]) (rest := []) ⟨hx, hb, hml, hown, hts⟩ (k_X2_needFrom l dC dI cB cC cI cJ cZ cP oA rA H.size  206 211 u_42.2 _ hu_46) (cwV 2 hts (g_gV wq_549 wq_550 wq_1995 wq_3 wq_551) rfl rfl rfl (by decide +kernel) ⟨Nat.le_of_ble_eq_true rfl, Nat.le_of_ble_eq_true rfl⟩) (g_preV g_bl0 hK hPc hDc hS hE hFc g_to0 (q0 := 0) (ci := 2) rfl rfl) rfl rfl hl.1 rfl (lv_room (Nat.le_of_ble_eq_true rfl)) dX2_thingItem_122 ⟨Nat.le_of_ble_eq_true rfl, Nat.le_of_ble_eq_true rfl⟩) (fun u9 H locs hw9 hP' hD' hS => ?_)
              clear hPc hDc hFc
              have hP : va_P (dC, dI) vwCl (b_g cB cC cI cJ cZ oA rA u_46.2 ++ b_w cB cC cI cJ cZ oA rA u_46.2 ++ b_c cB cC cI cJ cZ oA rA u_46.2) H := hP'
              clear hP' hD'
              exact Jj_29  u_46.2 hF_47 _ _ hP hS ls (lv_sub hl [0, 1] rfl)
            · have hF_48 := ineg c_44 hF_43
              clear hF_43
              refine lv_aload_n hx hb dX2_thingItem_107 rfl (lv_at hl 0 rfl) ?_
              obtain ⟨u_49, hu_49, hF_50⟩ := Option.bind_eq_some_iff.mp hF_48
              clear hF_48
              have hPc := hP.sub (ws' := (b_g cB cC cI cJ cZ oA rA u_42.2 ++ b_w cB cC cI cJ cZ oA rA u_42.2 ++ b_c cB cC cI cJ cZ oA rA u_42.2)) [0, 1, 2, 3, 4, 5, 6, 7, 8, 9, 10, 11, 12, 13, 14] rfl
              have hDc := (hDD u_42.2).sub (ws' := (b_g cB cC cI cJ cZ oA rA u_42.2 ++ b_w cB cC cI cJ cZ oA rA u_42.2 ++ b_c cB cC cI cJ cZ oA rA u_42.2)) [0, 1, 2, 3, 4, 5, 6, 7, 8, 9, 10, 11, 12, 13, 14] (by decide +kernel) rfl
              have hFc := va_free (wc := (b_g cB cC cI cJ cZ oA rA u_42.2 ++ b_w cB cC cI cJ cZ oA rA u_42.2 ++ b_c cB cC cI cJ cZ oA rA u_42.2)) (hDD u_42.2) hS hA [0, 1, 2, 3, 4, 5, 6, 7, 8, 9, 10, 11, 12, 13, 14] rfl
              refine g_ofi (wc := (b_g cB cC cI cJ cZ oA rA u_42.2 ++ b_w cB cC cI cJ cZ oA rA u_42.2 ++ b_c cB cC cI cJ cZ oA rA u_42.2)) (wr := ([] : va_W)) hP (hDD u_42.2) hS hFc [0, 1, 2, 3, 4, 5, 6, 7, 8, 9, 10, 11, 12, 13, 14] [] rfl rfl (by decide +kernel) (by decide +kernel) (va_runV (As := []) (rest := []) ⟨hx, hb, hml, hown, hts⟩ (k_X2_names l dC dI cB cC cI cJ cZ cP oA rA H.size  u_42.2 _ hu_49) (cwV 0 hts (g_gV wq_582 wq_583 wq_2006 wq_3 wq_584) rfl rfl rfl (by decide +kernel) ⟨Nat.le_of_ble_eq_true rfl, Nat.le_of_ble_eq_true rfl⟩) (g_preV g_bl0 hK hPc hDc hS hE hFc g_to0 (q0 := 0) (ci := 2) rfl rfl) rfl rfl hl.1 rfl (lv_room (Nat.le_of_ble_eq_true rfl)) dX2_thingItem_108 ⟨Nat.le_of_ble_eq_true rfl, Nat.le_of_ble_eq_true rfl⟩) (fun r9 u9 H locs hw9 hP' hD' hS => ?_)
              clear hPc hDc hFc
              subst hw9
              have hP : va_P (dC, dI) vwCl (b_g cB cC cI cJ cZ oA rA u_49.2 ++ b_w cB cC cI cJ cZ oA rA u_49.2 ++ b_c cB cC cI cJ cZ oA rA u_49.2) H := hP'
              clear hP' hD'
              refine lv_pop hx hb dX2_thingItem_111 rfl ?_
              refine lv_goto (tgt := 125) hx hb dX2_thingItem_112 (by decide) ?_
              exact Jj_29  u_49.2 hF_50 _ _ hP hS ls (lv_sub hl [0, 1] rfl)
          · have hF_51 := ineg c_40 hF_39
            clear hF_39
            refine lv_aload_n hx hb dX2_thingItem_73 rfl (lv_at hl 0 rfl) ?_
            refine lv_aload_n hx hb dX2_thingItem_74 rfl (lv_at hl 0 rfl) ?_
            refine va_get (D := (dC, dI)) (ci := 2) (v := .int ((u_38.2 2).1 3)) (C := RX2) (T := TX2) (N := 8) hx hb hts ii_X2 hown hK hP 0 rfl rfl 3 (by decide) (hts (.fieldLink RX2 29 "StoryHouse$Grammar" "kind" "I") wq_74) (fun _ h9 => h9) rfl dX2_thingItem_75 ?_
            refine lv_sipush (v := 228) hx hb dX2_thingItem_78 (by decide +kernel) ?_
            obtain ⟨j_54, ej_54, hF_55⟩ := bnd_e hF_51
            clear hF_51
            have Jj_54 : ∀ (t_52 : Int32) (σ_53 : HS), j_54 t_52 σ_53 = some res → ∀ (H : Heap) (locs : List Loc), va_P (dC, dI) vwCl (b_g cB cC cI cJ cZ oA rA σ_53 ++ b_w cB cC cI cJ cZ oA rA σ_53 ++ b_c cB cC cI cJ cZ oA rA σ_53) H → va_S A s.heap H locs → ∀ ls : Array Slot, lv_has ls 2 [(0, .ref (oA 2)), (1, .int s_7.1)] → W p l e (headSpec (g_ws yX2_thingItem cX2_thingItem 2 none) { frames := 4, cells := 0, slots := 0, locals := 103 }).room s m ([.ref (oA 2)] : List Value).toArray below meth c H locs 0 0 (MQ below (va_Qv (fun (_ : Unit) => True) (g_Bo (dC, dI) A (fun (_ : Unit) => (b_g cB cC cI cJ cZ oA rA res.2 ++ b_w cB cC cI cJ cZ oA rA res.2 ++ b_c cB cC cI cJ cZ oA rA res.2))) A) ([.ref (oA 2)] : List Value).toArray s 0 0 A) (F0 m 91 ls [.int t_52, .ref (oA 2)]) := by
              intro t_52 σ_53 hF0 H locs hP hS ls hl
              subst ej_54
              have hF_56 := hF0
              clear hF0
              obtain ⟨u_57, hu_57, hF_58⟩ := Option.bind_eq_some_iff.mp hF_56
              clear hF_56
              have hPc := hP.sub (ws' := (b_g cB cC cI cJ cZ oA rA σ_53 ++ b_w cB cC cI cJ cZ oA rA σ_53 ++ b_c cB cC cI cJ cZ oA rA σ_53)) [0, 1, 2, 3, 4, 5, 6, 7, 8, 9, 10, 11, 12, 13, 14] rfl
              have hDc := (hDD σ_53).sub (ws' := (b_g cB cC cI cJ cZ oA rA σ_53 ++ b_w cB cC cI cJ cZ oA rA σ_53 ++ b_c cB cC cI cJ cZ oA rA σ_53)) [0, 1, 2, 3, 4, 5, 6, 7, 8, 9, 10, 11, 12, 13, 14] (by decide +kernel) rfl
              have hFc := va_free (wc := (b_g cB cC cI cJ cZ oA rA σ_53 ++ b_w cB cC cI cJ cZ oA rA σ_53 ++ b_c cB cC cI cJ cZ oA rA σ_53)) (hDD σ_53) hS hA [0, 1, 2, 3, 4, 5, 6, 7, 8, 9, 10, 11, 12, 13, 14] rfl
              refine g_ofv (wc := (b_g cB cC cI cJ cZ oA rA σ_53 ++ b_w cB cC cI cJ cZ oA rA σ_53 ++ b_c cB cC cI cJ cZ oA rA σ_53)) (wr := ([] : va_W)) hP (hDD σ_53) hS hFc [0, 1, 2, 3, 4, 5, 6, 7, 8, 9, 10, 11, 12, 13, 14] [] rfl rfl (by decide +kernel) (by decide +kernel) (va_runV (As := [.int t_52]) (rest := []) ⟨hx, hb, hml, hown, hts⟩ (k_X2_need l dC dI cB cC cI cJ cZ cP oA rA H.size  t_52 σ_53 _ hu_57) (cwV 1 hts (g_gV wq_564 wq_565 wq_2000 wq_3 wq_566) rfl rfl rfl (by decide +kernel) ⟨Nat.le_of_ble_eq_true rfl, Nat.le_of_ble_eq_true rfl⟩) (g_preV g_bl0 hK hPc hDc hS hE hFc g_to0 (q0 := 0) (ci := 2) rfl rfl) rfl rfl hl.1 rfl (lv_room (Nat.le_of_ble_eq_true rfl)) dX2_thingItem_91 ⟨Nat.le_of_ble_eq_true rfl, Nat.le_of_ble_eq_true rfl⟩) (fun u9 H locs hw9 hP' hD' hS => ?_)
              clear hPc hDc hFc
              have hP : va_P (dC, dI) vwCl (b_g cB cC cI cJ cZ oA rA u_57.2 ++ b_w cB cC cI cJ cZ oA rA u_57.2 ++ b_c cB cC cI cJ cZ oA rA u_57.2) H := hP'
              clear hP' hD'
              refine lv_goto (tgt := 125) hx hb dX2_thingItem_94 (by decide) ?_
              exact Jj_29  u_57.2 hF_58 _ _ hP hS ls (lv_sub hl [0, 1] rfl)
            refine lv_icmp_ne (tgt := 90) hx hb dX2_thingItem_81 (by decide) (fun c_59 => ?_) (fun c_59 => ?_)
            · have hF_61 := ineg c_59 hF_55
              clear hF_55
              refine lv_iconst (v := 2) hx hb dX2_thingItem_90 (by decide +kernel) ?_
              exact Jj_54 2 u_38.2 hF_61 _ _ hP hS ls (lv_sub hl [0, 1] rfl)
            · have hF_60 := ipos c_59 hF_55
              clear hF_55
              refine lv_sipush (v := 228) hx hb dX2_thingItem_84 (by decide +kernel) ?_
              refine lv_goto (tgt := 91) hx hb dX2_thingItem_87 (by decide) ?_
              exact Jj_54 228 u_38.2 hF_60 _ _ hP hS ls (lv_sub hl [0, 1] rfl)
        · have hF_62 := ineg c_36 hF_30
          clear hF_30
          refine lv_aload_n hx hb dX2_thingItem_55 rfl (lv_at hl 0 rfl) ?_
          refine lv_iconst (v := 4) hx hb dX2_thingItem_56 (by decide +kernel) ?_
          obtain ⟨u_63, hu_63, hF_64⟩ := Option.bind_eq_some_iff.mp hF_62
          clear hF_62
          have hPc := hP.sub (ws' := (b_g cB cC cI cJ cZ oA rA u_26.2 ++ b_w cB cC cI cJ cZ oA rA u_26.2 ++ b_c cB cC cI cJ cZ oA rA u_26.2)) [0, 1, 2, 3, 4, 5, 6, 7, 8, 9, 10, 11, 12, 13, 14] rfl
          have hDc := (hDD u_26.2).sub (ws' := (b_g cB cC cI cJ cZ oA rA u_26.2 ++ b_w cB cC cI cJ cZ oA rA u_26.2 ++ b_c cB cC cI cJ cZ oA rA u_26.2)) [0, 1, 2, 3, 4, 5, 6, 7, 8, 9, 10, 11, 12, 13, 14] (by decide +kernel) rfl
          have hFc := va_free (wc := (b_g cB cC cI cJ cZ oA rA u_26.2 ++ b_w cB cC cI cJ cZ oA rA u_26.2 ++ b_c cB cC cI cJ cZ oA rA u_26.2)) (hDD u_26.2) hS hA [0, 1, 2, 3, 4, 5, 6, 7, 8, 9, 10, 11, 12, 13, 14] rfl
          refine g_ofv (wc := (b_g cB cC cI cJ cZ oA rA u_26.2 ++ b_w cB cC cI cJ cZ oA rA u_26.2 ++ b_c cB cC cI cJ cZ oA rA u_26.2)) (wr := ([] : va_W)) hP (hDD u_26.2) hS hFc [0, 1, 2, 3, 4, 5, 6, 7, 8, 9, 10, 11, 12, 13, 14] [] rfl rfl (by decide +kernel) (by decide +kernel) (va_runV (As := [.int 4]) (rest := []) ⟨hx, hb, hml, hown, hts⟩ (k_X2_need l dC dI cB cC cI cJ cZ cP oA rA H.size  4 u_26.2 _ hu_63) (cwV 1 hts (g_gV wq_564 wq_565 wq_2000 wq_3 wq_566) rfl rfl rfl (by decide +kernel) ⟨Nat.le_of_ble_eq_true rfl, Nat.le_of_ble_eq_true rfl⟩) (g_preV g_bl0 hK hPc hDc hS hE hFc g_to0 (q0 := 0) (ci := 2) rfl rfl) rfl rfl hl.1 rfl (lv_room (Nat.le_of_ble_eq_true rfl)) dX2_thingItem_57 ⟨Nat.le_of_ble_eq_true rfl, Nat.le_of_ble_eq_true rfl⟩) (fun u9 H locs hw9 hP' hD' hS => ?_)
          clear hPc hDc hFc
          have hP : va_P (dC, dI) vwCl (b_g cB cC cI cJ cZ oA rA u_63.2 ++ b_w cB cC cI cJ cZ oA rA u_63.2 ++ b_c cB cC cI cJ cZ oA rA u_63.2) H := hP'
          clear hP' hD'
          refine lv_goto (tgt := 125) hx hb dX2_thingItem_60 (by decide) ?_
          exact Jj_29  u_63.2 hF_64 _ _ hP hS ls (lv_sub hl [0, 1] rfl)
theorem dX2_varItem_0 : decode cX2_varItem 0 = .ok (.aload_n 0, 1) := by decide +kernel
theorem dX2_varItem_1 : decode cX2_varItem 1 = .ok (.iconst 2, 1) := by decide +kernel
theorem dX2_varItem_2 : decode cX2_varItem 2 = .ok (.invokevirtual 120, 3) := by decide +kernel
theorem dX2_varItem_5 : decode cX2_varItem 5 = .ok (.aload_n 0, 1) := by decide +kernel
theorem dX2_varItem_6 : decode cX2_varItem 6 = .ok (.bipush 61, 2) := by decide +kernel
theorem dX2_varItem_8 : decode cX2_varItem 8 = .ok (.invokevirtual 120, 3) := by decide +kernel
theorem dX2_varItem_11 : decode cX2_varItem 11 = .ok (.aload_n 0, 1) := by decide +kernel
theorem dX2_varItem_12 : decode cX2_varItem 12 = .ok (.bipush 45, 2) := by decide +kernel
theorem dX2_varItem_14 : decode cX2_varItem 14 = .ok (.invokevirtual 126, 3) := by decide +kernel
theorem dX2_varItem_17 : decode cX2_varItem 17 = .ok (.pop, 1) := by decide +kernel
theorem dX2_varItem_18 : decode cX2_varItem 18 = .ok (.aload_n 0, 1) := by decide +kernel
theorem dX2_varItem_19 : decode cX2_varItem 19 = .ok (.iconst 3, 1) := by decide +kernel
theorem dX2_varItem_20 : decode cX2_varItem 20 = .ok (.invokevirtual 120, 3) := by decide +kernel
theorem dX2_varItem_23 : decode cX2_varItem 23 = .ok (.aload_n 0, 1) := by decide +kernel
theorem dX2_varItem_24 : decode cX2_varItem 24 = .ok (.bipush 59, 2) := by decide +kernel
theorem dX2_varItem_26 : decode cX2_varItem 26 = .ok (.invokevirtual 120, 3) := by decide +kernel
theorem dX2_varItem_29 : decode cX2_varItem 29 = .ok (.return_, 1) := by decide +kernel
def F_X2_varItem  (Γ : HS) : HR :=
  (F_X2_need 2 Γ).bind fun u_1 =>
  (F_X2_need 61 u_1.2).bind fun u_3 =>
  (F_X2_accept 45 u_3.2).bind fun u_5 =>
  (F_X2_need 3 u_5.2).bind fun u_7 =>
  (F_X2_need 59 u_7.2).bind fun u_9 =>
  some (0, u_9.2)
set_option maxHeartbeats 4000000 in
set_option maxRecDepth 100000 in
theorem k_X2_varItem (l : Launch) (dC : Nat → ClassId) (dI : Nat → Nat → Nat) (cB cC cI cJ cZ cP : ClassId) (oA : Nat → Nat) (rA : Nat → Nat → Nat) (sz : Nat)   (Γ : HS) (res : Int32 × HS) (hF : F_X2_varItem  Γ = some res) : Met l yX2_varItem (g_ws yX2_varItem cX2_varItem 1 none) ({ frames := 3, cells := 0, slots := 0, locals := 82 }) (va_Pc [.ref (oA 2)] (g_B (dC, dI) [(cB, .byte), (cC, .char), (cI, .int), (cJ, .long), (cZ, .boolean), (cP, .object "StoryHouse$Play")] sz (b_g cB cC cI cJ cZ oA rA Γ ++ b_w cB cC cI cJ cZ oA rA Γ ++ b_c cB cC cI cJ cZ oA rA Γ) g_0)) (va_Qv (fun (_ : Unit) => True) (g_Bo (dC, dI) (va_A (b_g cB cC cI cJ cZ oA rA Γ ++ b_w cB cC cI cJ cZ oA rA Γ ++ b_c cB cC cI cJ cZ oA rA Γ) sz) (fun (_ : Unit) => (b_g cB cC cI cJ cZ oA rA res.2 ++ b_w cB cC cI cJ cZ oA rA res.2 ++ b_c cB cC cI cJ cZ oA rA res.2))) (va_A (b_g cB cC cI cJ cZ oA rA Γ ++ b_w cB cC cI cJ cZ oA rA Γ ++ b_c cB cC cI cJ cZ oA rA Γ) sz)) 0 0 (va_A (b_g cB cC cI cJ cZ oA rA Γ ++ b_w cB cC cI cJ cZ oA rA Γ ++ b_c cB cC cI cJ cZ oA rA Γ) sz) := by
  refine Met.ofW (cc := cX2_varItem) (maxL := 1) (ret := none) (by decide) rfl ?_
  intro p e s m args below meth c s₁ B hml hv
  obtain ⟨rfl, hsz, hP, hK, hD0, hE, hX⟩ := hv
  have hx := B.exec
  have hb := B.bytes
  have hr := B.returns
  have hts0 := atoms_spec (ws := g_ws yX2_varItem cX2_varItem 1 none) B.pre
  have hts : ∀ w ∈ lw_good, w.before ([.ref (oA 2)] : List Value).toArray s = true := fun w z => hts0 w (List.mem_cons_of_mem _ z)
  have hown : s.vm.findClass RX2 = some m.cls := findClass_of_methodNamed B.named
  have hlocks := B.notSynchronized
  subst hsz
  have hD1 := hD0.self (sz := s.heap.size)
  generalize hAe : va_A (b_g cB cC cI cJ cZ oA rA Γ ++ b_w cB cC cI cJ cZ oA rA Γ ++ b_c cB cC cI cJ cZ oA rA Γ) s.heap.size = A at hD1 hE hX ⊢
  have hA : ∀ q : Nat, s.heap.size ≤ q → A q := fun q z => by rw [← hAe]; exact Or.inr z
  have hDD : ∀ Γ : HS, va_D A (b_g cB cC cI cJ cZ oA rA Γ ++ b_w cB cC cI cJ cZ oA rA Γ ++ b_c cB cC cI cJ cZ oA rA Γ) := fun Γ9 => va_D_fst (ws := (b_g cB cC cI cJ cZ oA rA Γ ++ b_w cB cC cI cJ cZ oA rA Γ ++ b_c cB cC cI cJ cZ oA rA Γ)) (ws' := (b_g cB cC cI cJ cZ oA rA Γ9 ++ b_w cB cC cI cJ cZ oA rA Γ9 ++ b_c cB cC cI cJ cZ oA rA Γ9)) rfl hD1
  have hN := hE.1
  have hS : va_S A s.heap s.heap [] := va_S.rf
  have hl := lv_entry ([.ref (oA 2)]) (n := 1) (Nat.le_of_ble_eq_true rfl)
  rw [lg_entry_eq]
  generalize (lg_sl ([.ref (oA 2)]) ++ List.replicate (1 - (lg_sl ([.ref (oA 2)])).length) Slot.unset).toArray = ls at hl ⊢
  have hl : lv_has ls 1 [(0, .ref (oA 2))] := hl
  unfold F_X2_varItem at hF
  refine lv_aload_n hx hb dX2_varItem_0 rfl (lv_at hl 0 rfl) ?_
  refine lv_iconst (v := 2) hx hb dX2_varItem_1 (by decide +kernel) ?_
  obtain ⟨u_1, hu_1, hF_2⟩ := Option.bind_eq_some_iff.mp hF
  clear hF
  have hPc := hP.sub (ws' := (b_g cB cC cI cJ cZ oA rA Γ ++ b_w cB cC cI cJ cZ oA rA Γ ++ b_c cB cC cI cJ cZ oA rA Γ)) [0, 1, 2, 3, 4, 5, 6, 7, 8, 9, 10, 11, 12, 13, 14] rfl
  have hDc := (hDD Γ).sub (ws' := (b_g cB cC cI cJ cZ oA rA Γ ++ b_w cB cC cI cJ cZ oA rA Γ ++ b_c cB cC cI cJ cZ oA rA Γ)) [0, 1, 2, 3, 4, 5, 6, 7, 8, 9, 10, 11, 12, 13, 14] (by decide +kernel) rfl
  have hFc := va_free (wc := (b_g cB cC cI cJ cZ oA rA Γ ++ b_w cB cC cI cJ cZ oA rA Γ ++ b_c cB cC cI cJ cZ oA rA Γ)) (hDD Γ) hS hA [0, 1, 2, 3, 4, 5, 6, 7, 8, 9, 10, 11, 12, 13, 14] rfl
  refine g_ofv (wc := (b_g cB cC cI cJ cZ oA rA Γ ++ b_w cB cC cI cJ cZ oA rA Γ ++ b_c cB cC cI cJ cZ oA rA Γ)) (wr := ([] : va_W)) hP (hDD Γ) hS hFc [0, 1, 2, 3, 4, 5, 6, 7, 8, 9, 10, 11, 12, 13, 14] [] rfl rfl (by decide +kernel) (by decide +kernel) (va_runV (As := [.int 2]) (rest := []) ⟨hx, hb, hml, hown, hts⟩ (k_X2_need l dC dI cB cC cI cJ cZ cP oA rA s.heap.size  2 Γ _ hu_1) (cwV 1 hts (g_gV wq_564 wq_565 wq_2000 wq_3 wq_566) rfl rfl rfl (by decide +kernel) ⟨Nat.le_of_ble_eq_true rfl, Nat.le_of_ble_eq_true rfl⟩) (g_preV g_bl0 hK hPc hDc hS hE hFc g_to0 (q0 := 0) (ci := 2) rfl rfl) rfl rfl hl.1 rfl (lv_room (Nat.le_of_ble_eq_true rfl)) dX2_varItem_2 ⟨Nat.le_of_ble_eq_true rfl, Nat.le_of_ble_eq_true rfl⟩) (fun u9 H locs hw9 hP' hD' hS => ?_)
  clear hPc hDc hFc
  have hP : va_P (dC, dI) vwCl (b_g cB cC cI cJ cZ oA rA u_1.2 ++ b_w cB cC cI cJ cZ oA rA u_1.2 ++ b_c cB cC cI cJ cZ oA rA u_1.2) H := hP'
  clear hP' hD'
  refine lv_aload_n hx hb dX2_varItem_5 rfl (lv_at hl 0 rfl) ?_
  refine lv_bipush (v := 61) hx hb dX2_varItem_6 (by decide +kernel) ?_
  obtain ⟨u_3, hu_3, hF_4⟩ := Option.bind_eq_some_iff.mp hF_2
  clear hF_2
  have hPc := hP.sub (ws' := (b_g cB cC cI cJ cZ oA rA u_1.2 ++ b_w cB cC cI cJ cZ oA rA u_1.2 ++ b_c cB cC cI cJ cZ oA rA u_1.2)) [0, 1, 2, 3, 4, 5, 6, 7, 8, 9, 10, 11, 12, 13, 14] rfl
  have hDc := (hDD u_1.2).sub (ws' := (b_g cB cC cI cJ cZ oA rA u_1.2 ++ b_w cB cC cI cJ cZ oA rA u_1.2 ++ b_c cB cC cI cJ cZ oA rA u_1.2)) [0, 1, 2, 3, 4, 5, 6, 7, 8, 9, 10, 11, 12, 13, 14] (by decide +kernel) rfl
  have hFc := va_free (wc := (b_g cB cC cI cJ cZ oA rA u_1.2 ++ b_w cB cC cI cJ cZ oA rA u_1.2 ++ b_c cB cC cI cJ cZ oA rA u_1.2)) (hDD u_1.2) hS hA [0, 1, 2, 3, 4, 5, 6, 7, 8, 9, 10, 11, 12, 13, 14] rfl
  refine g_ofv (wc := (b_g cB cC cI cJ cZ oA rA u_1.2 ++ b_w cB cC cI cJ cZ oA rA u_1.2 ++ b_c cB cC cI cJ cZ oA rA u_1.2)) (wr := ([] : va_W)) hP (hDD u_1.2) hS hFc [0, 1, 2, 3, 4, 5, 6, 7, 8, 9, 10, 11, 12, 13, 14] [] rfl rfl (by decide +kernel) (by decide +kernel) (va_runV (As := [.int 61]) (rest := []) ⟨hx, hb, hml, hown, hts⟩ (k_X2_need l dC dI cB cC cI cJ cZ cP oA rA H.size  61 u_1.2 _ hu_3) (cwV 1 hts (g_gV wq_564 wq_565 wq_2000 wq_3 wq_566) rfl rfl rfl (by decide +kernel) ⟨Nat.le_of_ble_eq_true rfl, Nat.le_of_ble_eq_true rfl⟩) (g_preV g_bl0 hK hPc hDc hS hE hFc g_to0 (q0 := 0) (ci := 2) rfl rfl) rfl rfl hl.1 rfl (lv_room (Nat.le_of_ble_eq_true rfl)) dX2_varItem_8 ⟨Nat.le_of_ble_eq_true rfl, Nat.le_of_ble_eq_true rfl⟩) (fun u9 H locs hw9 hP' hD' hS => ?_)
  clear hPc hDc hFc
  have hP : va_P (dC, dI) vwCl (b_g cB cC cI cJ cZ oA rA u_3.2 ++ b_w cB cC cI cJ cZ oA rA u_3.2 ++ b_c cB cC cI cJ cZ oA rA u_3.2) H := hP'
  clear hP' hD'
  refine lv_aload_n hx hb dX2_varItem_11 rfl (lv_at hl 0 rfl) ?_
  refine lv_bipush (v := 45) hx hb dX2_varItem_12 (by decide +kernel) ?_
  obtain ⟨u_5, hu_5, hF_6⟩ := Option.bind_eq_some_iff.mp hF_4
  clear hF_4
  have hPc := hP.sub (ws' := (b_g cB cC cI cJ cZ oA rA u_3.2 ++ b_w cB cC cI cJ cZ oA rA u_3.2 ++ b_c cB cC cI cJ cZ oA rA u_3.2)) [0, 1, 2, 3, 4, 5, 6, 7, 8, 9, 10, 11, 12, 13, 14] rfl
  have hDc := (hDD u_3.2).sub (ws' := (b_g cB cC cI cJ cZ oA rA u_3.2 ++ b_w cB cC cI cJ cZ oA rA u_3.2 ++ b_c cB cC cI cJ cZ oA rA u_3.2)) [0, 1, 2, 3, 4, 5, 6, 7, 8, 9, 10, 11, 12, 13, 14] (by decide +kernel) rfl
  have hFc := va_free (wc := (b_g cB cC cI cJ cZ oA rA u_3.2 ++ b_w cB cC cI cJ cZ oA rA u_3.2 ++ b_c cB cC cI cJ cZ oA rA u_3.2)) (hDD u_3.2) hS hA [0, 1, 2, 3, 4, 5, 6, 7, 8, 9, 10, 11, 12, 13, 14] rfl
  refine g_ofi (wc := (b_g cB cC cI cJ cZ oA rA u_3.2 ++ b_w cB cC cI cJ cZ oA rA u_3.2 ++ b_c cB cC cI cJ cZ oA rA u_3.2)) (wr := ([] : va_W)) hP (hDD u_3.2) hS hFc [0, 1, 2, 3, 4, 5, 6, 7, 8, 9, 10, 11, 12, 13, 14] [] rfl rfl (by decide +kernel) (by decide +kernel) (va_runV (As := [.int 45]) (rest := []) ⟨hx, hb, hml, hown, hts⟩ (k_X2_accept l dC dI cB cC cI cJ cZ cP oA rA H.size  45 u_3.2 _ hu_5) (cwV 1 hts (g_gV wq_573 wq_574 wq_2003 wq_3 wq_575) rfl rfl rfl (by decide +kernel) ⟨Nat.le_of_ble_eq_true rfl, Nat.le_of_ble_eq_true rfl⟩) (g_preV g_bl0 hK hPc hDc hS hE hFc g_to0 (q0 := 0) (ci := 2) rfl rfl) rfl rfl hl.1 rfl (lv_room (Nat.le_of_ble_eq_true rfl)) dX2_varItem_14 ⟨Nat.le_of_ble_eq_true rfl, Nat.le_of_ble_eq_true rfl⟩) (fun r9 u9 H locs hw9 hP' hD' hS => ?_)
  clear hPc hDc hFc
  subst hw9
  have hP : va_P (dC, dI) vwCl (b_g cB cC cI cJ cZ oA rA u_5.2 ++ b_w cB cC cI cJ cZ oA rA u_5.2 ++ b_c cB cC cI cJ cZ oA rA u_5.2) H := hP'
  clear hP' hD'
  refine lv_pop hx hb dX2_varItem_17 rfl ?_
  refine lv_aload_n hx hb dX2_varItem_18 rfl (lv_at hl 0 rfl) ?_
  refine lv_iconst (v := 3) hx hb dX2_varItem_19 (by decide +kernel) ?_
  obtain ⟨u_7, hu_7, hF_8⟩ := Option.bind_eq_some_iff.mp hF_6
  clear hF_6
  have hPc := hP.sub (ws' := (b_g cB cC cI cJ cZ oA rA u_5.2 ++ b_w cB cC cI cJ cZ oA rA u_5.2 ++ b_c cB cC cI cJ cZ oA rA u_5.2)) [0, 1, 2, 3, 4, 5, 6, 7, 8, 9, 10, 11, 12, 13, 14] rfl
  have hDc := (hDD u_5.2).sub (ws' := (b_g cB cC cI cJ cZ oA rA u_5.2 ++ b_w cB cC cI cJ cZ oA rA u_5.2 ++ b_c cB cC cI cJ cZ oA rA u_5.2)) [0, 1, 2, 3, 4, 5, 6, 7, 8, 9, 10, 11, 12, 13, 14] (by decide +kernel) rfl
  have hFc := va_free (wc := (b_g cB cC cI cJ cZ oA rA u_5.2 ++ b_w cB cC cI cJ cZ oA rA u_5.2 ++ b_c cB cC cI cJ cZ oA rA u_5.2)) (hDD u_5.2) hS hA [0, 1, 2, 3, 4, 5, 6, 7, 8, 9, 10, 11, 12, 13, 14] rfl
  refine g_ofv (wc := (b_g cB cC cI cJ cZ oA rA u_5.2 ++ b_w cB cC cI cJ cZ oA rA u_5.2 ++ b_c cB cC cI cJ cZ oA rA u_5.2)) (wr := ([] : va_W)) hP (hDD u_5.2) hS hFc [0, 1, 2, 3, 4, 5, 6, 7, 8, 9, 10, 11, 12, 13, 14] [] rfl rfl (by decide +kernel) (by decide +kernel) (va_runV (As := [.int 3]) (rest := []) ⟨hx, hb, hml, hown, hts⟩ (k_X2_need l dC dI cB cC cI cJ cZ cP oA rA H.size  3 u_5.2 _ hu_7) (cwV 1 hts (g_gV wq_564 wq_565 wq_2000 wq_3 wq_566) rfl rfl rfl (by decide +kernel) ⟨Nat.le_of_ble_eq_true rfl, Nat.le_of_ble_eq_true rfl⟩) (g_preV g_bl0 hK hPc hDc hS hE hFc g_to0 (q0 := 0) (ci := 2) rfl rfl) rfl rfl hl.1 rfl (lv_room (Nat.le_of_ble_eq_true rfl)) dX2_varItem_20 ⟨Nat.le_of_ble_eq_true rfl, Nat.le_of_ble_eq_true rfl⟩) (fun u9 H locs hw9 hP' hD' hS => ?_)
  clear hPc hDc hFc
  have hP : va_P (dC, dI) vwCl (b_g cB cC cI cJ cZ oA rA u_7.2 ++ b_w cB cC cI cJ cZ oA rA u_7.2 ++ b_c cB cC cI cJ cZ oA rA u_7.2) H := hP'
  clear hP' hD'
  refine lv_aload_n hx hb dX2_varItem_23 rfl (lv_at hl 0 rfl) ?_
  refine lv_bipush (v := 59) hx hb dX2_varItem_24 (by decide +kernel) ?_
  obtain ⟨u_9, hu_9, hF_10⟩ := Option.bind_eq_some_iff.mp hF_8
  clear hF_8
  have hPc := hP.sub (ws' := (b_g cB cC cI cJ cZ oA rA u_7.2 ++ b_w cB cC cI cJ cZ oA rA u_7.2 ++ b_c cB cC cI cJ cZ oA rA u_7.2)) [0, 1, 2, 3, 4, 5, 6, 7, 8, 9, 10, 11, 12, 13, 14] rfl
  have hDc := (hDD u_7.2).sub (ws' := (b_g cB cC cI cJ cZ oA rA u_7.2 ++ b_w cB cC cI cJ cZ oA rA u_7.2 ++ b_c cB cC cI cJ cZ oA rA u_7.2)) [0, 1, 2, 3, 4, 5, 6, 7, 8, 9, 10, 11, 12, 13, 14] (by decide +kernel) rfl
  have hFc := va_free (wc := (b_g cB cC cI cJ cZ oA rA u_7.2 ++ b_w cB cC cI cJ cZ oA rA u_7.2 ++ b_c cB cC cI cJ cZ oA rA u_7.2)) (hDD u_7.2) hS hA [0, 1, 2, 3, 4, 5, 6, 7, 8, 9, 10, 11, 12, 13, 14] rfl
  refine g_ofv (wc := (b_g cB cC cI cJ cZ oA rA u_7.2 ++ b_w cB cC cI cJ cZ oA rA u_7.2 ++ b_c cB cC cI cJ cZ oA rA u_7.2)) (wr := ([] : va_W)) hP (hDD u_7.2) hS hFc [0, 1, 2, 3, 4, 5, 6, 7, 8, 9, 10, 11, 12, 13, 14] [] rfl rfl (by decide +kernel) (by decide +kernel) (va_runV (As := [.int 59]) (rest := []) ⟨hx, hb, hml, hown, hts⟩ (k_X2_need l dC dI cB cC cI cJ cZ cP oA rA H.size  59 u_7.2 _ hu_9) (cwV 1 hts (g_gV wq_564 wq_565 wq_2000 wq_3 wq_566) rfl rfl rfl (by decide +kernel) ⟨Nat.le_of_ble_eq_true rfl, Nat.le_of_ble_eq_true rfl⟩) (g_preV g_bl0 hK hPc hDc hS hE hFc g_to0 (q0 := 0) (ci := 2) rfl rfl) rfl rfl hl.1 rfl (lv_room (Nat.le_of_ble_eq_true rfl)) dX2_varItem_26 ⟨Nat.le_of_ble_eq_true rfl, Nat.le_of_ble_eq_true rfl⟩) (fun u9 H locs hw9 hP' hD' hS => ?_)
  clear hPc hDc hFc
  have hP : va_P (dC, dI) vwCl (b_g cB cC cI cJ cZ oA rA u_9.2 ++ b_w cB cC cI cJ cZ oA rA u_9.2 ++ b_c cB cC cI cJ cZ oA rA u_9.2) H := hP'
  clear hP' hD'
  have h9 := Option.some.inj hF_10
  subst h9
  exact W.vret hx hb hr (fun t ht hW => ⟨⟨(), rfl, trivial, m_end ht hP, hDD _⟩, hS.F ht⟩) hS.2.2 dX2_varItem_29
theorem dX2_verbItem_0 : decode cX2_verbItem 0 = .ok (.aload_n 0, 1) := by decide +kernel
theorem dX2_verbItem_1 : decode cX2_verbItem 1 = .ok (.iconst 2, 1) := by decide +kernel
theorem dX2_verbItem_2 : decode cX2_verbItem 2 = .ok (.invokevirtual 120, 3) := by decide +kernel
theorem dX2_verbItem_5 : decode cX2_verbItem 5 = .ok (.aload_n 0, 1) := by decide +kernel
theorem dX2_verbItem_6 : decode cX2_verbItem 6 = .ok (.invokevirtual 133, 3) := by decide +kernel
theorem dX2_verbItem_9 : decode cX2_verbItem 9 = .ok (.pop, 1) := by decide +kernel
theorem dX2_verbItem_10 : decode cX2_verbItem 10 = .ok (.aload_n 0, 1) := by decide +kernel
theorem dX2_verbItem_11 : decode cX2_verbItem 11 = .ok (.sipush 215, 3) := by decide +kernel
theorem dX2_verbItem_14 : decode cX2_verbItem 14 = .ok (.invokevirtual 126, 3) := by decide +kernel
theorem dX2_verbItem_17 : decode cX2_verbItem 17 = .ok (.ifCond .eq 11, 3) := by decide +kernel
theorem dX2_verbItem_20 : decode cX2_verbItem 20 = .ok (.aload_n 0, 1) := by decide +kernel
theorem dX2_verbItem_21 : decode cX2_verbItem 21 = .ok (.iconst 2, 1) := by decide +kernel
theorem dX2_verbItem_22 : decode cX2_verbItem 22 = .ok (.invokevirtual 120, 3) := by decide +kernel
theorem dX2_verbItem_25 : decode cX2_verbItem 25 = .ok (.goto 13, 3) := by decide +kernel
theorem dX2_verbItem_28 : decode cX2_verbItem 28 = .ok (.aload_n 0, 1) := by decide +kernel
theorem dX2_verbItem_29 : decode cX2_verbItem 29 = .ok (.sipush 213, 3) := by decide +kernel
theorem dX2_verbItem_32 : decode cX2_verbItem 32 = .ok (.sipush 214, 3) := by decide +kernel
theorem dX2_verbItem_35 : decode cX2_verbItem 35 = .ok (.invokevirtual 53, 3) := by decide +kernel
theorem dX2_verbItem_38 : decode cX2_verbItem 38 = .ok (.aload_n 0, 1) := by decide +kernel
theorem dX2_verbItem_39 : decode cX2_verbItem 39 = .ok (.bipush 59, 2) := by decide +kernel
theorem dX2_verbItem_41 : decode cX2_verbItem 41 = .ok (.invokevirtual 120, 3) := by decide +kernel
theorem dX2_verbItem_44 : decode cX2_verbItem 44 = .ok (.return_, 1) := by decide +kernel
def F_X2_verbItem  (Γ : HS) : HR :=
  (F_X2_need 2 Γ).bind fun u_1 =>
  (F_X2_names u_1.2).bind fun u_3 =>
  (F_X2_accept 215 u_3.2).bind fun u_5 =>
  bnd (fun  (σ_7 : HS) => (
    (F_X2_need 59 σ_7).bind fun u_11 =>
    some (0, u_11.2)
  ) : HS → HR) fun j_8 =>
  if u_5.1 = 0 then (
    (F_X2_needFrom 213 214 u_5.2).bind fun u_15 =>
    j_8  u_15.2
  ) else (
    (F_X2_need 2 u_5.2).bind fun u_18 =>
    j_8  u_18.2
  )
set_option maxHeartbeats 4000000 in
set_option maxRecDepth 100000 in
theorem k_X2_verbItem (l : Launch) (dC : Nat → ClassId) (dI : Nat → Nat → Nat) (cB cC cI cJ cZ cP : ClassId) (oA : Nat → Nat) (rA : Nat → Nat → Nat) (sz : Nat)   (Γ : HS) (res : Int32 × HS) (hF : F_X2_verbItem  Γ = some res) : Met l yX2_verbItem (g_ws yX2_verbItem cX2_verbItem 1 none) ({ frames := 4, cells := 0, slots := 0, locals := 103 }) (va_Pc [.ref (oA 2)] (g_B (dC, dI) [(cB, .byte), (cC, .char), (cI, .int), (cJ, .long), (cZ, .boolean), (cP, .object "StoryHouse$Play")] sz (b_g cB cC cI cJ cZ oA rA Γ ++ b_w cB cC cI cJ cZ oA rA Γ ++ b_c cB cC cI cJ cZ oA rA Γ) g_0)) (va_Qv (fun (_ : Unit) => True) (g_Bo (dC, dI) (va_A (b_g cB cC cI cJ cZ oA rA Γ ++ b_w cB cC cI cJ cZ oA rA Γ ++ b_c cB cC cI cJ cZ oA rA Γ) sz) (fun (_ : Unit) => (b_g cB cC cI cJ cZ oA rA res.2 ++ b_w cB cC cI cJ cZ oA rA res.2 ++ b_c cB cC cI cJ cZ oA rA res.2))) (va_A (b_g cB cC cI cJ cZ oA rA Γ ++ b_w cB cC cI cJ cZ oA rA Γ ++ b_c cB cC cI cJ cZ oA rA Γ) sz)) 0 0 (va_A (b_g cB cC cI cJ cZ oA rA Γ ++ b_w cB cC cI cJ cZ oA rA Γ ++ b_c cB cC cI cJ cZ oA rA Γ) sz) := by
  refine Met.ofW (cc := cX2_verbItem) (maxL := 1) (ret := none) (by decide) rfl ?_
  intro p e s m args below meth c s₁ B hml hv
  obtain ⟨rfl, hsz, hP, hK, hD0, hE, hX⟩ := hv
  have hx := B.exec
  have hb := B.bytes
  have hr := B.returns
  have hts0 := atoms_spec (ws := g_ws yX2_verbItem cX2_verbItem 1 none) B.pre
  have hts : ∀ w ∈ lw_good, w.before ([.ref (oA 2)] : List Value).toArray s = true := fun w z => hts0 w (List.mem_cons_of_mem _ z)
  have hown : s.vm.findClass RX2 = some m.cls := findClass_of_methodNamed B.named
  have hlocks := B.notSynchronized
  subst hsz
  have hD1 := hD0.self (sz := s.heap.size)
  generalize hAe : va_A (b_g cB cC cI cJ cZ oA rA Γ ++ b_w cB cC cI cJ cZ oA rA Γ ++ b_c cB cC cI cJ cZ oA rA Γ) s.heap.size = A at hD1 hE hX ⊢
  have hA : ∀ q : Nat, s.heap.size ≤ q → A q := fun q z => by rw [← hAe]; exact Or.inr z
  have hDD : ∀ Γ : HS, va_D A (b_g cB cC cI cJ cZ oA rA Γ ++ b_w cB cC cI cJ cZ oA rA Γ ++ b_c cB cC cI cJ cZ oA rA Γ) := fun Γ9 => va_D_fst (ws := (b_g cB cC cI cJ cZ oA rA Γ ++ b_w cB cC cI cJ cZ oA rA Γ ++ b_c cB cC cI cJ cZ oA rA Γ)) (ws' := (b_g cB cC cI cJ cZ oA rA Γ9 ++ b_w cB cC cI cJ cZ oA rA Γ9 ++ b_c cB cC cI cJ cZ oA rA Γ9)) rfl hD1
  have hN := hE.1
  have hS : va_S A s.heap s.heap [] := va_S.rf
  have hl := lv_entry ([.ref (oA 2)]) (n := 1) (Nat.le_of_ble_eq_true rfl)
  rw [lg_entry_eq]
  generalize (lg_sl ([.ref (oA 2)]) ++ List.replicate (1 - (lg_sl ([.ref (oA 2)])).length) Slot.unset).toArray = ls at hl ⊢
  have hl : lv_has ls 1 [(0, .ref (oA 2))] := hl
  unfold F_X2_verbItem at hF
  refine lv_aload_n hx hb dX2_verbItem_0 rfl (lv_at hl 0 rfl) ?_
  refine lv_iconst (v := 2) hx hb dX2_verbItem_1 (by decide +kernel) ?_
  obtain ⟨u_1, hu_1, hF_2⟩ := Option.bind_eq_some_iff.mp hF
  clear hF
  have hPc := hP.sub (ws' := (b_g cB cC cI cJ cZ oA rA Γ ++ b_w cB cC cI cJ cZ oA rA Γ ++ b_c cB cC cI cJ cZ oA rA Γ)) [0, 1, 2, 3, 4, 5, 6, 7, 8, 9, 10, 11, 12, 13, 14] rfl
  have hDc := (hDD Γ).sub (ws' := (b_g cB cC cI cJ cZ oA rA Γ ++ b_w cB cC cI cJ cZ oA rA Γ ++ b_c cB cC cI cJ cZ oA rA Γ)) [0, 1, 2, 3, 4, 5, 6, 7, 8, 9, 10, 11, 12, 13, 14] (by decide +kernel) rfl
  have hFc := va_free (wc := (b_g cB cC cI cJ cZ oA rA Γ ++ b_w cB cC cI cJ cZ oA rA Γ ++ b_c cB cC cI cJ cZ oA rA Γ)) (hDD Γ) hS hA [0, 1, 2, 3, 4, 5, 6, 7, 8, 9, 10, 11, 12, 13, 14] rfl
  refine g_ofv (wc := (b_g cB cC cI cJ cZ oA rA Γ ++ b_w cB cC cI cJ cZ oA rA Γ ++ b_c cB cC cI cJ cZ oA rA Γ)) (wr := ([] : va_W)) hP (hDD Γ) hS hFc [0, 1, 2, 3, 4, 5, 6, 7, 8, 9, 10, 11, 12, 13, 14] [] rfl rfl (by decide +kernel) (by decide +kernel) (va_runV (As := [.int 2]) (rest := []) ⟨hx, hb, hml, hown, hts⟩ (k_X2_need l dC dI cB cC cI cJ cZ cP oA rA s.heap.size  2 Γ _ hu_1) (cwV 1 hts (g_gV wq_564 wq_565 wq_2000 wq_3 wq_566) rfl rfl rfl (by decide +kernel) ⟨Nat.le_of_ble_eq_true rfl, Nat.le_of_ble_eq_true rfl⟩) (g_preV g_bl0 hK hPc hDc hS hE hFc g_to0 (q0 := 0) (ci := 2) rfl rfl) rfl rfl hl.1 rfl (lv_room (Nat.le_of_ble_eq_true rfl)) dX2_verbItem_2 ⟨Nat.le_of_ble_eq_true rfl, Nat.le_of_ble_eq_true rfl⟩) (fun u9 H locs hw9 hP' hD' hS => ?_)
  clear hPc hDc hFc
  have hP : va_P (dC, dI) vwCl (b_g cB cC cI cJ cZ oA rA u_1.2 ++ b_w cB cC cI cJ cZ oA rA u_1.2 ++ b_c cB cC cI cJ cZ oA rA u_1.2) H := hP'
  clear hP' hD'
  refine lv_aload_n hx hb dX2_verbItem_5 rfl (lv_at hl 0 rfl) ?_
  obtain ⟨u_3, hu_3, hF_4⟩ := Option.bind_eq_some_iff.mp hF_2
  clear hF_2
  have hPc := hP.sub (ws' := (b_g cB cC cI cJ cZ oA rA u_1.2 ++ b_w cB cC cI cJ cZ oA rA u_1.2 ++ b_c cB cC cI cJ cZ oA rA u_1.2)) [0, 1, 2, 3, 4, 5, 6, 7, 8, 9, 10, 11, 12, 13, 14] rfl
  have hDc := (hDD u_1.2).sub (ws' := (b_g cB cC cI cJ cZ oA rA u_1.2 ++ b_w cB cC cI cJ cZ oA rA u_1.2 ++ b_c cB cC cI cJ cZ oA rA u_1.2)) [0, 1, 2, 3, 4, 5, 6, 7, 8, 9, 10, 11, 12, 13, 14] (by decide +kernel) rfl
  have hFc := va_free (wc := (b_g cB cC cI cJ cZ oA rA u_1.2 ++ b_w cB cC cI cJ cZ oA rA u_1.2 ++ b_c cB cC cI cJ cZ oA rA u_1.2)) (hDD u_1.2) hS hA [0, 1, 2, 3, 4, 5, 6, 7, 8, 9, 10, 11, 12, 13, 14] rfl
  refine g_ofi (wc := (b_g cB cC cI cJ cZ oA rA u_1.2 ++ b_w cB cC cI cJ cZ oA rA u_1.2 ++ b_c cB cC cI cJ cZ oA rA u_1.2)) (wr := ([] : va_W)) hP (hDD u_1.2) hS hFc [0, 1, 2, 3, 4, 5, 6, 7, 8, 9, 10, 11, 12, 13, 14] [] rfl rfl (by decide +kernel) (by decide +kernel) (va_runV (As := []) (rest := []) ⟨hx, hb, hml, hown, hts⟩ (k_X2_names l dC dI cB cC cI cJ cZ cP oA rA H.size  u_1.2 _ hu_3) (cwV 0 hts (g_gV wq_582 wq_583 wq_2006 wq_3 wq_584) rfl rfl rfl (by decide +kernel) ⟨Nat.le_of_ble_eq_true rfl, Nat.le_of_ble_eq_true rfl⟩) (g_preV g_bl0 hK hPc hDc hS hE hFc g_to0 (q0 := 0) (ci := 2) rfl rfl) rfl rfl hl.1 rfl (lv_room (Nat.le_of_ble_eq_true rfl)) dX2_verbItem_6 ⟨Nat.le_of_ble_eq_true rfl, Nat.le_of_ble_eq_true rfl⟩) (fun r9 u9 H locs hw9 hP' hD' hS => ?_)
  clear hPc hDc hFc
  subst hw9
  have hP : va_P (dC, dI) vwCl (b_g cB cC cI cJ cZ oA rA u_3.2 ++ b_w cB cC cI cJ cZ oA rA u_3.2 ++ b_c cB cC cI cJ cZ oA rA u_3.2) H := hP'
  clear hP' hD'
  refine lv_pop hx hb dX2_verbItem_9 rfl ?_
  refine lv_aload_n hx hb dX2_verbItem_10 rfl (lv_at hl 0 rfl) ?_
  refine lv_sipush (v := 215) hx hb dX2_verbItem_11 (by decide +kernel) ?_
  obtain ⟨u_5, hu_5, hF_6⟩ := Option.bind_eq_some_iff.mp hF_4
  clear hF_4
  have hPc := hP.sub (ws' := (b_g cB cC cI cJ cZ oA rA u_3.2 ++ b_w cB cC cI cJ cZ oA rA u_3.2 ++ b_c cB cC cI cJ cZ oA rA u_3.2)) [0, 1, 2, 3, 4, 5, 6, 7, 8, 9, 10, 11, 12, 13, 14] rfl
  have hDc := (hDD u_3.2).sub (ws' := (b_g cB cC cI cJ cZ oA rA u_3.2 ++ b_w cB cC cI cJ cZ oA rA u_3.2 ++ b_c cB cC cI cJ cZ oA rA u_3.2)) [0, 1, 2, 3, 4, 5, 6, 7, 8, 9, 10, 11, 12, 13, 14] (by decide +kernel) rfl
  have hFc := va_free (wc := (b_g cB cC cI cJ cZ oA rA u_3.2 ++ b_w cB cC cI cJ cZ oA rA u_3.2 ++ b_c cB cC cI cJ cZ oA rA u_3.2)) (hDD u_3.2) hS hA [0, 1, 2, 3, 4, 5, 6, 7, 8, 9, 10, 11, 12, 13, 14] rfl
  refine g_ofi (wc := (b_g cB cC cI cJ cZ oA rA u_3.2 ++ b_w cB cC cI cJ cZ oA rA u_3.2 ++ b_c cB cC cI cJ cZ oA rA u_3.2)) (wr := ([] : va_W)) hP (hDD u_3.2) hS hFc [0, 1, 2, 3, 4, 5, 6, 7, 8, 9, 10, 11, 12, 13, 14] [] rfl rfl (by decide +kernel) (by decide +kernel) (va_runV (As := [.int 215]) (rest := []) ⟨hx, hb, hml, hown, hts⟩ (k_X2_accept l dC dI cB cC cI cJ cZ cP oA rA H.size  215 u_3.2 _ hu_5) (cwV 1 hts (g_gV wq_573 wq_574 wq_2003 wq_3 wq_575) rfl rfl rfl (by decide +kernel) ⟨Nat.le_of_ble_eq_true rfl, Nat.le_of_ble_eq_true rfl⟩) (g_preV g_bl0 hK hPc hDc hS hE hFc g_to0 (q0 := 0) (ci := 2) rfl rfl) rfl rfl hl.1 rfl (lv_room (Nat.le_of_ble_eq_true rfl)) dX2_verbItem_14 ⟨Nat.le_of_ble_eq_true rfl, Nat.le_of_ble_eq_true rfl⟩) (fun r9 u9 H locs hw9 hP' hD' hS => ?_)
  clear hPc hDc hFc
  subst hw9
  have hP : va_P (dC, dI) vwCl (b_g cB cC cI cJ cZ oA rA u_5.2 ++ b_w cB cC cI cJ cZ oA rA u_5.2 ++ b_c cB cC cI cJ cZ oA rA u_5.2) H := hP'
  clear hP' hD'
  obtain ⟨j_8, ej_8, hF_9⟩ := bnd_e hF_6
  clear hF_6
  have Jj_8 : ∀  (σ_7 : HS), j_8  σ_7 = some res → ∀ (H : Heap) (locs : List Loc), va_P (dC, dI) vwCl (b_g cB cC cI cJ cZ oA rA σ_7 ++ b_w cB cC cI cJ cZ oA rA σ_7 ++ b_c cB cC cI cJ cZ oA rA σ_7) H → va_S A s.heap H locs → ∀ ls : Array Slot, lv_has ls 1 [(0, .ref (oA 2))] → W p l e (headSpec (g_ws yX2_verbItem cX2_verbItem 1 none) { frames := 4, cells := 0, slots := 0, locals := 103 }).room s m ([.ref (oA 2)] : List Value).toArray below meth c H locs 0 0 (MQ below (va_Qv (fun (_ : Unit) => True) (g_Bo (dC, dI) A (fun (_ : Unit) => (b_g cB cC cI cJ cZ oA rA res.2 ++ b_w cB cC cI cJ cZ oA rA res.2 ++ b_c cB cC cI cJ cZ oA rA res.2))) A) ([.ref (oA 2)] : List Value).toArray s 0 0 A) (F0 m 38 ls []) := by
    intro  σ_7 hF0 H locs hP hS ls hl
    subst ej_8
    have hF_10 := hF0
    clear hF0
    refine lv_aload_n hx hb dX2_verbItem_38 rfl (lv_at hl 0 rfl) ?_
    refine lv_bipush (v := 59) hx hb dX2_verbItem_39 (by decide +kernel) ?_
    obtain ⟨u_11, hu_11, hF_12⟩ := Option.bind_eq_some_iff.mp hF_10
    clear hF_10
    have hPc := hP.sub (ws' := (b_g cB cC cI cJ cZ oA rA σ_7 ++ b_w cB cC cI cJ cZ oA rA σ_7 ++ b_c cB cC cI cJ cZ oA rA σ_7)) [0, 1, 2, 3, 4, 5, 6, 7, 8, 9, 10, 11, 12, 13, 14] rfl
    have hDc := (hDD σ_7).sub (ws' := (b_g cB cC cI cJ cZ oA rA σ_7 ++ b_w cB cC cI cJ cZ oA rA σ_7 ++ b_c cB cC cI cJ cZ oA rA σ_7)) [0, 1, 2, 3, 4, 5, 6, 7, 8, 9, 10, 11, 12, 13, 14] (by decide +kernel) rfl
    have hFc := va_free (wc := (b_g cB cC cI cJ cZ oA rA σ_7 ++ b_w cB cC cI cJ cZ oA rA σ_7 ++ b_c cB cC cI cJ cZ oA rA σ_7)) (hDD σ_7) hS hA [0, 1, 2, 3, 4, 5, 6, 7, 8, 9, 10, 11, 12, 13, 14] rfl
    refine g_ofv (wc := (b_g cB cC cI cJ cZ oA rA σ_7 ++ b_w cB cC cI cJ cZ oA rA σ_7 ++ b_c cB cC cI cJ cZ oA rA σ_7)) (wr := ([] : va_W)) hP (hDD σ_7) hS hFc [0, 1, 2, 3, 4, 5, 6, 7, 8, 9, 10, 11, 12, 13, 14] [] rfl rfl (by decide +kernel) (by decide +kernel) (va_runV (As := [.int 59]) (rest := []) ⟨hx, hb, hml, hown, hts⟩ (k_X2_need l dC dI cB cC cI cJ cZ cP oA rA H.size  59 σ_7 _ hu_11) (cwV 1 hts (g_gV wq_564 wq_565 wq_2000 wq_3 wq_566) rfl rfl rfl (by decide +kernel) ⟨Nat.le_of_ble_eq_true rfl, Nat.le_of_ble_eq_true rfl⟩) (g_preV g_bl0 hK hPc hDc hS hE hFc g_to0 (q0 := 0) (ci := 2) rfl rfl) rfl rfl hl.1 rfl (lv_room (Nat.le_of_ble_eq_true rfl)) dX2_verbItem_41 ⟨Nat.le_of_ble_eq_true rfl, Nat.le_of_ble_eq_true rfl⟩) (fun u9 H locs hw9 hP' hD' hS => ?_)
    clear hPc hDc hFc
    have hP : va_P (dC, dI) vwCl (b_g cB cC cI cJ cZ oA rA u_11.2 ++ b_w cB cC cI cJ cZ oA rA u_11.2 ++ b_c cB cC cI cJ cZ oA rA u_11.2) H := hP'
    clear hP' hD'
    have h9 := Option.some.inj hF_12
    subst h9
    exact W.vret hx hb hr (fun t ht hW => ⟨⟨(), rfl, trivial, m_end ht hP, hDD _⟩, hS.F ht⟩) hS.2.2 dX2_verbItem_44
  refine lv_if_eq (tgt := 28) hx hb dX2_verbItem_17 (by decide) (fun c_13 => ?_) (fun c_13 => ?_)
  · have hF_14 := ipos c_13 hF_9
    clear hF_9
    refine lv_aload_n hx hb dX2_verbItem_28 rfl (lv_at hl 0 rfl) ?_
    refine lv_sipush (v := 213) hx hb dX2_verbItem_29 (by decide +kernel) ?_
    refine lv_sipush (v := 214) hx hb dX2_verbItem_32 (by decide +kernel) ?_
    obtain ⟨u_15, hu_15, hF_16⟩ := Option.bind_eq_some_iff.mp hF_14
    clear hF_14
    have hPc := hP.sub (ws' := (b_g cB cC cI cJ cZ oA rA u_5.2 ++ b_w cB cC cI cJ cZ oA rA u_5.2 ++ b_c cB cC cI cJ cZ oA rA u_5.2)) [0, 1, 2, 3, 4, 5, 6, 7, 8, 9, 10, 11, 12, 13, 14] rfl
    have hDc := (hDD u_5.2).sub (ws' := (b_g cB cC cI cJ cZ oA rA u_5.2 ++ b_w cB cC cI cJ cZ oA rA u_5.2 ++ b_c cB cC cI cJ cZ oA rA u_5.2)) [0, 1, 2, 3, 4, 5, 6, 7, 8, 9, 10, 11, 12, 13, 14] (by decide +kernel) rfl
    have hFc := va_free (wc := (b_g cB cC cI cJ cZ oA rA u_5.2 ++ b_w cB cC cI cJ cZ oA rA u_5.2 ++ b_c cB cC cI cJ cZ oA rA u_5.2)) (hDD u_5.2) hS hA [0, 1, 2, 3, 4, 5, 6, 7, 8, 9, 10, 11, 12, 13, 14] rfl
    refine g_ofv (wc := (b_g cB cC cI cJ cZ oA rA u_5.2 ++ b_w cB cC cI cJ cZ oA rA u_5.2 ++ b_c cB cC cI cJ cZ oA rA u_5.2)) (wr := ([] : va_W)) hP (hDD u_5.2) hS hFc [0, 1, 2, 3, 4, 5, 6, 7, 8, 9, 10, 11, 12, 13, 14] [] rfl rfl (by decide +kernel) (by decide +kernel) (va_runV (As := [.int 213, .int 214]) (rest := []) ⟨hx, hb, hml, hown, hts⟩ (k_X2_needFrom l dC dI cB cC cI cJ cZ cP oA rA H.size  213 214 u_5.2 _ hu_15) (cwV 2 hts (g_gV wq_549 wq_550 wq_1995 wq_3 wq_551) rfl rfl rfl (by decide +kernel) ⟨Nat.le_of_ble_eq_true rfl, Nat.le_of_ble_eq_true rfl⟩) (g_preV g_bl0 hK hPc hDc hS hE hFc g_to0 (q0 := 0) (ci := 2) rfl rfl) rfl rfl hl.1 rfl (lv_room (Nat.le_of_ble_eq_true rfl)) dX2_verbItem_35 ⟨Nat.le_of_ble_eq_true rfl, Nat.le_of_ble_eq_true rfl⟩) (fun u9 H locs hw9 hP' hD' hS => ?_)
    clear hPc hDc hFc
    have hP : va_P (dC, dI) vwCl (b_g cB cC cI cJ cZ oA rA u_15.2 ++ b_w cB cC cI cJ cZ oA rA u_15.2 ++ b_c cB cC cI cJ cZ oA rA u_15.2) H := hP'
    clear hP' hD'
    exact Jj_8  u_15.2 hF_16 _ _ hP hS ls (lv_sub hl [0] rfl)
  · have hF_17 := ineg c_13 hF_9
    clear hF_9
    refine lv_aload_n hx hb dX2_verbItem_20 rfl (lv_at hl 0 rfl) ?_
    refine lv_iconst (v := 2) hx hb dX2_verbItem_21 (by decide +kernel) ?_
    obtain ⟨u_18, hu_18, hF_19⟩ := Option.bind_eq_some_iff.mp hF_17
    clear hF_17
    have hPc := hP.sub (ws' := (b_g cB cC cI cJ cZ oA rA u_5.2 ++ b_w cB cC cI cJ cZ oA rA u_5.2 ++ b_c cB cC cI cJ cZ oA rA u_5.2)) [0, 1, 2, 3, 4, 5, 6, 7, 8, 9, 10, 11, 12, 13, 14] rfl
    have hDc := (hDD u_5.2).sub (ws' := (b_g cB cC cI cJ cZ oA rA u_5.2 ++ b_w cB cC cI cJ cZ oA rA u_5.2 ++ b_c cB cC cI cJ cZ oA rA u_5.2)) [0, 1, 2, 3, 4, 5, 6, 7, 8, 9, 10, 11, 12, 13, 14] (by decide +kernel) rfl
    have hFc := va_free (wc := (b_g cB cC cI cJ cZ oA rA u_5.2 ++ b_w cB cC cI cJ cZ oA rA u_5.2 ++ b_c cB cC cI cJ cZ oA rA u_5.2)) (hDD u_5.2) hS hA [0, 1, 2, 3, 4, 5, 6, 7, 8, 9, 10, 11, 12, 13, 14] rfl
    refine g_ofv (wc := (b_g cB cC cI cJ cZ oA rA u_5.2 ++ b_w cB cC cI cJ cZ oA rA u_5.2 ++ b_c cB cC cI cJ cZ oA rA u_5.2)) (wr := ([] : va_W)) hP (hDD u_5.2) hS hFc [0, 1, 2, 3, 4, 5, 6, 7, 8, 9, 10, 11, 12, 13, 14] [] rfl rfl (by decide +kernel) (by decide +kernel) (va_runV (As := [.int 2]) (rest := []) ⟨hx, hb, hml, hown, hts⟩ (k_X2_need l dC dI cB cC cI cJ cZ cP oA rA H.size  2 u_5.2 _ hu_18) (cwV 1 hts (g_gV wq_564 wq_565 wq_2000 wq_3 wq_566) rfl rfl rfl (by decide +kernel) ⟨Nat.le_of_ble_eq_true rfl, Nat.le_of_ble_eq_true rfl⟩) (g_preV g_bl0 hK hPc hDc hS hE hFc g_to0 (q0 := 0) (ci := 2) rfl rfl) rfl rfl hl.1 rfl (lv_room (Nat.le_of_ble_eq_true rfl)) dX2_verbItem_22 ⟨Nat.le_of_ble_eq_true rfl, Nat.le_of_ble_eq_true rfl⟩) (fun u9 H locs hw9 hP' hD' hS => ?_)
    clear hPc hDc hFc
    have hP : va_P (dC, dI) vwCl (b_g cB cC cI cJ cZ oA rA u_18.2 ++ b_w cB cC cI cJ cZ oA rA u_18.2 ++ b_c cB cC cI cJ cZ oA rA u_18.2) H := hP'
    clear hP' hD'
    refine lv_goto (tgt := 38) hx hb dX2_verbItem_25 (by decide) ?_
    exact Jj_8  u_18.2 hF_19 _ _ hP hS ls (lv_sub hl [0] rfl)
theorem dX2_item_0 : decode cX2_item 0 = .ok (.aload_n 0, 1) := by decide +kernel
theorem dX2_item_1 : decode cX2_item 1 = .ok (.getfield 19, 3) := by decide +kernel
theorem dX2_item_4 : decode cX2_item 4 = .ok (.istore_n 1, 1) := by decide +kernel
theorem dX2_item_5 : decode cX2_item 5 = .ok (.aload_n 0, 1) := by decide +kernel
theorem dX2_item_6 : decode cX2_item 6 = .ok (.getfield 29, 3) := by decide +kernel
theorem dX2_item_9 : decode cX2_item 9 = .ok (.istore_n 2, 1) := by decide +kernel
theorem dX2_item_10 : decode cX2_item 10 = .ok (.aload_n 0, 1) := by decide +kernel
theorem dX2_item_11 : decode cX2_item 11 = .ok (.sipush 230, 3) := by decide +kernel
theorem dX2_item_14 : decode cX2_item 14 = .ok (.sipush 237, 3) := by decide +kernel
theorem dX2_item_17 : decode cX2_item 17 = .ok (.invokevirtual 53, 3) := by decide +kernel
theorem dX2_item_20 : decode cX2_item 20 = .ok (.iload_n 2, 1) := by decide +kernel
theorem dX2_item_21 : decode cX2_item 21 = .ok (.tableswitch 106 230 237 #[47, 54, 61, 68, 75, 82, 89, 96], 47) := by decide +kernel
theorem dX2_item_68 : decode cX2_item 68 = .ok (.aload_n 0, 1) := by decide +kernel
theorem dX2_item_69 : decode cX2_item 69 = .ok (.invokevirtual 57, 3) := by decide +kernel
theorem dX2_item_72 : decode cX2_item 72 = .ok (.goto 55, 3) := by decide +kernel
theorem dX2_item_75 : decode cX2_item 75 = .ok (.aload_n 0, 1) := by decide +kernel
theorem dX2_item_76 : decode cX2_item 76 = .ok (.invokevirtual 60, 3) := by decide +kernel
theorem dX2_item_79 : decode cX2_item 79 = .ok (.goto 48, 3) := by decide +kernel
theorem dX2_item_82 : decode cX2_item 82 = .ok (.aload_n 0, 1) := by decide +kernel
theorem dX2_item_83 : decode cX2_item 83 = .ok (.invokevirtual 63, 3) := by decide +kernel
theorem dX2_item_86 : decode cX2_item 86 = .ok (.goto 41, 3) := by decide +kernel
theorem dX2_item_89 : decode cX2_item 89 = .ok (.aload_n 0, 1) := by decide +kernel
theorem dX2_item_90 : decode cX2_item 90 = .ok (.invokevirtual 66, 3) := by decide +kernel
theorem dX2_item_93 : decode cX2_item 93 = .ok (.goto 34, 3) := by decide +kernel
theorem dX2_item_96 : decode cX2_item 96 = .ok (.aload_n 0, 1) := by decide +kernel
theorem dX2_item_97 : decode cX2_item 97 = .ok (.invokevirtual 69, 3) := by decide +kernel
theorem dX2_item_100 : decode cX2_item 100 = .ok (.goto 27, 3) := by decide +kernel
theorem dX2_item_103 : decode cX2_item 103 = .ok (.aload_n 0, 1) := by decide +kernel
theorem dX2_item_104 : decode cX2_item 104 = .ok (.invokevirtual 72, 3) := by decide +kernel
theorem dX2_item_107 : decode cX2_item 107 = .ok (.goto 20, 3) := by decide +kernel
theorem dX2_item_110 : decode cX2_item 110 = .ok (.aload_n 0, 1) := by decide +kernel
theorem dX2_item_111 : decode cX2_item 111 = .ok (.invokevirtual 75, 3) := by decide +kernel
theorem dX2_item_114 : decode cX2_item 114 = .ok (.goto 13, 3) := by decide +kernel
theorem dX2_item_117 : decode cX2_item 117 = .ok (.aload_n 0, 1) := by decide +kernel
theorem dX2_item_118 : decode cX2_item 118 = .ok (.getfield 15, 3) := by decide +kernel
theorem dX2_item_121 : decode cX2_item 121 = .ok (.invokevirtual 78, 3) := by decide +kernel
theorem dX2_item_124 : decode cX2_item 124 = .ok (.goto 3, 3) := by decide +kernel
theorem dX2_item_127 : decode cX2_item 127 = .ok (.iload_n 2, 1) := by decide +kernel
theorem dX2_item_128 : decode cX2_item 128 = .ok (.sipush 235, 3) := by decide +kernel
theorem dX2_item_131 : decode cX2_item 131 = .ok (.if_icmp .lt 19, 3) := by decide +kernel
theorem dX2_item_134 : decode cX2_item 134 = .ok (.iload_n 2, 1) := by decide +kernel
theorem dX2_item_135 : decode cX2_item 135 = .ok (.sipush 237, 3) := by decide +kernel
theorem dX2_item_138 : decode cX2_item 138 = .ok (.if_icmp .gt 12, 3) := by decide +kernel
theorem dX2_item_141 : decode cX2_item 141 = .ok (.aload_n 0, 1) := by decide +kernel
theorem dX2_item_142 : decode cX2_item 142 = .ok (.invokevirtual 83, 3) := by decide +kernel
theorem dX2_item_145 : decode cX2_item 145 = .ok (.aload_n 0, 1) := by decide +kernel
theorem dX2_item_146 : decode cX2_item 146 = .ok (.iload_n 1, 1) := by decide +kernel
theorem dX2_item_147 : decode cX2_item 147 = .ok (.invokevirtual 86, 3) := by decide +kernel
theorem dX2_item_150 : decode cX2_item 150 = .ok (.return_, 1) := by decide +kernel
def F_X2_item  (Γ : HS) : HR :=
  bnd (((Γ 2).1 2)) fun (x_1 : Int32) =>
  bnd (((Γ 2).1 3)) fun (x_3 : Int32) =>
  (F_X2_needFrom 230 237 Γ).bind fun u_5 =>
  bnd (fun  (σ_7 : HS) => (
    if x_3 < 235 then (
      some (0, σ_7)
    ) else (
      if 237 < x_3 then (
        some (0, σ_7)
      ) else (
        (G_X2_block σ_7).bind fun u_17 =>
        (F_X2_endRoutine x_1 u_17.2).bind fun u_19 =>
        some (0, u_19.2)
      )
    )
  ) : HS → HR) fun j_8 =>
  if x_3 = 230 then (
    (F_X2_roomItem u_5.2).bind fun u_23 =>
    j_8  u_23.2
  ) else
  if x_3 = 231 then (
    (F_X2_thingItem u_5.2).bind fun u_28 =>
    j_8  u_28.2
  ) else
  if x_3 = 232 then (
    (F_X2_verbItem u_5.2).bind fun u_33 =>
    j_8  u_33.2
  ) else
  if x_3 = 233 then (
    (F_X2_varItem u_5.2).bind fun u_38 =>
    j_8  u_38.2
  ) else
  if x_3 = 234 then (
    (F_X2_arrayItem u_5.2).bind fun u_43 =>
    j_8  u_43.2
  ) else
  if x_3 = 235 then (
    (F_X2_defHead u_5.2).bind fun u_48 =>
    j_8  u_48.2
  ) else
  if x_3 = 236 then (
    (F_X2_onHead u_5.2).bind fun u_53 =>
    j_8  u_53.2
  ) else
  if x_3 = 237 then (
    (F_X0_openEach u_5.2).bind fun u_58 =>
    bnd (mrg (fun j => j == 5) u_5.2 u_58.2) fun σ_60 =>
    j_8  σ_60
  ) else
  (
    j_8  u_5.2
  )
set_option maxHeartbeats 4000000 in
set_option maxRecDepth 100000 in
theorem k_X2_item (l : Launch) (dC : Nat → ClassId) (dI : Nat → Nat → Nat) (cB cC cI cJ cZ cP : ClassId) (oA : Nat → Nat) (rA : Nat → Nat → Nat) (sz : Nat)   (Γ : HS) (res : Int32 × HS) (hF : F_X2_item  Γ = some res) : Met l yX2_item (g_ws yX2_item cX2_item 3 none) ({ frames := 407, cells := 0, slots := 0, locals := 8967 }) (va_Pc [.ref (oA 2)] (g_B (dC, dI) [(cB, .byte), (cC, .char), (cI, .int), (cJ, .long), (cZ, .boolean), (cP, .object "StoryHouse$Play")] sz (b_g cB cC cI cJ cZ oA rA Γ ++ b_w cB cC cI cJ cZ oA rA Γ ++ b_c cB cC cI cJ cZ oA rA Γ) g_0)) (va_Qv (fun (_ : Unit) => True) (g_Bo (dC, dI) (va_A (b_g cB cC cI cJ cZ oA rA Γ ++ b_w cB cC cI cJ cZ oA rA Γ ++ b_c cB cC cI cJ cZ oA rA Γ) sz) (fun (_ : Unit) => (b_g cB cC cI cJ cZ oA rA res.2 ++ b_w cB cC cI cJ cZ oA rA res.2 ++ b_c cB cC cI cJ cZ oA rA res.2))) (va_A (b_g cB cC cI cJ cZ oA rA Γ ++ b_w cB cC cI cJ cZ oA rA Γ ++ b_c cB cC cI cJ cZ oA rA Γ) sz)) 0 0 (va_A (b_g cB cC cI cJ cZ oA rA Γ ++ b_w cB cC cI cJ cZ oA rA Γ ++ b_c cB cC cI cJ cZ oA rA Γ) sz) := by
  refine Met.ofW (cc := cX2_item) (maxL := 3) (ret := none) (by decide) rfl ?_
  intro p e s m args below meth c s₁ B hml hv
  obtain ⟨rfl, hsz, hP, hK, hD0, hE, hX⟩ := hv
  have hx := B.exec
  have hb := B.bytes
  have hr := B.returns
  have hts0 := atoms_spec (ws := g_ws yX2_item cX2_item 3 none) B.pre
  have hts : ∀ w ∈ lw_good, w.before ([.ref (oA 2)] : List Value).toArray s = true := fun w z => hts0 w (List.mem_cons_of_mem _ z)
  have hown : s.vm.findClass RX2 = some m.cls := findClass_of_methodNamed B.named
  have hlocks := B.notSynchronized
  subst hsz
  have hD1 := hD0.self (sz := s.heap.size)
  generalize hAe : va_A (b_g cB cC cI cJ cZ oA rA Γ ++ b_w cB cC cI cJ cZ oA rA Γ ++ b_c cB cC cI cJ cZ oA rA Γ) s.heap.size = A at hD1 hE hX ⊢
  have hA : ∀ q : Nat, s.heap.size ≤ q → A q := fun q z => by rw [← hAe]; exact Or.inr z
  have hDD : ∀ Γ : HS, va_D A (b_g cB cC cI cJ cZ oA rA Γ ++ b_w cB cC cI cJ cZ oA rA Γ ++ b_c cB cC cI cJ cZ oA rA Γ) := fun Γ9 => va_D_fst (ws := (b_g cB cC cI cJ cZ oA rA Γ ++ b_w cB cC cI cJ cZ oA rA Γ ++ b_c cB cC cI cJ cZ oA rA Γ)) (ws' := (b_g cB cC cI cJ cZ oA rA Γ9 ++ b_w cB cC cI cJ cZ oA rA Γ9 ++ b_c cB cC cI cJ cZ oA rA Γ9)) rfl hD1
  have hN := hE.1
  have hS : va_S A s.heap s.heap [] := va_S.rf
  have hl := lv_entry ([.ref (oA 2)]) (n := 3) (Nat.le_of_ble_eq_true rfl)
  rw [lg_entry_eq]
  generalize (lg_sl ([.ref (oA 2)]) ++ List.replicate (3 - (lg_sl ([.ref (oA 2)])).length) Slot.unset).toArray = ls at hl ⊢
  have hl : lv_has ls 3 [(0, .ref (oA 2))] := hl
  unfold F_X2_item at hF
  refine lv_aload_n hx hb dX2_item_0 rfl (lv_at hl 0 rfl) ?_
  refine va_get (D := (dC, dI)) (ci := 2) (v := .int ((Γ 2).1 2)) (C := RX2) (T := TX2) (N := 8) hx hb hts ii_X2 hown hK hP 0 rfl rfl 2 (by decide) (hts (.fieldLink RX2 19 "StoryHouse$Grammar" "at" "I") wq_73) (fun _ h9 => h9) rfl dX2_item_1 ?_
  obtain ⟨x_1, ex_1, hF_2⟩ := bnd_e hF
  clear hF
  refine m_top ex_1 ?_
  refine lv_istore_n (lv' := [(1, .int x_1), (0, .ref (oA 2))]) hx hb dX2_item_4 rfl hl (by decide) rfl (fun ls hl => ?_)
  refine lv_aload_n hx hb dX2_item_5 rfl (lv_at hl 1 rfl) ?_
  refine va_get (D := (dC, dI)) (ci := 2) (v := .int ((Γ 2).1 3)) (C := RX2) (T := TX2) (N := 8) hx hb hts ii_X2 hown hK hP 0 rfl rfl 3 (by decide) (hts (.fieldLink RX2 29 "StoryHouse$Grammar" "kind" "I") wq_74) (fun _ h9 => h9) rfl dX2_item_6 ?_
  obtain ⟨x_3, ex_3, hF_4⟩ := bnd_e hF_2
  clear hF_2
  refine m_top ex_3 ?_
  refine lv_istore_n (lv' := [(2, .int x_3), (1, .int x_1), (0, .ref (oA 2))]) hx hb dX2_item_9 rfl hl (by decide) rfl (fun ls hl => ?_)
  refine lv_aload_n hx hb dX2_item_10 rfl (lv_at hl 2 rfl) ?_
  refine lv_sipush (v := 230) hx hb dX2_item_11 (by decide +kernel) ?_
  refine lv_sipush (v := 237) hx hb dX2_item_14 (by decide +kernel) ?_
  obtain ⟨u_5, hu_5, hF_6⟩ := Option.bind_eq_some_iff.mp hF_4
  clear hF_4
  have hPc := hP.sub (ws' := (b_g cB cC cI cJ cZ oA rA Γ ++ b_w cB cC cI cJ cZ oA rA Γ ++ b_c cB cC cI cJ cZ oA rA Γ)) [0, 1, 2, 3, 4, 5, 6, 7, 8, 9, 10, 11, 12, 13, 14] rfl
  have hDc := (hDD Γ).sub (ws' := (b_g cB cC cI cJ cZ oA rA Γ ++ b_w cB cC cI cJ cZ oA rA Γ ++ b_c cB cC cI cJ cZ oA rA Γ)) [0, 1, 2, 3, 4, 5, 6, 7, 8, 9, 10, 11, 12, 13, 14] (by decide +kernel) rfl
  have hFc := va_free (wc := (b_g cB cC cI cJ cZ oA rA Γ ++ b_w cB cC cI cJ cZ oA rA Γ ++ b_c cB cC cI cJ cZ oA rA Γ)) (hDD Γ) hS hA [0, 1, 2, 3, 4, 5, 6, 7, 8, 9, 10, 11, 12, 13, 14] rfl
  refine g_ofv (wc := (b_g cB cC cI cJ cZ oA rA Γ ++ b_w cB cC cI cJ cZ oA rA Γ ++ b_c cB cC cI cJ cZ oA rA Γ)) (wr := ([] : va_W)) hP (hDD Γ) hS hFc [0, 1, 2, 3, 4, 5, 6, 7, 8, 9, 10, 11, 12, 13, 14] [] rfl rfl (by decide +kernel) (by decide +kernel) (va_runV (As := [.int 230, .int 237]) (rest := []) ⟨hx, hb, hml, hown, hts⟩ (k_X2_needFrom l dC dI cB cC cI cJ cZ cP oA rA s.heap.size  230 237 Γ _ hu_5) (cwV 2 hts (g_gV wq_549 wq_550 wq_1995 wq_3 wq_551) rfl rfl rfl (by decide +kernel) ⟨Nat.le_of_ble_eq_true rfl, Nat.le_of_ble_eq_true rfl⟩) (g_preV g_bl0 hK hPc hDc hS hE hFc g_to0 (q0 := 0) (ci := 2) rfl rfl) rfl rfl hl.1 rfl (lv_room (Nat.le_of_ble_eq_true rfl)) dX2_item_17 ⟨Nat.le_of_ble_eq_true rfl, Nat.le_of_ble_eq_true rfl⟩) (fun u9 H locs hw9 hP' hD' hS => ?_)
  clear hPc hDc hFc
  have hP : va_P (dC, dI) vwCl (b_g cB cC cI cJ cZ oA rA u_5.2 ++ b_w cB cC cI cJ cZ oA rA u_5.2 ++ b_c cB cC cI cJ cZ oA rA u_5.2) H := hP'
  clear hP' hD'
  refine lv_iload_n hx hb dX2_item_20 rfl (lv_at hl 0 rfl) ?_
  obtain ⟨j_8, ej_8, hF_9⟩ := bnd_e hF_6
  clear hF_6
  have Jj_8 : ∀  (σ_7 : HS), j_8  σ_7 = some res → ∀ (H : Heap) (locs : List Loc), va_P (dC, dI) vwCl (b_g cB cC cI cJ cZ oA rA σ_7 ++ b_w cB cC cI cJ cZ oA rA σ_7 ++ b_c cB cC cI cJ cZ oA rA σ_7) H → va_S A s.heap H locs → ∀ ls : Array Slot, lv_has ls 3 [(0, .ref (oA 2)), (1, .int x_1), (2, .int x_3)] → W p l e (headSpec (g_ws yX2_item cX2_item 3 none) { frames := 407, cells := 0, slots := 0, locals := 8967 }).room s m ([.ref (oA 2)] : List Value).toArray below meth c H locs 0 0 (MQ below (va_Qv (fun (_ : Unit) => True) (g_Bo (dC, dI) A (fun (_ : Unit) => (b_g cB cC cI cJ cZ oA rA res.2 ++ b_w cB cC cI cJ cZ oA rA res.2 ++ b_c cB cC cI cJ cZ oA rA res.2))) A) ([.ref (oA 2)] : List Value).toArray s 0 0 A) (F0 m 127 ls []) := by
    intro  σ_7 hF0 H locs hP hS ls hl
    subst ej_8
    have hF_10 := hF0
    clear hF0
    refine lv_iload_n hx hb dX2_item_127 rfl (lv_at hl 2 rfl) ?_
    refine lv_sipush (v := 235) hx hb dX2_item_128 (by decide +kernel) ?_
    refine lv_icmp_lt (tgt := 150) hx hb dX2_item_131 (by decide) (fun c_11 => ?_) (fun c_11 => ?_)
    · have hF_12 := ipos c_11 hF_10
      clear hF_10
      have h9 := Option.some.inj hF_12
      subst h9
      exact W.vret hx hb hr (fun t ht hW => ⟨⟨(), rfl, trivial, m_end ht hP, hDD _⟩, hS.F ht⟩) hS.2.2 dX2_item_150
    · have hF_13 := ineg c_11 hF_10
      clear hF_10
      refine lv_iload_n hx hb dX2_item_134 rfl (lv_at hl 2 rfl) ?_
      refine lv_sipush (v := 237) hx hb dX2_item_135 (by decide +kernel) ?_
      refine lv_icmp_gt (tgt := 150) hx hb dX2_item_138 (by decide) (fun c_14 => ?_) (fun c_14 => ?_)
      · have hF_15 := ipos c_14 hF_13
        clear hF_13
        have h9 := Option.some.inj hF_15
        subst h9
        exact W.vret hx hb hr (fun t ht hW => ⟨⟨(), rfl, trivial, m_end ht hP, hDD _⟩, hS.F ht⟩) hS.2.2 dX2_item_150
      · have hF_16 := ineg c_14 hF_13
        clear hF_13
        refine lv_aload_n hx hb dX2_item_141 rfl (lv_at hl 0 rfl) ?_
        obtain ⟨u_17, hu_17, hF_18⟩ := Option.bind_eq_some_iff.mp hF_16
        clear hF_16
        have hPc := hP.sub (ws' := (b_g cB cC cI cJ cZ oA rA σ_7 ++ b_w cB cC cI cJ cZ oA rA σ_7 ++ b_c cB cC cI cJ cZ oA rA σ_7)) [0, 1, 2, 3, 4, 5, 6, 7, 8, 9, 10, 11, 12, 13, 14] rfl
        have hDc := (hDD σ_7).sub (ws' := (b_g cB cC cI cJ cZ oA rA σ_7 ++ b_w cB cC cI cJ cZ oA rA σ_7 ++ b_c cB cC cI cJ cZ oA rA σ_7)) [0, 1, 2, 3, 4, 5, 6, 7, 8, 9, 10, 11, 12, 13, 14] (by decide +kernel) rfl
        have hFc := va_free (wc := (b_g cB cC cI cJ cZ oA rA σ_7 ++ b_w cB cC cI cJ cZ oA rA σ_7 ++ b_c cB cC cI cJ cZ oA rA σ_7)) (hDD σ_7) hS hA [0, 1, 2, 3, 4, 5, 6, 7, 8, 9, 10, 11, 12, 13, 14] rfl
        refine g_ofv (wc := (b_g cB cC cI cJ cZ oA rA σ_7 ++ b_w cB cC cI cJ cZ oA rA σ_7 ++ b_c cB cC cI cJ cZ oA rA σ_7)) (wr := ([] : va_W)) hP (hDD σ_7) hS hFc [0, 1, 2, 3, 4, 5, 6, 7, 8, 9, 10, 11, 12, 13, 14] [] rfl rfl (by decide +kernel) (by decide +kernel) (va_runV (As := []) (rest := []) ⟨hx, hb, hml, hown, hts⟩ (k_X2_block l dC dI cB cC cI cJ cZ cP oA rA H.size  σ_7 _ hu_17) (cwV 0 hts (g_gV wq_615 wq_616 wq_2013 wq_3 wq_617) rfl rfl rfl (by decide +kernel) ⟨Nat.le_of_ble_eq_true rfl, Nat.le_of_ble_eq_true rfl⟩) (g_preV g_bl0 hK hPc hDc hS hE hFc g_to0 (q0 := 0) (ci := 2) rfl rfl) rfl rfl hl.1 rfl (lv_room (Nat.le_of_ble_eq_true rfl)) dX2_item_142 ⟨Nat.le_of_ble_eq_true rfl, Nat.le_of_ble_eq_true rfl⟩) (fun u9 H locs hw9 hP' hD' hS => ?_)
        clear hPc hDc hFc
        have hP : va_P (dC, dI) vwCl (b_g cB cC cI cJ cZ oA rA u_17.2 ++ b_w cB cC cI cJ cZ oA rA u_17.2 ++ b_c cB cC cI cJ cZ oA rA u_17.2) H := hP'
        clear hP' hD'
        refine lv_aload_n hx hb dX2_item_145 rfl (lv_at hl 0 rfl) ?_
        refine lv_iload_n hx hb dX2_item_146 rfl (lv_at hl 1 rfl) ?_
        obtain ⟨u_19, hu_19, hF_20⟩ := Option.bind_eq_some_iff.mp hF_18
        clear hF_18
        have hPc := hP.sub (ws' := (b_g cB cC cI cJ cZ oA rA u_17.2 ++ b_w cB cC cI cJ cZ oA rA u_17.2 ++ b_c cB cC cI cJ cZ oA rA u_17.2)) [0, 1, 2, 3, 4, 5, 6, 7, 8, 9, 10, 11, 12, 13, 14] rfl
        have hDc := (hDD u_17.2).sub (ws' := (b_g cB cC cI cJ cZ oA rA u_17.2 ++ b_w cB cC cI cJ cZ oA rA u_17.2 ++ b_c cB cC cI cJ cZ oA rA u_17.2)) [0, 1, 2, 3, 4, 5, 6, 7, 8, 9, 10, 11, 12, 13, 14] (by decide +kernel) rfl
        have hFc := va_free (wc := (b_g cB cC cI cJ cZ oA rA u_17.2 ++ b_w cB cC cI cJ cZ oA rA u_17.2 ++ b_c cB cC cI cJ cZ oA rA u_17.2)) (hDD u_17.2) hS hA [0, 1, 2, 3, 4, 5, 6, 7, 8, 9, 10, 11, 12, 13, 14] rfl
        refine g_ofv (wc := (b_g cB cC cI cJ cZ oA rA u_17.2 ++ b_w cB cC cI cJ cZ oA rA u_17.2 ++ b_c cB cC cI cJ cZ oA rA u_17.2)) (wr := ([] : va_W)) hP (hDD u_17.2) hS hFc [0, 1, 2, 3, 4, 5, 6, 7, 8, 9, 10, 11, 12, 13, 14] [] rfl rfl (by decide +kernel) (by decide +kernel) (va_runV (As := [.int x_1]) (rest := []) ⟨hx, hb, hml, hown, hts⟩ (k_X2_endRoutine l dC dI cB cC cI cJ cZ cP oA rA H.size  x_1 u_17.2 _ hu_19) (cwV 1 hts (g_gV wq_694 wq_695 wq_2032 wq_3 wq_696) rfl rfl rfl (by decide +kernel) ⟨Nat.le_of_ble_eq_true rfl, Nat.le_of_ble_eq_true rfl⟩) (g_preV g_bl0 hK hPc hDc hS hE hFc g_to0 (q0 := 0) (ci := 2) rfl rfl) rfl rfl hl.1 rfl (lv_room (Nat.le_of_ble_eq_true rfl)) dX2_item_147 ⟨Nat.le_of_ble_eq_true rfl, Nat.le_of_ble_eq_true rfl⟩) (fun u9 H locs hw9 hP' hD' hS => ?_)
        clear hPc hDc hFc
        have hP : va_P (dC, dI) vwCl (b_g cB cC cI cJ cZ oA rA u_19.2 ++ b_w cB cC cI cJ cZ oA rA u_19.2 ++ b_c cB cC cI cJ cZ oA rA u_19.2) H := hP'
        clear hP' hD'
        have h9 := Option.some.inj hF_20
        subst h9
        exact W.vret hx hb hr (fun t ht hW => ⟨⟨(), rfl, trivial, m_end ht hP, hDD _⟩, hS.F ht⟩) hS.2.2 dX2_item_150
  by_cases c_21 : x_3 = 230
  · have hF_22 := ipos c_21 hF_9
    clear hF_9
    refine lv_tableIn (off := 47) (tgt := 68) hx hb dX2_item_21 (by rw [c_21]; decide +kernel) (by rw [c_21]; decide +kernel) (by rw [c_21]; decide +kernel) (by decide) ?_
    refine lv_aload_n hx hb dX2_item_68 rfl (lv_at hl 2 rfl) ?_
    obtain ⟨u_23, hu_23, hF_24⟩ := Option.bind_eq_some_iff.mp hF_22
    clear hF_22
    have hPc := hP.sub (ws' := (b_g cB cC cI cJ cZ oA rA u_5.2 ++ b_w cB cC cI cJ cZ oA rA u_5.2 ++ b_c cB cC cI cJ cZ oA rA u_5.2)) [0, 1, 2, 3, 4, 5, 6, 7, 8, 9, 10, 11, 12, 13, 14] rfl
    have hDc := (hDD u_5.2).sub (ws' := (b_g cB cC cI cJ cZ oA rA u_5.2 ++ b_w cB cC cI cJ cZ oA rA u_5.2 ++ b_c cB cC cI cJ cZ oA rA u_5.2)) [0, 1, 2, 3, 4, 5, 6, 7, 8, 9, 10, 11, 12, 13, 14] (by decide +kernel) rfl
    have hFc := va_free (wc := (b_g cB cC cI cJ cZ oA rA u_5.2 ++ b_w cB cC cI cJ cZ oA rA u_5.2 ++ b_c cB cC cI cJ cZ oA rA u_5.2)) (hDD u_5.2) hS hA [0, 1, 2, 3, 4, 5, 6, 7, 8, 9, 10, 11, 12, 13, 14] rfl
    refine g_ofv (wc := (b_g cB cC cI cJ cZ oA rA u_5.2 ++ b_w cB cC cI cJ cZ oA rA u_5.2 ++ b_c cB cC cI cJ cZ oA rA u_5.2)) (wr := ([] : va_W)) hP (hDD u_5.2) hS hFc [0, 1, 2, 3, 4, 5, 6, 7, 8, 9, 10, 11, 12, 13, 14] [] rfl rfl (by decide +kernel) (by decide +kernel) (va_runV (As := []) (rest := []) ⟨hx, hb, hml, hown, hts⟩ (k_X2_roomItem l dC dI cB cC cI cJ cZ cP oA rA H.size  u_5.2 _ hu_23) (cwV 0 hts (g_gV wq_561 wq_562 wq_1999 wq_3 wq_563) rfl rfl rfl (by decide +kernel) ⟨Nat.le_of_ble_eq_true rfl, Nat.le_of_ble_eq_true rfl⟩) (g_preV g_bl0 hK hPc hDc hS hE hFc g_to0 (q0 := 0) (ci := 2) rfl rfl) rfl rfl hl.1 rfl (lv_room (Nat.le_of_ble_eq_true rfl)) dX2_item_69 ⟨Nat.le_of_ble_eq_true rfl, Nat.le_of_ble_eq_true rfl⟩) (fun u9 H locs hw9 hP' hD' hS => ?_)
    clear hPc hDc hFc
    have hP : va_P (dC, dI) vwCl (b_g cB cC cI cJ cZ oA rA u_23.2 ++ b_w cB cC cI cJ cZ oA rA u_23.2 ++ b_c cB cC cI cJ cZ oA rA u_23.2) H := hP'
    clear hP' hD'
    refine lv_goto (tgt := 127) hx hb dX2_item_72 (by decide) ?_
    exact Jj_8  u_23.2 hF_24 _ _ hP hS ls (lv_sub hl [2, 1, 0] rfl)
  have hF_25 := ineg c_21 hF_9
  clear hF_9
  by_cases c_26 : x_3 = 231
  · have hF_27 := ipos c_26 hF_25
    clear hF_25
    refine lv_tableIn (off := 54) (tgt := 75) hx hb dX2_item_21 (by rw [c_26]; decide +kernel) (by rw [c_26]; decide +kernel) (by rw [c_26]; decide +kernel) (by decide) ?_
    refine lv_aload_n hx hb dX2_item_75 rfl (lv_at hl 2 rfl) ?_
    obtain ⟨u_28, hu_28, hF_29⟩ := Option.bind_eq_some_iff.mp hF_27
    clear hF_27
    have hPc := hP.sub (ws' := (b_g cB cC cI cJ cZ oA rA u_5.2 ++ b_w cB cC cI cJ cZ oA rA u_5.2 ++ b_c cB cC cI cJ cZ oA rA u_5.2)) [0, 1, 2, 3, 4, 5, 6, 7, 8, 9, 10, 11, 12, 13, 14] rfl
    have hDc := (hDD u_5.2).sub (ws' := (b_g cB cC cI cJ cZ oA rA u_5.2 ++ b_w cB cC cI cJ cZ oA rA u_5.2 ++ b_c cB cC cI cJ cZ oA rA u_5.2)) [0, 1, 2, 3, 4, 5, 6, 7, 8, 9, 10, 11, 12, 13, 14] (by decide +kernel) rfl
    have hFc := va_free (wc := (b_g cB cC cI cJ cZ oA rA u_5.2 ++ b_w cB cC cI cJ cZ oA rA u_5.2 ++ b_c cB cC cI cJ cZ oA rA u_5.2)) (hDD u_5.2) hS hA [0, 1, 2, 3, 4, 5, 6, 7, 8, 9, 10, 11, 12, 13, 14] rfl
    refine g_ofv (wc := (b_g cB cC cI cJ cZ oA rA u_5.2 ++ b_w cB cC cI cJ cZ oA rA u_5.2 ++ b_c cB cC cI cJ cZ oA rA u_5.2)) (wr := ([] : va_W)) hP (hDD u_5.2) hS hFc [0, 1, 2, 3, 4, 5, 6, 7, 8, 9, 10, 11, 12, 13, 14] [] rfl rfl (by decide +kernel) (by decide +kernel) (va_runV (As := []) (rest := []) ⟨hx, hb, hml, hown, hts⟩ (k_X2_thingItem l dC dI cB cC cI cJ cZ cP oA rA H.size  u_5.2 _ hu_28) (cwV 0 hts (g_gV wq_579 wq_580 wq_2005 wq_3 wq_581) rfl rfl rfl (by decide +kernel) ⟨Nat.le_of_ble_eq_true rfl, Nat.le_of_ble_eq_true rfl⟩) (g_preV g_bl0 hK hPc hDc hS hE hFc g_to0 (q0 := 0) (ci := 2) rfl rfl) rfl rfl hl.1 rfl (lv_room (Nat.le_of_ble_eq_true rfl)) dX2_item_76 ⟨Nat.le_of_ble_eq_true rfl, Nat.le_of_ble_eq_true rfl⟩) (fun u9 H locs hw9 hP' hD' hS => ?_)
    clear hPc hDc hFc
    have hP : va_P (dC, dI) vwCl (b_g cB cC cI cJ cZ oA rA u_28.2 ++ b_w cB cC cI cJ cZ oA rA u_28.2 ++ b_c cB cC cI cJ cZ oA rA u_28.2) H := hP'
    clear hP' hD'
    refine lv_goto (tgt := 127) hx hb dX2_item_79 (by decide) ?_
    exact Jj_8  u_28.2 hF_29 _ _ hP hS ls (lv_sub hl [2, 1, 0] rfl)
  have hF_30 := ineg c_26 hF_25
  clear hF_25
  by_cases c_31 : x_3 = 232
  · have hF_32 := ipos c_31 hF_30
    clear hF_30
    refine lv_tableIn (off := 61) (tgt := 82) hx hb dX2_item_21 (by rw [c_31]; decide +kernel) (by rw [c_31]; decide +kernel) (by rw [c_31]; decide +kernel) (by decide) ?_
    refine lv_aload_n hx hb dX2_item_82 rfl (lv_at hl 2 rfl) ?_
    obtain ⟨u_33, hu_33, hF_34⟩ := Option.bind_eq_some_iff.mp hF_32
    clear hF_32
    have hPc := hP.sub (ws' := (b_g cB cC cI cJ cZ oA rA u_5.2 ++ b_w cB cC cI cJ cZ oA rA u_5.2 ++ b_c cB cC cI cJ cZ oA rA u_5.2)) [0, 1, 2, 3, 4, 5, 6, 7, 8, 9, 10, 11, 12, 13, 14] rfl
    have hDc := (hDD u_5.2).sub (ws' := (b_g cB cC cI cJ cZ oA rA u_5.2 ++ b_w cB cC cI cJ cZ oA rA u_5.2 ++ b_c cB cC cI cJ cZ oA rA u_5.2)) [0, 1, 2, 3, 4, 5, 6, 7, 8, 9, 10, 11, 12, 13, 14] (by decide +kernel) rfl
    have hFc := va_free (wc := (b_g cB cC cI cJ cZ oA rA u_5.2 ++ b_w cB cC cI cJ cZ oA rA u_5.2 ++ b_c cB cC cI cJ cZ oA rA u_5.2)) (hDD u_5.2) hS hA [0, 1, 2, 3, 4, 5, 6, 7, 8, 9, 10, 11, 12, 13, 14] rfl
    refine g_ofv (wc := (b_g cB cC cI cJ cZ oA rA u_5.2 ++ b_w cB cC cI cJ cZ oA rA u_5.2 ++ b_c cB cC cI cJ cZ oA rA u_5.2)) (wr := ([] : va_W)) hP (hDD u_5.2) hS hFc [0, 1, 2, 3, 4, 5, 6, 7, 8, 9, 10, 11, 12, 13, 14] [] rfl rfl (by decide +kernel) (by decide +kernel) (va_runV (As := []) (rest := []) ⟨hx, hb, hml, hown, hts⟩ (k_X2_verbItem l dC dI cB cC cI cJ cZ cP oA rA H.size  u_5.2 _ hu_33) (cwV 0 hts (g_gV wq_585 wq_586 wq_2007 wq_3 wq_587) rfl rfl rfl (by decide +kernel) ⟨Nat.le_of_ble_eq_true rfl, Nat.le_of_ble_eq_true rfl⟩) (g_preV g_bl0 hK hPc hDc hS hE hFc g_to0 (q0 := 0) (ci := 2) rfl rfl) rfl rfl hl.1 rfl (lv_room (Nat.le_of_ble_eq_true rfl)) dX2_item_83 ⟨Nat.le_of_ble_eq_true rfl, Nat.le_of_ble_eq_true rfl⟩) (fun u9 H locs hw9 hP' hD' hS => ?_)
    clear hPc hDc hFc
    have hP : va_P (dC, dI) vwCl (b_g cB cC cI cJ cZ oA rA u_33.2 ++ b_w cB cC cI cJ cZ oA rA u_33.2 ++ b_c cB cC cI cJ cZ oA rA u_33.2) H := hP'
    clear hP' hD'
    refine lv_goto (tgt := 127) hx hb dX2_item_86 (by decide) ?_
    exact Jj_8  u_33.2 hF_34 _ _ hP hS ls (lv_sub hl [2, 1, 0] rfl)
  have hF_35 := ineg c_31 hF_30
  clear hF_30
  by_cases c_36 : x_3 = 233
  · have hF_37 := ipos c_36 hF_35
    clear hF_35
    refine lv_tableIn (off := 68) (tgt := 89) hx hb dX2_item_21 (by rw [c_36]; decide +kernel) (by rw [c_36]; decide +kernel) (by rw [c_36]; decide +kernel) (by decide) ?_
    refine lv_aload_n hx hb dX2_item_89 rfl (lv_at hl 2 rfl) ?_
    obtain ⟨u_38, hu_38, hF_39⟩ := Option.bind_eq_some_iff.mp hF_37
    clear hF_37
    have hPc := hP.sub (ws' := (b_g cB cC cI cJ cZ oA rA u_5.2 ++ b_w cB cC cI cJ cZ oA rA u_5.2 ++ b_c cB cC cI cJ cZ oA rA u_5.2)) [0, 1, 2, 3, 4, 5, 6, 7, 8, 9, 10, 11, 12, 13, 14] rfl
    have hDc := (hDD u_5.2).sub (ws' := (b_g cB cC cI cJ cZ oA rA u_5.2 ++ b_w cB cC cI cJ cZ oA rA u_5.2 ++ b_c cB cC cI cJ cZ oA rA u_5.2)) [0, 1, 2, 3, 4, 5, 6, 7, 8, 9, 10, 11, 12, 13, 14] (by decide +kernel) rfl
    have hFc := va_free (wc := (b_g cB cC cI cJ cZ oA rA u_5.2 ++ b_w cB cC cI cJ cZ oA rA u_5.2 ++ b_c cB cC cI cJ cZ oA rA u_5.2)) (hDD u_5.2) hS hA [0, 1, 2, 3, 4, 5, 6, 7, 8, 9, 10, 11, 12, 13, 14] rfl
    refine g_ofv (wc := (b_g cB cC cI cJ cZ oA rA u_5.2 ++ b_w cB cC cI cJ cZ oA rA u_5.2 ++ b_c cB cC cI cJ cZ oA rA u_5.2)) (wr := ([] : va_W)) hP (hDD u_5.2) hS hFc [0, 1, 2, 3, 4, 5, 6, 7, 8, 9, 10, 11, 12, 13, 14] [] rfl rfl (by decide +kernel) (by decide +kernel) (va_runV (As := []) (rest := []) ⟨hx, hb, hml, hown, hts⟩ (k_X2_varItem l dC dI cB cC cI cJ cZ cP oA rA H.size  u_5.2 _ hu_38) (cwV 0 hts (g_gV wq_588 wq_589 wq_2008 wq_3 wq_590) rfl rfl rfl (by decide +kernel) ⟨Nat.le_of_ble_eq_true rfl, Nat.le_of_ble_eq_true rfl⟩) (g_preV g_bl0 hK hPc hDc hS hE hFc g_to0 (q0 := 0) (ci := 2) rfl rfl) rfl rfl hl.1 rfl (lv_room (Nat.le_of_ble_eq_true rfl)) dX2_item_90 ⟨Nat.le_of_ble_eq_true rfl, Nat.le_of_ble_eq_true rfl⟩) (fun u9 H locs hw9 hP' hD' hS => ?_)
    clear hPc hDc hFc
    have hP : va_P (dC, dI) vwCl (b_g cB cC cI cJ cZ oA rA u_38.2 ++ b_w cB cC cI cJ cZ oA rA u_38.2 ++ b_c cB cC cI cJ cZ oA rA u_38.2) H := hP'
    clear hP' hD'
    refine lv_goto (tgt := 127) hx hb dX2_item_93 (by decide) ?_
    exact Jj_8  u_38.2 hF_39 _ _ hP hS ls (lv_sub hl [2, 1, 0] rfl)
  have hF_40 := ineg c_36 hF_35
  clear hF_35
  by_cases c_41 : x_3 = 234
  · have hF_42 := ipos c_41 hF_40
    clear hF_40
    refine lv_tableIn (off := 75) (tgt := 96) hx hb dX2_item_21 (by rw [c_41]; decide +kernel) (by rw [c_41]; decide +kernel) (by rw [c_41]; decide +kernel) (by decide) ?_
    refine lv_aload_n hx hb dX2_item_96 rfl (lv_at hl 2 rfl) ?_
    obtain ⟨u_43, hu_43, hF_44⟩ := Option.bind_eq_some_iff.mp hF_42
    clear hF_42
    have hPc := hP.sub (ws' := (b_g cB cC cI cJ cZ oA rA u_5.2 ++ b_w cB cC cI cJ cZ oA rA u_5.2 ++ b_c cB cC cI cJ cZ oA rA u_5.2)) [0, 1, 2, 3, 4, 5, 6, 7, 8, 9, 10, 11, 12, 13, 14] rfl
    have hDc := (hDD u_5.2).sub (ws' := (b_g cB cC cI cJ cZ oA rA u_5.2 ++ b_w cB cC cI cJ cZ oA rA u_5.2 ++ b_c cB cC cI cJ cZ oA rA u_5.2)) [0, 1, 2, 3, 4, 5, 6, 7, 8, 9, 10, 11, 12, 13, 14] (by decide +kernel) rfl
    have hFc := va_free (wc := (b_g cB cC cI cJ cZ oA rA u_5.2 ++ b_w cB cC cI cJ cZ oA rA u_5.2 ++ b_c cB cC cI cJ cZ oA rA u_5.2)) (hDD u_5.2) hS hA [0, 1, 2, 3, 4, 5, 6, 7, 8, 9, 10, 11, 12, 13, 14] rfl
    refine g_ofv (wc := (b_g cB cC cI cJ cZ oA rA u_5.2 ++ b_w cB cC cI cJ cZ oA rA u_5.2 ++ b_c cB cC cI cJ cZ oA rA u_5.2)) (wr := ([] : va_W)) hP (hDD u_5.2) hS hFc [0, 1, 2, 3, 4, 5, 6, 7, 8, 9, 10, 11, 12, 13, 14] [] rfl rfl (by decide +kernel) (by decide +kernel) (va_runV (As := []) (rest := []) ⟨hx, hb, hml, hown, hts⟩ (k_X2_arrayItem l dC dI cB cC cI cJ cZ cP oA rA H.size  u_5.2 _ hu_43) (cwV 0 hts (g_gV wq_591 wq_592 wq_2009 wq_3 wq_593) rfl rfl rfl (by decide +kernel) ⟨Nat.le_of_ble_eq_true rfl, Nat.le_of_ble_eq_true rfl⟩) (g_preV g_bl0 hK hPc hDc hS hE hFc g_to0 (q0 := 0) (ci := 2) rfl rfl) rfl rfl hl.1 rfl (lv_room (Nat.le_of_ble_eq_true rfl)) dX2_item_97 ⟨Nat.le_of_ble_eq_true rfl, Nat.le_of_ble_eq_true rfl⟩) (fun u9 H locs hw9 hP' hD' hS => ?_)
    clear hPc hDc hFc
    have hP : va_P (dC, dI) vwCl (b_g cB cC cI cJ cZ oA rA u_43.2 ++ b_w cB cC cI cJ cZ oA rA u_43.2 ++ b_c cB cC cI cJ cZ oA rA u_43.2) H := hP'
    clear hP' hD'
    refine lv_goto (tgt := 127) hx hb dX2_item_100 (by decide) ?_
    exact Jj_8  u_43.2 hF_44 _ _ hP hS ls (lv_sub hl [2, 1, 0] rfl)
  have hF_45 := ineg c_41 hF_40
  clear hF_40
  by_cases c_46 : x_3 = 235
  · have hF_47 := ipos c_46 hF_45
    clear hF_45
    refine lv_tableIn (off := 82) (tgt := 103) hx hb dX2_item_21 (by rw [c_46]; decide +kernel) (by rw [c_46]; decide +kernel) (by rw [c_46]; decide +kernel) (by decide) ?_
    refine lv_aload_n hx hb dX2_item_103 rfl (lv_at hl 2 rfl) ?_
    obtain ⟨u_48, hu_48, hF_49⟩ := Option.bind_eq_some_iff.mp hF_47
    clear hF_47
    have hPc := hP.sub (ws' := (b_g cB cC cI cJ cZ oA rA u_5.2 ++ b_w cB cC cI cJ cZ oA rA u_5.2 ++ b_c cB cC cI cJ cZ oA rA u_5.2)) [0, 1, 2, 3, 4, 5, 6, 7, 8, 9, 10, 11, 12, 13, 14] rfl
    have hDc := (hDD u_5.2).sub (ws' := (b_g cB cC cI cJ cZ oA rA u_5.2 ++ b_w cB cC cI cJ cZ oA rA u_5.2 ++ b_c cB cC cI cJ cZ oA rA u_5.2)) [0, 1, 2, 3, 4, 5, 6, 7, 8, 9, 10, 11, 12, 13, 14] (by decide +kernel) rfl
    have hFc := va_free (wc := (b_g cB cC cI cJ cZ oA rA u_5.2 ++ b_w cB cC cI cJ cZ oA rA u_5.2 ++ b_c cB cC cI cJ cZ oA rA u_5.2)) (hDD u_5.2) hS hA [0, 1, 2, 3, 4, 5, 6, 7, 8, 9, 10, 11, 12, 13, 14] rfl
    refine g_ofv (wc := (b_g cB cC cI cJ cZ oA rA u_5.2 ++ b_w cB cC cI cJ cZ oA rA u_5.2 ++ b_c cB cC cI cJ cZ oA rA u_5.2)) (wr := ([] : va_W)) hP (hDD u_5.2) hS hFc [0, 1, 2, 3, 4, 5, 6, 7, 8, 9, 10, 11, 12, 13, 14] [] rfl rfl (by decide +kernel) (by decide +kernel) (va_runV (As := []) (rest := []) ⟨hx, hb, hml, hown, hts⟩ (k_X2_defHead l dC dI cB cC cI cJ cZ cP oA rA H.size  u_5.2 _ hu_48) (cwV 0 hts (g_gV wq_594 wq_595 wq_2010 wq_3 wq_596) rfl rfl rfl (by decide +kernel) ⟨Nat.le_of_ble_eq_true rfl, Nat.le_of_ble_eq_true rfl⟩) (g_preV g_bl0 hK hPc hDc hS hE hFc g_to0 (q0 := 0) (ci := 2) rfl rfl) rfl rfl hl.1 rfl (lv_room (Nat.le_of_ble_eq_true rfl)) dX2_item_104 ⟨Nat.le_of_ble_eq_true rfl, Nat.le_of_ble_eq_true rfl⟩) (fun u9 H locs hw9 hP' hD' hS => ?_)
    clear hPc hDc hFc
    have hP : va_P (dC, dI) vwCl (b_g cB cC cI cJ cZ oA rA u_48.2 ++ b_w cB cC cI cJ cZ oA rA u_48.2 ++ b_c cB cC cI cJ cZ oA rA u_48.2) H := hP'
    clear hP' hD'
    refine lv_goto (tgt := 127) hx hb dX2_item_107 (by decide) ?_
    exact Jj_8  u_48.2 hF_49 _ _ hP hS ls (lv_sub hl [2, 1, 0] rfl)
  have hF_50 := ineg c_46 hF_45
  clear hF_45
  by_cases c_51 : x_3 = 236
  · have hF_52 := ipos c_51 hF_50
    clear hF_50
    refine lv_tableIn (off := 89) (tgt := 110) hx hb dX2_item_21 (by rw [c_51]; decide +kernel) (by rw [c_51]; decide +kernel) (by rw [c_51]; decide +kernel) (by decide) ?_
    refine lv_aload_n hx hb dX2_item_110 rfl (lv_at hl 2 rfl) ?_
    obtain ⟨u_53, hu_53, hF_54⟩ := Option.bind_eq_some_iff.mp hF_52
    clear hF_52
    have hPc := hP.sub (ws' := (b_g cB cC cI cJ cZ oA rA u_5.2 ++ b_w cB cC cI cJ cZ oA rA u_5.2 ++ b_c cB cC cI cJ cZ oA rA u_5.2)) [0, 1, 2, 3, 4, 5, 6, 7, 8, 9, 10, 11, 12, 13, 14] rfl
    have hDc := (hDD u_5.2).sub (ws' := (b_g cB cC cI cJ cZ oA rA u_5.2 ++ b_w cB cC cI cJ cZ oA rA u_5.2 ++ b_c cB cC cI cJ cZ oA rA u_5.2)) [0, 1, 2, 3, 4, 5, 6, 7, 8, 9, 10, 11, 12, 13, 14] (by decide +kernel) rfl
    have hFc := va_free (wc := (b_g cB cC cI cJ cZ oA rA u_5.2 ++ b_w cB cC cI cJ cZ oA rA u_5.2 ++ b_c cB cC cI cJ cZ oA rA u_5.2)) (hDD u_5.2) hS hA [0, 1, 2, 3, 4, 5, 6, 7, 8, 9, 10, 11, 12, 13, 14] rfl
    refine g_ofv (wc := (b_g cB cC cI cJ cZ oA rA u_5.2 ++ b_w cB cC cI cJ cZ oA rA u_5.2 ++ b_c cB cC cI cJ cZ oA rA u_5.2)) (wr := ([] : va_W)) hP (hDD u_5.2) hS hFc [0, 1, 2, 3, 4, 5, 6, 7, 8, 9, 10, 11, 12, 13, 14] [] rfl rfl (by decide +kernel) (by decide +kernel) (va_runV (As := []) (rest := []) ⟨hx, hb, hml, hown, hts⟩ (k_X2_onHead l dC dI cB cC cI cJ cZ cP oA rA H.size  u_5.2 _ hu_53) (cwV 0 hts (g_gV wq_604 wq_605 wq_2012 wq_3 wq_606) rfl rfl rfl (by decide +kernel) ⟨Nat.le_of_ble_eq_true rfl, Nat.le_of_ble_eq_true rfl⟩) (g_preV g_bl0 hK hPc hDc hS hE hFc g_to0 (q0 := 0) (ci := 2) rfl rfl) rfl rfl hl.1 rfl (lv_room (Nat.le_of_ble_eq_true rfl)) dX2_item_111 ⟨Nat.le_of_ble_eq_true rfl, Nat.le_of_ble_eq_true rfl⟩) (fun u9 H locs hw9 hP' hD' hS => ?_)
    clear hPc hDc hFc
    have hP : va_P (dC, dI) vwCl (b_g cB cC cI cJ cZ oA rA u_53.2 ++ b_w cB cC cI cJ cZ oA rA u_53.2 ++ b_c cB cC cI cJ cZ oA rA u_53.2) H := hP'
    clear hP' hD'
    refine lv_goto (tgt := 127) hx hb dX2_item_114 (by decide) ?_
    exact Jj_8  u_53.2 hF_54 _ _ hP hS ls (lv_sub hl [2, 1, 0] rfl)
  have hF_55 := ineg c_51 hF_50
  clear hF_50
  by_cases c_56 : x_3 = 237
  · have hF_57 := ipos c_56 hF_55
    clear hF_55
    refine lv_tableIn (off := 96) (tgt := 117) hx hb dX2_item_21 (by rw [c_56]; decide +kernel) (by rw [c_56]; decide +kernel) (by rw [c_56]; decide +kernel) (by decide) ?_
    refine lv_aload_n hx hb dX2_item_117 rfl (lv_at hl 2 rfl) ?_
    refine va_get (D := (dC, dI)) (ci := 2) (v := .ref (oA 5)) (C := RX2) (T := TX2) (N := 8) hx hb hts ii_X2 hown hK hP 0 rfl rfl 1 (by decide) (hts (.fieldLink RX2 15 "StoryHouse$Grammar" "code" "LStoryHouse$Code;") wq_72) (fun _ h9 => h9) rfl dX2_item_118 ?_
    obtain ⟨u_58, hu_58, hF_59⟩ := Option.bind_eq_some_iff.mp hF_57
    clear hF_57
    have hPc := hP.sub (ws' := (b_c cB cC cI cJ cZ oA rA u_5.2)) [10, 11, 12, 13, 14] rfl
    have hDc := (hDD u_5.2).sub (ws' := (b_c cB cC cI cJ cZ oA rA u_5.2)) [10, 11, 12, 13, 14] (by decide +kernel) rfl
    have hFc := va_free (wc := (b_c cB cC cI cJ cZ oA rA u_5.2)) (hDD u_5.2) hS hA [10, 11, 12, 13, 14] rfl
    refine g_ofv (wc := (b_c cB cC cI cJ cZ oA rA u_5.2)) (wr := (b_g cB cC cI cJ cZ oA rA u_5.2 ++ b_w cB cC cI cJ cZ oA rA u_5.2)) hP (hDD u_5.2) hS hFc [10, 11, 12, 13, 14] [0, 1, 2, 3, 4, 5, 6, 7, 8, 9] rfl rfl (by decide +kernel) (by decide +kernel) (va_runV (As := []) (rest := []) ⟨hx, hb, hml, hown, hts⟩ (k_X0_openEach l dC dI cB cC cI cJ cZ cP oA rA H.size  u_5.2 _ hu_58) (cwV 0 hts (g_gV wq_611 wq_612 wq_613 wq_6 wq_614) rfl rfl rfl (by decide +kernel) ⟨Nat.le_of_ble_eq_true rfl, Nat.le_of_ble_eq_true rfl⟩) (g_preV g_bl0 hK hPc hDc hS hE hFc g_to0 (q0 := 0) (ci := 0) rfl rfl) rfl rfl hl.1 rfl (lv_room (Nat.le_of_ble_eq_true rfl)) dX2_item_121 ⟨Nat.le_of_ble_eq_true rfl, Nat.le_of_ble_eq_true rfl⟩) (fun u9 H locs hw9 hP' hD' hS => ?_)
    clear hPc hDc hFc
    obtain ⟨σ_60, eσ_60, hF_61⟩ := bnd_e hF_59
    clear hF_59
    have hP : va_P (dC, dI) vwCl (b_g cB cC cI cJ cZ oA rA σ_60 ++ b_w cB cC cI cJ cZ oA rA σ_60 ++ b_c cB cC cI cJ cZ oA rA σ_60) H := by rw [eσ_60]; exact hP'.sub [0, 1, 2, 3, 4, 5, 6, 7, 8, 9, 10, 11, 12, 13, 14] rfl
    clear hP' hD'
    refine lv_goto (tgt := 127) hx hb dX2_item_124 (by decide) ?_
    exact Jj_8  σ_60 hF_61 _ _ hP hS ls (lv_sub hl [2, 1, 0] rfl)
  have hF_62 := ineg c_56 hF_55
  clear hF_55
  refine m_tabD (lo := 230) (n := 8) (tgt := 127) hx hb dX2_item_21 (by decide +kernel) (by decide) (fun j9 h9 e9 => by
      match j9, h9 with
      | 0, _ => exact absurd ((by rw [e9]; decide +kernel)) c_21
      | 1, _ => exact absurd ((by rw [e9]; decide +kernel)) c_26
      | 2, _ => exact absurd ((by rw [e9]; decide +kernel)) c_31
      | 3, _ => exact absurd ((by rw [e9]; decide +kernel)) c_36
      | 4, _ => exact absurd ((by rw [e9]; decide +kernel)) c_41
      | 5, _ => exact absurd ((by rw [e9]; decide +kernel)) c_46
      | 6, _ => exact absurd ((by rw [e9]; decide +kernel)) c_51
      | 7, _ => exact absurd ((by rw [e9]; decide +kernel)) c_56
      | n9 + 8, h9 => exact absurd h9 (by omega)) ?_
  exact Jj_8  u_5.2 hF_62 _ _ hP hS ls (lv_sub hl [2, 1, 0] rfl)
