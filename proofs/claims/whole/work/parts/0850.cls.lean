/-! methods of the class: what each does is its function -/
theorem dX8_perform_0 : decode cX8_perform 0 = .ok (.aload_n 0, 1) := by decide +kernel
theorem dX8_perform_1 : decode cX8_perform 1 = .ok (.getfield 30, 3) := by decide +kernel
theorem dX8_perform_4 : decode cX8_perform 4 = .ok (.aload_n 0, 1) := by decide +kernel
theorem dX8_perform_5 : decode cX8_perform 5 = .ok (.getfield 114, 3) := by decide +kernel
theorem dX8_perform_8 : decode cX8_perform 8 = .ok (.putfield 255, 3) := by decide +kernel
theorem dX8_perform_11 : decode cX8_perform 11 = .ok (.aload_n 0, 1) := by decide +kernel
theorem dX8_perform_12 : decode cX8_perform 12 = .ok (.getfield 30, 3) := by decide +kernel
theorem dX8_perform_15 : decode cX8_perform 15 = .ok (.aload_n 0, 1) := by decide +kernel
theorem dX8_perform_16 : decode cX8_perform 16 = .ok (.getfield 117, 3) := by decide +kernel
theorem dX8_perform_19 : decode cX8_perform 19 = .ok (.putfield 256, 3) := by decide +kernel
theorem dX8_perform_22 : decode cX8_perform 22 = .ok (.aload_n 0, 1) := by decide +kernel
theorem dX8_perform_23 : decode cX8_perform 23 = .ok (.getfield 127, 3) := by decide +kernel
theorem dX8_perform_26 : decode cX8_perform 26 = .ok (.bipush 11, 2) := by decide +kernel
theorem dX8_perform_28 : decode cX8_perform 28 = .ok (.if_icmp .eq 21, 3) := by decide +kernel
theorem dX8_perform_31 : decode cX8_perform 31 = .ok (.aload_n 0, 1) := by decide +kernel
theorem dX8_perform_32 : decode cX8_perform 32 = .ok (.getfield 114, 3) := by decide +kernel
theorem dX8_perform_35 : decode cX8_perform 35 = .ok (.ifCond .eq 14, 3) := by decide +kernel
theorem dX8_perform_38 : decode cX8_perform 38 = .ok (.aload_n 0, 1) := by decide +kernel
theorem dX8_perform_39 : decode cX8_perform 39 = .ok (.getfield 22, 3) := by decide +kernel
theorem dX8_perform_42 : decode cX8_perform 42 = .ok (.aload_n 0, 1) := by decide +kernel
theorem dX8_perform_43 : decode cX8_perform 43 = .ok (.getfield 114, 3) := by decide +kernel
theorem dX8_perform_46 : decode cX8_perform 46 = .ok (.putfield 174, 3) := by decide +kernel
theorem dX8_perform_49 : decode cX8_perform 49 = .ok (.aload_n 0, 1) := by decide +kernel
theorem dX8_perform_50 : decode cX8_perform 50 = .ok (.getfield 85, 3) := by decide +kernel
theorem dX8_perform_53 : decode cX8_perform 53 = .ok (.getfield 139, 3) := by decide +kernel
theorem dX8_perform_56 : decode cX8_perform 56 = .ok (.iconst 5, 1) := by decide +kernel
theorem dX8_perform_57 : decode cX8_perform 57 = .ok (.invokestatic 70, 3) := by decide +kernel
theorem dX8_perform_60 : decode cX8_perform 60 = .ok (.istore_n 1, 1) := by decide +kernel
theorem dX8_perform_61 : decode cX8_perform 61 = .ok (.iconst 0, 1) := by decide +kernel
theorem dX8_perform_62 : decode cX8_perform 62 = .ok (.istore_n 2, 1) := by decide +kernel
theorem dX8_perform_63 : decode cX8_perform 63 = .ok (.iload_n 2, 1) := by decide +kernel
theorem dX8_perform_64 : decode cX8_perform 64 = .ok (.iload_n 1, 1) := by decide +kernel
theorem dX8_perform_65 : decode cX8_perform 65 = .ok (.if_icmp .ge 52, 3) := by decide +kernel
theorem dX8_perform_68 : decode cX8_perform 68 = .ok (.iload_n 2, 1) := by decide +kernel
theorem dX8_perform_69 : decode cX8_perform 69 = .ok (.sipush 200, 3) := by decide +kernel
theorem dX8_perform_72 : decode cX8_perform 72 = .ok (.if_icmp .ge 45, 3) := by decide +kernel
theorem dX8_perform_75 : decode cX8_perform 75 = .ok (.aload_n 0, 1) := by decide +kernel
theorem dX8_perform_76 : decode cX8_perform 76 = .ok (.iload_n 2, 1) := by decide +kernel
theorem dX8_perform_77 : decode cX8_perform 77 = .ok (.invokevirtual 257, 3) := by decide +kernel
theorem dX8_perform_80 : decode cX8_perform 80 = .ok (.ifCond .eq 31, 3) := by decide +kernel
theorem dX8_perform_83 : decode cX8_perform 83 = .ok (.aload_n 0, 1) := by decide +kernel
theorem dX8_perform_84 : decode cX8_perform 84 = .ok (.getfield 30, 3) := by decide +kernel
theorem dX8_perform_87 : decode cX8_perform 87 = .ok (.bipush 100, 2) := by decide +kernel
theorem dX8_perform_89 : decode cX8_perform 89 = .ok (.iload_n 2, 1) := by decide +kernel
theorem dX8_perform_90 : decode cX8_perform 90 = .ok (.iadd, 1) := by decide +kernel
theorem dX8_perform_91 : decode cX8_perform 91 = .ok (.invokevirtual 262, 3) := by decide +kernel
theorem dX8_perform_94 : decode cX8_perform 94 = .ok (.istore_n 3, 1) := by decide +kernel
theorem dX8_perform_95 : decode cX8_perform 95 = .ok (.iload_n 3, 1) := by decide +kernel
theorem dX8_perform_96 : decode cX8_perform 96 = .ok (.iconst 1, 1) := by decide +kernel
theorem dX8_perform_97 : decode cX8_perform 97 = .ok (.if_icmp .eq 14, 3) := by decide +kernel
theorem dX8_perform_100 : decode cX8_perform 100 = .ok (.iload_n 3, 1) := by decide +kernel
theorem dX8_perform_101 : decode cX8_perform 101 = .ok (.iconst 2, 1) := by decide +kernel
theorem dX8_perform_102 : decode cX8_perform 102 = .ok (.if_icmp .ne 7, 3) := by decide +kernel
theorem dX8_perform_105 : decode cX8_perform 105 = .ok (.iconst 1, 1) := by decide +kernel
theorem dX8_perform_106 : decode cX8_perform 106 = .ok (.goto 4, 3) := by decide +kernel
theorem dX8_perform_109 : decode cX8_perform 109 = .ok (.iconst 0, 1) := by decide +kernel
theorem dX8_perform_110 : decode cX8_perform 110 = .ok (.ireturn, 1) := by decide +kernel
theorem dX8_perform_111 : decode cX8_perform 111 = .ok (.iinc 2 1, 3) := by decide +kernel
theorem dX8_perform_114 : decode cX8_perform 114 = .ok (.goto (-51), 3) := by decide +kernel
theorem dX8_perform_117 : decode cX8_perform 117 = .ok (.aload_n 0, 1) := by decide +kernel
theorem dX8_perform_118 : decode cX8_perform 118 = .ok (.invokevirtual 265, 3) := by decide +kernel
theorem dX8_perform_121 : decode cX8_perform 121 = .ok (.ifCond .eq 7, 3) := by decide +kernel
theorem dX8_perform_124 : decode cX8_perform 124 = .ok (.aload_n 0, 1) := by decide +kernel
theorem dX8_perform_125 : decode cX8_perform 125 = .ok (.invokevirtual 268, 3) := by decide +kernel
theorem dX8_perform_128 : decode cX8_perform 128 = .ok (.iconst 1, 1) := by decide +kernel
theorem dX8_perform_129 : decode cX8_perform 129 = .ok (.ireturn, 1) := by decide +kernel
def F_X8_perform  (Γ : HS) : HR :=
  bnd (cI' Γ 10 3 ((Γ 11).1 10)) fun σ_1 =>
  bnd (cI' σ_1 10 4 ((σ_1 11).1 11)) fun σ_3 =>
  bnd (fun  (σ_5 : HS) => (
    bnd ((g_at 7 ((σ_5 4).2.1 0) 5)) fun (x_9 : Int32) =>
    loopF (fun (again_12 : (Int32 × HS) → HR) (s_11 : Int32 × HS) => (
      bnd (fun  (σ_15 : HS) => (
        (F_X8_doing σ_15).bind fun u_19 =>
        if u_19.1 = 0 then (
          some (1, u_19.2)
        ) else (
          (F_X8_look u_19.2).bind fun u_24 =>
          some (1, u_24.2)
        )
      ) : HS → HR) fun j_16 =>
      if x_9 ≤ s_11.1 then (
        j_16  s_11.2
      ) else (
        if 200 ≤ s_11.1 then (
          j_16  s_11.2
        ) else (
          (F_X8_isMeant s_11.1 s_11.2).bind fun u_32 =>
          bnd (fun  (σ_34 : HS) => (
            bnd (s_11.1 + 1) fun (x_38 : Int32) =>
            again_12 (x_38, σ_34)
          ) : HS → HR) fun j_35 =>
          if u_32.1 = 0 then (
            j_35  u_32.2
          ) else (
            (F_X3_run (100 + s_11.1) u_32.2).bind fun u_43 =>
            bnd (mrg (fun j => j == 10 || j == 9 || j == 8 || j == 4 || j == 5 || j == 6 || j == 7) u_32.2 u_43.2) fun σ_45 =>
            if u_43.1 = 1 then (
              j_35  σ_45
            ) else (
              if u_43.1 = 2 then (
                some (1, σ_45)
              ) else (
                some (0, σ_45)
              )
            )
          )
        )
      )
    )) FU (0, σ_5)
  ) : HS → HR) fun j_6 =>
  if ((σ_3 11).1 8) = 11 then (
    j_6  σ_3
  ) else (
    if ((σ_3 11).1 10) = 0 then (
      j_6  σ_3
    ) else (
      bnd (cI' σ_3 9 11 ((σ_3 11).1 10)) fun σ_59 =>
      j_6  σ_59
    )
  )
set_option maxHeartbeats 4000000 in
set_option maxRecDepth 100000 in
theorem k_X8_perform (l : Launch) (dC : Nat → ClassId) (dI : Nat → Nat → Nat) (cB cC cI cJ cZ cP : ClassId) (oA : Nat → Nat) (rA : Nat → Nat → Nat) (sz : Nat)   (Γ : HS) (res : Int32 × HS) (hF : F_X8_perform  Γ = some res) : Met l yX8_perform (g_ws yX8_perform cX8_perform 4 (some .boolean)) ({ frames := 10, cells := 0, slots := 0, locals := 245 }) (va_Pc [.ref (oA 11)] (g_B (dC, dI) [(cB, .byte), (cC, .char), (cI, .int), (cJ, .long), (cZ, .boolean), (cP, .object "StoryHouse$Play")] sz (b_e cB cC cI cJ cZ oA rA Γ ++ b_k cB cC cI cJ cZ oA rA Γ ++ b_p cB cC cI cJ cZ oA rA Γ ++ b_o cB cC cI cJ cZ oA rA Γ ++ b_s cB cC cI cJ cZ oA rA Γ ++ b_c cB cC cI cJ cZ oA rA Γ ++ b_t cB cC cI cJ cZ oA rA Γ ++ b_d cB cC cI cJ cZ oA rA Γ) g_0)) (va_Qi (fun r (_ : Unit) => r = res.1) (g_Bo (dC, dI) (va_A (b_e cB cC cI cJ cZ oA rA Γ ++ b_k cB cC cI cJ cZ oA rA Γ ++ b_p cB cC cI cJ cZ oA rA Γ ++ b_o cB cC cI cJ cZ oA rA Γ ++ b_s cB cC cI cJ cZ oA rA Γ ++ b_c cB cC cI cJ cZ oA rA Γ ++ b_t cB cC cI cJ cZ oA rA Γ ++ b_d cB cC cI cJ cZ oA rA Γ) sz) (fun (_ : Unit) => (b_e cB cC cI cJ cZ oA rA res.2 ++ b_k cB cC cI cJ cZ oA rA res.2 ++ b_p cB cC cI cJ cZ oA rA res.2 ++ b_o cB cC cI cJ cZ oA rA res.2 ++ b_s cB cC cI cJ cZ oA rA res.2 ++ b_c cB cC cI cJ cZ oA rA res.2 ++ b_t cB cC cI cJ cZ oA rA res.2 ++ b_d cB cC cI cJ cZ oA rA res.2))) (va_A (b_e cB cC cI cJ cZ oA rA Γ ++ b_k cB cC cI cJ cZ oA rA Γ ++ b_p cB cC cI cJ cZ oA rA Γ ++ b_o cB cC cI cJ cZ oA rA Γ ++ b_s cB cC cI cJ cZ oA rA Γ ++ b_c cB cC cI cJ cZ oA rA Γ ++ b_t cB cC cI cJ cZ oA rA Γ ++ b_d cB cC cI cJ cZ oA rA Γ) sz)) 0 0 (va_A (b_e cB cC cI cJ cZ oA rA Γ ++ b_k cB cC cI cJ cZ oA rA Γ ++ b_p cB cC cI cJ cZ oA rA Γ ++ b_o cB cC cI cJ cZ oA rA Γ ++ b_s cB cC cI cJ cZ oA rA Γ ++ b_c cB cC cI cJ cZ oA rA Γ ++ b_t cB cC cI cJ cZ oA rA Γ ++ b_d cB cC cI cJ cZ oA rA Γ) sz) := by
  refine Met.ofW (cc := cX8_perform) (maxL := 4) (ret := (some .boolean)) (by decide) rfl ?_
  intro p e s m args below meth c s₁ B hml hv
  obtain ⟨rfl, hsz, hP, hK, hD0, hE, hX⟩ := hv
  have hx := B.exec
  have hb := B.bytes
  have hr := B.returns
  have hts0 := atoms_spec (ws := g_ws yX8_perform cX8_perform 4 (some .boolean)) B.pre
  have hts : ∀ w ∈ lw_good, w.before ([.ref (oA 11)] : List Value).toArray s = true := fun w z => hts0 w (List.mem_cons_of_mem _ z)
  have hown : s.vm.findClass RX8 = some m.cls := findClass_of_methodNamed B.named
  have hlocks := B.notSynchronized
  subst hsz
  have hD1 := hD0.self (sz := s.heap.size)
  generalize hAe : va_A (b_e cB cC cI cJ cZ oA rA Γ ++ b_k cB cC cI cJ cZ oA rA Γ ++ b_p cB cC cI cJ cZ oA rA Γ ++ b_o cB cC cI cJ cZ oA rA Γ ++ b_s cB cC cI cJ cZ oA rA Γ ++ b_c cB cC cI cJ cZ oA rA Γ ++ b_t cB cC cI cJ cZ oA rA Γ ++ b_d cB cC cI cJ cZ oA rA Γ) s.heap.size = A at hD1 hE hX ⊢
  have hA : ∀ q : Nat, s.heap.size ≤ q → A q := fun q z => by rw [← hAe]; exact Or.inr z
  have hDD : ∀ Γ : HS, va_D A (b_e cB cC cI cJ cZ oA rA Γ ++ b_k cB cC cI cJ cZ oA rA Γ ++ b_p cB cC cI cJ cZ oA rA Γ ++ b_o cB cC cI cJ cZ oA rA Γ ++ b_s cB cC cI cJ cZ oA rA Γ ++ b_c cB cC cI cJ cZ oA rA Γ ++ b_t cB cC cI cJ cZ oA rA Γ ++ b_d cB cC cI cJ cZ oA rA Γ) := fun Γ9 => va_D_fst (ws := (b_e cB cC cI cJ cZ oA rA Γ ++ b_k cB cC cI cJ cZ oA rA Γ ++ b_p cB cC cI cJ cZ oA rA Γ ++ b_o cB cC cI cJ cZ oA rA Γ ++ b_s cB cC cI cJ cZ oA rA Γ ++ b_c cB cC cI cJ cZ oA rA Γ ++ b_t cB cC cI cJ cZ oA rA Γ ++ b_d cB cC cI cJ cZ oA rA Γ)) (ws' := (b_e cB cC cI cJ cZ oA rA Γ9 ++ b_k cB cC cI cJ cZ oA rA Γ9 ++ b_p cB cC cI cJ cZ oA rA Γ9 ++ b_o cB cC cI cJ cZ oA rA Γ9 ++ b_s cB cC cI cJ cZ oA rA Γ9 ++ b_c cB cC cI cJ cZ oA rA Γ9 ++ b_t cB cC cI cJ cZ oA rA Γ9 ++ b_d cB cC cI cJ cZ oA rA Γ9)) rfl hD1
  have hN := hE.1
  have hS : va_S A s.heap s.heap [] := va_S.rf
  have hl := lv_entry ([.ref (oA 11)]) (n := 4) (Nat.le_of_ble_eq_true rfl)
  rw [lg_entry_eq]
  generalize (lg_sl ([.ref (oA 11)]) ++ List.replicate (4 - (lg_sl ([.ref (oA 11)])).length) Slot.unset).toArray = ls at hl ⊢
  have hl : lv_has ls 4 [(0, .ref (oA 11))] := hl
  unfold F_X8_perform at hF
  refine lv_aload_n hx hb dX8_perform_0 rfl (lv_at hl 0 rfl) ?_
  refine va_get (D := (dC, dI)) (ci := 8) (v := .ref (oA 10)) (C := RX8) (T := TX8) (N := 16) hx hb hts ii_X8 hown hK hP 0 rfl rfl 2 (by decide) (hts (.fieldLink RX8 30 "StoryHouse$Teller" "machine" "LStoryHouse$Machine;") wq_288) (fun _ h9 => h9) rfl dX8_perform_1 ?_
  refine lv_aload_n hx hb dX8_perform_4 rfl (lv_at hl 0 rfl) ?_
  refine va_get (D := (dC, dI)) (ci := 8) (v := .int ((Γ 11).1 10)) (C := RX8) (T := TX8) (N := 16) hx hb hts ii_X8 hown hK hP 0 rfl rfl 10 (by decide) (hts (.fieldLink RX8 114 "StoryHouse$Teller" "noun" "I") wq_297) (fun _ h9 => h9) rfl dX8_perform_5 ?_
  obtain ⟨σ_1, eσ_1, hF_2⟩ := bnd_e hF
  clear hF
  refine va_put (D := (dC, dI)) (ci := 3) (v := .int ((Γ 11).1 10)) (ty := .int) (C := RX3) (T := TX3) (N := 16) hx hb hts ii_X3 tyX3 tyX3_ok nmX3 hown hK hP (hDD _) hS 4 rfl rfl 3 (by decide) (hts (.fieldLink RX8 255 "StoryHouse$Machine" "noun" "I") wq_263) (fun _ h9 => h9) rfl (by decide +kernel) rfl rfl (Nat.le_of_ble_eq_true rfl) dX8_perform_8 (fun H locs hP' _ hS => ?_)
  have hP : va_P (dC, dI) vwCl (b_e cB cC cI cJ cZ oA rA σ_1 ++ b_k cB cC cI cJ cZ oA rA σ_1 ++ b_p cB cC cI cJ cZ oA rA σ_1 ++ b_o cB cC cI cJ cZ oA rA σ_1 ++ b_s cB cC cI cJ cZ oA rA σ_1 ++ b_c cB cC cI cJ cZ oA rA σ_1 ++ b_t cB cC cI cJ cZ oA rA σ_1 ++ b_d cB cC cI cJ cZ oA rA σ_1) H := by rw [eσ_1]; exact cs_ekposctd_k_3 ▸ hP'
  clear hP'
  refine lv_aload_n hx hb dX8_perform_11 rfl (lv_at hl 0 rfl) ?_
  refine va_get (D := (dC, dI)) (ci := 8) (v := .ref (oA 10)) (C := RX8) (T := TX8) (N := 16) hx hb hts ii_X8 hown hK hP 0 rfl rfl 2 (by decide) (hts (.fieldLink RX8 30 "StoryHouse$Teller" "machine" "LStoryHouse$Machine;") wq_288) (fun _ h9 => h9) rfl dX8_perform_12 ?_
  refine lv_aload_n hx hb dX8_perform_15 rfl (lv_at hl 0 rfl) ?_
  refine va_get (D := (dC, dI)) (ci := 8) (v := .int ((σ_1 11).1 11)) (C := RX8) (T := TX8) (N := 16) hx hb hts ii_X8 hown hK hP 0 rfl rfl 11 (by decide) (hts (.fieldLink RX8 117 "StoryHouse$Teller" "second" "I") wq_298) (fun _ h9 => h9) rfl dX8_perform_16 ?_
  obtain ⟨σ_3, eσ_3, hF_4⟩ := bnd_e hF_2
  clear hF_2
  refine va_put (D := (dC, dI)) (ci := 3) (v := .int ((σ_1 11).1 11)) (ty := .int) (C := RX3) (T := TX3) (N := 16) hx hb hts ii_X3 tyX3 tyX3_ok nmX3 hown hK hP (hDD _) hS 4 rfl rfl 4 (by decide) (hts (.fieldLink RX8 256 "StoryHouse$Machine" "second" "I") wq_265) (fun _ h9 => h9) rfl (by decide +kernel) rfl rfl (Nat.le_of_ble_eq_true rfl) dX8_perform_19 (fun H locs hP' _ hS => ?_)
  have hP : va_P (dC, dI) vwCl (b_e cB cC cI cJ cZ oA rA σ_3 ++ b_k cB cC cI cJ cZ oA rA σ_3 ++ b_p cB cC cI cJ cZ oA rA σ_3 ++ b_o cB cC cI cJ cZ oA rA σ_3 ++ b_s cB cC cI cJ cZ oA rA σ_3 ++ b_c cB cC cI cJ cZ oA rA σ_3 ++ b_t cB cC cI cJ cZ oA rA σ_3 ++ b_d cB cC cI cJ cZ oA rA σ_3) H := by rw [eσ_3]; exact cs_ekposctd_k_4 ▸ hP'
  clear hP'
  refine lv_aload_n hx hb dX8_perform_22 rfl (lv_at hl 0 rfl) ?_
  refine va_get (D := (dC, dI)) (ci := 8) (v := .int ((σ_3 11).1 8)) (C := RX8) (T := TX8) (N := 16) hx hb hts ii_X8 hown hK hP 0 rfl rfl 8 (by decide) (hts (.fieldLink RX8 127 "StoryHouse$Teller" "verb" "I") wq_295) (fun _ h9 => h9) rfl dX8_perform_23 ?_
  refine lv_bipush (v := 11) hx hb dX8_perform_26 (by decide +kernel) ?_
  obtain ⟨j_6, ej_6, hF_7⟩ := bnd_e hF_4
  clear hF_4
  have Jj_6 : ∀  (σ_5 : HS), j_6  σ_5 = some res → ∀ (H : Heap) (locs : List Loc), va_P (dC, dI) vwCl (b_e cB cC cI cJ cZ oA rA σ_5 ++ b_k cB cC cI cJ cZ oA rA σ_5 ++ b_p cB cC cI cJ cZ oA rA σ_5 ++ b_o cB cC cI cJ cZ oA rA σ_5 ++ b_s cB cC cI cJ cZ oA rA σ_5 ++ b_c cB cC cI cJ cZ oA rA σ_5 ++ b_t cB cC cI cJ cZ oA rA σ_5 ++ b_d cB cC cI cJ cZ oA rA σ_5) H → va_S A s.heap H locs → ∀ ls : Array Slot, lv_has ls 4 [(0, .ref (oA 11))] → W p l e (headSpec (g_ws yX8_perform cX8_perform 4 (some .boolean)) { frames := 10, cells := 0, slots := 0, locals := 245 }).room s m ([.ref (oA 11)] : List Value).toArray below meth c H locs 0 0 (MQ below (va_Qi (fun r (_ : Unit) => r = res.1) (g_Bo (dC, dI) A (fun (_ : Unit) => (b_e cB cC cI cJ cZ oA rA res.2 ++ b_k cB cC cI cJ cZ oA rA res.2 ++ b_p cB cC cI cJ cZ oA rA res.2 ++ b_o cB cC cI cJ cZ oA rA res.2 ++ b_s cB cC cI cJ cZ oA rA res.2 ++ b_c cB cC cI cJ cZ oA rA res.2 ++ b_t cB cC cI cJ cZ oA rA res.2 ++ b_d cB cC cI cJ cZ oA rA res.2))) A) ([.ref (oA 11)] : List Value).toArray s 0 0 A) (F0 m 49 ls []) := by
    intro  σ_5 hF0 H locs hP hS ls hl
    subst ej_6
    have hF_8 := hF0
    clear hF0
    refine lv_aload_n hx hb dX8_perform_49 rfl (lv_at hl 0 rfl) ?_
    refine va_get (D := (dC, dI)) (ci := 8) (v := .ref (oA 4)) (C := RX8) (T := TX8) (N := 16) hx hb hts ii_X8 hown hK hP 0 rfl rfl 3 (by decide) (hts (.fieldLink RX8 85 "StoryHouse$Teller" "story" "LStoryHouse$Story;") wq_290) (fun _ h9 => h9) rfl dX8_perform_50 ?_
    refine va_get (D := (dC, dI)) (ci := 7) (v := .ref (rA 4 0)) (C := RX7) (T := TX7) (N := 19) hx hb hts ii_X7 hown hK hP 19 rfl rfl 0 (by decide) (hts (.fieldLink RX8 139 "StoryHouse$Story" "counts" "[I") wq_155) (fun _ h9 => h9) rfl dX8_perform_53 ?_
    refine lv_iconst (v := 5) hx hb dX8_perform_56 (by decide +kernel) ?_
    have hq9 : ((b_e cB cC cI cJ cZ oA rA σ_5 ++ b_k cB cC cI cJ cZ oA rA σ_5 ++ b_p cB cC cI cJ cZ oA rA σ_5 ++ b_o cB cC cI cJ cZ oA rA σ_5 ++ b_s cB cC cI cJ cZ oA rA σ_5 ++ b_c cB cC cI cJ cZ oA rA σ_5 ++ b_t cB cC cI cJ cZ oA rA σ_5 ++ b_d cB cC cI cJ cZ oA rA σ_5))[20]? = some (rA 4 0, .inl (cI, 7, .inl ((σ_5 4).2.1 0))) := rfl
    have hPc := hP.sub (ws' := [(rA 4 0, .inl (cI, 7, .inl ((σ_5 4).2.1 0)))]) [20] (pk_fm (er_C hq9))
    have hDc := (hDD σ_5).sub (ws' := [(rA 4 0, .inl (cI, 7, .inl ((σ_5 4).2.1 0)))]) [20] (by decide +kernel) (er_C hq9)
    have hFc := va_free (wc := [(rA 4 0, .inl (cI, 7, .inl ((σ_5 4).2.1 0)))]) (hDD σ_5) hS hA [20] (er_C hq9)
    refine g_ofi (wc := [(rA 4 0, .inl (cI, 7, .inl ((σ_5 4).2.1 0)))]) (wr := (((b_e cB cC cI cJ cZ oA rA σ_5 ++ b_k cB cC cI cJ cZ oA rA σ_5 ++ b_p cB cC cI cJ cZ oA rA σ_5 ++ b_o cB cC cI cJ cZ oA rA σ_5 ++ b_s cB cC cI cJ cZ oA rA σ_5 ++ b_c cB cC cI cJ cZ oA rA σ_5 ++ b_t cB cC cI cJ cZ oA rA σ_5 ++ b_d cB cC cI cJ cZ oA rA σ_5)).eraseIdx 20)) hP (hDD σ_5) hS hFc [20] ((List.range ((b_e cB cC cI cJ cZ oA rA σ_5 ++ b_k cB cC cI cJ cZ oA rA σ_5 ++ b_p cB cC cI cJ cZ oA rA σ_5 ++ b_o cB cC cI cJ cZ oA rA σ_5 ++ b_s cB cC cI cJ cZ oA rA σ_5 ++ b_c cB cC cI cJ cZ oA rA σ_5 ++ b_t cB cC cI cJ cZ oA rA σ_5 ++ b_d cB cC cI cJ cZ oA rA σ_5)).length).eraseIdx 20) (er_C hq9) er_R er_n er_d (va_runSN (As := [.ref (rA 4 0), .int 5]) (rest := []) ⟨hx, hb, hml, hown, hts⟩ (c_X11_at l dC dI cB cC cI cJ cZ cP H.size (rA 4 0) 5 7 ((σ_5 4).2.1 0) (by decide)) ⟨va_cnB 2 hts (g_gA wq_407) rfl rfl rfl (nw_31 hN) (hts (.initialized RX11) wq_1) (by decide +kernel) ⟨Nat.le_of_ble_eq_true rfl, Nat.le_of_ble_eq_true rfl⟩, (hts (.static yX11_at) wq_406), trivial⟩ (g_preS g_bl0 hK hPc hDc hS hE hFc g_to0) rfl rfl hl.1 rfl (lv_room (Nat.le_of_ble_eq_true rfl)) dX8_perform_57 ⟨Nat.le_of_ble_eq_true rfl, Nat.le_of_ble_eq_true rfl⟩) (fun r9 u9 H locs hw9 hP' hD' hS => ?_)
    clear hPc hDc hFc hD'
    have hP : va_P (dC, dI) vwCl (b_e cB cC cI cJ cZ oA rA σ_5 ++ b_k cB cC cI cJ cZ oA rA σ_5 ++ b_p cB cC cI cJ cZ oA rA σ_5 ++ b_o cB cC cI cJ cZ oA rA σ_5 ++ b_s cB cC cI cJ cZ oA rA σ_5 ++ b_c cB cC cI cJ cZ oA rA σ_5 ++ b_t cB cC cI cJ cZ oA rA σ_5 ++ b_d cB cC cI cJ cZ oA rA σ_5) H := er_I hP' hq9
    clear hP' hq9
    subst hw9
    obtain ⟨x_9, ex_9, hF_10⟩ := bnd_e hF_8
    clear hF_8
    refine m_top ex_9 ?_
    refine lv_istore_n (lv' := [(1, .int x_9), (0, .ref (oA 11))]) hx hb dX8_perform_60 rfl hl (by decide) rfl (fun ls hl => ?_)
    refine lv_iconst (v := 0) hx hb dX8_perform_61 (by decide +kernel) ?_
    refine lv_istore_n (lv' := [(2, .int 0), (1, .int x_9), (0, .ref (oA 11))]) hx hb dX8_perform_62 rfl hl (by decide) rfl (fun ls hl => ?_)
    refine loopF_ind (P := fun (s_11 : Int32 × HS) => ∀ (H : Heap) (locs : List Loc), va_P (dC, dI) vwCl (b_e cB cC cI cJ cZ oA rA s_11.2 ++ b_k cB cC cI cJ cZ oA rA s_11.2 ++ b_p cB cC cI cJ cZ oA rA s_11.2 ++ b_o cB cC cI cJ cZ oA rA s_11.2 ++ b_s cB cC cI cJ cZ oA rA s_11.2 ++ b_c cB cC cI cJ cZ oA rA s_11.2 ++ b_t cB cC cI cJ cZ oA rA s_11.2 ++ b_d cB cC cI cJ cZ oA rA s_11.2) H → va_S A s.heap H locs → ∀ ls : Array Slot, lv_has ls 4 [(0, .ref (oA 11)), (1, .int x_9), (2, .int s_11.1)] → W p l e (headSpec (g_ws yX8_perform cX8_perform 4 (some .boolean)) { frames := 10, cells := 0, slots := 0, locals := 245 }).room s m ([.ref (oA 11)] : List Value).toArray below meth c H locs 0 0 (MQ below (va_Qi (fun r (_ : Unit) => r = res.1) (g_Bo (dC, dI) A (fun (_ : Unit) => (b_e cB cC cI cJ cZ oA rA res.2 ++ b_k cB cC cI cJ cZ oA rA res.2 ++ b_p cB cC cI cJ cZ oA rA res.2 ++ b_o cB cC cI cJ cZ oA rA res.2 ++ b_s cB cC cI cJ cZ oA rA res.2 ++ b_c cB cC cI cJ cZ oA rA res.2 ++ b_t cB cC cI cJ cZ oA rA res.2 ++ b_d cB cC cI cJ cZ oA rA res.2))) A) ([.ref (oA 11)] : List Value).toArray s 0 0 A) (F0 m 63 ls [])) ?_ _ _ hF_10 _ _ hP hS ls (lv_sub hl [2, 1, 0] rfl)
    intro again_12 s_11 ih_13 hF_14
    intro H locs hP hS ls hl
    refine lv_iload_n hx hb dX8_perform_63 rfl (lv_at hl 2 rfl) ?_
    refine lv_iload_n hx hb dX8_perform_64 rfl (lv_at hl 1 rfl) ?_
    obtain ⟨j_16, ej_16, hF_17⟩ := bnd_e hF_14
    clear hF_14
    have Jj_16 : ∀  (σ_15 : HS), j_16  σ_15 = some res → ∀ (H : Heap) (locs : List Loc), va_P (dC, dI) vwCl (b_e cB cC cI cJ cZ oA rA σ_15 ++ b_k cB cC cI cJ cZ oA rA σ_15 ++ b_p cB cC cI cJ cZ oA rA σ_15 ++ b_o cB cC cI cJ cZ oA rA σ_15 ++ b_s cB cC cI cJ cZ oA rA σ_15 ++ b_c cB cC cI cJ cZ oA rA σ_15 ++ b_t cB cC cI cJ cZ oA rA σ_15 ++ b_d cB cC cI cJ cZ oA rA σ_15) H → va_S A s.heap H locs → ∀ ls : Array Slot, lv_has ls 4 [(0, .ref (oA 11))] → W p l e (headSpec (g_ws yX8_perform cX8_perform 4 (some .boolean)) { frames := 10, cells := 0, slots := 0, locals := 245 }).room s m ([.ref (oA 11)] : List Value).toArray below meth c H locs 0 0 (MQ below (va_Qi (fun r (_ : Unit) => r = res.1) (g_Bo (dC, dI) A (fun (_ : Unit) => (b_e cB cC cI cJ cZ oA rA res.2 ++ b_k cB cC cI cJ cZ oA rA res.2 ++ b_p cB cC cI cJ cZ oA rA res.2 ++ b_o cB cC cI cJ cZ oA rA res.2 ++ b_s cB cC cI cJ cZ oA rA res.2 ++ b_c cB cC cI cJ cZ oA rA res.2 ++ b_t cB cC cI cJ cZ oA rA res.2 ++ b_d cB cC cI cJ cZ oA rA res.2))) A) ([.ref (oA 11)] : List Value).toArray s 0 0 A) (F0 m 117 ls []) := by
      intro  σ_15 hF0 H locs hP hS ls hl
      subst ej_16
      have hF_18 := hF0
      clear hF0
      refine lv_aload_n hx hb dX8_perform_117 rfl (lv_at hl 0 rfl) ?_
      obtain ⟨u_19, hu_19, hF_20⟩ := Option.bind_eq_some_iff.mp hF_18
      clear hF_18
      have hPc := bx_P (bs := [b_e cB cC cI cJ cZ oA rA σ_15, b_k cB cC cI cJ cZ oA rA σ_15, b_p cB cC cI cJ cZ oA rA σ_15, b_o cB cC cI cJ cZ oA rA σ_15, b_s cB cC cI cJ cZ oA rA σ_15, b_c cB cC cI cJ cZ oA rA σ_15, b_t cB cC cI cJ cZ oA rA σ_15, b_d cB cC cI cJ cZ oA rA σ_15]) (bs' := [b_e cB cC cI cJ cZ oA rA σ_15, b_k cB cC cI cJ cZ oA rA σ_15, b_p cB cC cI cJ cZ oA rA σ_15, b_o cB cC cI cJ cZ oA rA σ_15, b_s cB cC cI cJ cZ oA rA σ_15, b_c cB cC cI cJ cZ oA rA σ_15, b_t cB cC cI cJ cZ oA rA σ_15, b_d cB cC cI cJ cZ oA rA σ_15]) (ws' := (b_e cB cC cI cJ cZ oA rA σ_15 ++ b_k cB cC cI cJ cZ oA rA σ_15 ++ b_p cB cC cI cJ cZ oA rA σ_15 ++ b_o cB cC cI cJ cZ oA rA σ_15 ++ b_s cB cC cI cJ cZ oA rA σ_15 ++ b_c cB cC cI cJ cZ oA rA σ_15 ++ b_t cB cC cI cJ cZ oA rA σ_15 ++ b_d cB cC cI cJ cZ oA rA σ_15)) hP fl_8 fl_8 [0, 1, 2, 3, 4, 5, 6, 7] rfl
      have hDc := bx_D (bs := [b_e cB cC cI cJ cZ oA rA σ_15, b_k cB cC cI cJ cZ oA rA σ_15, b_p cB cC cI cJ cZ oA rA σ_15, b_o cB cC cI cJ cZ oA rA σ_15, b_s cB cC cI cJ cZ oA rA σ_15, b_c cB cC cI cJ cZ oA rA σ_15, b_t cB cC cI cJ cZ oA rA σ_15, b_d cB cC cI cJ cZ oA rA σ_15]) (bs' := [b_e cB cC cI cJ cZ oA rA σ_15, b_k cB cC cI cJ cZ oA rA σ_15, b_p cB cC cI cJ cZ oA rA σ_15, b_o cB cC cI cJ cZ oA rA σ_15, b_s cB cC cI cJ cZ oA rA σ_15, b_c cB cC cI cJ cZ oA rA σ_15, b_t cB cC cI cJ cZ oA rA σ_15, b_d cB cC cI cJ cZ oA rA σ_15]) (ws' := (b_e cB cC cI cJ cZ oA rA σ_15 ++ b_k cB cC cI cJ cZ oA rA σ_15 ++ b_p cB cC cI cJ cZ oA rA σ_15 ++ b_o cB cC cI cJ cZ oA rA σ_15 ++ b_s cB cC cI cJ cZ oA rA σ_15 ++ b_c cB cC cI cJ cZ oA rA σ_15 ++ b_t cB cC cI cJ cZ oA rA σ_15 ++ b_d cB cC cI cJ cZ oA rA σ_15)) (hDD σ_15) fl_8 fl_8 [0, 1, 2, 3, 4, 5, 6, 7] (by decide +kernel) rfl
      have hFc := bx_F (bs := [b_e cB cC cI cJ cZ oA rA σ_15, b_k cB cC cI cJ cZ oA rA σ_15, b_p cB cC cI cJ cZ oA rA σ_15, b_o cB cC cI cJ cZ oA rA σ_15, b_s cB cC cI cJ cZ oA rA σ_15, b_c cB cC cI cJ cZ oA rA σ_15, b_t cB cC cI cJ cZ oA rA σ_15, b_d cB cC cI cJ cZ oA rA σ_15]) (bs' := [b_e cB cC cI cJ cZ oA rA σ_15, b_k cB cC cI cJ cZ oA rA σ_15, b_p cB cC cI cJ cZ oA rA σ_15, b_o cB cC cI cJ cZ oA rA σ_15, b_s cB cC cI cJ cZ oA rA σ_15, b_c cB cC cI cJ cZ oA rA σ_15, b_t cB cC cI cJ cZ oA rA σ_15, b_d cB cC cI cJ cZ oA rA σ_15]) (wc := (b_e cB cC cI cJ cZ oA rA σ_15 ++ b_k cB cC cI cJ cZ oA rA σ_15 ++ b_p cB cC cI cJ cZ oA rA σ_15 ++ b_o cB cC cI cJ cZ oA rA σ_15 ++ b_s cB cC cI cJ cZ oA rA σ_15 ++ b_c cB cC cI cJ cZ oA rA σ_15 ++ b_t cB cC cI cJ cZ oA rA σ_15 ++ b_d cB cC cI cJ cZ oA rA σ_15)) (hDD σ_15) hS hA fl_8 fl_8 [0, 1, 2, 3, 4, 5, 6, 7] rfl
      refine g_ofi (wc := (b_e cB cC cI cJ cZ oA rA σ_15 ++ b_k cB cC cI cJ cZ oA rA σ_15 ++ b_p cB cC cI cJ cZ oA rA σ_15 ++ b_o cB cC cI cJ cZ oA rA σ_15 ++ b_s cB cC cI cJ cZ oA rA σ_15 ++ b_c cB cC cI cJ cZ oA rA σ_15 ++ b_t cB cC cI cJ cZ oA rA σ_15 ++ b_d cB cC cI cJ cZ oA rA σ_15)) (wr := ([] : va_W)) hP (hDD σ_15) hS hFc (bx_ix [b_e cB cC cI cJ cZ oA rA σ_15, b_k cB cC cI cJ cZ oA rA σ_15, b_p cB cC cI cJ cZ oA rA σ_15, b_o cB cC cI cJ cZ oA rA σ_15, b_s cB cC cI cJ cZ oA rA σ_15, b_c cB cC cI cJ cZ oA rA σ_15, b_t cB cC cI cJ cZ oA rA σ_15, b_d cB cC cI cJ cZ oA rA σ_15] [0, 1, 2, 3, 4, 5, 6, 7]) (bx_ix [b_e cB cC cI cJ cZ oA rA σ_15, b_k cB cC cI cJ cZ oA rA σ_15, b_p cB cC cI cJ cZ oA rA σ_15, b_o cB cC cI cJ cZ oA rA σ_15, b_s cB cC cI cJ cZ oA rA σ_15, b_c cB cC cI cJ cZ oA rA σ_15, b_t cB cC cI cJ cZ oA rA σ_15, b_d cB cC cI cJ cZ oA rA σ_15] []) (bx_C (bs := [b_e cB cC cI cJ cZ oA rA σ_15, b_k cB cC cI cJ cZ oA rA σ_15, b_p cB cC cI cJ cZ oA rA σ_15, b_o cB cC cI cJ cZ oA rA σ_15, b_s cB cC cI cJ cZ oA rA σ_15, b_c cB cC cI cJ cZ oA rA σ_15, b_t cB cC cI cJ cZ oA rA σ_15, b_d cB cC cI cJ cZ oA rA σ_15]) (bs' := [b_e cB cC cI cJ cZ oA rA σ_15, b_k cB cC cI cJ cZ oA rA σ_15, b_p cB cC cI cJ cZ oA rA σ_15, b_o cB cC cI cJ cZ oA rA σ_15, b_s cB cC cI cJ cZ oA rA σ_15, b_c cB cC cI cJ cZ oA rA σ_15, b_t cB cC cI cJ cZ oA rA σ_15, b_d cB cC cI cJ cZ oA rA σ_15]) (is := [0, 1, 2, 3, 4, 5, 6, 7]) fl_8 fl_8 rfl) (bx_C (bs := [b_e cB cC cI cJ cZ oA rA σ_15, b_k cB cC cI cJ cZ oA rA σ_15, b_p cB cC cI cJ cZ oA rA σ_15, b_o cB cC cI cJ cZ oA rA σ_15, b_s cB cC cI cJ cZ oA rA σ_15, b_c cB cC cI cJ cZ oA rA σ_15, b_t cB cC cI cJ cZ oA rA σ_15, b_d cB cC cI cJ cZ oA rA σ_15]) (bs' := []) (is := []) fl_8 fl_0 rfl) (bx_n (by decide +kernel)) (bx_d (by decide +kernel)) (va_runV (As := []) (rest := []) ⟨hx, hb, hml, hown, hts⟩ (k_X8_doing l dC dI cB cC cI cJ cZ cP oA rA H.size  σ_15 _ hu_19) (cwV 0 hts (g_gV wq_1217 wq_1218 wq_2100 wq_12 wq_1219) rfl rfl rfl (by decide +kernel) ⟨Nat.le_of_ble_eq_true rfl, Nat.le_of_ble_eq_true rfl⟩) (g_preV g_bl0 hK hPc hDc hS hE hFc g_to0 (q0 := 0) (ci := 8) rfl rfl) rfl rfl hl.1 rfl (lv_room (Nat.le_of_ble_eq_true rfl)) dX8_perform_118 ⟨Nat.le_of_ble_eq_true rfl, Nat.le_of_ble_eq_true rfl⟩) (fun r9 u9 H locs hw9 hP' hD' hS => ?_)
      clear hPc hDc hFc
      subst hw9
      have hP : va_P (dC, dI) vwCl (b_e cB cC cI cJ cZ oA rA u_19.2 ++ b_k cB cC cI cJ cZ oA rA u_19.2 ++ b_p cB cC cI cJ cZ oA rA u_19.2 ++ b_o cB cC cI cJ cZ oA rA u_19.2 ++ b_s cB cC cI cJ cZ oA rA u_19.2 ++ b_c cB cC cI cJ cZ oA rA u_19.2 ++ b_t cB cC cI cJ cZ oA rA u_19.2 ++ b_d cB cC cI cJ cZ oA rA u_19.2) H := hP'
      clear hP' hD'
      refine lv_if_eq (tgt := 128) hx hb dX8_perform_121 (by decide) (fun c_21 => ?_) (fun c_21 => ?_)
      · have hF_22 := ipos c_21 hF_20
        clear hF_20
        refine lv_iconst (v := 1) hx hb dX8_perform_128 (by decide +kernel) ?_
        have h9 := Option.some.inj hF_22
        subst h9
        exact W.zret (v := 1) hx hb hr (by decide +kernel) (fun t ht hW => ⟨⟨1, (), rfl, rfl, m_end ht hP, hDD _⟩, hS.F ht⟩) hS.2.2 dX8_perform_129
      · have hF_23 := ineg c_21 hF_20
        clear hF_20
        refine lv_aload_n hx hb dX8_perform_124 rfl (lv_at hl 0 rfl) ?_
        obtain ⟨u_24, hu_24, hF_25⟩ := Option.bind_eq_some_iff.mp hF_23
        clear hF_23
        have hPc := bx_P (bs := [b_e cB cC cI cJ cZ oA rA u_19.2, b_k cB cC cI cJ cZ oA rA u_19.2, b_p cB cC cI cJ cZ oA rA u_19.2, b_o cB cC cI cJ cZ oA rA u_19.2, b_s cB cC cI cJ cZ oA rA u_19.2, b_c cB cC cI cJ cZ oA rA u_19.2, b_t cB cC cI cJ cZ oA rA u_19.2, b_d cB cC cI cJ cZ oA rA u_19.2]) (bs' := [b_e cB cC cI cJ cZ oA rA u_19.2, b_k cB cC cI cJ cZ oA rA u_19.2, b_p cB cC cI cJ cZ oA rA u_19.2, b_o cB cC cI cJ cZ oA rA u_19.2, b_s cB cC cI cJ cZ oA rA u_19.2, b_c cB cC cI cJ cZ oA rA u_19.2, b_t cB cC cI cJ cZ oA rA u_19.2, b_d cB cC cI cJ cZ oA rA u_19.2]) (ws' := (b_e cB cC cI cJ cZ oA rA u_19.2 ++ b_k cB cC cI cJ cZ oA rA u_19.2 ++ b_p cB cC cI cJ cZ oA rA u_19.2 ++ b_o cB cC cI cJ cZ oA rA u_19.2 ++ b_s cB cC cI cJ cZ oA rA u_19.2 ++ b_c cB cC cI cJ cZ oA rA u_19.2 ++ b_t cB cC cI cJ cZ oA rA u_19.2 ++ b_d cB cC cI cJ cZ oA rA u_19.2)) hP fl_8 fl_8 [0, 1, 2, 3, 4, 5, 6, 7] rfl
        have hDc := bx_D (bs := [b_e cB cC cI cJ cZ oA rA u_19.2, b_k cB cC cI cJ cZ oA rA u_19.2, b_p cB cC cI cJ cZ oA rA u_19.2, b_o cB cC cI cJ cZ oA rA u_19.2, b_s cB cC cI cJ cZ oA rA u_19.2, b_c cB cC cI cJ cZ oA rA u_19.2, b_t cB cC cI cJ cZ oA rA u_19.2, b_d cB cC cI cJ cZ oA rA u_19.2]) (bs' := [b_e cB cC cI cJ cZ oA rA u_19.2, b_k cB cC cI cJ cZ oA rA u_19.2, b_p cB cC cI cJ cZ oA rA u_19.2, b_o cB cC cI cJ cZ oA rA u_19.2, b_s cB cC cI cJ cZ oA rA u_19.2, b_c cB cC cI cJ cZ oA rA u_19.2, b_t cB cC cI cJ cZ oA rA u_19.2, b_d cB cC cI cJ cZ oA rA u_19.2]) (ws' := (b_e cB cC cI cJ cZ oA rA u_19.2 ++ b_k cB cC cI cJ cZ oA rA u_19.2 ++ b_p cB cC cI cJ cZ oA rA u_19.2 ++ b_o cB cC cI cJ cZ oA rA u_19.2 ++ b_s cB cC cI cJ cZ oA rA u_19.2 ++ b_c cB cC cI cJ cZ oA rA u_19.2 ++ b_t cB cC cI cJ cZ oA rA u_19.2 ++ b_d cB cC cI cJ cZ oA rA u_19.2)) (hDD u_19.2) fl_8 fl_8 [0, 1, 2, 3, 4, 5, 6, 7] (by decide +kernel) rfl
        have hFc := bx_F (bs := [b_e cB cC cI cJ cZ oA rA u_19.2, b_k cB cC cI cJ cZ oA rA u_19.2, b_p cB cC cI cJ cZ oA rA u_19.2, b_o cB cC cI cJ cZ oA rA u_19.2, b_s cB cC cI cJ cZ oA rA u_19.2, b_c cB cC cI cJ cZ oA rA u_19.2, b_t cB cC cI cJ cZ oA rA u_19.2, b_d cB cC cI cJ cZ oA rA u_19.2]) (bs' := [b_e cB cC cI cJ cZ oA rA u_19.2, b_k cB cC cI cJ cZ oA rA u_19.2, b_p cB cC cI cJ cZ oA rA u_19.2, b_o cB cC cI cJ cZ oA rA u_19.2, b_s cB cC cI cJ cZ oA rA u_19.2, b_c cB cC cI cJ cZ oA rA u_19.2, b_t cB cC cI cJ cZ oA rA u_19.2, b_d cB cC cI cJ cZ oA rA u_19.2]) (wc := (b_e cB cC cI cJ cZ oA rA u_19.2 ++ b_k cB cC cI cJ cZ oA rA u_19.2 ++ b_p cB cC cI cJ cZ oA rA u_19.2 ++ b_o cB cC cI cJ cZ oA rA u_19.2 ++ b_s cB cC cI cJ cZ oA rA u_19.2 ++ b_c cB cC cI cJ cZ oA rA u_19.2 ++ b_t cB cC cI cJ cZ oA rA u_19.2 ++ b_d cB cC cI cJ cZ oA rA u_19.2)) (hDD u_19.2) hS hA fl_8 fl_8 [0, 1, 2, 3, 4, 5, 6, 7] rfl
        refine g_ofv (wc := (b_e cB cC cI cJ cZ oA rA u_19.2 ++ b_k cB cC cI cJ cZ oA rA u_19.2 ++ b_p cB cC cI cJ cZ oA rA u_19.2 ++ b_o cB cC cI cJ cZ oA rA u_19.2 ++ b_s cB cC cI cJ cZ oA rA u_19.2 ++ b_c cB cC cI cJ cZ oA rA u_19.2 ++ b_t cB cC cI cJ cZ oA rA u_19.2 ++ b_d cB cC cI cJ cZ oA rA u_19.2)) (wr := ([] : va_W)) hP (hDD u_19.2) hS hFc (bx_ix [b_e cB cC cI cJ cZ oA rA u_19.2, b_k cB cC cI cJ cZ oA rA u_19.2, b_p cB cC cI cJ cZ oA rA u_19.2, b_o cB cC cI cJ cZ oA rA u_19.2, b_s cB cC cI cJ cZ oA rA u_19.2, b_c cB cC cI cJ cZ oA rA u_19.2, b_t cB cC cI cJ cZ oA rA u_19.2, b_d cB cC cI cJ cZ oA rA u_19.2] [0, 1, 2, 3, 4, 5, 6, 7]) (bx_ix [b_e cB cC cI cJ cZ oA rA u_19.2, b_k cB cC cI cJ cZ oA rA u_19.2, b_p cB cC cI cJ cZ oA rA u_19.2, b_o cB cC cI cJ cZ oA rA u_19.2, b_s cB cC cI cJ cZ oA rA u_19.2, b_c cB cC cI cJ cZ oA rA u_19.2, b_t cB cC cI cJ cZ oA rA u_19.2, b_d cB cC cI cJ cZ oA rA u_19.2] []) (bx_C (bs := [b_e cB cC cI cJ cZ oA rA u_19.2, b_k cB cC cI cJ cZ oA rA u_19.2, b_p cB cC cI cJ cZ oA rA u_19.2, b_o cB cC cI cJ cZ oA rA u_19.2, b_s cB cC cI cJ cZ oA rA u_19.2, b_c cB cC cI cJ cZ oA rA u_19.2, b_t cB cC cI cJ cZ oA rA u_19.2, b_d cB cC cI cJ cZ oA rA u_19.2]) (bs' := [b_e cB cC cI cJ cZ oA rA u_19.2, b_k cB cC cI cJ cZ oA rA u_19.2, b_p cB cC cI cJ cZ oA rA u_19.2, b_o cB cC cI cJ cZ oA rA u_19.2, b_s cB cC cI cJ cZ oA rA u_19.2, b_c cB cC cI cJ cZ oA rA u_19.2, b_t cB cC cI cJ cZ oA rA u_19.2, b_d cB cC cI cJ cZ oA rA u_19.2]) (is := [0, 1, 2, 3, 4, 5, 6, 7]) fl_8 fl_8 rfl) (bx_C (bs := [b_e cB cC cI cJ cZ oA rA u_19.2, b_k cB cC cI cJ cZ oA rA u_19.2, b_p cB cC cI cJ cZ oA rA u_19.2, b_o cB cC cI cJ cZ oA rA u_19.2, b_s cB cC cI cJ cZ oA rA u_19.2, b_c cB cC cI cJ cZ oA rA u_19.2, b_t cB cC cI cJ cZ oA rA u_19.2, b_d cB cC cI cJ cZ oA rA u_19.2]) (bs' := []) (is := []) fl_8 fl_0 rfl) (bx_n (by decide +kernel)) (bx_d (by decide +kernel)) (va_runV (As := []) (rest := []) ⟨hx, hb, hml, hown, hts⟩ (k_X8_look l dC dI cB cC cI cJ cZ cP oA rA H.size  u_19.2 _ hu_24) (cwV 0 hts (g_gV wq_1254 wq_975 wq_976 wq_12 wq_977) rfl rfl rfl (by decide +kernel) ⟨Nat.le_of_ble_eq_true rfl, Nat.le_of_ble_eq_true rfl⟩) (g_preV g_bl0 hK hPc hDc hS hE hFc g_to0 (q0 := 0) (ci := 8) rfl rfl) rfl rfl hl.1 rfl (lv_room (Nat.le_of_ble_eq_true rfl)) dX8_perform_125 ⟨Nat.le_of_ble_eq_true rfl, Nat.le_of_ble_eq_true rfl⟩) (fun u9 H locs hw9 hP' hD' hS => ?_)
        clear hPc hDc hFc
        have hP : va_P (dC, dI) vwCl (b_e cB cC cI cJ cZ oA rA u_24.2 ++ b_k cB cC cI cJ cZ oA rA u_24.2 ++ b_p cB cC cI cJ cZ oA rA u_24.2 ++ b_o cB cC cI cJ cZ oA rA u_24.2 ++ b_s cB cC cI cJ cZ oA rA u_24.2 ++ b_c cB cC cI cJ cZ oA rA u_24.2 ++ b_t cB cC cI cJ cZ oA rA u_24.2 ++ b_d cB cC cI cJ cZ oA rA u_24.2) H := hP'
        clear hP' hD'
        refine lv_iconst (v := 1) hx hb dX8_perform_128 (by decide +kernel) ?_
        have h9 := Option.some.inj hF_25
        subst h9
        exact W.zret (v := 1) hx hb hr (by decide +kernel) (fun t ht hW => ⟨⟨1, (), rfl, rfl, m_end ht hP, hDD _⟩, hS.F ht⟩) hS.2.2 dX8_perform_129
    refine lv_icmp_ge (tgt := 117) hx hb dX8_perform_65 (by decide) (fun c_26 => ?_) (fun c_26 => ?_)
    · have hF_27 := ipos c_26 hF_17
      clear hF_17
      exact Jj_16  s_11.2 hF_27 _ _ hP hS ls (lv_sub hl [0] rfl)
    · have hF_28 := ineg c_26 hF_17
      clear hF_17
      refine lv_iload_n hx hb dX8_perform_68 rfl (lv_at hl 2 rfl) ?_
      refine lv_sipush (v := 200) hx hb dX8_perform_69 (by decide +kernel) ?_
      refine lv_icmp_ge (tgt := 117) hx hb dX8_perform_72 (by decide) (fun c_29 => ?_) (fun c_29 => ?_)
      · have hF_30 := ipos c_29 hF_28
        clear hF_28
        exact Jj_16  s_11.2 hF_30 _ _ hP hS ls (lv_sub hl [0] rfl)
      · have hF_31 := ineg c_29 hF_28
        clear hF_28
        refine lv_aload_n hx hb dX8_perform_75 rfl (lv_at hl 0 rfl) ?_
        refine lv_iload_n hx hb dX8_perform_76 rfl (lv_at hl 2 rfl) ?_
        obtain ⟨u_32, hu_32, hF_33⟩ := Option.bind_eq_some_iff.mp hF_31
        clear hF_31
        have hPc := bx_P (bs := [b_e cB cC cI cJ cZ oA rA s_11.2, b_k cB cC cI cJ cZ oA rA s_11.2, b_p cB cC cI cJ cZ oA rA s_11.2, b_o cB cC cI cJ cZ oA rA s_11.2, b_s cB cC cI cJ cZ oA rA s_11.2, b_c cB cC cI cJ cZ oA rA s_11.2, b_t cB cC cI cJ cZ oA rA s_11.2, b_d cB cC cI cJ cZ oA rA s_11.2]) (bs' := [b_e cB cC cI cJ cZ oA rA s_11.2, b_k cB cC cI cJ cZ oA rA s_11.2, b_p cB cC cI cJ cZ oA rA s_11.2, b_o cB cC cI cJ cZ oA rA s_11.2, b_s cB cC cI cJ cZ oA rA s_11.2, b_c cB cC cI cJ cZ oA rA s_11.2, b_t cB cC cI cJ cZ oA rA s_11.2, b_d cB cC cI cJ cZ oA rA s_11.2]) (ws' := (b_e cB cC cI cJ cZ oA rA s_11.2 ++ b_k cB cC cI cJ cZ oA rA s_11.2 ++ b_p cB cC cI cJ cZ oA rA s_11.2 ++ b_o cB cC cI cJ cZ oA rA s_11.2 ++ b_s cB cC cI cJ cZ oA rA s_11.2 ++ b_c cB cC cI cJ cZ oA rA s_11.2 ++ b_t cB cC cI cJ cZ oA rA s_11.2 ++ b_d cB cC cI cJ cZ oA rA s_11.2)) hP fl_8 fl_8 [0, 1, 2, 3, 4, 5, 6, 7] rfl
        have hDc := bx_D (bs := [b_e cB cC cI cJ cZ oA rA s_11.2, b_k cB cC cI cJ cZ oA rA s_11.2, b_p cB cC cI cJ cZ oA rA s_11.2, b_o cB cC cI cJ cZ oA rA s_11.2, b_s cB cC cI cJ cZ oA rA s_11.2, b_c cB cC cI cJ cZ oA rA s_11.2, b_t cB cC cI cJ cZ oA rA s_11.2, b_d cB cC cI cJ cZ oA rA s_11.2]) (bs' := [b_e cB cC cI cJ cZ oA rA s_11.2, b_k cB cC cI cJ cZ oA rA s_11.2, b_p cB cC cI cJ cZ oA rA s_11.2, b_o cB cC cI cJ cZ oA rA s_11.2, b_s cB cC cI cJ cZ oA rA s_11.2, b_c cB cC cI cJ cZ oA rA s_11.2, b_t cB cC cI cJ cZ oA rA s_11.2, b_d cB cC cI cJ cZ oA rA s_11.2]) (ws' := (b_e cB cC cI cJ cZ oA rA s_11.2 ++ b_k cB cC cI cJ cZ oA rA s_11.2 ++ b_p cB cC cI cJ cZ oA rA s_11.2 ++ b_o cB cC cI cJ cZ oA rA s_11.2 ++ b_s cB cC cI cJ cZ oA rA s_11.2 ++ b_c cB cC cI cJ cZ oA rA s_11.2 ++ b_t cB cC cI cJ cZ oA rA s_11.2 ++ b_d cB cC cI cJ cZ oA rA s_11.2)) (hDD s_11.2) fl_8 fl_8 [0, 1, 2, 3, 4, 5, 6, 7] (by decide +kernel) rfl
        have hFc := bx_F (bs := [b_e cB cC cI cJ cZ oA rA s_11.2, b_k cB cC cI cJ cZ oA rA s_11.2, b_p cB cC cI cJ cZ oA rA s_11.2, b_o cB cC cI cJ cZ oA rA s_11.2, b_s cB cC cI cJ cZ oA rA s_11.2, b_c cB cC cI cJ cZ oA rA s_11.2, b_t cB cC cI cJ cZ oA rA s_11.2, b_d cB cC cI cJ cZ oA rA s_11.2]) (bs' := [b_e cB cC cI cJ cZ oA rA s_11.2, b_k cB cC cI cJ cZ oA rA s_11.2, b_p cB cC cI cJ cZ oA rA s_11.2, b_o cB cC cI cJ cZ oA rA s_11.2, b_s cB cC cI cJ cZ oA rA s_11.2, b_c cB cC cI cJ cZ oA rA s_11.2, b_t cB cC cI cJ cZ oA rA s_11.2, b_d cB cC cI cJ cZ oA rA s_11.2]) (wc := (b_e cB cC cI cJ cZ oA rA s_11.2 ++ b_k cB cC cI cJ cZ oA rA s_11.2 ++ b_p cB cC cI cJ cZ oA rA s_11.2 ++ b_o cB cC cI cJ cZ oA rA s_11.2 ++ b_s cB cC cI cJ cZ oA rA s_11.2 ++ b_c cB cC cI cJ cZ oA rA s_11.2 ++ b_t cB cC cI cJ cZ oA rA s_11.2 ++ b_d cB cC cI cJ cZ oA rA s_11.2)) (hDD s_11.2) hS hA fl_8 fl_8 [0, 1, 2, 3, 4, 5, 6, 7] rfl
        refine g_ofi (wc := (b_e cB cC cI cJ cZ oA rA s_11.2 ++ b_k cB cC cI cJ cZ oA rA s_11.2 ++ b_p cB cC cI cJ cZ oA rA s_11.2 ++ b_o cB cC cI cJ cZ oA rA s_11.2 ++ b_s cB cC cI cJ cZ oA rA s_11.2 ++ b_c cB cC cI cJ cZ oA rA s_11.2 ++ b_t cB cC cI cJ cZ oA rA s_11.2 ++ b_d cB cC cI cJ cZ oA rA s_11.2)) (wr := ([] : va_W)) hP (hDD s_11.2) hS hFc (bx_ix [b_e cB cC cI cJ cZ oA rA s_11.2, b_k cB cC cI cJ cZ oA rA s_11.2, b_p cB cC cI cJ cZ oA rA s_11.2, b_o cB cC cI cJ cZ oA rA s_11.2, b_s cB cC cI cJ cZ oA rA s_11.2, b_c cB cC cI cJ cZ oA rA s_11.2, b_t cB cC cI cJ cZ oA rA s_11.2, b_d cB cC cI cJ cZ oA rA s_11.2] [0, 1, 2, 3, 4, 5, 6, 7]) (bx_ix [b_e cB cC cI cJ cZ oA rA s_11.2, b_k cB cC cI cJ cZ oA rA s_11.2, b_p cB cC cI cJ cZ oA rA s_11.2, b_o cB cC cI cJ cZ oA rA s_11.2, b_s cB cC cI cJ cZ oA rA s_11.2, b_c cB cC cI cJ cZ oA rA s_11.2, b_t cB cC cI cJ cZ oA rA s_11.2, b_d cB cC cI cJ cZ oA rA s_11.2] []) (bx_C (bs := [b_e cB cC cI cJ cZ oA rA s_11.2, b_k cB cC cI cJ cZ oA rA s_11.2, b_p cB cC cI cJ cZ oA rA s_11.2, b_o cB cC cI cJ cZ oA rA s_11.2, b_s cB cC cI cJ cZ oA rA s_11.2, b_c cB cC cI cJ cZ oA rA s_11.2, b_t cB cC cI cJ cZ oA rA s_11.2, b_d cB cC cI cJ cZ oA rA s_11.2]) (bs' := [b_e cB cC cI cJ cZ oA rA s_11.2, b_k cB cC cI cJ cZ oA rA s_11.2, b_p cB cC cI cJ cZ oA rA s_11.2, b_o cB cC cI cJ cZ oA rA s_11.2, b_s cB cC cI cJ cZ oA rA s_11.2, b_c cB cC cI cJ cZ oA rA s_11.2, b_t cB cC cI cJ cZ oA rA s_11.2, b_d cB cC cI cJ cZ oA rA s_11.2]) (is := [0, 1, 2, 3, 4, 5, 6, 7]) fl_8 fl_8 rfl) (bx_C (bs := [b_e cB cC cI cJ cZ oA rA s_11.2, b_k cB cC cI cJ cZ oA rA s_11.2, b_p cB cC cI cJ cZ oA rA s_11.2, b_o cB cC cI cJ cZ oA rA s_11.2, b_s cB cC cI cJ cZ oA rA s_11.2, b_c cB cC cI cJ cZ oA rA s_11.2, b_t cB cC cI cJ cZ oA rA s_11.2, b_d cB cC cI cJ cZ oA rA s_11.2]) (bs' := []) (is := []) fl_8 fl_0 rfl) (bx_n (by decide +kernel)) (bx_d (by decide +kernel)) (va_runV (As := [.int s_11.1]) (rest := []) ⟨hx, hb, hml, hown, hts⟩ (k_X8_isMeant l dC dI cB cC cI cJ cZ cP oA rA H.size  s_11.1 s_11.2 _ hu_32) (cwV 1 hts (g_gV wq_1121 wq_1122 wq_2083 wq_12 wq_1123) rfl rfl rfl (by decide +kernel) ⟨Nat.le_of_ble_eq_true rfl, Nat.le_of_ble_eq_true rfl⟩) (g_preV g_bl0 hK hPc hDc hS hE hFc g_to0 (q0 := 0) (ci := 8) rfl rfl) rfl rfl hl.1 rfl (lv_room (Nat.le_of_ble_eq_true rfl)) dX8_perform_77 ⟨Nat.le_of_ble_eq_true rfl, Nat.le_of_ble_eq_true rfl⟩) (fun r9 u9 H locs hw9 hP' hD' hS => ?_)
        clear hPc hDc hFc
        subst hw9
        have hP : va_P (dC, dI) vwCl (b_e cB cC cI cJ cZ oA rA u_32.2 ++ b_k cB cC cI cJ cZ oA rA u_32.2 ++ b_p cB cC cI cJ cZ oA rA u_32.2 ++ b_o cB cC cI cJ cZ oA rA u_32.2 ++ b_s cB cC cI cJ cZ oA rA u_32.2 ++ b_c cB cC cI cJ cZ oA rA u_32.2 ++ b_t cB cC cI cJ cZ oA rA u_32.2 ++ b_d cB cC cI cJ cZ oA rA u_32.2) H := hP'
        clear hP' hD'
        obtain ⟨j_35, ej_35, hF_36⟩ := bnd_e hF_33
        clear hF_33
        have Jj_35 : ∀  (σ_34 : HS), j_35  σ_34 = some res → ∀ (H : Heap) (locs : List Loc), va_P (dC, dI) vwCl (b_e cB cC cI cJ cZ oA rA σ_34 ++ b_k cB cC cI cJ cZ oA rA σ_34 ++ b_p cB cC cI cJ cZ oA rA σ_34 ++ b_o cB cC cI cJ cZ oA rA σ_34 ++ b_s cB cC cI cJ cZ oA rA σ_34 ++ b_c cB cC cI cJ cZ oA rA σ_34 ++ b_t cB cC cI cJ cZ oA rA σ_34 ++ b_d cB cC cI cJ cZ oA rA σ_34) H → va_S A s.heap H locs → ∀ ls : Array Slot, lv_has ls 4 [(0, .ref (oA 11)), (1, .int x_9), (2, .int s_11.1)] → W p l e (headSpec (g_ws yX8_perform cX8_perform 4 (some .boolean)) { frames := 10, cells := 0, slots := 0, locals := 245 }).room s m ([.ref (oA 11)] : List Value).toArray below meth c H locs 0 0 (MQ below (va_Qi (fun r (_ : Unit) => r = res.1) (g_Bo (dC, dI) A (fun (_ : Unit) => (b_e cB cC cI cJ cZ oA rA res.2 ++ b_k cB cC cI cJ cZ oA rA res.2 ++ b_p cB cC cI cJ cZ oA rA res.2 ++ b_o cB cC cI cJ cZ oA rA res.2 ++ b_s cB cC cI cJ cZ oA rA res.2 ++ b_c cB cC cI cJ cZ oA rA res.2 ++ b_t cB cC cI cJ cZ oA rA res.2 ++ b_d cB cC cI cJ cZ oA rA res.2))) A) ([.ref (oA 11)] : List Value).toArray s 0 0 A) (F0 m 111 ls []) := by
          intro  σ_34 hF0 H locs hP hS ls hl
          subst ej_35
          have hF_37 := hF0
          clear hF0
          obtain ⟨x_38, ex_38, hF_39⟩ := bnd_e hF_37
          clear hF_37
          refine lv_iinc (v := x_38) (lv' := [(2, .int x_38), (0, .ref (oA 11)), (1, .int x_9)]) hx hb dX8_perform_111 hl (k := 2) rfl (by rw [ex_38]; rfl) (by decide) rfl (fun ls hl => ?_)
          refine lv_goto (tgt := 63) hx hb dX8_perform_114 (by decide) ?_
          exact ih_13 (x_38, σ_34) hF_39 _ _ hP hS ls (lv_sub hl [1, 2, 0] rfl)
        refine lv_if_eq (tgt := 111) hx hb dX8_perform_80 (by decide) (fun c_40 => ?_) (fun c_40 => ?_)
        · have hF_41 := ipos c_40 hF_36
          clear hF_36
          exact Jj_35  u_32.2 hF_41 _ _ hP hS ls (lv_sub hl [0, 1, 2] rfl)
        · have hF_42 := ineg c_40 hF_36
          clear hF_36
          refine lv_aload_n hx hb dX8_perform_83 rfl (lv_at hl 0 rfl) ?_
          refine va_get (D := (dC, dI)) (ci := 8) (v := .ref (oA 10)) (C := RX8) (T := TX8) (N := 16) hx hb hts ii_X8 hown hK hP 0 rfl rfl 2 (by decide) (hts (.fieldLink RX8 30 "StoryHouse$Teller" "machine" "LStoryHouse$Machine;") wq_288) (fun _ h9 => h9) rfl dX8_perform_84 ?_
          refine lv_bipush (v := 100) hx hb dX8_perform_87 (by decide +kernel) ?_
          refine lv_iload_n hx hb dX8_perform_89 rfl (lv_at hl 2 rfl) ?_
          refine lv_iadd hx hb dX8_perform_90 ?_
          obtain ⟨u_43, hu_43, hF_44⟩ := Option.bind_eq_some_iff.mp hF_42
          clear hF_42
          have hPc := bx_P (bs := [b_e cB cC cI cJ cZ oA rA u_32.2, b_k cB cC cI cJ cZ oA rA u_32.2, b_p cB cC cI cJ cZ oA rA u_32.2, b_o cB cC cI cJ cZ oA rA u_32.2, b_s cB cC cI cJ cZ oA rA u_32.2, b_c cB cC cI cJ cZ oA rA u_32.2, b_t cB cC cI cJ cZ oA rA u_32.2, b_d cB cC cI cJ cZ oA rA u_32.2]) (bs' := [b_k cB cC cI cJ cZ oA rA u_32.2, b_p cB cC cI cJ cZ oA rA u_32.2, b_o cB cC cI cJ cZ oA rA u_32.2, b_s cB cC cI cJ cZ oA rA u_32.2, b_c cB cC cI cJ cZ oA rA u_32.2, b_t cB cC cI cJ cZ oA rA u_32.2, b_d cB cC cI cJ cZ oA rA u_32.2]) (ws' := (b_k cB cC cI cJ cZ oA rA u_32.2 ++ b_p cB cC cI cJ cZ oA rA u_32.2 ++ b_o cB cC cI cJ cZ oA rA u_32.2 ++ b_s cB cC cI cJ cZ oA rA u_32.2 ++ b_c cB cC cI cJ cZ oA rA u_32.2 ++ b_t cB cC cI cJ cZ oA rA u_32.2 ++ b_d cB cC cI cJ cZ oA rA u_32.2)) hP fl_8 fl_7 [1, 2, 3, 4, 5, 6, 7] rfl
          have hDc := bx_D (bs := [b_e cB cC cI cJ cZ oA rA u_32.2, b_k cB cC cI cJ cZ oA rA u_32.2, b_p cB cC cI cJ cZ oA rA u_32.2, b_o cB cC cI cJ cZ oA rA u_32.2, b_s cB cC cI cJ cZ oA rA u_32.2, b_c cB cC cI cJ cZ oA rA u_32.2, b_t cB cC cI cJ cZ oA rA u_32.2, b_d cB cC cI cJ cZ oA rA u_32.2]) (bs' := [b_k cB cC cI cJ cZ oA rA u_32.2, b_p cB cC cI cJ cZ oA rA u_32.2, b_o cB cC cI cJ cZ oA rA u_32.2, b_s cB cC cI cJ cZ oA rA u_32.2, b_c cB cC cI cJ cZ oA rA u_32.2, b_t cB cC cI cJ cZ oA rA u_32.2, b_d cB cC cI cJ cZ oA rA u_32.2]) (ws' := (b_k cB cC cI cJ cZ oA rA u_32.2 ++ b_p cB cC cI cJ cZ oA rA u_32.2 ++ b_o cB cC cI cJ cZ oA rA u_32.2 ++ b_s cB cC cI cJ cZ oA rA u_32.2 ++ b_c cB cC cI cJ cZ oA rA u_32.2 ++ b_t cB cC cI cJ cZ oA rA u_32.2 ++ b_d cB cC cI cJ cZ oA rA u_32.2)) (hDD u_32.2) fl_8 fl_7 [1, 2, 3, 4, 5, 6, 7] (by decide +kernel) rfl
          have hFc := bx_F (bs := [b_e cB cC cI cJ cZ oA rA u_32.2, b_k cB cC cI cJ cZ oA rA u_32.2, b_p cB cC cI cJ cZ oA rA u_32.2, b_o cB cC cI cJ cZ oA rA u_32.2, b_s cB cC cI cJ cZ oA rA u_32.2, b_c cB cC cI cJ cZ oA rA u_32.2, b_t cB cC cI cJ cZ oA rA u_32.2, b_d cB cC cI cJ cZ oA rA u_32.2]) (bs' := [b_k cB cC cI cJ cZ oA rA u_32.2, b_p cB cC cI cJ cZ oA rA u_32.2, b_o cB cC cI cJ cZ oA rA u_32.2, b_s cB cC cI cJ cZ oA rA u_32.2, b_c cB cC cI cJ cZ oA rA u_32.2, b_t cB cC cI cJ cZ oA rA u_32.2, b_d cB cC cI cJ cZ oA rA u_32.2]) (wc := (b_k cB cC cI cJ cZ oA rA u_32.2 ++ b_p cB cC cI cJ cZ oA rA u_32.2 ++ b_o cB cC cI cJ cZ oA rA u_32.2 ++ b_s cB cC cI cJ cZ oA rA u_32.2 ++ b_c cB cC cI cJ cZ oA rA u_32.2 ++ b_t cB cC cI cJ cZ oA rA u_32.2 ++ b_d cB cC cI cJ cZ oA rA u_32.2)) (hDD u_32.2) hS hA fl_8 fl_7 [1, 2, 3, 4, 5, 6, 7] rfl
          refine g_ofi (wc := (b_k cB cC cI cJ cZ oA rA u_32.2 ++ b_p cB cC cI cJ cZ oA rA u_32.2 ++ b_o cB cC cI cJ cZ oA rA u_32.2 ++ b_s cB cC cI cJ cZ oA rA u_32.2 ++ b_c cB cC cI cJ cZ oA rA u_32.2 ++ b_t cB cC cI cJ cZ oA rA u_32.2 ++ b_d cB cC cI cJ cZ oA rA u_32.2)) (wr := (b_e cB cC cI cJ cZ oA rA u_32.2)) hP (hDD u_32.2) hS hFc (bx_ix [b_e cB cC cI cJ cZ oA rA u_32.2, b_k cB cC cI cJ cZ oA rA u_32.2, b_p cB cC cI cJ cZ oA rA u_32.2, b_o cB cC cI cJ cZ oA rA u_32.2, b_s cB cC cI cJ cZ oA rA u_32.2, b_c cB cC cI cJ cZ oA rA u_32.2, b_t cB cC cI cJ cZ oA rA u_32.2, b_d cB cC cI cJ cZ oA rA u_32.2] [1, 2, 3, 4, 5, 6, 7]) (bx_ix [b_e cB cC cI cJ cZ oA rA u_32.2, b_k cB cC cI cJ cZ oA rA u_32.2, b_p cB cC cI cJ cZ oA rA u_32.2, b_o cB cC cI cJ cZ oA rA u_32.2, b_s cB cC cI cJ cZ oA rA u_32.2, b_c cB cC cI cJ cZ oA rA u_32.2, b_t cB cC cI cJ cZ oA rA u_32.2, b_d cB cC cI cJ cZ oA rA u_32.2] [0]) (bx_C (bs := [b_e cB cC cI cJ cZ oA rA u_32.2, b_k cB cC cI cJ cZ oA rA u_32.2, b_p cB cC cI cJ cZ oA rA u_32.2, b_o cB cC cI cJ cZ oA rA u_32.2, b_s cB cC cI cJ cZ oA rA u_32.2, b_c cB cC cI cJ cZ oA rA u_32.2, b_t cB cC cI cJ cZ oA rA u_32.2, b_d cB cC cI cJ cZ oA rA u_32.2]) (bs' := [b_k cB cC cI cJ cZ oA rA u_32.2, b_p cB cC cI cJ cZ oA rA u_32.2, b_o cB cC cI cJ cZ oA rA u_32.2, b_s cB cC cI cJ cZ oA rA u_32.2, b_c cB cC cI cJ cZ oA rA u_32.2, b_t cB cC cI cJ cZ oA rA u_32.2, b_d cB cC cI cJ cZ oA rA u_32.2]) (is := [1, 2, 3, 4, 5, 6, 7]) fl_8 fl_7 rfl) (bx_C (bs := [b_e cB cC cI cJ cZ oA rA u_32.2, b_k cB cC cI cJ cZ oA rA u_32.2, b_p cB cC cI cJ cZ oA rA u_32.2, b_o cB cC cI cJ cZ oA rA u_32.2, b_s cB cC cI cJ cZ oA rA u_32.2, b_c cB cC cI cJ cZ oA rA u_32.2, b_t cB cC cI cJ cZ oA rA u_32.2, b_d cB cC cI cJ cZ oA rA u_32.2]) (bs' := [b_e cB cC cI cJ cZ oA rA u_32.2]) (is := [0]) fl_8 fl_1 rfl) (bx_n (by decide +kernel)) (bx_d (by decide +kernel)) (va_runV (As := [.int (100 + s_11.1)]) (rest := []) ⟨hx, hb, hml, hown, hts⟩ (k_X3_run l dC dI cB cC cI cJ cZ cP oA rA H.size  (100 + s_11.1) u_32.2 _ hu_43) (cwV 1 hts (g_gV wq_1127 wq_1128 wq_1129 wq_11 wq_1130) rfl rfl rfl (by decide +kernel) ⟨Nat.le_of_ble_eq_true rfl, Nat.le_of_ble_eq_true rfl⟩) (g_preV g_bl0 hK hPc hDc hS hE hFc g_to0 (q0 := 0) (ci := 3) rfl rfl) rfl rfl hl.1 rfl (lv_room (Nat.le_of_ble_eq_true rfl)) dX8_perform_91 ⟨Nat.le_of_ble_eq_true rfl, Nat.le_of_ble_eq_true rfl⟩) (fun r9 u9 H locs hw9 hP' hD' hS => ?_)
          clear hPc hDc hFc
          subst hw9
          obtain ⟨σ_45, eσ_45, hF_46⟩ := bnd_e hF_44
          clear hF_44
          have hP : va_P (dC, dI) vwCl (b_e cB cC cI cJ cZ oA rA σ_45 ++ b_k cB cC cI cJ cZ oA rA σ_45 ++ b_p cB cC cI cJ cZ oA rA σ_45 ++ b_o cB cC cI cJ cZ oA rA σ_45 ++ b_s cB cC cI cJ cZ oA rA σ_45 ++ b_c cB cC cI cJ cZ oA rA σ_45 ++ b_t cB cC cI cJ cZ oA rA σ_45 ++ b_d cB cC cI cJ cZ oA rA σ_45) H := by rw [eσ_45]; exact bx_P (bs := [b_e cB cC cI cJ cZ oA rA u_32.2] ++ [b_k cB cC cI cJ cZ oA rA u_43.2, b_p cB cC cI cJ cZ oA rA u_43.2, b_o cB cC cI cJ cZ oA rA u_43.2, b_s cB cC cI cJ cZ oA rA u_43.2, b_c cB cC cI cJ cZ oA rA u_43.2, b_t cB cC cI cJ cZ oA rA u_43.2, b_d cB cC cI cJ cZ oA rA u_43.2]) (bs' := [b_e cB cC cI cJ cZ oA rA (mrg (fun j => j == 10 || j == 9 || j == 8 || j == 4 || j == 5 || j == 6 || j == 7) u_32.2 u_43.2), b_k cB cC cI cJ cZ oA rA (mrg (fun j => j == 10 || j == 9 || j == 8 || j == 4 || j == 5 || j == 6 || j == 7) u_32.2 u_43.2), b_p cB cC cI cJ cZ oA rA (mrg (fun j => j == 10 || j == 9 || j == 8 || j == 4 || j == 5 || j == 6 || j == 7) u_32.2 u_43.2), b_o cB cC cI cJ cZ oA rA (mrg (fun j => j == 10 || j == 9 || j == 8 || j == 4 || j == 5 || j == 6 || j == 7) u_32.2 u_43.2), b_s cB cC cI cJ cZ oA rA (mrg (fun j => j == 10 || j == 9 || j == 8 || j == 4 || j == 5 || j == 6 || j == 7) u_32.2 u_43.2), b_c cB cC cI cJ cZ oA rA (mrg (fun j => j == 10 || j == 9 || j == 8 || j == 4 || j == 5 || j == 6 || j == 7) u_32.2 u_43.2), b_t cB cC cI cJ cZ oA rA (mrg (fun j => j == 10 || j == 9 || j == 8 || j == 4 || j == 5 || j == 6 || j == 7) u_32.2 u_43.2), b_d cB cC cI cJ cZ oA rA (mrg (fun j => j == 10 || j == 9 || j == 8 || j == 4 || j == 5 || j == 6 || j == 7) u_32.2 u_43.2)]) hP' (fl_a fl_1 fl_7) fl_8 [0, 1, 2, 3, 4, 5, 6, 7] rfl
          clear hP' hD'
          refine lv_istore_n (lv' := [(3, .int u_43.1), (0, .ref (oA 11)), (1, .int x_9), (2, .int s_11.1)]) hx hb dX8_perform_94 rfl hl (by decide) rfl (fun ls hl => ?_)
          refine lv_iload_n hx hb dX8_perform_95 rfl (lv_at hl 0 rfl) ?_
          refine lv_iconst (v := 1) hx hb dX8_perform_96 (by decide +kernel) ?_
          refine lv_icmp_eq (tgt := 111) hx hb dX8_perform_97 (by decide) (fun c_47 => ?_) (fun c_47 => ?_)
          · have hF_48 := ipos c_47 hF_46
            clear hF_46
            exact Jj_35  σ_45 hF_48 _ _ hP hS ls (lv_sub hl [1, 2, 3] rfl)
          · have hF_49 := ineg c_47 hF_46
            clear hF_46
            refine lv_iload_n hx hb dX8_perform_100 rfl (lv_at hl 0 rfl) ?_
            refine lv_iconst (v := 2) hx hb dX8_perform_101 (by decide +kernel) ?_
            refine lv_icmp_ne (tgt := 109) hx hb dX8_perform_102 (by decide) (fun c_50 => ?_) (fun c_50 => ?_)
            · have hF_52 := ineg c_50 hF_49
              clear hF_49
              refine lv_iconst (v := 0) hx hb dX8_perform_109 (by decide +kernel) ?_
              have h9 := Option.some.inj hF_52
              subst h9
              exact W.zret (v := 0) hx hb hr (by decide +kernel) (fun t ht hW => ⟨⟨0, (), rfl, rfl, m_end ht hP, hDD _⟩, hS.F ht⟩) hS.2.2 dX8_perform_110
            · have hF_51 := ipos c_50 hF_49
              clear hF_49
              refine lv_iconst (v := 1) hx hb dX8_perform_105 (by decide +kernel) ?_
              refine lv_goto (tgt := 110) hx hb dX8_perform_106 (by decide) ?_
              have h9 := Option.some.inj hF_51
              subst h9
              exact W.zret (v := 1) hx hb hr (by decide +kernel) (fun t ht hW => ⟨⟨1, (), rfl, rfl, m_end ht hP, hDD _⟩, hS.F ht⟩) hS.2.2 dX8_perform_110
  refine lv_icmp_eq (tgt := 49) hx hb dX8_perform_28 (by decide) (fun c_53 => ?_) (fun c_53 => ?_)
  · have hF_54 := ipos c_53 hF_7
    clear hF_7
    exact Jj_6  σ_3 hF_54 _ _ hP hS ls (lv_sub hl [0] rfl)
  · have hF_55 := ineg c_53 hF_7
    clear hF_7
    refine lv_aload_n hx hb dX8_perform_31 rfl (lv_at hl 0 rfl) ?_
    refine va_get (D := (dC, dI)) (ci := 8) (v := .int ((σ_3 11).1 10)) (C := RX8) (T := TX8) (N := 16) hx hb hts ii_X8 hown hK hP 0 rfl rfl 10 (by decide) (hts (.fieldLink RX8 114 "StoryHouse$Teller" "noun" "I") wq_297) (fun _ h9 => h9) rfl dX8_perform_32 ?_
    refine lv_if_eq (tgt := 49) hx hb dX8_perform_35 (by decide) (fun c_56 => ?_) (fun c_56 => ?_)
    · have hF_57 := ipos c_56 hF_55
      clear hF_55
      exact Jj_6  σ_3 hF_57 _ _ hP hS ls (lv_sub hl [0] rfl)
    · have hF_58 := ineg c_56 hF_55
      clear hF_55
      refine lv_aload_n hx hb dX8_perform_38 rfl (lv_at hl 0 rfl) ?_
      refine va_get (D := (dC, dI)) (ci := 8) (v := .ref (oA 9)) (C := RX8) (T := TX8) (N := 16) hx hb hts ii_X8 hown hK hP 0 rfl rfl 0 (by decide) (hts (.fieldLink RX8 22 "StoryHouse$Teller" "play" "LStoryHouse$Play;") wq_286) (fun _ h9 => h9) rfl dX8_perform_39 ?_
      refine lv_aload_n hx hb dX8_perform_42 rfl (lv_at hl 0 rfl) ?_
      refine va_get (D := (dC, dI)) (ci := 8) (v := .int ((σ_3 11).1 10)) (C := RX8) (T := TX8) (N := 16) hx hb hts ii_X8 hown hK hP 0 rfl rfl 10 (by decide) (hts (.fieldLink RX8 114 "StoryHouse$Teller" "noun" "I") wq_297) (fun _ h9 => h9) rfl dX8_perform_43 ?_
      obtain ⟨σ_59, eσ_59, hF_60⟩ := bnd_e hF_58
      clear hF_58
      refine va_put (D := (dC, dI)) (ci := 6) (v := .int ((σ_3 11).1 10)) (ty := .int) (C := RX6) (T := TX6) (N := 12) hx hb hts ii_X6 tyX6 tyX6_ok nmX6 hown hK hP (hDD _) hS 9 rfl rfl 11 (by decide) (hts (.fieldLink RX8 174 "StoryHouse$Play" "it" "I") wq_251) (fun _ h9 => h9) rfl (by decide +kernel) rfl rfl (Nat.le_of_ble_eq_true rfl) dX8_perform_46 (fun H locs hP' _ hS => ?_)
      have hP : va_P (dC, dI) vwCl (b_e cB cC cI cJ cZ oA rA σ_59 ++ b_k cB cC cI cJ cZ oA rA σ_59 ++ b_p cB cC cI cJ cZ oA rA σ_59 ++ b_o cB cC cI cJ cZ oA rA σ_59 ++ b_s cB cC cI cJ cZ oA rA σ_59 ++ b_c cB cC cI cJ cZ oA rA σ_59 ++ b_t cB cC cI cJ cZ oA rA σ_59 ++ b_d cB cC cI cJ cZ oA rA σ_59) H := by rw [eσ_59]; exact cs_ekposctd_p_11 ▸ hP'
      clear hP'
      exact Jj_6  σ_59 hF_60 _ _ hP hS ls (lv_sub hl [0] rfl)
theorem dX8_act_0 : decode cX8_act 0 = .ok (.aload_n 0, 1) := by decide +kernel
theorem dX8_act_1 : decode cX8_act 1 = .ok (.getfield 30, 3) := by decide +kernel
theorem dX8_act_4 : decode cX8_act 4 = .ok (.invokevirtual 213, 3) := by decide +kernel
theorem dX8_act_7 : decode cX8_act 7 = .ok (.aload_n 0, 1) := by decide +kernel
theorem dX8_act_8 : decode cX8_act 8 = .ok (.getfield 9, 3) := by decide +kernel
theorem dX8_act_11 : decode cX8_act 11 = .ok (.iconst 0, 1) := by decide +kernel
theorem dX8_act_12 : decode cX8_act 12 = .ok (.aload_n 0, 1) := by decide +kernel
theorem dX8_act_13 : decode cX8_act 13 = .ok (.getfield 22, 3) := by decide +kernel
theorem dX8_act_16 : decode cX8_act 16 = .ok (.getfield 64, 3) := by decide +kernel
theorem dX8_act_19 : decode cX8_act 19 = .ok (.iconst 0, 1) := by decide +kernel
theorem dX8_act_20 : decode cX8_act 20 = .ok (.aload_n 0, 1) := by decide +kernel
theorem dX8_act_21 : decode cX8_act 21 = .ok (.getfield 9, 3) := by decide +kernel
theorem dX8_act_24 : decode cX8_act 24 = .ok (.arraylength, 1) := by decide +kernel
theorem dX8_act_25 : decode cX8_act 25 = .ok (.invokestatic 218, 3) := by decide +kernel
theorem dX8_act_28 : decode cX8_act 28 = .ok (.aload_n 0, 1) := by decide +kernel
theorem dX8_act_29 : decode cX8_act 29 = .ok (.getfield 22, 3) := by decide +kernel
theorem dX8_act_32 : decode cX8_act 32 = .ok (.aload_n 0, 1) := by decide +kernel
theorem dX8_act_33 : decode cX8_act 33 = .ok (.getfield 80, 3) := by decide +kernel
theorem dX8_act_36 : decode cX8_act 36 = .ok (.putfield 59, 3) := by decide +kernel
theorem dX8_act_39 : decode cX8_act 39 = .ok (.iconst 1, 1) := by decide +kernel
theorem dX8_act_40 : decode cX8_act 40 = .ok (.istore_n 1, 1) := by decide +kernel
theorem dX8_act_41 : decode cX8_act 41 = .ok (.aload_n 0, 1) := by decide +kernel
theorem dX8_act_42 : decode cX8_act 42 = .ok (.getfield 120, 3) := by decide +kernel
theorem dX8_act_45 : decode cX8_act 45 = .ok (.ifCond .eq 84, 3) := by decide +kernel
theorem dX8_act_48 : decode cX8_act 48 = .ok (.iconst 0, 1) := by decide +kernel
theorem dX8_act_49 : decode cX8_act 49 = .ok (.istore_n 2, 1) := by decide +kernel
theorem dX8_act_50 : decode cX8_act 50 = .ok (.iload_n 2, 1) := by decide +kernel
theorem dX8_act_51 : decode cX8_act 51 = .ok (.aload_n 0, 1) := by decide +kernel
theorem dX8_act_52 : decode cX8_act 52 = .ok (.getfield 192, 3) := by decide +kernel
theorem dX8_act_55 : decode cX8_act 55 = .ok (.if_icmp .ge 71, 3) := by decide +kernel
theorem dX8_act_58 : decode cX8_act 58 = .ok (.iload_n 1, 1) := by decide +kernel
theorem dX8_act_59 : decode cX8_act 59 = .ok (.ifCond .eq 67, 3) := by decide +kernel
theorem dX8_act_62 : decode cX8_act 62 = .ok (.aload_n 0, 1) := by decide +kernel
theorem dX8_act_63 : decode cX8_act 63 = .ok (.aload_n 0, 1) := by decide +kernel
theorem dX8_act_64 : decode cX8_act 64 = .ok (.getfield 19, 3) := by decide +kernel
theorem dX8_act_67 : decode cX8_act 67 = .ok (.iload_n 2, 1) := by decide +kernel
theorem dX8_act_68 : decode cX8_act 68 = .ok (.invokestatic 70, 3) := by decide +kernel
theorem dX8_act_71 : decode cX8_act 71 = .ok (.putfield 114, 3) := by decide +kernel
theorem dX8_act_74 : decode cX8_act 74 = .ok (.aload_n 0, 1) := by decide +kernel
theorem dX8_act_75 : decode cX8_act 75 = .ok (.getfield 22, 3) := by decide +kernel
theorem dX8_act_78 : decode cX8_act 78 = .ok (.getfield 224, 3) := by decide +kernel
theorem dX8_act_81 : decode cX8_act 81 = .ok (.aload_n 0, 1) := by decide +kernel
theorem dX8_act_82 : decode cX8_act 82 = .ok (.getfield 114, 3) := by decide +kernel
theorem dX8_act_85 : decode cX8_act 85 = .ok (.invokestatic 70, 3) := by decide +kernel
theorem dX8_act_88 : decode cX8_act 88 = .ok (.aload_n 0, 1) := by decide +kernel
theorem dX8_act_89 : decode cX8_act 89 = .ok (.getfield 199, 3) := by decide +kernel
theorem dX8_act_92 : decode cX8_act 92 = .ok (.if_icmp .ne 28, 3) := by decide +kernel
theorem dX8_act_95 : decode cX8_act 95 = .ok (.aload_n 0, 1) := by decide +kernel
theorem dX8_act_96 : decode cX8_act 96 = .ok (.getfield 30, 3) := by decide +kernel
theorem dX8_act_99 : decode cX8_act 99 = .ok (.aload_n 0, 1) := by decide +kernel
theorem dX8_act_100 : decode cX8_act 100 = .ok (.getfield 114, 3) := by decide +kernel
theorem dX8_act_103 : decode cX8_act 103 = .ok (.invokevirtual 227, 3) := by decide +kernel
theorem dX8_act_106 : decode cX8_act 106 = .ok (.aload_n 0, 1) := by decide +kernel
theorem dX8_act_107 : decode cX8_act 107 = .ok (.getfield 26, 3) := by decide +kernel
theorem dX8_act_110 : decode cX8_act 110 = .ok (.ldc 231, 2) := by decide +kernel
theorem dX8_act_112 : decode cX8_act 112 = .ok (.invokevirtual 233, 3) := by decide +kernel
theorem dX8_act_115 : decode cX8_act 115 = .ok (.aload_n 0, 1) := by decide +kernel
theorem dX8_act_116 : decode cX8_act 116 = .ok (.invokevirtual 236, 3) := by decide +kernel
theorem dX8_act_119 : decode cX8_act 119 = .ok (.istore_n 1, 1) := by decide +kernel
theorem dX8_act_120 : decode cX8_act 120 = .ok (.iinc 2 1, 3) := by decide +kernel
theorem dX8_act_123 : decode cX8_act 123 = .ok (.goto (-73), 3) := by decide +kernel
theorem dX8_act_126 : decode cX8_act 126 = .ok (.goto 8, 3) := by decide +kernel
theorem dX8_act_129 : decode cX8_act 129 = .ok (.aload_n 0, 1) := by decide +kernel
theorem dX8_act_130 : decode cX8_act 130 = .ok (.invokevirtual 236, 3) := by decide +kernel
theorem dX8_act_133 : decode cX8_act 133 = .ok (.istore_n 1, 1) := by decide +kernel
theorem dX8_act_134 : decode cX8_act 134 = .ok (.iload_n 1, 1) := by decide +kernel
theorem dX8_act_135 : decode cX8_act 135 = .ok (.ifCond .eq 7, 3) := by decide +kernel
theorem dX8_act_138 : decode cX8_act 138 = .ok (.aload_n 0, 1) := by decide +kernel
theorem dX8_act_139 : decode cX8_act 139 = .ok (.invokevirtual 239, 3) := by decide +kernel
theorem dX8_act_142 : decode cX8_act 142 = .ok (.return_, 1) := by decide +kernel
def F_X8_act  (Γ : HS) : HR :=
  (F_X3_ready Γ).bind fun u_1 =>
  bnd (mrg (fun j => j == 10 || j == 9 || j == 8 || j == 4 || j == 5 || j == 6 || j == 7) Γ u_1.2) fun σ_3 =>
  if 0 < 0 ∨ 0 < 0 ∨ 120 < 0 ∨ 120 < (0 : Int32).toNatClampNeg + (120 : Int32).toNatClampNeg ∨ 120 < (0 : Int32).toNatClampNeg + (120 : Int32).toNatClampNeg then none else
  bnd (cA' σ_3 9 6 (va_cpy ((σ_3 11).2.1 4) ((σ_3 9).2.1 6) (0 : Int32).toNatClampNeg (0 : Int32).toNatClampNeg (120 : Int32).toNatClampNeg)) fun σ_7 =>
  bnd (cI' σ_7 9 7 ((σ_7 11).1 5)) fun σ_9 =>
  bnd (fun (v1_11 : Int32) (σ_12 : HS) => (
    if v1_11 = 0 then (
      some (0, σ_12)
    ) else (
      (F_X8_passTime σ_12).bind fun u_19 =>
      some (0, u_19.2)
    )
  ) : Int32 → HS → HR) fun j_13 =>
  if ((σ_9 11).1 12) = 0 then (
    (F_X8_perform σ_9).bind fun u_23 =>
    j_13 u_23.1 u_23.2
  ) else (
    loopF (fun (again_27 : (Int32 × Int32 × HS) → HR) (s_26 : Int32 × Int32 × HS) => (
      bnd (fun  (σ_30 : HS) => (
        j_13 s_26.1 σ_30
      ) : HS → HR) fun j_31 =>
      if ((s_26.2.2 11).1 15) ≤ s_26.2.1 then (
        j_31  s_26.2.2
      ) else (
        if s_26.1 = 0 then (
          j_31  s_26.2.2
        ) else (
          bnd ((g_at 120 ((s_26.2.2 11).2.1 14) s_26.2.1)) fun (x_40 : Int32) =>
          bnd (cI' s_26.2.2 11 10 x_40) fun σ_42 =>
          bnd (((σ_42 11).1 10)) fun (x_44 : Int32) =>
          bnd ((g_at 121 ((σ_42 9).2.1 0) x_44)) fun (x_46 : Int32) =>
          bnd (fun (v1_48 : Int32) (σ_49 : HS) => (
            bnd (s_26.2.1 + 1) fun (x_53 : Int32) =>
            again_27 (v1_48, x_53, σ_49)
          ) : Int32 → HS → HR) fun j_50 =>
          if x_46 = ((σ_42 11).1 13) then (
            (F_X3_sayName ((σ_42 11).1 10) σ_42).bind fun u_57 =>
            bnd (mrg (fun j => j == 10 || j == 9 || j == 8 || j == 4 || j == 5 || j == 6 || j == 7) σ_42 u_57.2) fun σ_59 =>
            (F_X5_text ([58, 32] : List Int32) σ_59).bind fun u_62 =>
            bnd (mrg (fun j => j == 8) σ_59 u_62.2) fun σ_64 =>
            (F_X8_perform σ_64).bind fun u_66 =>
            j_50 u_66.1 u_66.2
          ) else (
            j_50 s_26.1 σ_42
          )
        )
      )
    )) FU (1, 0, σ_9)
  )
set_option maxHeartbeats 4000000 in
set_option maxRecDepth 100000 in
theorem k_X8_act (l : Launch) (dC : Nat → ClassId) (dI : Nat → Nat → Nat) (cB cC cI cJ cZ cP : ClassId) (oA : Nat → Nat) (rA : Nat → Nat → Nat) (sz : Nat)   (Γ : HS) (res : Int32 × HS) (hF : F_X8_act  Γ = some res) : Met l yX8_act (g_ws yX8_act cX8_act 3 none) ({ frames := 11, cells := 0, slots := 0, locals := 269 }) (va_Pc [.ref (oA 11)] (g_B (dC, dI) [(cB, .byte), (cC, .char), (cI, .int), (cJ, .long), (cZ, .boolean), (cP, .object "StoryHouse$Play")] sz (b_e cB cC cI cJ cZ oA rA Γ ++ b_k cB cC cI cJ cZ oA rA Γ ++ b_p cB cC cI cJ cZ oA rA Γ ++ b_o cB cC cI cJ cZ oA rA Γ ++ b_s cB cC cI cJ cZ oA rA Γ ++ b_c cB cC cI cJ cZ oA rA Γ ++ b_t cB cC cI cJ cZ oA rA Γ ++ b_d cB cC cI cJ cZ oA rA Γ) g_0)) (va_Qv (fun (_ : Unit) => True) (g_Bo (dC, dI) (va_A (b_e cB cC cI cJ cZ oA rA Γ ++ b_k cB cC cI cJ cZ oA rA Γ ++ b_p cB cC cI cJ cZ oA rA Γ ++ b_o cB cC cI cJ cZ oA rA Γ ++ b_s cB cC cI cJ cZ oA rA Γ ++ b_c cB cC cI cJ cZ oA rA Γ ++ b_t cB cC cI cJ cZ oA rA Γ ++ b_d cB cC cI cJ cZ oA rA Γ) sz) (fun (_ : Unit) => (b_e cB cC cI cJ cZ oA rA res.2 ++ b_k cB cC cI cJ cZ oA rA res.2 ++ b_p cB cC cI cJ cZ oA rA res.2 ++ b_o cB cC cI cJ cZ oA rA res.2 ++ b_s cB cC cI cJ cZ oA rA res.2 ++ b_c cB cC cI cJ cZ oA rA res.2 ++ b_t cB cC cI cJ cZ oA rA res.2 ++ b_d cB cC cI cJ cZ oA rA res.2))) (va_A (b_e cB cC cI cJ cZ oA rA Γ ++ b_k cB cC cI cJ cZ oA rA Γ ++ b_p cB cC cI cJ cZ oA rA Γ ++ b_o cB cC cI cJ cZ oA rA Γ ++ b_s cB cC cI cJ cZ oA rA Γ ++ b_c cB cC cI cJ cZ oA rA Γ ++ b_t cB cC cI cJ cZ oA rA Γ ++ b_d cB cC cI cJ cZ oA rA Γ) sz)) 0 0 (va_A (b_e cB cC cI cJ cZ oA rA Γ ++ b_k cB cC cI cJ cZ oA rA Γ ++ b_p cB cC cI cJ cZ oA rA Γ ++ b_o cB cC cI cJ cZ oA rA Γ ++ b_s cB cC cI cJ cZ oA rA Γ ++ b_c cB cC cI cJ cZ oA rA Γ ++ b_t cB cC cI cJ cZ oA rA Γ ++ b_d cB cC cI cJ cZ oA rA Γ) sz) := by
  refine Met.ofW (cc := cX8_act) (maxL := 3) (ret := none) (by decide) rfl ?_
  intro p e s m args below meth c s₁ B hml hv
  obtain ⟨rfl, hsz, hP, hK, hD0, hE, hX⟩ := hv
  have hx := B.exec
  have hb := B.bytes
  have hr := B.returns
  have hts0 := atoms_spec (ws := g_ws yX8_act cX8_act 3 none) B.pre
  have hts : ∀ w ∈ lw_good, w.before ([.ref (oA 11)] : List Value).toArray s = true := fun w z => hts0 w (List.mem_cons_of_mem _ z)
  have hown : s.vm.findClass RX8 = some m.cls := findClass_of_methodNamed B.named
  have hlocks := B.notSynchronized
  subst hsz
  have hD1 := hD0.self (sz := s.heap.size)
  generalize hAe : va_A (b_e cB cC cI cJ cZ oA rA Γ ++ b_k cB cC cI cJ cZ oA rA Γ ++ b_p cB cC cI cJ cZ oA rA Γ ++ b_o cB cC cI cJ cZ oA rA Γ ++ b_s cB cC cI cJ cZ oA rA Γ ++ b_c cB cC cI cJ cZ oA rA Γ ++ b_t cB cC cI cJ cZ oA rA Γ ++ b_d cB cC cI cJ cZ oA rA Γ) s.heap.size = A at hD1 hE hX ⊢
  have hA : ∀ q : Nat, s.heap.size ≤ q → A q := fun q z => by rw [← hAe]; exact Or.inr z
  have hDD : ∀ Γ : HS, va_D A (b_e cB cC cI cJ cZ oA rA Γ ++ b_k cB cC cI cJ cZ oA rA Γ ++ b_p cB cC cI cJ cZ oA rA Γ ++ b_o cB cC cI cJ cZ oA rA Γ ++ b_s cB cC cI cJ cZ oA rA Γ ++ b_c cB cC cI cJ cZ oA rA Γ ++ b_t cB cC cI cJ cZ oA rA Γ ++ b_d cB cC cI cJ cZ oA rA Γ) := fun Γ9 => va_D_fst (ws := (b_e cB cC cI cJ cZ oA rA Γ ++ b_k cB cC cI cJ cZ oA rA Γ ++ b_p cB cC cI cJ cZ oA rA Γ ++ b_o cB cC cI cJ cZ oA rA Γ ++ b_s cB cC cI cJ cZ oA rA Γ ++ b_c cB cC cI cJ cZ oA rA Γ ++ b_t cB cC cI cJ cZ oA rA Γ ++ b_d cB cC cI cJ cZ oA rA Γ)) (ws' := (b_e cB cC cI cJ cZ oA rA Γ9 ++ b_k cB cC cI cJ cZ oA rA Γ9 ++ b_p cB cC cI cJ cZ oA rA Γ9 ++ b_o cB cC cI cJ cZ oA rA Γ9 ++ b_s cB cC cI cJ cZ oA rA Γ9 ++ b_c cB cC cI cJ cZ oA rA Γ9 ++ b_t cB cC cI cJ cZ oA rA Γ9 ++ b_d cB cC cI cJ cZ oA rA Γ9)) rfl hD1
  have hN := hE.1
  have hS : va_S A s.heap s.heap [] := va_S.rf
  have hl := lv_entry ([.ref (oA 11)]) (n := 3) (Nat.le_of_ble_eq_true rfl)
  rw [lg_entry_eq]
  generalize (lg_sl ([.ref (oA 11)]) ++ List.replicate (3 - (lg_sl ([.ref (oA 11)])).length) Slot.unset).toArray = ls at hl ⊢
  have hl : lv_has ls 3 [(0, .ref (oA 11))] := hl
  unfold F_X8_act at hF
  refine lv_aload_n hx hb dX8_act_0 rfl (lv_at hl 0 rfl) ?_
  refine va_get (D := (dC, dI)) (ci := 8) (v := .ref (oA 10)) (C := RX8) (T := TX8) (N := 16) hx hb hts ii_X8 hown hK hP 0 rfl rfl 2 (by decide) (hts (.fieldLink RX8 30 "StoryHouse$Teller" "machine" "LStoryHouse$Machine;") wq_288) (fun _ h9 => h9) rfl dX8_act_1 ?_
  obtain ⟨u_1, hu_1, hF_2⟩ := Option.bind_eq_some_iff.mp hF
  clear hF
  have hPc := bx_P (bs := [b_e cB cC cI cJ cZ oA rA Γ, b_k cB cC cI cJ cZ oA rA Γ, b_p cB cC cI cJ cZ oA rA Γ, b_o cB cC cI cJ cZ oA rA Γ, b_s cB cC cI cJ cZ oA rA Γ, b_c cB cC cI cJ cZ oA rA Γ, b_t cB cC cI cJ cZ oA rA Γ, b_d cB cC cI cJ cZ oA rA Γ]) (bs' := [b_k cB cC cI cJ cZ oA rA Γ, b_p cB cC cI cJ cZ oA rA Γ, b_o cB cC cI cJ cZ oA rA Γ, b_s cB cC cI cJ cZ oA rA Γ, b_c cB cC cI cJ cZ oA rA Γ, b_t cB cC cI cJ cZ oA rA Γ, b_d cB cC cI cJ cZ oA rA Γ]) (ws' := (b_k cB cC cI cJ cZ oA rA Γ ++ b_p cB cC cI cJ cZ oA rA Γ ++ b_o cB cC cI cJ cZ oA rA Γ ++ b_s cB cC cI cJ cZ oA rA Γ ++ b_c cB cC cI cJ cZ oA rA Γ ++ b_t cB cC cI cJ cZ oA rA Γ ++ b_d cB cC cI cJ cZ oA rA Γ)) hP fl_8 fl_7 [1, 2, 3, 4, 5, 6, 7] rfl
  have hDc := bx_D (bs := [b_e cB cC cI cJ cZ oA rA Γ, b_k cB cC cI cJ cZ oA rA Γ, b_p cB cC cI cJ cZ oA rA Γ, b_o cB cC cI cJ cZ oA rA Γ, b_s cB cC cI cJ cZ oA rA Γ, b_c cB cC cI cJ cZ oA rA Γ, b_t cB cC cI cJ cZ oA rA Γ, b_d cB cC cI cJ cZ oA rA Γ]) (bs' := [b_k cB cC cI cJ cZ oA rA Γ, b_p cB cC cI cJ cZ oA rA Γ, b_o cB cC cI cJ cZ oA rA Γ, b_s cB cC cI cJ cZ oA rA Γ, b_c cB cC cI cJ cZ oA rA Γ, b_t cB cC cI cJ cZ oA rA Γ, b_d cB cC cI cJ cZ oA rA Γ]) (ws' := (b_k cB cC cI cJ cZ oA rA Γ ++ b_p cB cC cI cJ cZ oA rA Γ ++ b_o cB cC cI cJ cZ oA rA Γ ++ b_s cB cC cI cJ cZ oA rA Γ ++ b_c cB cC cI cJ cZ oA rA Γ ++ b_t cB cC cI cJ cZ oA rA Γ ++ b_d cB cC cI cJ cZ oA rA Γ)) (hDD Γ) fl_8 fl_7 [1, 2, 3, 4, 5, 6, 7] (by decide +kernel) rfl
  have hFc := bx_F (bs := [b_e cB cC cI cJ cZ oA rA Γ, b_k cB cC cI cJ cZ oA rA Γ, b_p cB cC cI cJ cZ oA rA Γ, b_o cB cC cI cJ cZ oA rA Γ, b_s cB cC cI cJ cZ oA rA Γ, b_c cB cC cI cJ cZ oA rA Γ, b_t cB cC cI cJ cZ oA rA Γ, b_d cB cC cI cJ cZ oA rA Γ]) (bs' := [b_k cB cC cI cJ cZ oA rA Γ, b_p cB cC cI cJ cZ oA rA Γ, b_o cB cC cI cJ cZ oA rA Γ, b_s cB cC cI cJ cZ oA rA Γ, b_c cB cC cI cJ cZ oA rA Γ, b_t cB cC cI cJ cZ oA rA Γ, b_d cB cC cI cJ cZ oA rA Γ]) (wc := (b_k cB cC cI cJ cZ oA rA Γ ++ b_p cB cC cI cJ cZ oA rA Γ ++ b_o cB cC cI cJ cZ oA rA Γ ++ b_s cB cC cI cJ cZ oA rA Γ ++ b_c cB cC cI cJ cZ oA rA Γ ++ b_t cB cC cI cJ cZ oA rA Γ ++ b_d cB cC cI cJ cZ oA rA Γ)) (hDD Γ) hS hA fl_8 fl_7 [1, 2, 3, 4, 5, 6, 7] rfl
  refine g_ofv (wc := (b_k cB cC cI cJ cZ oA rA Γ ++ b_p cB cC cI cJ cZ oA rA Γ ++ b_o cB cC cI cJ cZ oA rA Γ ++ b_s cB cC cI cJ cZ oA rA Γ ++ b_c cB cC cI cJ cZ oA rA Γ ++ b_t cB cC cI cJ cZ oA rA Γ ++ b_d cB cC cI cJ cZ oA rA Γ)) (wr := (b_e cB cC cI cJ cZ oA rA Γ)) hP (hDD Γ) hS hFc (bx_ix [b_e cB cC cI cJ cZ oA rA Γ, b_k cB cC cI cJ cZ oA rA Γ, b_p cB cC cI cJ cZ oA rA Γ, b_o cB cC cI cJ cZ oA rA Γ, b_s cB cC cI cJ cZ oA rA Γ, b_c cB cC cI cJ cZ oA rA Γ, b_t cB cC cI cJ cZ oA rA Γ, b_d cB cC cI cJ cZ oA rA Γ] [1, 2, 3, 4, 5, 6, 7]) (bx_ix [b_e cB cC cI cJ cZ oA rA Γ, b_k cB cC cI cJ cZ oA rA Γ, b_p cB cC cI cJ cZ oA rA Γ, b_o cB cC cI cJ cZ oA rA Γ, b_s cB cC cI cJ cZ oA rA Γ, b_c cB cC cI cJ cZ oA rA Γ, b_t cB cC cI cJ cZ oA rA Γ, b_d cB cC cI cJ cZ oA rA Γ] [0]) (bx_C (bs := [b_e cB cC cI cJ cZ oA rA Γ, b_k cB cC cI cJ cZ oA rA Γ, b_p cB cC cI cJ cZ oA rA Γ, b_o cB cC cI cJ cZ oA rA Γ, b_s cB cC cI cJ cZ oA rA Γ, b_c cB cC cI cJ cZ oA rA Γ, b_t cB cC cI cJ cZ oA rA Γ, b_d cB cC cI cJ cZ oA rA Γ]) (bs' := [b_k cB cC cI cJ cZ oA rA Γ, b_p cB cC cI cJ cZ oA rA Γ, b_o cB cC cI cJ cZ oA rA Γ, b_s cB cC cI cJ cZ oA rA Γ, b_c cB cC cI cJ cZ oA rA Γ, b_t cB cC cI cJ cZ oA rA Γ, b_d cB cC cI cJ cZ oA rA Γ]) (is := [1, 2, 3, 4, 5, 6, 7]) fl_8 fl_7 rfl) (bx_C (bs := [b_e cB cC cI cJ cZ oA rA Γ, b_k cB cC cI cJ cZ oA rA Γ, b_p cB cC cI cJ cZ oA rA Γ, b_o cB cC cI cJ cZ oA rA Γ, b_s cB cC cI cJ cZ oA rA Γ, b_c cB cC cI cJ cZ oA rA Γ, b_t cB cC cI cJ cZ oA rA Γ, b_d cB cC cI cJ cZ oA rA Γ]) (bs' := [b_e cB cC cI cJ cZ oA rA Γ]) (is := [0]) fl_8 fl_1 rfl) (bx_n (by decide +kernel)) (bx_d (by decide +kernel)) (va_runV (As := []) (rest := []) ⟨hx, hb, hml, hown, hts⟩ (k_X3_ready l dC dI cB cC cI cJ cZ cP oA rA s.heap.size  Γ _ hu_1) (cwV 0 hts (g_gV wq_1113 wq_1114 wq_1115 wq_11 wq_1116) rfl rfl rfl (by decide +kernel) ⟨Nat.le_of_ble_eq_true rfl, Nat.le_of_ble_eq_true rfl⟩) (g_preV g_bl0 hK hPc hDc hS hE hFc g_to0 (q0 := 0) (ci := 3) rfl rfl) rfl rfl hl.1 rfl (lv_room (Nat.le_of_ble_eq_true rfl)) dX8_act_4 ⟨Nat.le_of_ble_eq_true rfl, Nat.le_of_ble_eq_true rfl⟩) (fun u9 H locs hw9 hP' hD' hS => ?_)
  clear hPc hDc hFc
  obtain ⟨σ_3, eσ_3, hF_4⟩ := bnd_e hF_2
  clear hF_2
  have hP : va_P (dC, dI) vwCl (b_e cB cC cI cJ cZ oA rA σ_3 ++ b_k cB cC cI cJ cZ oA rA σ_3 ++ b_p cB cC cI cJ cZ oA rA σ_3 ++ b_o cB cC cI cJ cZ oA rA σ_3 ++ b_s cB cC cI cJ cZ oA rA σ_3 ++ b_c cB cC cI cJ cZ oA rA σ_3 ++ b_t cB cC cI cJ cZ oA rA σ_3 ++ b_d cB cC cI cJ cZ oA rA σ_3) H := by rw [eσ_3]; exact bx_P (bs := [b_e cB cC cI cJ cZ oA rA Γ] ++ [b_k cB cC cI cJ cZ oA rA u_1.2, b_p cB cC cI cJ cZ oA rA u_1.2, b_o cB cC cI cJ cZ oA rA u_1.2, b_s cB cC cI cJ cZ oA rA u_1.2, b_c cB cC cI cJ cZ oA rA u_1.2, b_t cB cC cI cJ cZ oA rA u_1.2, b_d cB cC cI cJ cZ oA rA u_1.2]) (bs' := [b_e cB cC cI cJ cZ oA rA (mrg (fun j => j == 10 || j == 9 || j == 8 || j == 4 || j == 5 || j == 6 || j == 7) Γ u_1.2), b_k cB cC cI cJ cZ oA rA (mrg (fun j => j == 10 || j == 9 || j == 8 || j == 4 || j == 5 || j == 6 || j == 7) Γ u_1.2), b_p cB cC cI cJ cZ oA rA (mrg (fun j => j == 10 || j == 9 || j == 8 || j == 4 || j == 5 || j == 6 || j == 7) Γ u_1.2), b_o cB cC cI cJ cZ oA rA (mrg (fun j => j == 10 || j == 9 || j == 8 || j == 4 || j == 5 || j == 6 || j == 7) Γ u_1.2), b_s cB cC cI cJ cZ oA rA (mrg (fun j => j == 10 || j == 9 || j == 8 || j == 4 || j == 5 || j == 6 || j == 7) Γ u_1.2), b_c cB cC cI cJ cZ oA rA (mrg (fun j => j == 10 || j == 9 || j == 8 || j == 4 || j == 5 || j == 6 || j == 7) Γ u_1.2), b_t cB cC cI cJ cZ oA rA (mrg (fun j => j == 10 || j == 9 || j == 8 || j == 4 || j == 5 || j == 6 || j == 7) Γ u_1.2), b_d cB cC cI cJ cZ oA rA (mrg (fun j => j == 10 || j == 9 || j == 8 || j == 4 || j == 5 || j == 6 || j == 7) Γ u_1.2)]) hP' (fl_a fl_1 fl_7) fl_8 [0, 1, 2, 3, 4, 5, 6, 7] rfl
  clear hP' hD'
  refine lv_aload_n hx hb dX8_act_7 rfl (lv_at hl 0 rfl) ?_
  refine va_get (D := (dC, dI)) (ci := 8) (v := .ref (rA 11 4)) (C := RX8) (T := TX8) (N := 16) hx hb hts ii_X8 hown hK hP 0 rfl rfl 4 (by decide) (hts (.fieldLink RX8 9 "StoryHouse$Teller" "line" "[B") wq_291) (fun _ h9 => h9) rfl dX8_act_8 ?_
  refine lv_iconst (v := 0) hx hb dX8_act_11 (by decide +kernel) ?_
  refine lv_aload_n hx hb dX8_act_12 rfl (lv_at hl 0 rfl) ?_
  refine va_get (D := (dC, dI)) (ci := 8) (v := .ref (oA 9)) (C := RX8) (T := TX8) (N := 16) hx hb hts ii_X8 hown hK hP 0 rfl rfl 0 (by decide) (hts (.fieldLink RX8 22 "StoryHouse$Teller" "play" "LStoryHouse$Play;") wq_286) (fun _ h9 => h9) rfl dX8_act_13 ?_
  refine va_get (D := (dC, dI)) (ci := 6) (v := .ref (rA 9 6)) (C := RX6) (T := TX6) (N := 12) hx hb hts ii_X6 hown hK hP 9 rfl rfl 6 (by decide) (hts (.fieldLink RX8 64 "StoryHouse$Play" "line" "[B") wq_237) (fun _ h9 => h9) rfl dX8_act_16 ?_
  refine lv_iconst (v := 0) hx hb dX8_act_19 (by decide +kernel) ?_
  refine lv_aload_n hx hb dX8_act_20 rfl (lv_at hl 0 rfl) ?_
  refine va_get (D := (dC, dI)) (ci := 8) (v := .ref (rA 11 4)) (C := RX8) (T := TX8) (N := 16) hx hb hts ii_X8 hown hK hP 0 rfl rfl 4 (by decide) (hts (.fieldLink RX8 9 "StoryHouse$Teller" "line" "[B") wq_291) (fun _ h9 => h9) rfl dX8_act_21 ?_
  refine va_alen (v := 120) hx hb hK hP 1 0 rfl rfl (by first | rfl | decide +kernel) dX8_act_24 ?_
  obtain ⟨g_5, hF_6⟩ := nif_e hF_4
  clear hF_4
  obtain ⟨σ_7, eσ_7, hF_8⟩ := bnd_e hF_6
  clear hF_6
  refine va_copyi (f := (nrB ((σ_3 11).2.1 4))) (g := (nrB ((σ_3 9).2.1 6))) hx hb (hml.trans hl.1.symm) hown (hts (.methodLink RX8 218 arraycopyName) wq_1117) (hts (.native arraycopyName) wq_338) (hts (.static arraycopyName) wq_337) (hts (.initialized RJ10) wq_20) hK hP (hDD _) hS 1 16 0 0 rfl rfl rfl rfl rfl (by decide) (by decide) (by decide) (Nat.not_lt.mp (fun z => g_5 (Or.inr (Or.inr (Or.inr (Or.inl z)))))) (Nat.not_lt.mp (fun z => g_5 (Or.inr (Or.inr (Or.inr (Or.inr z)))))) (fun i _ => nrB_fit _ _) (by decide +kernel) (by decide +kernel) dX8_act_25 (fun H locs hP' _ hS => ?_)
  rw [nrB_cpy] at hP'
  have hP : va_P (dC, dI) vwCl (b_e cB cC cI cJ cZ oA rA σ_7 ++ b_k cB cC cI cJ cZ oA rA σ_7 ++ b_p cB cC cI cJ cZ oA rA σ_7 ++ b_o cB cC cI cJ cZ oA rA σ_7 ++ b_s cB cC cI cJ cZ oA rA σ_7 ++ b_c cB cC cI cJ cZ oA rA σ_7 ++ b_t cB cC cI cJ cZ oA rA σ_7 ++ b_d cB cC cI cJ cZ oA rA σ_7) H := by rw [eσ_7]; exact cs_ekposctd_p_6 ▸ hP'
  clear hP'
  refine lv_aload_n hx hb dX8_act_28 rfl (lv_at hl 0 rfl) ?_
  refine va_get (D := (dC, dI)) (ci := 8) (v := .ref (oA 9)) (C := RX8) (T := TX8) (N := 16) hx hb hts ii_X8 hown hK hP 0 rfl rfl 0 (by decide) (hts (.fieldLink RX8 22 "StoryHouse$Teller" "play" "LStoryHouse$Play;") wq_286) (fun _ h9 => h9) rfl dX8_act_29 ?_
  refine lv_aload_n hx hb dX8_act_32 rfl (lv_at hl 0 rfl) ?_
  refine va_get (D := (dC, dI)) (ci := 8) (v := .int ((σ_7 11).1 5)) (C := RX8) (T := TX8) (N := 16) hx hb hts ii_X8 hown hK hP 0 rfl rfl 5 (by decide) (hts (.fieldLink RX8 80 "StoryHouse$Teller" "lineLength" "I") wq_292) (fun _ h9 => h9) rfl dX8_act_33 ?_
  obtain ⟨σ_9, eσ_9, hF_10⟩ := bnd_e hF_8
  clear hF_8
  refine va_put (D := (dC, dI)) (ci := 6) (v := .int ((σ_7 11).1 5)) (ty := .int) (C := RX6) (T := TX6) (N := 12) hx hb hts ii_X6 tyX6 tyX6_ok nmX6 hown hK hP (hDD _) hS 9 rfl rfl 7 (by decide) (hts (.fieldLink RX8 59 "StoryHouse$Play" "lineLength" "I") wq_238) (fun _ h9 => h9) rfl (by decide +kernel) rfl rfl (Nat.le_of_ble_eq_true rfl) dX8_act_36 (fun H locs hP' _ hS => ?_)
  have hP : va_P (dC, dI) vwCl (b_e cB cC cI cJ cZ oA rA σ_9 ++ b_k cB cC cI cJ cZ oA rA σ_9 ++ b_p cB cC cI cJ cZ oA rA σ_9 ++ b_o cB cC cI cJ cZ oA rA σ_9 ++ b_s cB cC cI cJ cZ oA rA σ_9 ++ b_c cB cC cI cJ cZ oA rA σ_9 ++ b_t cB cC cI cJ cZ oA rA σ_9 ++ b_d cB cC cI cJ cZ oA rA σ_9) H := by rw [eσ_9]; exact cs_ekposctd_p_7 ▸ hP'
  clear hP'
  refine lv_iconst (v := 1) hx hb dX8_act_39 (by decide +kernel) ?_
  refine lv_istore_n (lv' := [(1, .int 1), (0, .ref (oA 11))]) hx hb dX8_act_40 rfl hl (by decide) rfl (fun ls hl => ?_)
  refine lv_aload_n hx hb dX8_act_41 rfl (lv_at hl 1 rfl) ?_
  refine va_get (D := (dC, dI)) (ci := 8) (v := .int ((σ_9 11).1 12)) (C := RX8) (T := TX8) (N := 16) hx hb hts ii_X8 hown hK hP 0 rfl rfl 12 (by decide) (hts (.fieldLink RX8 120 "StoryHouse$Teller" "all" "Z") wq_299) (fun _ h9 => h9) rfl dX8_act_42 ?_
  obtain ⟨j_13, ej_13, hF_14⟩ := bnd_e hF_10
  clear hF_10
  have Jj_13 : ∀ (v1_11 : Int32) (σ_12 : HS), j_13 v1_11 σ_12 = some res → ∀ (H : Heap) (locs : List Loc), va_P (dC, dI) vwCl (b_e cB cC cI cJ cZ oA rA σ_12 ++ b_k cB cC cI cJ cZ oA rA σ_12 ++ b_p cB cC cI cJ cZ oA rA σ_12 ++ b_o cB cC cI cJ cZ oA rA σ_12 ++ b_s cB cC cI cJ cZ oA rA σ_12 ++ b_c cB cC cI cJ cZ oA rA σ_12 ++ b_t cB cC cI cJ cZ oA rA σ_12 ++ b_d cB cC cI cJ cZ oA rA σ_12) H → va_S A s.heap H locs → ∀ ls : Array Slot, lv_has ls 3 [(0, .ref (oA 11)), (1, .int v1_11)] → W p l e (headSpec (g_ws yX8_act cX8_act 3 none) { frames := 11, cells := 0, slots := 0, locals := 269 }).room s m ([.ref (oA 11)] : List Value).toArray below meth c H locs 0 0 (MQ below (va_Qv (fun (_ : Unit) => True) (g_Bo (dC, dI) A (fun (_ : Unit) => (b_e cB cC cI cJ cZ oA rA res.2 ++ b_k cB cC cI cJ cZ oA rA res.2 ++ b_p cB cC cI cJ cZ oA rA res.2 ++ b_o cB cC cI cJ cZ oA rA res.2 ++ b_s cB cC cI cJ cZ oA rA res.2 ++ b_c cB cC cI cJ cZ oA rA res.2 ++ b_t cB cC cI cJ cZ oA rA res.2 ++ b_d cB cC cI cJ cZ oA rA res.2))) A) ([.ref (oA 11)] : List Value).toArray s 0 0 A) (F0 m 134 ls []) := by
    intro v1_11 σ_12 hF0 H locs hP hS ls hl
    subst ej_13
    have hF_15 := hF0
    clear hF0
    refine lv_iload_n hx hb dX8_act_134 rfl (lv_at hl 1 rfl) ?_
    refine lv_if_eq (tgt := 142) hx hb dX8_act_135 (by decide) (fun c_16 => ?_) (fun c_16 => ?_)
    · have hF_17 := ipos c_16 hF_15
      clear hF_15
      have h9 := Option.some.inj hF_17
      subst h9
      exact W.vret hx hb hr (fun t ht hW => ⟨⟨(), rfl, trivial, m_end ht hP, hDD _⟩, hS.F ht⟩) hS.2.2 dX8_act_142
    · have hF_18 := ineg c_16 hF_15
      clear hF_15
      refine lv_aload_n hx hb dX8_act_138 rfl (lv_at hl 0 rfl) ?_
      obtain ⟨u_19, hu_19, hF_20⟩ := Option.bind_eq_some_iff.mp hF_18
      clear hF_18
      have hPc := bx_P (bs := [b_e cB cC cI cJ cZ oA rA σ_12, b_k cB cC cI cJ cZ oA rA σ_12, b_p cB cC cI cJ cZ oA rA σ_12, b_o cB cC cI cJ cZ oA rA σ_12, b_s cB cC cI cJ cZ oA rA σ_12, b_c cB cC cI cJ cZ oA rA σ_12, b_t cB cC cI cJ cZ oA rA σ_12, b_d cB cC cI cJ cZ oA rA σ_12]) (bs' := [b_e cB cC cI cJ cZ oA rA σ_12, b_k cB cC cI cJ cZ oA rA σ_12, b_p cB cC cI cJ cZ oA rA σ_12, b_o cB cC cI cJ cZ oA rA σ_12, b_s cB cC cI cJ cZ oA rA σ_12, b_c cB cC cI cJ cZ oA rA σ_12, b_t cB cC cI cJ cZ oA rA σ_12, b_d cB cC cI cJ cZ oA rA σ_12]) (ws' := (b_e cB cC cI cJ cZ oA rA σ_12 ++ b_k cB cC cI cJ cZ oA rA σ_12 ++ b_p cB cC cI cJ cZ oA rA σ_12 ++ b_o cB cC cI cJ cZ oA rA σ_12 ++ b_s cB cC cI cJ cZ oA rA σ_12 ++ b_c cB cC cI cJ cZ oA rA σ_12 ++ b_t cB cC cI cJ cZ oA rA σ_12 ++ b_d cB cC cI cJ cZ oA rA σ_12)) hP fl_8 fl_8 [0, 1, 2, 3, 4, 5, 6, 7] rfl
      have hDc := bx_D (bs := [b_e cB cC cI cJ cZ oA rA σ_12, b_k cB cC cI cJ cZ oA rA σ_12, b_p cB cC cI cJ cZ oA rA σ_12, b_o cB cC cI cJ cZ oA rA σ_12, b_s cB cC cI cJ cZ oA rA σ_12, b_c cB cC cI cJ cZ oA rA σ_12, b_t cB cC cI cJ cZ oA rA σ_12, b_d cB cC cI cJ cZ oA rA σ_12]) (bs' := [b_e cB cC cI cJ cZ oA rA σ_12, b_k cB cC cI cJ cZ oA rA σ_12, b_p cB cC cI cJ cZ oA rA σ_12, b_o cB cC cI cJ cZ oA rA σ_12, b_s cB cC cI cJ cZ oA rA σ_12, b_c cB cC cI cJ cZ oA rA σ_12, b_t cB cC cI cJ cZ oA rA σ_12, b_d cB cC cI cJ cZ oA rA σ_12]) (ws' := (b_e cB cC cI cJ cZ oA rA σ_12 ++ b_k cB cC cI cJ cZ oA rA σ_12 ++ b_p cB cC cI cJ cZ oA rA σ_12 ++ b_o cB cC cI cJ cZ oA rA σ_12 ++ b_s cB cC cI cJ cZ oA rA σ_12 ++ b_c cB cC cI cJ cZ oA rA σ_12 ++ b_t cB cC cI cJ cZ oA rA σ_12 ++ b_d cB cC cI cJ cZ oA rA σ_12)) (hDD σ_12) fl_8 fl_8 [0, 1, 2, 3, 4, 5, 6, 7] (by decide +kernel) rfl
      have hFc := bx_F (bs := [b_e cB cC cI cJ cZ oA rA σ_12, b_k cB cC cI cJ cZ oA rA σ_12, b_p cB cC cI cJ cZ oA rA σ_12, b_o cB cC cI cJ cZ oA rA σ_12, b_s cB cC cI cJ cZ oA rA σ_12, b_c cB cC cI cJ cZ oA rA σ_12, b_t cB cC cI cJ cZ oA rA σ_12, b_d cB cC cI cJ cZ oA rA σ_12]) (bs' := [b_e cB cC cI cJ cZ oA rA σ_12, b_k cB cC cI cJ cZ oA rA σ_12, b_p cB cC cI cJ cZ oA rA σ_12, b_o cB cC cI cJ cZ oA rA σ_12, b_s cB cC cI cJ cZ oA rA σ_12, b_c cB cC cI cJ cZ oA rA σ_12, b_t cB cC cI cJ cZ oA rA σ_12, b_d cB cC cI cJ cZ oA rA σ_12]) (wc := (b_e cB cC cI cJ cZ oA rA σ_12 ++ b_k cB cC cI cJ cZ oA rA σ_12 ++ b_p cB cC cI cJ cZ oA rA σ_12 ++ b_o cB cC cI cJ cZ oA rA σ_12 ++ b_s cB cC cI cJ cZ oA rA σ_12 ++ b_c cB cC cI cJ cZ oA rA σ_12 ++ b_t cB cC cI cJ cZ oA rA σ_12 ++ b_d cB cC cI cJ cZ oA rA σ_12)) (hDD σ_12) hS hA fl_8 fl_8 [0, 1, 2, 3, 4, 5, 6, 7] rfl
      refine g_ofv (wc := (b_e cB cC cI cJ cZ oA rA σ_12 ++ b_k cB cC cI cJ cZ oA rA σ_12 ++ b_p cB cC cI cJ cZ oA rA σ_12 ++ b_o cB cC cI cJ cZ oA rA σ_12 ++ b_s cB cC cI cJ cZ oA rA σ_12 ++ b_c cB cC cI cJ cZ oA rA σ_12 ++ b_t cB cC cI cJ cZ oA rA σ_12 ++ b_d cB cC cI cJ cZ oA rA σ_12)) (wr := ([] : va_W)) hP (hDD σ_12) hS hFc (bx_ix [b_e cB cC cI cJ cZ oA rA σ_12, b_k cB cC cI cJ cZ oA rA σ_12, b_p cB cC cI cJ cZ oA rA σ_12, b_o cB cC cI cJ cZ oA rA σ_12, b_s cB cC cI cJ cZ oA rA σ_12, b_c cB cC cI cJ cZ oA rA σ_12, b_t cB cC cI cJ cZ oA rA σ_12, b_d cB cC cI cJ cZ oA rA σ_12] [0, 1, 2, 3, 4, 5, 6, 7]) (bx_ix [b_e cB cC cI cJ cZ oA rA σ_12, b_k cB cC cI cJ cZ oA rA σ_12, b_p cB cC cI cJ cZ oA rA σ_12, b_o cB cC cI cJ cZ oA rA σ_12, b_s cB cC cI cJ cZ oA rA σ_12, b_c cB cC cI cJ cZ oA rA σ_12, b_t cB cC cI cJ cZ oA rA σ_12, b_d cB cC cI cJ cZ oA rA σ_12] []) (bx_C (bs := [b_e cB cC cI cJ cZ oA rA σ_12, b_k cB cC cI cJ cZ oA rA σ_12, b_p cB cC cI cJ cZ oA rA σ_12, b_o cB cC cI cJ cZ oA rA σ_12, b_s cB cC cI cJ cZ oA rA σ_12, b_c cB cC cI cJ cZ oA rA σ_12, b_t cB cC cI cJ cZ oA rA σ_12, b_d cB cC cI cJ cZ oA rA σ_12]) (bs' := [b_e cB cC cI cJ cZ oA rA σ_12, b_k cB cC cI cJ cZ oA rA σ_12, b_p cB cC cI cJ cZ oA rA σ_12, b_o cB cC cI cJ cZ oA rA σ_12, b_s cB cC cI cJ cZ oA rA σ_12, b_c cB cC cI cJ cZ oA rA σ_12, b_t cB cC cI cJ cZ oA rA σ_12, b_d cB cC cI cJ cZ oA rA σ_12]) (is := [0, 1, 2, 3, 4, 5, 6, 7]) fl_8 fl_8 rfl) (bx_C (bs := [b_e cB cC cI cJ cZ oA rA σ_12, b_k cB cC cI cJ cZ oA rA σ_12, b_p cB cC cI cJ cZ oA rA σ_12, b_o cB cC cI cJ cZ oA rA σ_12, b_s cB cC cI cJ cZ oA rA σ_12, b_c cB cC cI cJ cZ oA rA σ_12, b_t cB cC cI cJ cZ oA rA σ_12, b_d cB cC cI cJ cZ oA rA σ_12]) (bs' := []) (is := []) fl_8 fl_0 rfl) (bx_n (by decide +kernel)) (bx_d (by decide +kernel)) (va_runV (As := []) (rest := []) ⟨hx, hb, hml, hown, hts⟩ (k_X8_passTime l dC dI cB cC cI cJ cZ cP oA rA H.size  σ_12 _ hu_19) (cwV 0 hts (g_gV wq_1255 wq_1256 wq_2110 wq_12 wq_1257) rfl rfl rfl (by decide +kernel) ⟨Nat.le_of_ble_eq_true rfl, Nat.le_of_ble_eq_true rfl⟩) (g_preV g_bl0 hK hPc hDc hS hE hFc g_to0 (q0 := 0) (ci := 8) rfl rfl) rfl rfl hl.1 rfl (lv_room (Nat.le_of_ble_eq_true rfl)) dX8_act_139 ⟨Nat.le_of_ble_eq_true rfl, Nat.le_of_ble_eq_true rfl⟩) (fun u9 H locs hw9 hP' hD' hS => ?_)
      clear hPc hDc hFc
      have hP : va_P (dC, dI) vwCl (b_e cB cC cI cJ cZ oA rA u_19.2 ++ b_k cB cC cI cJ cZ oA rA u_19.2 ++ b_p cB cC cI cJ cZ oA rA u_19.2 ++ b_o cB cC cI cJ cZ oA rA u_19.2 ++ b_s cB cC cI cJ cZ oA rA u_19.2 ++ b_c cB cC cI cJ cZ oA rA u_19.2 ++ b_t cB cC cI cJ cZ oA rA u_19.2 ++ b_d cB cC cI cJ cZ oA rA u_19.2) H := hP'
      clear hP' hD'
      have h9 := Option.some.inj hF_20
      subst h9
      exact W.vret hx hb hr (fun t ht hW => ⟨⟨(), rfl, trivial, m_end ht hP, hDD _⟩, hS.F ht⟩) hS.2.2 dX8_act_142
  refine lv_if_eq (tgt := 129) hx hb dX8_act_45 (by decide) (fun c_21 => ?_) (fun c_21 => ?_)
  · have hF_22 := ipos c_21 hF_14
    clear hF_14
    refine lv_aload_n hx hb dX8_act_129 rfl (lv_at hl 1 rfl) ?_
    obtain ⟨u_23, hu_23, hF_24⟩ := Option.bind_eq_some_iff.mp hF_22
    clear hF_22
    have hPc := bx_P (bs := [b_e cB cC cI cJ cZ oA rA σ_9, b_k cB cC cI cJ cZ oA rA σ_9, b_p cB cC cI cJ cZ oA rA σ_9, b_o cB cC cI cJ cZ oA rA σ_9, b_s cB cC cI cJ cZ oA rA σ_9, b_c cB cC cI cJ cZ oA rA σ_9, b_t cB cC cI cJ cZ oA rA σ_9, b_d cB cC cI cJ cZ oA rA σ_9]) (bs' := [b_e cB cC cI cJ cZ oA rA σ_9, b_k cB cC cI cJ cZ oA rA σ_9, b_p cB cC cI cJ cZ oA rA σ_9, b_o cB cC cI cJ cZ oA rA σ_9, b_s cB cC cI cJ cZ oA rA σ_9, b_c cB cC cI cJ cZ oA rA σ_9, b_t cB cC cI cJ cZ oA rA σ_9, b_d cB cC cI cJ cZ oA rA σ_9]) (ws' := (b_e cB cC cI cJ cZ oA rA σ_9 ++ b_k cB cC cI cJ cZ oA rA σ_9 ++ b_p cB cC cI cJ cZ oA rA σ_9 ++ b_o cB cC cI cJ cZ oA rA σ_9 ++ b_s cB cC cI cJ cZ oA rA σ_9 ++ b_c cB cC cI cJ cZ oA rA σ_9 ++ b_t cB cC cI cJ cZ oA rA σ_9 ++ b_d cB cC cI cJ cZ oA rA σ_9)) hP fl_8 fl_8 [0, 1, 2, 3, 4, 5, 6, 7] rfl
    have hDc := bx_D (bs := [b_e cB cC cI cJ cZ oA rA σ_9, b_k cB cC cI cJ cZ oA rA σ_9, b_p cB cC cI cJ cZ oA rA σ_9, b_o cB cC cI cJ cZ oA rA σ_9, b_s cB cC cI cJ cZ oA rA σ_9, b_c cB cC cI cJ cZ oA rA σ_9, b_t cB cC cI cJ cZ oA rA σ_9, b_d cB cC cI cJ cZ oA rA σ_9]) (bs' := [b_e cB cC cI cJ cZ oA rA σ_9, b_k cB cC cI cJ cZ oA rA σ_9, b_p cB cC cI cJ cZ oA rA σ_9, b_o cB cC cI cJ cZ oA rA σ_9, b_s cB cC cI cJ cZ oA rA σ_9, b_c cB cC cI cJ cZ oA rA σ_9, b_t cB cC cI cJ cZ oA rA σ_9, b_d cB cC cI cJ cZ oA rA σ_9]) (ws' := (b_e cB cC cI cJ cZ oA rA σ_9 ++ b_k cB cC cI cJ cZ oA rA σ_9 ++ b_p cB cC cI cJ cZ oA rA σ_9 ++ b_o cB cC cI cJ cZ oA rA σ_9 ++ b_s cB cC cI cJ cZ oA rA σ_9 ++ b_c cB cC cI cJ cZ oA rA σ_9 ++ b_t cB cC cI cJ cZ oA rA σ_9 ++ b_d cB cC cI cJ cZ oA rA σ_9)) (hDD σ_9) fl_8 fl_8 [0, 1, 2, 3, 4, 5, 6, 7] (by decide +kernel) rfl
    have hFc := bx_F (bs := [b_e cB cC cI cJ cZ oA rA σ_9, b_k cB cC cI cJ cZ oA rA σ_9, b_p cB cC cI cJ cZ oA rA σ_9, b_o cB cC cI cJ cZ oA rA σ_9, b_s cB cC cI cJ cZ oA rA σ_9, b_c cB cC cI cJ cZ oA rA σ_9, b_t cB cC cI cJ cZ oA rA σ_9, b_d cB cC cI cJ cZ oA rA σ_9]) (bs' := [b_e cB cC cI cJ cZ oA rA σ_9, b_k cB cC cI cJ cZ oA rA σ_9, b_p cB cC cI cJ cZ oA rA σ_9, b_o cB cC cI cJ cZ oA rA σ_9, b_s cB cC cI cJ cZ oA rA σ_9, b_c cB cC cI cJ cZ oA rA σ_9, b_t cB cC cI cJ cZ oA rA σ_9, b_d cB cC cI cJ cZ oA rA σ_9]) (wc := (b_e cB cC cI cJ cZ oA rA σ_9 ++ b_k cB cC cI cJ cZ oA rA σ_9 ++ b_p cB cC cI cJ cZ oA rA σ_9 ++ b_o cB cC cI cJ cZ oA rA σ_9 ++ b_s cB cC cI cJ cZ oA rA σ_9 ++ b_c cB cC cI cJ cZ oA rA σ_9 ++ b_t cB cC cI cJ cZ oA rA σ_9 ++ b_d cB cC cI cJ cZ oA rA σ_9)) (hDD σ_9) hS hA fl_8 fl_8 [0, 1, 2, 3, 4, 5, 6, 7] rfl
    refine g_ofi (wc := (b_e cB cC cI cJ cZ oA rA σ_9 ++ b_k cB cC cI cJ cZ oA rA σ_9 ++ b_p cB cC cI cJ cZ oA rA σ_9 ++ b_o cB cC cI cJ cZ oA rA σ_9 ++ b_s cB cC cI cJ cZ oA rA σ_9 ++ b_c cB cC cI cJ cZ oA rA σ_9 ++ b_t cB cC cI cJ cZ oA rA σ_9 ++ b_d cB cC cI cJ cZ oA rA σ_9)) (wr := ([] : va_W)) hP (hDD σ_9) hS hFc (bx_ix [b_e cB cC cI cJ cZ oA rA σ_9, b_k cB cC cI cJ cZ oA rA σ_9, b_p cB cC cI cJ cZ oA rA σ_9, b_o cB cC cI cJ cZ oA rA σ_9, b_s cB cC cI cJ cZ oA rA σ_9, b_c cB cC cI cJ cZ oA rA σ_9, b_t cB cC cI cJ cZ oA rA σ_9, b_d cB cC cI cJ cZ oA rA σ_9] [0, 1, 2, 3, 4, 5, 6, 7]) (bx_ix [b_e cB cC cI cJ cZ oA rA σ_9, b_k cB cC cI cJ cZ oA rA σ_9, b_p cB cC cI cJ cZ oA rA σ_9, b_o cB cC cI cJ cZ oA rA σ_9, b_s cB cC cI cJ cZ oA rA σ_9, b_c cB cC cI cJ cZ oA rA σ_9, b_t cB cC cI cJ cZ oA rA σ_9, b_d cB cC cI cJ cZ oA rA σ_9] []) (bx_C (bs := [b_e cB cC cI cJ cZ oA rA σ_9, b_k cB cC cI cJ cZ oA rA σ_9, b_p cB cC cI cJ cZ oA rA σ_9, b_o cB cC cI cJ cZ oA rA σ_9, b_s cB cC cI cJ cZ oA rA σ_9, b_c cB cC cI cJ cZ oA rA σ_9, b_t cB cC cI cJ cZ oA rA σ_9, b_d cB cC cI cJ cZ oA rA σ_9]) (bs' := [b_e cB cC cI cJ cZ oA rA σ_9, b_k cB cC cI cJ cZ oA rA σ_9, b_p cB cC cI cJ cZ oA rA σ_9, b_o cB cC cI cJ cZ oA rA σ_9, b_s cB cC cI cJ cZ oA rA σ_9, b_c cB cC cI cJ cZ oA rA σ_9, b_t cB cC cI cJ cZ oA rA σ_9, b_d cB cC cI cJ cZ oA rA σ_9]) (is := [0, 1, 2, 3, 4, 5, 6, 7]) fl_8 fl_8 rfl) (bx_C (bs := [b_e cB cC cI cJ cZ oA rA σ_9, b_k cB cC cI cJ cZ oA rA σ_9, b_p cB cC cI cJ cZ oA rA σ_9, b_o cB cC cI cJ cZ oA rA σ_9, b_s cB cC cI cJ cZ oA rA σ_9, b_c cB cC cI cJ cZ oA rA σ_9, b_t cB cC cI cJ cZ oA rA σ_9, b_d cB cC cI cJ cZ oA rA σ_9]) (bs' := []) (is := []) fl_8 fl_0 rfl) (bx_n (by decide +kernel)) (bx_d (by decide +kernel)) (va_runV (As := []) (rest := []) ⟨hx, hb, hml, hown, hts⟩ (k_X8_perform l dC dI cB cC cI cJ cZ cP oA rA H.size  σ_9 _ hu_23) (cwV 0 hts (g_gV wq_1118 wq_1119 wq_2082 wq_12 wq_1120) rfl rfl rfl (by decide +kernel) ⟨Nat.le_of_ble_eq_true rfl, Nat.le_of_ble_eq_true rfl⟩) (g_preV g_bl0 hK hPc hDc hS hE hFc g_to0 (q0 := 0) (ci := 8) rfl rfl) rfl rfl hl.1 rfl (lv_room (Nat.le_of_ble_eq_true rfl)) dX8_act_130 ⟨Nat.le_of_ble_eq_true rfl, Nat.le_of_ble_eq_true rfl⟩) (fun r9 u9 H locs hw9 hP' hD' hS => ?_)
    clear hPc hDc hFc
    subst hw9
    have hP : va_P (dC, dI) vwCl (b_e cB cC cI cJ cZ oA rA u_23.2 ++ b_k cB cC cI cJ cZ oA rA u_23.2 ++ b_p cB cC cI cJ cZ oA rA u_23.2 ++ b_o cB cC cI cJ cZ oA rA u_23.2 ++ b_s cB cC cI cJ cZ oA rA u_23.2 ++ b_c cB cC cI cJ cZ oA rA u_23.2 ++ b_t cB cC cI cJ cZ oA rA u_23.2 ++ b_d cB cC cI cJ cZ oA rA u_23.2) H := hP'
    clear hP' hD'
    refine lv_istore_n (lv' := [(1, .int u_23.1), (0, .ref (oA 11))]) hx hb dX8_act_133 rfl hl (by decide) rfl (fun ls hl => ?_)
    exact Jj_13 u_23.1 u_23.2 hF_24 _ _ hP hS ls (lv_sub hl [1, 0] rfl)
  · have hF_25 := ineg c_21 hF_14
    clear hF_14
    refine lv_iconst (v := 0) hx hb dX8_act_48 (by decide +kernel) ?_
    refine lv_istore_n (lv' := [(2, .int 0), (1, .int 1), (0, .ref (oA 11))]) hx hb dX8_act_49 rfl hl (by decide) rfl (fun ls hl => ?_)
    refine loopF_ind (P := fun (s_26 : Int32 × Int32 × HS) => ∀ (H : Heap) (locs : List Loc), va_P (dC, dI) vwCl (b_e cB cC cI cJ cZ oA rA s_26.2.2 ++ b_k cB cC cI cJ cZ oA rA s_26.2.2 ++ b_p cB cC cI cJ cZ oA rA s_26.2.2 ++ b_o cB cC cI cJ cZ oA rA s_26.2.2 ++ b_s cB cC cI cJ cZ oA rA s_26.2.2 ++ b_c cB cC cI cJ cZ oA rA s_26.2.2 ++ b_t cB cC cI cJ cZ oA rA s_26.2.2 ++ b_d cB cC cI cJ cZ oA rA s_26.2.2) H → va_S A s.heap H locs → ∀ ls : Array Slot, lv_has ls 3 [(0, .ref (oA 11)), (1, .int s_26.1), (2, .int s_26.2.1)] → W p l e (headSpec (g_ws yX8_act cX8_act 3 none) { frames := 11, cells := 0, slots := 0, locals := 269 }).room s m ([.ref (oA 11)] : List Value).toArray below meth c H locs 0 0 (MQ below (va_Qv (fun (_ : Unit) => True) (g_Bo (dC, dI) A (fun (_ : Unit) => (b_e cB cC cI cJ cZ oA rA res.2 ++ b_k cB cC cI cJ cZ oA rA res.2 ++ b_p cB cC cI cJ cZ oA rA res.2 ++ b_o cB cC cI cJ cZ oA rA res.2 ++ b_s cB cC cI cJ cZ oA rA res.2 ++ b_c cB cC cI cJ cZ oA rA res.2 ++ b_t cB cC cI cJ cZ oA rA res.2 ++ b_d cB cC cI cJ cZ oA rA res.2))) A) ([.ref (oA 11)] : List Value).toArray s 0 0 A) (F0 m 50 ls [])) ?_ _ _ hF_25 _ _ hP hS ls (lv_sub hl [2, 1, 0] rfl)
    intro again_27 s_26 ih_28 hF_29
    intro H locs hP hS ls hl
    refine lv_iload_n hx hb dX8_act_50 rfl (lv_at hl 2 rfl) ?_
    refine lv_aload_n hx hb dX8_act_51 rfl (lv_at hl 0 rfl) ?_
    refine va_get (D := (dC, dI)) (ci := 8) (v := .int ((s_26.2.2 11).1 15)) (C := RX8) (T := TX8) (N := 16) hx hb hts ii_X8 hown hK hP 0 rfl rfl 15 (by decide) (hts (.fieldLink RX8 192 "StoryHouse$Teller" "chosenCount" "I") wq_302) (fun _ h9 => h9) rfl dX8_act_52 ?_
    obtain ⟨j_31, ej_31, hF_32⟩ := bnd_e hF_29
    clear hF_29
    have Jj_31 : ∀  (σ_30 : HS), j_31  σ_30 = some res → ∀ (H : Heap) (locs : List Loc), va_P (dC, dI) vwCl (b_e cB cC cI cJ cZ oA rA σ_30 ++ b_k cB cC cI cJ cZ oA rA σ_30 ++ b_p cB cC cI cJ cZ oA rA σ_30 ++ b_o cB cC cI cJ cZ oA rA σ_30 ++ b_s cB cC cI cJ cZ oA rA σ_30 ++ b_c cB cC cI cJ cZ oA rA σ_30 ++ b_t cB cC cI cJ cZ oA rA σ_30 ++ b_d cB cC cI cJ cZ oA rA σ_30) H → va_S A s.heap H locs → ∀ ls : Array Slot, lv_has ls 3 [(0, .ref (oA 11)), (1, .int s_26.1)] → W p l e (headSpec (g_ws yX8_act cX8_act 3 none) { frames := 11, cells := 0, slots := 0, locals := 269 }).room s m ([.ref (oA 11)] : List Value).toArray below meth c H locs 0 0 (MQ below (va_Qv (fun (_ : Unit) => True) (g_Bo (dC, dI) A (fun (_ : Unit) => (b_e cB cC cI cJ cZ oA rA res.2 ++ b_k cB cC cI cJ cZ oA rA res.2 ++ b_p cB cC cI cJ cZ oA rA res.2 ++ b_o cB cC cI cJ cZ oA rA res.2 ++ b_s cB cC cI cJ cZ oA rA res.2 ++ b_c cB cC cI cJ cZ oA rA res.2 ++ b_t cB cC cI cJ cZ oA rA res.2 ++ b_d cB cC cI cJ cZ oA rA res.2))) A) ([.ref (oA 11)] : List Value).toArray s 0 0 A) (F0 m 126 ls []) := by
      intro  σ_30 hF0 H locs hP hS ls hl
      subst ej_31
      have hF_33 := hF0
      clear hF0
      refine lv_goto (tgt := 134) hx hb dX8_act_126 (by decide) ?_
      exact Jj_13 s_26.1 σ_30 hF_33 _ _ hP hS ls (lv_sub hl [0, 1] rfl)
    refine lv_icmp_ge (tgt := 126) hx hb dX8_act_55 (by decide) (fun c_34 => ?_) (fun c_34 => ?_)
    · have hF_35 := ipos c_34 hF_32
      clear hF_32
      exact Jj_31  s_26.2.2 hF_35 _ _ hP hS ls (lv_sub hl [0, 1] rfl)
    · have hF_36 := ineg c_34 hF_32
      clear hF_32
      refine lv_iload_n hx hb dX8_act_58 rfl (lv_at hl 1 rfl) ?_
      refine lv_if_eq (tgt := 126) hx hb dX8_act_59 (by decide) (fun c_37 => ?_) (fun c_37 => ?_)
      · have hF_38 := ipos c_37 hF_36
        clear hF_36
        exact Jj_31  s_26.2.2 hF_38 _ _ hP hS ls (lv_sub hl [0, 1] rfl)
      · have hF_39 := ineg c_37 hF_36
        clear hF_36
        refine lv_aload_n hx hb dX8_act_62 rfl (lv_at hl 0 rfl) ?_
        refine lv_aload_n hx hb dX8_act_63 rfl (lv_at hl 0 rfl) ?_
        refine va_get (D := (dC, dI)) (ci := 8) (v := .ref (rA 11 14)) (C := RX8) (T := TX8) (N := 16) hx hb hts ii_X8 hown hK hP 0 rfl rfl 14 (by decide) (hts (.fieldLink RX8 19 "StoryHouse$Teller" "chosen" "[I") wq_301) (fun _ h9 => h9) rfl dX8_act_64 ?_
        refine lv_iload_n hx hb dX8_act_67 rfl (lv_at hl 2 rfl) ?_
        have hq9 : ((b_e cB cC cI cJ cZ oA rA s_26.2.2 ++ b_k cB cC cI cJ cZ oA rA s_26.2.2 ++ b_p cB cC cI cJ cZ oA rA s_26.2.2 ++ b_o cB cC cI cJ cZ oA rA s_26.2.2 ++ b_s cB cC cI cJ cZ oA rA s_26.2.2 ++ b_c cB cC cI cJ cZ oA rA s_26.2.2 ++ b_t cB cC cI cJ cZ oA rA s_26.2.2 ++ b_d cB cC cI cJ cZ oA rA s_26.2.2))[3]? = some (rA 11 14, .inl (cI, 120, .inl ((s_26.2.2 11).2.1 14))) := rfl
        have hPc := hP.sub (ws' := [(rA 11 14, .inl (cI, 120, .inl ((s_26.2.2 11).2.1 14)))]) [3] (pk_fm (er_C hq9))
        have hDc := (hDD s_26.2.2).sub (ws' := [(rA 11 14, .inl (cI, 120, .inl ((s_26.2.2 11).2.1 14)))]) [3] (by decide +kernel) (er_C hq9)
        have hFc := va_free (wc := [(rA 11 14, .inl (cI, 120, .inl ((s_26.2.2 11).2.1 14)))]) (hDD s_26.2.2) hS hA [3] (er_C hq9)
        refine g_ofi (wc := [(rA 11 14, .inl (cI, 120, .inl ((s_26.2.2 11).2.1 14)))]) (wr := (((b_e cB cC cI cJ cZ oA rA s_26.2.2 ++ b_k cB cC cI cJ cZ oA rA s_26.2.2 ++ b_p cB cC cI cJ cZ oA rA s_26.2.2 ++ b_o cB cC cI cJ cZ oA rA s_26.2.2 ++ b_s cB cC cI cJ cZ oA rA s_26.2.2 ++ b_c cB cC cI cJ cZ oA rA s_26.2.2 ++ b_t cB cC cI cJ cZ oA rA s_26.2.2 ++ b_d cB cC cI cJ cZ oA rA s_26.2.2)).eraseIdx 3)) hP (hDD s_26.2.2) hS hFc [3] ((List.range ((b_e cB cC cI cJ cZ oA rA s_26.2.2 ++ b_k cB cC cI cJ cZ oA rA s_26.2.2 ++ b_p cB cC cI cJ cZ oA rA s_26.2.2 ++ b_o cB cC cI cJ cZ oA rA s_26.2.2 ++ b_s cB cC cI cJ cZ oA rA s_26.2.2 ++ b_c cB cC cI cJ cZ oA rA s_26.2.2 ++ b_t cB cC cI cJ cZ oA rA s_26.2.2 ++ b_d cB cC cI cJ cZ oA rA s_26.2.2)).length).eraseIdx 3) (er_C hq9) er_R er_n er_d (va_runSN (As := [.ref (rA 11 14), .int s_26.2.1]) (rest := [.ref (oA 11)]) ⟨hx, hb, hml, hown, hts⟩ (c_X11_at l dC dI cB cC cI cJ cZ cP H.size (rA 11 14) s_26.2.1 120 ((s_26.2.2 11).2.1 14) (by decide)) ⟨va_cnB 2 hts (g_gA wq_407) rfl rfl rfl (nw_31 hN) (hts (.initialized RX11) wq_1) (by decide +kernel) ⟨Nat.le_of_ble_eq_true rfl, Nat.le_of_ble_eq_true rfl⟩, (hts (.static yX11_at) wq_406), trivial⟩ (g_preS g_bl0 hK hPc hDc hS hE hFc g_to0) rfl rfl hl.1 rfl (lv_room (Nat.le_of_ble_eq_true rfl)) dX8_act_68 ⟨Nat.le_of_ble_eq_true rfl, Nat.le_of_ble_eq_true rfl⟩) (fun r9 u9 H locs hw9 hP' hD' hS => ?_)
        clear hPc hDc hFc hD'
        have hP : va_P (dC, dI) vwCl (b_e cB cC cI cJ cZ oA rA s_26.2.2 ++ b_k cB cC cI cJ cZ oA rA s_26.2.2 ++ b_p cB cC cI cJ cZ oA rA s_26.2.2 ++ b_o cB cC cI cJ cZ oA rA s_26.2.2 ++ b_s cB cC cI cJ cZ oA rA s_26.2.2 ++ b_c cB cC cI cJ cZ oA rA s_26.2.2 ++ b_t cB cC cI cJ cZ oA rA s_26.2.2 ++ b_d cB cC cI cJ cZ oA rA s_26.2.2) H := er_I hP' hq9
        clear hP' hq9
        subst hw9
        obtain ⟨x_40, ex_40, hF_41⟩ := bnd_e hF_39
        clear hF_39
        refine m_top ex_40 ?_
        obtain ⟨σ_42, eσ_42, hF_43⟩ := bnd_e hF_41
        clear hF_41
        refine va_put (D := (dC, dI)) (ci := 8) (v := .int x_40) (ty := .int) (C := RX8) (T := TX8) (N := 16) hx hb hts ii_X8 tyX8 tyX8_ok nmX8 hown hK hP (hDD _) hS 0 rfl rfl 10 (by decide) (hts (.fieldLink RX8 114 "StoryHouse$Teller" "noun" "I") wq_297) (fun _ h9 => h9) rfl (by decide +kernel) rfl rfl (Nat.le_of_ble_eq_true rfl) dX8_act_71 (fun H locs hP' _ hS => ?_)
        have hP : va_P (dC, dI) vwCl (b_e cB cC cI cJ cZ oA rA σ_42 ++ b_k cB cC cI cJ cZ oA rA σ_42 ++ b_p cB cC cI cJ cZ oA rA σ_42 ++ b_o cB cC cI cJ cZ oA rA σ_42 ++ b_s cB cC cI cJ cZ oA rA σ_42 ++ b_c cB cC cI cJ cZ oA rA σ_42 ++ b_t cB cC cI cJ cZ oA rA σ_42 ++ b_d cB cC cI cJ cZ oA rA σ_42) H := by rw [eσ_42]; exact cs_ekposctd_e_10 ▸ hP'
        clear hP'
        refine lv_aload_n hx hb dX8_act_74 rfl (lv_at hl 0 rfl) ?_
        refine va_get (D := (dC, dI)) (ci := 8) (v := .ref (oA 9)) (C := RX8) (T := TX8) (N := 16) hx hb hts ii_X8 hown hK hP 0 rfl rfl 0 (by decide) (hts (.fieldLink RX8 22 "StoryHouse$Teller" "play" "LStoryHouse$Play;") wq_286) (fun _ h9 => h9) rfl dX8_act_75 ?_
        refine va_get (D := (dC, dI)) (ci := 6) (v := .ref (rA 9 0)) (C := RX6) (T := TX6) (N := 12) hx hb hts ii_X6 hown hK hP 9 rfl rfl 0 (by decide) (hts (.fieldLink RX8 224 "StoryHouse$Play" "parents" "[I") wq_219) (fun _ h9 => h9) rfl dX8_act_78 ?_
        refine lv_aload_n hx hb dX8_act_81 rfl (lv_at hl 0 rfl) ?_
        refine va_get (D := (dC, dI)) (ci := 8) (v := .int ((σ_42 11).1 10)) (C := RX8) (T := TX8) (N := 16) hx hb hts ii_X8 hown hK hP 0 rfl rfl 10 (by decide) (hts (.fieldLink RX8 114 "StoryHouse$Teller" "noun" "I") wq_297) (fun _ h9 => h9) rfl dX8_act_82 ?_
        obtain ⟨x_44, ex_44, hF_45⟩ := bnd_e hF_43
        clear hF_43
        refine m_top ex_44 ?_
        have hq9 : ((b_e cB cC cI cJ cZ oA rA σ_42 ++ b_k cB cC cI cJ cZ oA rA σ_42 ++ b_p cB cC cI cJ cZ oA rA σ_42 ++ b_o cB cC cI cJ cZ oA rA σ_42 ++ b_s cB cC cI cJ cZ oA rA σ_42 ++ b_c cB cC cI cJ cZ oA rA σ_42 ++ b_t cB cC cI cJ cZ oA rA σ_42 ++ b_d cB cC cI cJ cZ oA rA σ_42))[10]? = some (rA 9 0, .inl (cI, 121, .inl ((σ_42 9).2.1 0))) := rfl
        have hPc := hP.sub (ws' := [(rA 9 0, .inl (cI, 121, .inl ((σ_42 9).2.1 0)))]) [10] (pk_fm (er_C hq9))
        have hDc := (hDD σ_42).sub (ws' := [(rA 9 0, .inl (cI, 121, .inl ((σ_42 9).2.1 0)))]) [10] (by decide +kernel) (er_C hq9)
        have hFc := va_free (wc := [(rA 9 0, .inl (cI, 121, .inl ((σ_42 9).2.1 0)))]) (hDD σ_42) hS hA [10] (er_C hq9)
        refine g_ofi (wc := [(rA 9 0, .inl (cI, 121, .inl ((σ_42 9).2.1 0)))]) (wr := (((b_e cB cC cI cJ cZ oA rA σ_42 ++ b_k cB cC cI cJ cZ oA rA σ_42 ++ b_p cB cC cI cJ cZ oA rA σ_42 ++ b_o cB cC cI cJ cZ oA rA σ_42 ++ b_s cB cC cI cJ cZ oA rA σ_42 ++ b_c cB cC cI cJ cZ oA rA σ_42 ++ b_t cB cC cI cJ cZ oA rA σ_42 ++ b_d cB cC cI cJ cZ oA rA σ_42)).eraseIdx 10)) hP (hDD σ_42) hS hFc [10] ((List.range ((b_e cB cC cI cJ cZ oA rA σ_42 ++ b_k cB cC cI cJ cZ oA rA σ_42 ++ b_p cB cC cI cJ cZ oA rA σ_42 ++ b_o cB cC cI cJ cZ oA rA σ_42 ++ b_s cB cC cI cJ cZ oA rA σ_42 ++ b_c cB cC cI cJ cZ oA rA σ_42 ++ b_t cB cC cI cJ cZ oA rA σ_42 ++ b_d cB cC cI cJ cZ oA rA σ_42)).length).eraseIdx 10) (er_C hq9) er_R er_n er_d (va_runSN (As := [.ref (rA 9 0), .int x_44]) (rest := []) ⟨hx, hb, hml, hown, hts⟩ (c_X11_at l dC dI cB cC cI cJ cZ cP H.size (rA 9 0) x_44 121 ((σ_42 9).2.1 0) (by decide)) ⟨va_cnB 2 hts (g_gA wq_407) rfl rfl rfl (nw_31 hN) (hts (.initialized RX11) wq_1) (by decide +kernel) ⟨Nat.le_of_ble_eq_true rfl, Nat.le_of_ble_eq_true rfl⟩, (hts (.static yX11_at) wq_406), trivial⟩ (g_preS g_bl0 hK hPc hDc hS hE hFc g_to0) rfl rfl hl.1 rfl (lv_room (Nat.le_of_ble_eq_true rfl)) dX8_act_85 ⟨Nat.le_of_ble_eq_true rfl, Nat.le_of_ble_eq_true rfl⟩) (fun r9 u9 H locs hw9 hP' hD' hS => ?_)
        clear hPc hDc hFc hD'
        have hP : va_P (dC, dI) vwCl (b_e cB cC cI cJ cZ oA rA σ_42 ++ b_k cB cC cI cJ cZ oA rA σ_42 ++ b_p cB cC cI cJ cZ oA rA σ_42 ++ b_o cB cC cI cJ cZ oA rA σ_42 ++ b_s cB cC cI cJ cZ oA rA σ_42 ++ b_c cB cC cI cJ cZ oA rA σ_42 ++ b_t cB cC cI cJ cZ oA rA σ_42 ++ b_d cB cC cI cJ cZ oA rA σ_42) H := er_I hP' hq9
        clear hP' hq9
        subst hw9
        obtain ⟨x_46, ex_46, hF_47⟩ := bnd_e hF_45
        clear hF_45
        refine m_top ex_46 ?_
        refine lv_aload_n hx hb dX8_act_88 rfl (lv_at hl 0 rfl) ?_
        refine va_get (D := (dC, dI)) (ci := 8) (v := .int ((σ_42 11).1 13)) (C := RX8) (T := TX8) (N := 16) hx hb hts ii_X8 hown hK hP 0 rfl rfl 13 (by decide) (hts (.fieldLink RX8 199 "StoryHouse$Teller" "source" "I") wq_300) (fun _ h9 => h9) rfl dX8_act_89 ?_
        obtain ⟨j_50, ej_50, hF_51⟩ := bnd_e hF_47
        clear hF_47
        have Jj_50 : ∀ (v1_48 : Int32) (σ_49 : HS), j_50 v1_48 σ_49 = some res → ∀ (H : Heap) (locs : List Loc), va_P (dC, dI) vwCl (b_e cB cC cI cJ cZ oA rA σ_49 ++ b_k cB cC cI cJ cZ oA rA σ_49 ++ b_p cB cC cI cJ cZ oA rA σ_49 ++ b_o cB cC cI cJ cZ oA rA σ_49 ++ b_s cB cC cI cJ cZ oA rA σ_49 ++ b_c cB cC cI cJ cZ oA rA σ_49 ++ b_t cB cC cI cJ cZ oA rA σ_49 ++ b_d cB cC cI cJ cZ oA rA σ_49) H → va_S A s.heap H locs → ∀ ls : Array Slot, lv_has ls 3 [(0, .ref (oA 11)), (1, .int v1_48), (2, .int s_26.2.1)] → W p l e (headSpec (g_ws yX8_act cX8_act 3 none) { frames := 11, cells := 0, slots := 0, locals := 269 }).room s m ([.ref (oA 11)] : List Value).toArray below meth c H locs 0 0 (MQ below (va_Qv (fun (_ : Unit) => True) (g_Bo (dC, dI) A (fun (_ : Unit) => (b_e cB cC cI cJ cZ oA rA res.2 ++ b_k cB cC cI cJ cZ oA rA res.2 ++ b_p cB cC cI cJ cZ oA rA res.2 ++ b_o cB cC cI cJ cZ oA rA res.2 ++ b_s cB cC cI cJ cZ oA rA res.2 ++ b_c cB cC cI cJ cZ oA rA res.2 ++ b_t cB cC cI cJ cZ oA rA res.2 ++ b_d cB cC cI cJ cZ oA rA res.2))) A) ([.ref (oA 11)] : List Value).toArray s 0 0 A) (F0 m 120 ls []) := by
          intro v1_48 σ_49 hF0 H locs hP hS ls hl
          subst ej_50
          have hF_52 := hF0
          clear hF0
          obtain ⟨x_53, ex_53, hF_54⟩ := bnd_e hF_52
          clear hF_52
          refine lv_iinc (v := x_53) (lv' := [(2, .int x_53), (0, .ref (oA 11)), (1, .int v1_48)]) hx hb dX8_act_120 hl (k := 2) rfl (by rw [ex_53]; rfl) (by decide) rfl (fun ls hl => ?_)
          refine lv_goto (tgt := 50) hx hb dX8_act_123 (by decide) ?_
          exact ih_28 (v1_48, x_53, σ_49) hF_54 _ _ hP hS ls (lv_sub hl [1, 2, 0] rfl)
        refine lv_icmp_ne (tgt := 120) hx hb dX8_act_92 (by decide) (fun c_55 => ?_) (fun c_55 => ?_)
        · have hF_68 := ineg c_55 hF_51
          clear hF_51
          exact Jj_50 s_26.1 σ_42 hF_68 _ _ hP hS ls (lv_sub hl [0, 1, 2] rfl)
        · have hF_56 := ipos c_55 hF_51
          clear hF_51
          refine lv_aload_n hx hb dX8_act_95 rfl (lv_at hl 0 rfl) ?_
          refine va_get (D := (dC, dI)) (ci := 8) (v := .ref (oA 10)) (C := RX8) (T := TX8) (N := 16) hx hb hts ii_X8 hown hK hP 0 rfl rfl 2 (by decide) (hts (.fieldLink RX8 30 "StoryHouse$Teller" "machine" "LStoryHouse$Machine;") wq_288) (fun _ h9 => h9) rfl dX8_act_96 ?_
          refine lv_aload_n hx hb dX8_act_99 rfl (lv_at hl 0 rfl) ?_
          refine va_get (D := (dC, dI)) (ci := 8) (v := .int ((σ_42 11).1 10)) (C := RX8) (T := TX8) (N := 16) hx hb hts ii_X8 hown hK hP 0 rfl rfl 10 (by decide) (hts (.fieldLink RX8 114 "StoryHouse$Teller" "noun" "I") wq_297) (fun _ h9 => h9) rfl dX8_act_100 ?_
          obtain ⟨u_57, hu_57, hF_58⟩ := Option.bind_eq_some_iff.mp hF_56
          clear hF_56
          have hPc := bx_P (bs := [b_e cB cC cI cJ cZ oA rA σ_42, b_k cB cC cI cJ cZ oA rA σ_42, b_p cB cC cI cJ cZ oA rA σ_42, b_o cB cC cI cJ cZ oA rA σ_42, b_s cB cC cI cJ cZ oA rA σ_42, b_c cB cC cI cJ cZ oA rA σ_42, b_t cB cC cI cJ cZ oA rA σ_42, b_d cB cC cI cJ cZ oA rA σ_42]) (bs' := [b_k cB cC cI cJ cZ oA rA σ_42, b_p cB cC cI cJ cZ oA rA σ_42, b_o cB cC cI cJ cZ oA rA σ_42, b_s cB cC cI cJ cZ oA rA σ_42, b_c cB cC cI cJ cZ oA rA σ_42, b_t cB cC cI cJ cZ oA rA σ_42, b_d cB cC cI cJ cZ oA rA σ_42]) (ws' := (b_k cB cC cI cJ cZ oA rA σ_42 ++ b_p cB cC cI cJ cZ oA rA σ_42 ++ b_o cB cC cI cJ cZ oA rA σ_42 ++ b_s cB cC cI cJ cZ oA rA σ_42 ++ b_c cB cC cI cJ cZ oA rA σ_42 ++ b_t cB cC cI cJ cZ oA rA σ_42 ++ b_d cB cC cI cJ cZ oA rA σ_42)) hP fl_8 fl_7 [1, 2, 3, 4, 5, 6, 7] rfl
          have hDc := bx_D (bs := [b_e cB cC cI cJ cZ oA rA σ_42, b_k cB cC cI cJ cZ oA rA σ_42, b_p cB cC cI cJ cZ oA rA σ_42, b_o cB cC cI cJ cZ oA rA σ_42, b_s cB cC cI cJ cZ oA rA σ_42, b_c cB cC cI cJ cZ oA rA σ_42, b_t cB cC cI cJ cZ oA rA σ_42, b_d cB cC cI cJ cZ oA rA σ_42]) (bs' := [b_k cB cC cI cJ cZ oA rA σ_42, b_p cB cC cI cJ cZ oA rA σ_42, b_o cB cC cI cJ cZ oA rA σ_42, b_s cB cC cI cJ cZ oA rA σ_42, b_c cB cC cI cJ cZ oA rA σ_42, b_t cB cC cI cJ cZ oA rA σ_42, b_d cB cC cI cJ cZ oA rA σ_42]) (ws' := (b_k cB cC cI cJ cZ oA rA σ_42 ++ b_p cB cC cI cJ cZ oA rA σ_42 ++ b_o cB cC cI cJ cZ oA rA σ_42 ++ b_s cB cC cI cJ cZ oA rA σ_42 ++ b_c cB cC cI cJ cZ oA rA σ_42 ++ b_t cB cC cI cJ cZ oA rA σ_42 ++ b_d cB cC cI cJ cZ oA rA σ_42)) (hDD σ_42) fl_8 fl_7 [1, 2, 3, 4, 5, 6, 7] (by decide +kernel) rfl
          have hFc := bx_F (bs := [b_e cB cC cI cJ cZ oA rA σ_42, b_k cB cC cI cJ cZ oA rA σ_42, b_p cB cC cI cJ cZ oA rA σ_42, b_o cB cC cI cJ cZ oA rA σ_42, b_s cB cC cI cJ cZ oA rA σ_42, b_c cB cC cI cJ cZ oA rA σ_42, b_t cB cC cI cJ cZ oA rA σ_42, b_d cB cC cI cJ cZ oA rA σ_42]) (bs' := [b_k cB cC cI cJ cZ oA rA σ_42, b_p cB cC cI cJ cZ oA rA σ_42, b_o cB cC cI cJ cZ oA rA σ_42, b_s cB cC cI cJ cZ oA rA σ_42, b_c cB cC cI cJ cZ oA rA σ_42, b_t cB cC cI cJ cZ oA rA σ_42, b_d cB cC cI cJ cZ oA rA σ_42]) (wc := (b_k cB cC cI cJ cZ oA rA σ_42 ++ b_p cB cC cI cJ cZ oA rA σ_42 ++ b_o cB cC cI cJ cZ oA rA σ_42 ++ b_s cB cC cI cJ cZ oA rA σ_42 ++ b_c cB cC cI cJ cZ oA rA σ_42 ++ b_t cB cC cI cJ cZ oA rA σ_42 ++ b_d cB cC cI cJ cZ oA rA σ_42)) (hDD σ_42) hS hA fl_8 fl_7 [1, 2, 3, 4, 5, 6, 7] rfl
          refine g_ofv (wc := (b_k cB cC cI cJ cZ oA rA σ_42 ++ b_p cB cC cI cJ cZ oA rA σ_42 ++ b_o cB cC cI cJ cZ oA rA σ_42 ++ b_s cB cC cI cJ cZ oA rA σ_42 ++ b_c cB cC cI cJ cZ oA rA σ_42 ++ b_t cB cC cI cJ cZ oA rA σ_42 ++ b_d cB cC cI cJ cZ oA rA σ_42)) (wr := (b_e cB cC cI cJ cZ oA rA σ_42)) hP (hDD σ_42) hS hFc (bx_ix [b_e cB cC cI cJ cZ oA rA σ_42, b_k cB cC cI cJ cZ oA rA σ_42, b_p cB cC cI cJ cZ oA rA σ_42, b_o cB cC cI cJ cZ oA rA σ_42, b_s cB cC cI cJ cZ oA rA σ_42, b_c cB cC cI cJ cZ oA rA σ_42, b_t cB cC cI cJ cZ oA rA σ_42, b_d cB cC cI cJ cZ oA rA σ_42] [1, 2, 3, 4, 5, 6, 7]) (bx_ix [b_e cB cC cI cJ cZ oA rA σ_42, b_k cB cC cI cJ cZ oA rA σ_42, b_p cB cC cI cJ cZ oA rA σ_42, b_o cB cC cI cJ cZ oA rA σ_42, b_s cB cC cI cJ cZ oA rA σ_42, b_c cB cC cI cJ cZ oA rA σ_42, b_t cB cC cI cJ cZ oA rA σ_42, b_d cB cC cI cJ cZ oA rA σ_42] [0]) (bx_C (bs := [b_e cB cC cI cJ cZ oA rA σ_42, b_k cB cC cI cJ cZ oA rA σ_42, b_p cB cC cI cJ cZ oA rA σ_42, b_o cB cC cI cJ cZ oA rA σ_42, b_s cB cC cI cJ cZ oA rA σ_42, b_c cB cC cI cJ cZ oA rA σ_42, b_t cB cC cI cJ cZ oA rA σ_42, b_d cB cC cI cJ cZ oA rA σ_42]) (bs' := [b_k cB cC cI cJ cZ oA rA σ_42, b_p cB cC cI cJ cZ oA rA σ_42, b_o cB cC cI cJ cZ oA rA σ_42, b_s cB cC cI cJ cZ oA rA σ_42, b_c cB cC cI cJ cZ oA rA σ_42, b_t cB cC cI cJ cZ oA rA σ_42, b_d cB cC cI cJ cZ oA rA σ_42]) (is := [1, 2, 3, 4, 5, 6, 7]) fl_8 fl_7 rfl) (bx_C (bs := [b_e cB cC cI cJ cZ oA rA σ_42, b_k cB cC cI cJ cZ oA rA σ_42, b_p cB cC cI cJ cZ oA rA σ_42, b_o cB cC cI cJ cZ oA rA σ_42, b_s cB cC cI cJ cZ oA rA σ_42, b_c cB cC cI cJ cZ oA rA σ_42, b_t cB cC cI cJ cZ oA rA σ_42, b_d cB cC cI cJ cZ oA rA σ_42]) (bs' := [b_e cB cC cI cJ cZ oA rA σ_42]) (is := [0]) fl_8 fl_1 rfl) (bx_n (by decide +kernel)) (bx_d (by decide +kernel)) (va_runV (As := [.int ((σ_42 11).1 10)]) (rest := []) ⟨hx, hb, hml, hown, hts⟩ (k_X3_sayName l dC dI cB cC cI cJ cZ cP oA rA H.size  ((σ_42 11).1 10) σ_42 _ hu_57) (cwV 1 hts (g_gV wq_1013 wq_1014 wq_1015 wq_11 wq_1016) rfl rfl rfl (by decide +kernel) ⟨Nat.le_of_ble_eq_true rfl, Nat.le_of_ble_eq_true rfl⟩) (g_preV g_bl0 hK hPc hDc hS hE hFc g_to0 (q0 := 0) (ci := 3) rfl rfl) rfl rfl hl.1 rfl (lv_room (Nat.le_of_ble_eq_true rfl)) dX8_act_103 ⟨Nat.le_of_ble_eq_true rfl, Nat.le_of_ble_eq_true rfl⟩) (fun u9 H locs hw9 hP' hD' hS => ?_)
          clear hPc hDc hFc
          obtain ⟨σ_59, eσ_59, hF_60⟩ := bnd_e hF_58
          clear hF_58
          have hP : va_P (dC, dI) vwCl (b_e cB cC cI cJ cZ oA rA σ_59 ++ b_k cB cC cI cJ cZ oA rA σ_59 ++ b_p cB cC cI cJ cZ oA rA σ_59 ++ b_o cB cC cI cJ cZ oA rA σ_59 ++ b_s cB cC cI cJ cZ oA rA σ_59 ++ b_c cB cC cI cJ cZ oA rA σ_59 ++ b_t cB cC cI cJ cZ oA rA σ_59 ++ b_d cB cC cI cJ cZ oA rA σ_59) H := by rw [eσ_59]; exact bx_P (bs := [b_e cB cC cI cJ cZ oA rA σ_42] ++ [b_k cB cC cI cJ cZ oA rA u_57.2, b_p cB cC cI cJ cZ oA rA u_57.2, b_o cB cC cI cJ cZ oA rA u_57.2, b_s cB cC cI cJ cZ oA rA u_57.2, b_c cB cC cI cJ cZ oA rA u_57.2, b_t cB cC cI cJ cZ oA rA u_57.2, b_d cB cC cI cJ cZ oA rA u_57.2]) (bs' := [b_e cB cC cI cJ cZ oA rA (mrg (fun j => j == 10 || j == 9 || j == 8 || j == 4 || j == 5 || j == 6 || j == 7) σ_42 u_57.2), b_k cB cC cI cJ cZ oA rA (mrg (fun j => j == 10 || j == 9 || j == 8 || j == 4 || j == 5 || j == 6 || j == 7) σ_42 u_57.2), b_p cB cC cI cJ cZ oA rA (mrg (fun j => j == 10 || j == 9 || j == 8 || j == 4 || j == 5 || j == 6 || j == 7) σ_42 u_57.2), b_o cB cC cI cJ cZ oA rA (mrg (fun j => j == 10 || j == 9 || j == 8 || j == 4 || j == 5 || j == 6 || j == 7) σ_42 u_57.2), b_s cB cC cI cJ cZ oA rA (mrg (fun j => j == 10 || j == 9 || j == 8 || j == 4 || j == 5 || j == 6 || j == 7) σ_42 u_57.2), b_c cB cC cI cJ cZ oA rA (mrg (fun j => j == 10 || j == 9 || j == 8 || j == 4 || j == 5 || j == 6 || j == 7) σ_42 u_57.2), b_t cB cC cI cJ cZ oA rA (mrg (fun j => j == 10 || j == 9 || j == 8 || j == 4 || j == 5 || j == 6 || j == 7) σ_42 u_57.2), b_d cB cC cI cJ cZ oA rA (mrg (fun j => j == 10 || j == 9 || j == 8 || j == 4 || j == 5 || j == 6 || j == 7) σ_42 u_57.2)]) hP' (fl_a fl_1 fl_7) fl_8 [0, 1, 2, 3, 4, 5, 6, 7] rfl
          clear hP' hD'
          refine lv_aload_n hx hb dX8_act_106 rfl (lv_at hl 0 rfl) ?_
          refine va_get (D := (dC, dI)) (ci := 8) (v := .ref (oA 8)) (C := RX8) (T := TX8) (N := 16) hx hb hts ii_X8 hown hK hP 0 rfl rfl 1 (by decide) (hts (.fieldLink RX8 26 "StoryHouse$Teller" "told" "LStoryHouse$Out;") wq_287) (fun _ h9 => h9) rfl dX8_act_107 ?_
          obtain ⟨q_61, vq_61, hRq_61, hSq_61⟩ := hE.2.2.2.2 _ (List.mem_of_getElem? (i := 45) rfl)
          refine va_ldcS (own := RX8) (tx := ": ") hx hb hown hRq_61 dX8_act_110 ?_
          obtain ⟨u_62, hu_62, hF_63⟩ := Option.bind_eq_some_iff.mp hF_60
          clear hF_60
          have hPc := bx_P (bs := [b_e cB cC cI cJ cZ oA rA σ_59, b_k cB cC cI cJ cZ oA rA σ_59, b_p cB cC cI cJ cZ oA rA σ_59, b_o cB cC cI cJ cZ oA rA σ_59, b_s cB cC cI cJ cZ oA rA σ_59, b_c cB cC cI cJ cZ oA rA σ_59, b_t cB cC cI cJ cZ oA rA σ_59, b_d cB cC cI cJ cZ oA rA σ_59]) (bs' := [b_o cB cC cI cJ cZ oA rA σ_59]) (ws' := (b_o cB cC cI cJ cZ oA rA σ_59)) hP fl_8 fl_1 [3] rfl
          have hDc := bx_D (bs := [b_e cB cC cI cJ cZ oA rA σ_59, b_k cB cC cI cJ cZ oA rA σ_59, b_p cB cC cI cJ cZ oA rA σ_59, b_o cB cC cI cJ cZ oA rA σ_59, b_s cB cC cI cJ cZ oA rA σ_59, b_c cB cC cI cJ cZ oA rA σ_59, b_t cB cC cI cJ cZ oA rA σ_59, b_d cB cC cI cJ cZ oA rA σ_59]) (bs' := [b_o cB cC cI cJ cZ oA rA σ_59]) (ws' := (b_o cB cC cI cJ cZ oA rA σ_59)) (hDD σ_59) fl_8 fl_1 [3] (by decide +kernel) rfl
          have hFc := bx_F (bs := [b_e cB cC cI cJ cZ oA rA σ_59, b_k cB cC cI cJ cZ oA rA σ_59, b_p cB cC cI cJ cZ oA rA σ_59, b_o cB cC cI cJ cZ oA rA σ_59, b_s cB cC cI cJ cZ oA rA σ_59, b_c cB cC cI cJ cZ oA rA σ_59, b_t cB cC cI cJ cZ oA rA σ_59, b_d cB cC cI cJ cZ oA rA σ_59]) (bs' := [b_o cB cC cI cJ cZ oA rA σ_59]) (wc := (b_o cB cC cI cJ cZ oA rA σ_59)) (hDD σ_59) hS hA fl_8 fl_1 [3] rfl
          refine g_ofv (wc := (b_o cB cC cI cJ cZ oA rA σ_59)) (wr := (b_e cB cC cI cJ cZ oA rA σ_59 ++ b_k cB cC cI cJ cZ oA rA σ_59 ++ b_p cB cC cI cJ cZ oA rA σ_59 ++ b_s cB cC cI cJ cZ oA rA σ_59 ++ b_c cB cC cI cJ cZ oA rA σ_59 ++ b_t cB cC cI cJ cZ oA rA σ_59 ++ b_d cB cC cI cJ cZ oA rA σ_59)) hP (hDD σ_59) hS hFc (bx_ix [b_e cB cC cI cJ cZ oA rA σ_59, b_k cB cC cI cJ cZ oA rA σ_59, b_p cB cC cI cJ cZ oA rA σ_59, b_o cB cC cI cJ cZ oA rA σ_59, b_s cB cC cI cJ cZ oA rA σ_59, b_c cB cC cI cJ cZ oA rA σ_59, b_t cB cC cI cJ cZ oA rA σ_59, b_d cB cC cI cJ cZ oA rA σ_59] [3]) (bx_ix [b_e cB cC cI cJ cZ oA rA σ_59, b_k cB cC cI cJ cZ oA rA σ_59, b_p cB cC cI cJ cZ oA rA σ_59, b_o cB cC cI cJ cZ oA rA σ_59, b_s cB cC cI cJ cZ oA rA σ_59, b_c cB cC cI cJ cZ oA rA σ_59, b_t cB cC cI cJ cZ oA rA σ_59, b_d cB cC cI cJ cZ oA rA σ_59] [0, 1, 2, 4, 5, 6, 7]) (bx_C (bs := [b_e cB cC cI cJ cZ oA rA σ_59, b_k cB cC cI cJ cZ oA rA σ_59, b_p cB cC cI cJ cZ oA rA σ_59, b_o cB cC cI cJ cZ oA rA σ_59, b_s cB cC cI cJ cZ oA rA σ_59, b_c cB cC cI cJ cZ oA rA σ_59, b_t cB cC cI cJ cZ oA rA σ_59, b_d cB cC cI cJ cZ oA rA σ_59]) (bs' := [b_o cB cC cI cJ cZ oA rA σ_59]) (is := [3]) fl_8 fl_1 rfl) (bx_C (bs := [b_e cB cC cI cJ cZ oA rA σ_59, b_k cB cC cI cJ cZ oA rA σ_59, b_p cB cC cI cJ cZ oA rA σ_59, b_o cB cC cI cJ cZ oA rA σ_59, b_s cB cC cI cJ cZ oA rA σ_59, b_c cB cC cI cJ cZ oA rA σ_59, b_t cB cC cI cJ cZ oA rA σ_59, b_d cB cC cI cJ cZ oA rA σ_59]) (bs' := [b_e cB cC cI cJ cZ oA rA σ_59, b_k cB cC cI cJ cZ oA rA σ_59, b_p cB cC cI cJ cZ oA rA σ_59, b_s cB cC cI cJ cZ oA rA σ_59, b_c cB cC cI cJ cZ oA rA σ_59, b_t cB cC cI cJ cZ oA rA σ_59, b_d cB cC cI cJ cZ oA rA σ_59]) (is := [0, 1, 2, 4, 5, 6, 7]) fl_8 fl_7 rfl) (bx_n (by decide +kernel)) (bx_d (by decide +kernel)) (va_runV (As := [.ref q_61]) (rest := []) ⟨hx, hb, hml, hown, hts⟩ (k_X5_text l dC dI cB cC cI cJ cZ cP oA rA H.size q_61 _ ([58, 32] : List Int32) σ_59 _ hu_62) (cwV 1 hts (g_gV wq_1031 wq_1003 wq_1004 wq_9 wq_1005) rfl rfl rfl (by decide +kernel) ⟨Nat.le_of_ble_eq_true rfl, Nat.le_of_ble_eq_true rfl⟩) (g_preV g_blS hK hPc hDc hS hE hFc (g_toS hSq_61 hS hFc) (q0 := 0) (ci := 5) rfl rfl) rfl rfl hl.1 rfl (lv_room (Nat.le_of_ble_eq_true rfl)) dX8_act_112 ⟨Nat.le_of_ble_eq_true rfl, Nat.le_of_ble_eq_true rfl⟩) (fun u9 H locs hw9 hP' hD' hS => ?_)
          clear hPc hDc hFc
          obtain ⟨σ_64, eσ_64, hF_65⟩ := bnd_e hF_63
          clear hF_63
          have hP : va_P (dC, dI) vwCl (b_e cB cC cI cJ cZ oA rA σ_64 ++ b_k cB cC cI cJ cZ oA rA σ_64 ++ b_p cB cC cI cJ cZ oA rA σ_64 ++ b_o cB cC cI cJ cZ oA rA σ_64 ++ b_s cB cC cI cJ cZ oA rA σ_64 ++ b_c cB cC cI cJ cZ oA rA σ_64 ++ b_t cB cC cI cJ cZ oA rA σ_64 ++ b_d cB cC cI cJ cZ oA rA σ_64) H := by rw [eσ_64]; exact bx_P (bs := [b_e cB cC cI cJ cZ oA rA σ_59, b_k cB cC cI cJ cZ oA rA σ_59, b_p cB cC cI cJ cZ oA rA σ_59, b_s cB cC cI cJ cZ oA rA σ_59, b_c cB cC cI cJ cZ oA rA σ_59, b_t cB cC cI cJ cZ oA rA σ_59, b_d cB cC cI cJ cZ oA rA σ_59] ++ [b_o cB cC cI cJ cZ oA rA u_62.2]) (bs' := [b_e cB cC cI cJ cZ oA rA (mrg (fun j => j == 8) σ_59 u_62.2), b_k cB cC cI cJ cZ oA rA (mrg (fun j => j == 8) σ_59 u_62.2), b_p cB cC cI cJ cZ oA rA (mrg (fun j => j == 8) σ_59 u_62.2), b_o cB cC cI cJ cZ oA rA (mrg (fun j => j == 8) σ_59 u_62.2), b_s cB cC cI cJ cZ oA rA (mrg (fun j => j == 8) σ_59 u_62.2), b_c cB cC cI cJ cZ oA rA (mrg (fun j => j == 8) σ_59 u_62.2), b_t cB cC cI cJ cZ oA rA (mrg (fun j => j == 8) σ_59 u_62.2), b_d cB cC cI cJ cZ oA rA (mrg (fun j => j == 8) σ_59 u_62.2)]) hP' (fl_a fl_7 fl_1) fl_8 [0, 1, 2, 7, 3, 4, 5, 6] rfl
          clear hP' hD'
          refine lv_aload_n hx hb dX8_act_115 rfl (lv_at hl 0 rfl) ?_
          obtain ⟨u_66, hu_66, hF_67⟩ := Option.bind_eq_some_iff.mp hF_65
          clear hF_65
          have hPc := bx_P (bs := [b_e cB cC cI cJ cZ oA rA σ_64, b_k cB cC cI cJ cZ oA rA σ_64, b_p cB cC cI cJ cZ oA rA σ_64, b_o cB cC cI cJ cZ oA rA σ_64, b_s cB cC cI cJ cZ oA rA σ_64, b_c cB cC cI cJ cZ oA rA σ_64, b_t cB cC cI cJ cZ oA rA σ_64, b_d cB cC cI cJ cZ oA rA σ_64]) (bs' := [b_e cB cC cI cJ cZ oA rA σ_64, b_k cB cC cI cJ cZ oA rA σ_64, b_p cB cC cI cJ cZ oA rA σ_64, b_o cB cC cI cJ cZ oA rA σ_64, b_s cB cC cI cJ cZ oA rA σ_64, b_c cB cC cI cJ cZ oA rA σ_64, b_t cB cC cI cJ cZ oA rA σ_64, b_d cB cC cI cJ cZ oA rA σ_64]) (ws' := (b_e cB cC cI cJ cZ oA rA σ_64 ++ b_k cB cC cI cJ cZ oA rA σ_64 ++ b_p cB cC cI cJ cZ oA rA σ_64 ++ b_o cB cC cI cJ cZ oA rA σ_64 ++ b_s cB cC cI cJ cZ oA rA σ_64 ++ b_c cB cC cI cJ cZ oA rA σ_64 ++ b_t cB cC cI cJ cZ oA rA σ_64 ++ b_d cB cC cI cJ cZ oA rA σ_64)) hP fl_8 fl_8 [0, 1, 2, 3, 4, 5, 6, 7] rfl
          have hDc := bx_D (bs := [b_e cB cC cI cJ cZ oA rA σ_64, b_k cB cC cI cJ cZ oA rA σ_64, b_p cB cC cI cJ cZ oA rA σ_64, b_o cB cC cI cJ cZ oA rA σ_64, b_s cB cC cI cJ cZ oA rA σ_64, b_c cB cC cI cJ cZ oA rA σ_64, b_t cB cC cI cJ cZ oA rA σ_64, b_d cB cC cI cJ cZ oA rA σ_64]) (bs' := [b_e cB cC cI cJ cZ oA rA σ_64, b_k cB cC cI cJ cZ oA rA σ_64, b_p cB cC cI cJ cZ oA rA σ_64, b_o cB cC cI cJ cZ oA rA σ_64, b_s cB cC cI cJ cZ oA rA σ_64, b_c cB cC cI cJ cZ oA rA σ_64, b_t cB cC cI cJ cZ oA rA σ_64, b_d cB cC cI cJ cZ oA rA σ_64]) (ws' := (b_e cB cC cI cJ cZ oA rA σ_64 ++ b_k cB cC cI cJ cZ oA rA σ_64 ++ b_p cB cC cI cJ cZ oA rA σ_64 ++ b_o cB cC cI cJ cZ oA rA σ_64 ++ b_s cB cC cI cJ cZ oA rA σ_64 ++ b_c cB cC cI cJ cZ oA rA σ_64 ++ b_t cB cC cI cJ cZ oA rA σ_64 ++ b_d cB cC cI cJ cZ oA rA σ_64)) (hDD σ_64) fl_8 fl_8 [0, 1, 2, 3, 4, 5, 6, 7] (by decide +kernel) rfl
          have hFc := bx_F (bs := [b_e cB cC cI cJ cZ oA rA σ_64, b_k cB cC cI cJ cZ oA rA σ_64, b_p cB cC cI cJ cZ oA rA σ_64, b_o cB cC cI cJ cZ oA rA σ_64, b_s cB cC cI cJ cZ oA rA σ_64, b_c cB cC cI cJ cZ oA rA σ_64, b_t cB cC cI cJ cZ oA rA σ_64, b_d cB cC cI cJ cZ oA rA σ_64]) (bs' := [b_e cB cC cI cJ cZ oA rA σ_64, b_k cB cC cI cJ cZ oA rA σ_64, b_p cB cC cI cJ cZ oA rA σ_64, b_o cB cC cI cJ cZ oA rA σ_64, b_s cB cC cI cJ cZ oA rA σ_64, b_c cB cC cI cJ cZ oA rA σ_64, b_t cB cC cI cJ cZ oA rA σ_64, b_d cB cC cI cJ cZ oA rA σ_64]) (wc := (b_e cB cC cI cJ cZ oA rA σ_64 ++ b_k cB cC cI cJ cZ oA rA σ_64 ++ b_p cB cC cI cJ cZ oA rA σ_64 ++ b_o cB cC cI cJ cZ oA rA σ_64 ++ b_s cB cC cI cJ cZ oA rA σ_64 ++ b_c cB cC cI cJ cZ oA rA σ_64 ++ b_t cB cC cI cJ cZ oA rA σ_64 ++ b_d cB cC cI cJ cZ oA rA σ_64)) (hDD σ_64) hS hA fl_8 fl_8 [0, 1, 2, 3, 4, 5, 6, 7] rfl
          refine g_ofi (wc := (b_e cB cC cI cJ cZ oA rA σ_64 ++ b_k cB cC cI cJ cZ oA rA σ_64 ++ b_p cB cC cI cJ cZ oA rA σ_64 ++ b_o cB cC cI cJ cZ oA rA σ_64 ++ b_s cB cC cI cJ cZ oA rA σ_64 ++ b_c cB cC cI cJ cZ oA rA σ_64 ++ b_t cB cC cI cJ cZ oA rA σ_64 ++ b_d cB cC cI cJ cZ oA rA σ_64)) (wr := ([] : va_W)) hP (hDD σ_64) hS hFc (bx_ix [b_e cB cC cI cJ cZ oA rA σ_64, b_k cB cC cI cJ cZ oA rA σ_64, b_p cB cC cI cJ cZ oA rA σ_64, b_o cB cC cI cJ cZ oA rA σ_64, b_s cB cC cI cJ cZ oA rA σ_64, b_c cB cC cI cJ cZ oA rA σ_64, b_t cB cC cI cJ cZ oA rA σ_64, b_d cB cC cI cJ cZ oA rA σ_64] [0, 1, 2, 3, 4, 5, 6, 7]) (bx_ix [b_e cB cC cI cJ cZ oA rA σ_64, b_k cB cC cI cJ cZ oA rA σ_64, b_p cB cC cI cJ cZ oA rA σ_64, b_o cB cC cI cJ cZ oA rA σ_64, b_s cB cC cI cJ cZ oA rA σ_64, b_c cB cC cI cJ cZ oA rA σ_64, b_t cB cC cI cJ cZ oA rA σ_64, b_d cB cC cI cJ cZ oA rA σ_64] []) (bx_C (bs := [b_e cB cC cI cJ cZ oA rA σ_64, b_k cB cC cI cJ cZ oA rA σ_64, b_p cB cC cI cJ cZ oA rA σ_64, b_o cB cC cI cJ cZ oA rA σ_64, b_s cB cC cI cJ cZ oA rA σ_64, b_c cB cC cI cJ cZ oA rA σ_64, b_t cB cC cI cJ cZ oA rA σ_64, b_d cB cC cI cJ cZ oA rA σ_64]) (bs' := [b_e cB cC cI cJ cZ oA rA σ_64, b_k cB cC cI cJ cZ oA rA σ_64, b_p cB cC cI cJ cZ oA rA σ_64, b_o cB cC cI cJ cZ oA rA σ_64, b_s cB cC cI cJ cZ oA rA σ_64, b_c cB cC cI cJ cZ oA rA σ_64, b_t cB cC cI cJ cZ oA rA σ_64, b_d cB cC cI cJ cZ oA rA σ_64]) (is := [0, 1, 2, 3, 4, 5, 6, 7]) fl_8 fl_8 rfl) (bx_C (bs := [b_e cB cC cI cJ cZ oA rA σ_64, b_k cB cC cI cJ cZ oA rA σ_64, b_p cB cC cI cJ cZ oA rA σ_64, b_o cB cC cI cJ cZ oA rA σ_64, b_s cB cC cI cJ cZ oA rA σ_64, b_c cB cC cI cJ cZ oA rA σ_64, b_t cB cC cI cJ cZ oA rA σ_64, b_d cB cC cI cJ cZ oA rA σ_64]) (bs' := []) (is := []) fl_8 fl_0 rfl) (bx_n (by decide +kernel)) (bx_d (by decide +kernel)) (va_runV (As := []) (rest := []) ⟨hx, hb, hml, hown, hts⟩ (k_X8_perform l dC dI cB cC cI cJ cZ cP oA rA H.size  σ_64 _ hu_66) (cwV 0 hts (g_gV wq_1118 wq_1119 wq_2082 wq_12 wq_1120) rfl rfl rfl (by decide +kernel) ⟨Nat.le_of_ble_eq_true rfl, Nat.le_of_ble_eq_true rfl⟩) (g_preV g_bl0 hK hPc hDc hS hE hFc g_to0 (q0 := 0) (ci := 8) rfl rfl) rfl rfl hl.1 rfl (lv_room (Nat.le_of_ble_eq_true rfl)) dX8_act_116 ⟨Nat.le_of_ble_eq_true rfl, Nat.le_of_ble_eq_true rfl⟩) (fun r9 u9 H locs hw9 hP' hD' hS => ?_)
          clear hPc hDc hFc
          subst hw9
          have hP : va_P (dC, dI) vwCl (b_e cB cC cI cJ cZ oA rA u_66.2 ++ b_k cB cC cI cJ cZ oA rA u_66.2 ++ b_p cB cC cI cJ cZ oA rA u_66.2 ++ b_o cB cC cI cJ cZ oA rA u_66.2 ++ b_s cB cC cI cJ cZ oA rA u_66.2 ++ b_c cB cC cI cJ cZ oA rA u_66.2 ++ b_t cB cC cI cJ cZ oA rA u_66.2 ++ b_d cB cC cI cJ cZ oA rA u_66.2) H := hP'
          clear hP' hD'
          refine lv_istore_n (lv' := [(1, .int u_66.1), (0, .ref (oA 11)), (2, .int s_26.2.1)]) hx hb dX8_act_119 rfl hl (by decide) rfl (fun ls hl => ?_)
          exact Jj_50 u_66.1 u_66.2 hF_67 _ _ hP hS ls (lv_sub hl [1, 0, 2] rfl)
