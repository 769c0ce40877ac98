/-! methods of the class: what each does is its function -/
theorem dX4_whatOf_0 : decode cX4_whatOf 0 = .ok (.aload_n 0, 1) := by decide +kernel
theorem dX4_whatOf_1 : decode cX4_whatOf 1 = .ok (.getfield 32, 3) := by decide +kernel
theorem dX4_whatOf_4 : decode cX4_whatOf 4 = .ok (.iload_n 2, 1) := by decide +kernel
theorem dX4_whatOf_5 : decode cX4_whatOf 5 = .ok (.invokevirtual 116, 3) := by decide +kernel
theorem dX4_whatOf_8 : decode cX4_whatOf 8 = .ok (.istore 4, 2) := by decide +kernel
theorem dX4_whatOf_10 : decode cX4_whatOf 10 = .ok (.iload 4, 2) := by decide +kernel
theorem dX4_whatOf_12 : decode cX4_whatOf 12 = .ok (.bipush 123, 2) := by decide +kernel
theorem dX4_whatOf_14 : decode cX4_whatOf 14 = .ok (.if_icmp .ne 5, 3) := by decide +kernel
theorem dX4_whatOf_17 : decode cX4_whatOf 17 = .ok (.iconst (-1), 1) := by decide +kernel
theorem dX4_whatOf_18 : decode cX4_whatOf 18 = .ok (.ireturn, 1) := by decide +kernel
theorem dX4_whatOf_19 : decode cX4_whatOf 19 = .ok (.iload_n 3, 1) := by decide +kernel
theorem dX4_whatOf_20 : decode cX4_whatOf 20 = .ok (.aload_n 0, 1) := by decide +kernel
theorem dX4_whatOf_21 : decode cX4_whatOf 21 = .ok (.getfield 36, 3) := by decide +kernel
theorem dX4_whatOf_24 : decode cX4_whatOf 24 = .ok (.getfield 168, 3) := by decide +kernel
theorem dX4_whatOf_27 : decode cX4_whatOf 27 = .ok (.iload_n 1, 1) := by decide +kernel
theorem dX4_whatOf_28 : decode cX4_whatOf 28 = .ok (.invokestatic 122, 3) := by decide +kernel
theorem dX4_whatOf_31 : decode cX4_whatOf 31 = .ok (.if_icmp .le 9, 3) := by decide +kernel
theorem dX4_whatOf_34 : decode cX4_whatOf 34 = .ok (.aload_n 0, 1) := by decide +kernel
theorem dX4_whatOf_35 : decode cX4_whatOf 35 = .ok (.iconst 3, 1) := by decide +kernel
theorem dX4_whatOf_36 : decode cX4_whatOf 36 = .ok (.iload_n 2, 1) := by decide +kernel
theorem dX4_whatOf_37 : decode cX4_whatOf 37 = .ok (.invokevirtual 84, 3) := by decide +kernel
theorem dX4_whatOf_40 : decode cX4_whatOf 40 = .ok (.iload 4, 2) := by decide +kernel
theorem dX4_whatOf_42 : decode cX4_whatOf 42 = .ok (.sipush 255, 3) := by decide +kernel
theorem dX4_whatOf_45 : decode cX4_whatOf 45 = .ok (.if_icmp .ne 5, 3) := by decide +kernel
theorem dX4_whatOf_48 : decode cX4_whatOf 48 = .ok (.iconst 0, 1) := by decide +kernel
theorem dX4_whatOf_49 : decode cX4_whatOf 49 = .ok (.ireturn, 1) := by decide +kernel
theorem dX4_whatOf_50 : decode cX4_whatOf 50 = .ok (.iload_n 1, 1) := by decide +kernel
theorem dX4_whatOf_51 : decode cX4_whatOf 51 = .ok (.bipush 11, 2) := by decide +kernel
theorem dX4_whatOf_53 : decode cX4_whatOf 53 = .ok (.if_icmp .ne 28, 3) := by decide +kernel
theorem dX4_whatOf_56 : decode cX4_whatOf 56 = .ok (.iload 4, 2) := by decide +kernel
theorem dX4_whatOf_58 : decode cX4_whatOf 58 = .ok (.sipush 200, 3) := by decide +kernel
theorem dX4_whatOf_61 : decode cX4_whatOf 61 = .ok (.if_icmp .lt 20, 3) := by decide +kernel
theorem dX4_whatOf_64 : decode cX4_whatOf 64 = .ok (.iload 4, 2) := by decide +kernel
theorem dX4_whatOf_66 : decode cX4_whatOf 66 = .ok (.sipush 205, 3) := by decide +kernel
theorem dX4_whatOf_69 : decode cX4_whatOf 69 = .ok (.if_icmp .gt 12, 3) := by decide +kernel
theorem dX4_whatOf_72 : decode cX4_whatOf 72 = .ok (.iload 4, 2) := by decide +kernel
theorem dX4_whatOf_74 : decode cX4_whatOf 74 = .ok (.sipush 200, 3) := by decide +kernel
theorem dX4_whatOf_77 : decode cX4_whatOf 77 = .ok (.isub, 1) := by decide +kernel
theorem dX4_whatOf_78 : decode cX4_whatOf 78 = .ok (.iconst 1, 1) := by decide +kernel
theorem dX4_whatOf_79 : decode cX4_whatOf 79 = .ok (.iadd, 1) := by decide +kernel
theorem dX4_whatOf_80 : decode cX4_whatOf 80 = .ok (.ireturn, 1) := by decide +kernel
theorem dX4_whatOf_81 : decode cX4_whatOf 81 = .ok (.iload_n 1, 1) := by decide +kernel
theorem dX4_whatOf_82 : decode cX4_whatOf 82 = .ok (.bipush 11, 2) := by decide +kernel
theorem dX4_whatOf_84 : decode cX4_whatOf 84 = .ok (.if_icmp .eq 13, 3) := by decide +kernel
theorem dX4_whatOf_87 : decode cX4_whatOf 87 = .ok (.iload 4, 2) := by decide +kernel
theorem dX4_whatOf_89 : decode cX4_whatOf 89 = .ok (.sipush 228, 3) := by decide +kernel
theorem dX4_whatOf_92 : decode cX4_whatOf 92 = .ok (.if_icmp .ne 5, 3) := by decide +kernel
theorem dX4_whatOf_95 : decode cX4_whatOf 95 = .ok (.iconst 1, 1) := by decide +kernel
theorem dX4_whatOf_96 : decode cX4_whatOf 96 = .ok (.ireturn, 1) := by decide +kernel
theorem dX4_whatOf_97 : decode cX4_whatOf 97 = .ok (.iload_n 1, 1) := by decide +kernel
theorem dX4_whatOf_98 : decode cX4_whatOf 98 = .ok (.bipush 11, 2) := by decide +kernel
theorem dX4_whatOf_100 : decode cX4_whatOf 100 = .ok (.if_icmp .eq 12, 3) := by decide +kernel
theorem dX4_whatOf_103 : decode cX4_whatOf 103 = .ok (.aload_n 0, 1) := by decide +kernel
theorem dX4_whatOf_104 : decode cX4_whatOf 104 = .ok (.iload_n 2, 1) := by decide +kernel
theorem dX4_whatOf_105 : decode cX4_whatOf 105 = .ok (.invokevirtual 221, 3) := by decide +kernel
theorem dX4_whatOf_108 : decode cX4_whatOf 108 = .ok (.iconst 2, 1) := by decide +kernel
theorem dX4_whatOf_109 : decode cX4_whatOf 109 = .ok (.if_icmp .eq 9, 3) := by decide +kernel
theorem dX4_whatOf_112 : decode cX4_whatOf 112 = .ok (.aload_n 0, 1) := by decide +kernel
theorem dX4_whatOf_113 : decode cX4_whatOf 113 = .ok (.iconst 3, 1) := by decide +kernel
theorem dX4_whatOf_114 : decode cX4_whatOf 114 = .ok (.iload_n 2, 1) := by decide +kernel
theorem dX4_whatOf_115 : decode cX4_whatOf 115 = .ok (.invokevirtual 84, 3) := by decide +kernel
theorem dX4_whatOf_118 : decode cX4_whatOf 118 = .ok (.aload_n 0, 1) := by decide +kernel
theorem dX4_whatOf_119 : decode cX4_whatOf 119 = .ok (.iload_n 2, 1) := by decide +kernel
theorem dX4_whatOf_120 : decode cX4_whatOf 120 = .ok (.invokevirtual 193, 3) := by decide +kernel
theorem dX4_whatOf_123 : decode cX4_whatOf 123 = .ok (.ireturn, 1) := by decide +kernel
def F_X4_whatOf (p0 : Int32) (p1 : Int32) (p2 : Int32) (Γ : HS) : HR :=
  (F_X10_kindOf p1 Γ).bind fun u_1 =>
  bnd (mrg (fun j => j == 1) Γ u_1.2) fun σ_3 =>
  if u_1.1 = 123 then (
    some ((-1), σ_3)
  ) else (
    bnd ((g_at 61 ((σ_3 4).2.1 7) p0)) fun (x_8 : Int32) =>
    bnd (fun  (σ_10 : HS) => (
      if u_1.1 = 255 then (
        some (0, σ_10)
      ) else (
        bnd (fun  (σ_17 : HS) => (
          bnd (fun  (σ_21 : HS) => (
            bnd (fun  (σ_25 : HS) => (
              (F_X4_numberOf p1 σ_25).bind fun u_29 =>
              some (u_29.1, u_29.2)
            ) : HS → HR) fun j_26 =>
            bnd (fun  (σ_31 : HS) => (
              (F_X4_fail 3 p1 σ_31).bind fun u_35 =>
              j_26  u_35.2
            ) : HS → HR) fun j_32 =>
            if p0 = 11 then (
              j_32  σ_21
            ) else (
              (F_X4_sortOf p1 σ_21).bind fun u_40 =>
              if u_40.1 = 2 then (
                j_26  u_40.2
              ) else (
                j_32  u_40.2
              )
            )
          ) : HS → HR) fun j_22 =>
          if p0 = 11 then (
            j_22  σ_17
          ) else (
            if u_1.1 = 228 then (
              some (1, σ_17)
            ) else (
              j_22  σ_17
            )
          )
        ) : HS → HR) fun j_18 =>
        if p0 = 11 then (
          if u_1.1 < 200 then (
            j_18  σ_10
          ) else (
            if 205 < u_1.1 then (
              j_18  σ_10
            ) else (
              some (((u_1.1 - 200) + 1), σ_10)
            )
          )
        ) else (
          j_18  σ_10
        )
      )
    ) : HS → HR) fun j_11 =>
    if p2 ≤ x_8 then (
      j_11  σ_3
    ) else (
      (F_X4_fail 3 p1 σ_3).bind fun u_63 =>
      j_11  u_63.2
    )
  )
set_option maxHeartbeats 4000000 in
set_option maxRecDepth 100000 in
theorem k_X4_whatOf (l : Launch) (dC : Nat → ClassId) (dI : Nat → Nat → Nat) (cB cC cI cJ cZ cP : ClassId) (oA : Nat → Nat) (rA : Nat → Nat → Nat) (sz : Nat)  (p0 : Int32) (p1 : Int32) (p2 : Int32) (Γ : HS) (res : Int32 × HS) (hF : F_X4_whatOf p0 p1 p2 Γ = some res) : Met l yX4_whatOf (g_ws yX4_whatOf cX4_whatOf 5 (some .int)) ({ frames := 5, cells := 0, slots := 0, locals := 124 }) (va_Pc [.ref (oA 3), .int p0, .int p1, .int p2] (g_B (dC, dI) [(cB, .byte), (cC, .char), (cI, .int), (cJ, .long), (cZ, .boolean), (cP, .object "StoryHouse$Play")] sz (b_m cB cC cI cJ cZ oA rA Γ ++ b_w cB cC cI cJ cZ oA rA Γ ++ b_s cB cC cI cJ cZ oA rA Γ ++ b_c cB cC cI cJ cZ oA rA Γ ++ b_t cB cC cI cJ cZ oA rA Γ ++ b_d cB cC cI cJ cZ oA rA Γ) g_0)) (va_Qi (fun r (_ : Unit) => r = res.1) (g_Bo (dC, dI) (va_A (b_m cB cC cI cJ cZ oA rA Γ ++ b_w cB cC cI cJ cZ oA rA Γ ++ b_s cB cC cI cJ cZ oA rA Γ ++ b_c cB cC cI cJ cZ oA rA Γ ++ b_t cB cC cI cJ cZ oA rA Γ ++ b_d cB cC cI cJ cZ oA rA Γ) sz) (fun (_ : Unit) => (b_m cB cC cI cJ cZ oA rA res.2 ++ b_w cB cC cI cJ cZ oA rA res.2 ++ b_s cB cC cI cJ cZ oA rA res.2 ++ b_c cB cC cI cJ cZ oA rA res.2 ++ b_t cB cC cI cJ cZ oA rA res.2 ++ b_d cB cC cI cJ cZ oA rA res.2))) (va_A (b_m cB cC cI cJ cZ oA rA Γ ++ b_w cB cC cI cJ cZ oA rA Γ ++ b_s cB cC cI cJ cZ oA rA Γ ++ b_c cB cC cI cJ cZ oA rA Γ ++ b_t cB cC cI cJ cZ oA rA Γ ++ b_d cB cC cI cJ cZ oA rA Γ) sz)) 0 0 (va_A (b_m cB cC cI cJ cZ oA rA Γ ++ b_w cB cC cI cJ cZ oA rA Γ ++ b_s cB cC cI cJ cZ oA rA Γ ++ b_c cB cC cI cJ cZ oA rA Γ ++ b_t cB cC cI cJ cZ oA rA Γ ++ b_d cB cC cI cJ cZ oA rA Γ) sz) := by
  refine Met.ofW (cc := cX4_whatOf) (maxL := 5) (ret := (some .int)) (by decide) rfl ?_
  intro p e s m args below meth c s₁ B hml hv
  obtain ⟨rfl, hsz, hP, hK, hD0, hE, hX⟩ := hv
  have hx := B.exec
  have hb := B.bytes
  have hr := B.returns
  have hts0 := atoms_spec (ws := g_ws yX4_whatOf cX4_whatOf 5 (some .int)) B.pre
  have hts : ∀ w ∈ lw_good, w.before ([.ref (oA 3), .int p0, .int p1, .int p2] : List Value).toArray s = true := fun w z => hts0 w (List.mem_cons_of_mem _ z)
  have hown : s.vm.findClass RX4 = some m.cls := findClass_of_methodNamed B.named
  have hlocks := B.notSynchronized
  subst hsz
  have hD1 := hD0.self (sz := s.heap.size)
  generalize hAe : va_A (b_m cB cC cI cJ cZ oA rA Γ ++ b_w cB cC cI cJ cZ oA rA Γ ++ b_s cB cC cI cJ cZ oA rA Γ ++ b_c cB cC cI cJ cZ oA rA Γ ++ b_t cB cC cI cJ cZ oA rA Γ ++ b_d cB cC cI cJ cZ oA rA Γ) s.heap.size = A at hD1 hE hX ⊢
  have hA : ∀ q : Nat, s.heap.size ≤ q → A q := fun q z => by rw [← hAe]; exact Or.inr z
  have hDD : ∀ Γ : HS, va_D A (b_m cB cC cI cJ cZ oA rA Γ ++ b_w cB cC cI cJ cZ oA rA Γ ++ b_s cB cC cI cJ cZ oA rA Γ ++ b_c cB cC cI cJ cZ oA rA Γ ++ b_t cB cC cI cJ cZ oA rA Γ ++ b_d cB cC cI cJ cZ oA rA Γ) := fun Γ9 => va_D_fst (ws := (b_m cB cC cI cJ cZ oA rA Γ ++ b_w cB cC cI cJ cZ oA rA Γ ++ b_s cB cC cI cJ cZ oA rA Γ ++ b_c cB cC cI cJ cZ oA rA Γ ++ b_t cB cC cI cJ cZ oA rA Γ ++ b_d cB cC cI cJ cZ oA rA Γ)) (ws' := (b_m cB cC cI cJ cZ oA rA Γ9 ++ b_w cB cC cI cJ cZ oA rA Γ9 ++ b_s cB cC cI cJ cZ oA rA Γ9 ++ b_c cB cC cI cJ cZ oA rA Γ9 ++ b_t cB cC cI cJ cZ oA rA Γ9 ++ b_d cB cC cI cJ cZ oA rA Γ9)) rfl hD1
  have hN := hE.1
  have hS : va_S A s.heap s.heap [] := va_S.rf
  have hl := lv_entry ([.ref (oA 3), .int p0, .int p1, .int p2]) (n := 5) (Nat.le_of_ble_eq_true rfl)
  rw [lg_entry_eq]
  generalize (lg_sl ([.ref (oA 3), .int p0, .int p1, .int p2]) ++ List.replicate (5 - (lg_sl ([.ref (oA 3), .int p0, .int p1, .int p2])).length) Slot.unset).toArray = ls at hl ⊢
  have hl : lv_has ls 5 [(0, .ref (oA 3)), (1, .int p0), (2, .int p1), (3, .int p2)] := hl
  unfold F_X4_whatOf at hF
  refine lv_aload_n hx hb dX4_whatOf_0 rfl (lv_at hl 0 rfl) ?_
  refine va_get (D := (dC, dI)) (ci := 4) (v := .ref (oA 1)) (C := RX4) (T := TX4) (N := 18) hx hb hts ii_X4 hown hK hP 0 rfl rfl 0 (by decide) (hts (.fieldLink RX4 32 "StoryHouse$Meanings" "words" "LStoryHouse$Words;") wq_86) (fun _ h9 => h9) rfl dX4_whatOf_1 ?_
  refine lv_iload_n hx hb dX4_whatOf_4 rfl (lv_at hl 2 rfl) ?_
  obtain ⟨u_1, hu_1, hF_2⟩ := Option.bind_eq_some_iff.mp hF
  clear hF
  have hPc := bx_P (bs := [b_m cB cC cI cJ cZ oA rA Γ, b_w cB cC cI cJ cZ oA rA Γ, b_s cB cC cI cJ cZ oA rA Γ, b_c cB cC cI cJ cZ oA rA Γ, b_t cB cC cI cJ cZ oA rA Γ, b_d cB cC cI cJ cZ oA rA Γ]) (bs' := [b_w cB cC cI cJ cZ oA rA Γ]) (ws' := (b_w cB cC cI cJ cZ oA rA Γ)) hP fl_6 fl_1 [1] rfl
  have hDc := bx_D (bs := [b_m cB cC cI cJ cZ oA rA Γ, b_w cB cC cI cJ cZ oA rA Γ, b_s cB cC cI cJ cZ oA rA Γ, b_c cB cC cI cJ cZ oA rA Γ, b_t cB cC cI cJ cZ oA rA Γ, b_d cB cC cI cJ cZ oA rA Γ]) (bs' := [b_w cB cC cI cJ cZ oA rA Γ]) (ws' := (b_w cB cC cI cJ cZ oA rA Γ)) (hDD Γ) fl_6 fl_1 [1] (by decide +kernel) rfl
  have hFc := bx_F (bs := [b_m cB cC cI cJ cZ oA rA Γ, b_w cB cC cI cJ cZ oA rA Γ, b_s cB cC cI cJ cZ oA rA Γ, b_c cB cC cI cJ cZ oA rA Γ, b_t cB cC cI cJ cZ oA rA Γ, b_d cB cC cI cJ cZ oA rA Γ]) (bs' := [b_w cB cC cI cJ cZ oA rA Γ]) (wc := (b_w cB cC cI cJ cZ oA rA Γ)) (hDD Γ) hS hA fl_6 fl_1 [1] rfl
  refine g_ofi (wc := (b_w cB cC cI cJ cZ oA rA Γ)) (wr := (b_m cB cC cI cJ cZ oA rA Γ ++ b_s cB cC cI cJ cZ oA rA Γ ++ b_c cB cC cI cJ cZ oA rA Γ ++ b_t cB cC cI cJ cZ oA rA Γ ++ b_d cB cC cI cJ cZ oA rA Γ)) hP (hDD Γ) hS hFc (bx_ix [b_m cB cC cI cJ cZ oA rA Γ, b_w cB cC cI cJ cZ oA rA Γ, b_s cB cC cI cJ cZ oA rA Γ, b_c cB cC cI cJ cZ oA rA Γ, b_t cB cC cI cJ cZ oA rA Γ, b_d cB cC cI cJ cZ oA rA Γ] [1]) (bx_ix [b_m cB cC cI cJ cZ oA rA Γ, b_w cB cC cI cJ cZ oA rA Γ, b_s cB cC cI cJ cZ oA rA Γ, b_c cB cC cI cJ cZ oA rA Γ, b_t cB cC cI cJ cZ oA rA Γ, b_d cB cC cI cJ cZ oA rA Γ] [0, 2, 3, 4, 5]) (bx_C (bs := [b_m cB cC cI cJ cZ oA rA Γ, b_w cB cC cI cJ cZ oA rA Γ, b_s cB cC cI cJ cZ oA rA Γ, b_c cB cC cI cJ cZ oA rA Γ, b_t cB cC cI cJ cZ oA rA Γ, b_d cB cC cI cJ cZ oA rA Γ]) (bs' := [b_w cB cC cI cJ cZ oA rA Γ]) (is := [1]) fl_6 fl_1 rfl) (bx_C (bs := [b_m cB cC cI cJ cZ oA rA Γ, b_w cB cC cI cJ cZ oA rA Γ, b_s cB cC cI cJ cZ oA rA Γ, b_c cB cC cI cJ cZ oA rA Γ, b_t cB cC cI cJ cZ oA rA Γ, b_d cB cC cI cJ cZ oA rA Γ]) (bs' := [b_m cB cC cI cJ cZ oA rA Γ, b_s cB cC cI cJ cZ oA rA Γ, b_c cB cC cI cJ cZ oA rA Γ, b_t cB cC cI cJ cZ oA rA Γ, b_d cB cC cI cJ cZ oA rA Γ]) (is := [0, 2, 3, 4, 5]) fl_6 fl_5 rfl) (bx_n (by decide +kernel)) (bx_d (by decide +kernel)) (va_runV (As := [.int p1]) (rest := []) ⟨hx, hb, hml, hown, hts⟩ (k_X10_kindOf l dC dI cB cC cI cJ cZ cP oA rA s.heap.size  p1 Γ _ hu_1) (cwV 1 hts (g_gV wq_714 wq_543 wq_544 wq_2 wq_545) rfl rfl rfl (by decide +kernel) ⟨Nat.le_of_ble_eq_true rfl, Nat.le_of_ble_eq_true rfl⟩) (g_preV g_bl0 hK hPc hDc hS hE hFc g_to0 (q0 := 0) (ci := 10) rfl rfl) rfl rfl hl.1 rfl (lv_room (Nat.le_of_ble_eq_true rfl)) dX4_whatOf_5 ⟨Nat.le_of_ble_eq_true rfl, Nat.le_of_ble_eq_true rfl⟩) (fun r9 u9 H locs hw9 hP' hD' hS => ?_)
  clear hPc hDc hFc
  subst hw9
  obtain ⟨σ_3, eσ_3, hF_4⟩ := bnd_e hF_2
  clear hF_2
  have hP : va_P (dC, dI) vwCl (b_m cB cC cI cJ cZ oA rA σ_3 ++ b_w cB cC cI cJ cZ oA rA σ_3 ++ b_s cB cC cI cJ cZ oA rA σ_3 ++ b_c cB cC cI cJ cZ oA rA σ_3 ++ b_t cB cC cI cJ cZ oA rA σ_3 ++ b_d cB cC cI cJ cZ oA rA σ_3) H := by rw [eσ_3]; exact bx_P (bs := [b_m cB cC cI cJ cZ oA rA Γ, b_s cB cC cI cJ cZ oA rA Γ, b_c cB cC cI cJ cZ oA rA Γ, b_t cB cC cI cJ cZ oA rA Γ, b_d cB cC cI cJ cZ oA rA Γ] ++ [b_w cB cC cI cJ cZ oA rA u_1.2]) (bs' := [b_m cB cC cI cJ cZ oA rA (mrg (fun j => j == 1) Γ u_1.2), b_w cB cC cI cJ cZ oA rA (mrg (fun j => j == 1) Γ u_1.2), b_s cB cC cI cJ cZ oA rA (mrg (fun j => j == 1) Γ u_1.2), b_c cB cC cI cJ cZ oA rA (mrg (fun j => j == 1) Γ u_1.2), b_t cB cC cI cJ cZ oA rA (mrg (fun j => j == 1) Γ u_1.2), b_d cB cC cI cJ cZ oA rA (mrg (fun j => j == 1) Γ u_1.2)]) hP' (fl_a fl_5 fl_1) fl_6 [0, 5, 1, 2, 3, 4] rfl
  clear hP' hD'
  refine lv_istore (lv' := [(4, .int u_1.1), (0, .ref (oA 3)), (1, .int p0), (2, .int p1), (3, .int p2)]) hx hb dX4_whatOf_8 hl (by decide) rfl (fun ls hl => ?_)
  refine lv_iload hx hb dX4_whatOf_10 (lv_at hl 0 rfl) ?_
  refine lv_bipush (v := 123) hx hb dX4_whatOf_12 (by decide +kernel) ?_
  refine lv_icmp_ne (tgt := 19) hx hb dX4_whatOf_14 (by decide) (fun c_5 => ?_) (fun c_5 => ?_)
  · have hF_7 := ineg c_5 hF_4
    clear hF_4
    refine lv_iload_n hx hb dX4_whatOf_19 rfl (lv_at hl 4 rfl) ?_
    refine lv_aload_n hx hb dX4_whatOf_20 rfl (lv_at hl 1 rfl) ?_
    refine va_get (D := (dC, dI)) (ci := 4) (v := .ref (oA 4)) (C := RX4) (T := TX4) (N := 18) hx hb hts ii_X4 hown hK hP 0 rfl rfl 1 (by decide) (hts (.fieldLink RX4 36 "StoryHouse$Meanings" "story" "LStoryHouse$Story;") wq_87) (fun _ h9 => h9) rfl dX4_whatOf_21 ?_
    refine va_get (D := (dC, dI)) (ci := 7) (v := .ref (rA 4 7)) (C := RX7) (T := TX7) (N := 19) hx hb hts ii_X7 hown hK hP 16 rfl rfl 7 (by decide) (hts (.fieldLink RX4 168 "StoryHouse$Story" "forms" "[I") wq_171) (fun _ h9 => h9) rfl dX4_whatOf_24 ?_
    refine lv_iload_n hx hb dX4_whatOf_27 rfl (lv_at hl 2 rfl) ?_
    have hq9 : ((b_m cB cC cI cJ cZ oA rA σ_3 ++ b_w cB cC cI cJ cZ oA rA σ_3 ++ b_s cB cC cI cJ cZ oA rA σ_3 ++ b_c cB cC cI cJ cZ oA rA σ_3 ++ b_t cB cC cI cJ cZ oA rA σ_3 ++ b_d cB cC cI cJ cZ oA rA σ_3))[24]? = some (rA 4 7, .inl (cI, 61, .inl ((σ_3 4).2.1 7))) := rfl
    have hPc := hP.sub (ws' := [(rA 4 7, .inl (cI, 61, .inl ((σ_3 4).2.1 7)))]) [24] (pk_fm (er_C hq9))
    have hDc := (hDD σ_3).sub (ws' := [(rA 4 7, .inl (cI, 61, .inl ((σ_3 4).2.1 7)))]) [24] (by decide +kernel) (er_C hq9)
    have hFc := va_free (wc := [(rA 4 7, .inl (cI, 61, .inl ((σ_3 4).2.1 7)))]) (hDD σ_3) hS hA [24] (er_C hq9)
    refine g_ofi (wc := [(rA 4 7, .inl (cI, 61, .inl ((σ_3 4).2.1 7)))]) (wr := (((b_m cB cC cI cJ cZ oA rA σ_3 ++ b_w cB cC cI cJ cZ oA rA σ_3 ++ b_s cB cC cI cJ cZ oA rA σ_3 ++ b_c cB cC cI cJ cZ oA rA σ_3 ++ b_t cB cC cI cJ cZ oA rA σ_3 ++ b_d cB cC cI cJ cZ oA rA σ_3)).eraseIdx 24)) hP (hDD σ_3) hS hFc [24] ((List.range ((b_m cB cC cI cJ cZ oA rA σ_3 ++ b_w cB cC cI cJ cZ oA rA σ_3 ++ b_s cB cC cI cJ cZ oA rA σ_3 ++ b_c cB cC cI cJ cZ oA rA σ_3 ++ b_t cB cC cI cJ cZ oA rA σ_3 ++ b_d cB cC cI cJ cZ oA rA σ_3)).length).eraseIdx 24) (er_C hq9) er_R er_n er_d (va_runSN (As := [.ref (rA 4 7), .int p0]) (rest := [.int p2]) ⟨hx, hb, hml, hown, hts⟩ (c_X11_at l dC dI cB cC cI cJ cZ cP H.size (rA 4 7) p0 61 ((σ_3 4).2.1 7) (by decide)) ⟨va_cnB 2 hts (g_gA wq_407) rfl rfl rfl (nw_24 hN) (hts (.initialized RX11) wq_1) (by decide +kernel) ⟨Nat.le_of_ble_eq_true rfl, Nat.le_of_ble_eq_true rfl⟩, (hts (.static yX11_at) wq_406), trivial⟩ (g_preS g_bl0 hK hPc hDc hS hE hFc g_to0) rfl rfl hl.1 rfl (lv_room (Nat.le_of_ble_eq_true rfl)) dX4_whatOf_28 ⟨Nat.le_of_ble_eq_true rfl, Nat.le_of_ble_eq_true rfl⟩) (fun r9 u9 H locs hw9 hP' hD' hS => ?_)
    clear hPc hDc hFc hD'
    have hP : va_P (dC, dI) vwCl (b_m cB cC cI cJ cZ oA rA σ_3 ++ b_w cB cC cI cJ cZ oA rA σ_3 ++ b_s cB cC cI cJ cZ oA rA σ_3 ++ b_c cB cC cI cJ cZ oA rA σ_3 ++ b_t cB cC cI cJ cZ oA rA σ_3 ++ b_d cB cC cI cJ cZ oA rA σ_3) H := er_I hP' hq9
    clear hP' hq9
    subst hw9
    obtain ⟨x_8, ex_8, hF_9⟩ := bnd_e hF_7
    clear hF_7
    refine m_top ex_8 ?_
    obtain ⟨j_11, ej_11, hF_12⟩ := bnd_e hF_9
    clear hF_9
    have Jj_11 : ∀  (σ_10 : HS), j_11  σ_10 = some res → ∀ (H : Heap) (locs : List Loc), va_P (dC, dI) vwCl (b_m cB cC cI cJ cZ oA rA σ_10 ++ b_w cB cC cI cJ cZ oA rA σ_10 ++ b_s cB cC cI cJ cZ oA rA σ_10 ++ b_c cB cC cI cJ cZ oA rA σ_10 ++ b_t cB cC cI cJ cZ oA rA σ_10 ++ b_d cB cC cI cJ cZ oA rA σ_10) H → va_S A s.heap H locs → ∀ ls : Array Slot, lv_has ls 5 [(0, .ref (oA 3)), (1, .int p0), (2, .int p1), (4, .int u_1.1)] → W p l e (headSpec (g_ws yX4_whatOf cX4_whatOf 5 (some .int)) { frames := 5, cells := 0, slots := 0, locals := 124 }).room s m ([.ref (oA 3), .int p0, .int p1, .int p2] : List Value).toArray below meth c H locs 0 0 (MQ below (va_Qi (fun r (_ : Unit) => r = res.1) (g_Bo (dC, dI) A (fun (_ : Unit) => (b_m cB cC cI cJ cZ oA rA res.2 ++ b_w cB cC cI cJ cZ oA rA res.2 ++ b_s cB cC cI cJ cZ oA rA res.2 ++ b_c cB cC cI cJ cZ oA rA res.2 ++ b_t cB cC cI cJ cZ oA rA res.2 ++ b_d cB cC cI cJ cZ oA rA res.2))) A) ([.ref (oA 3), .int p0, .int p1, .int p2] : List Value).toArray s 0 0 A) (F0 m 40 ls []) := by
      intro  σ_10 hF0 H locs hP hS ls hl
      subst ej_11
      have hF_13 := hF0
      clear hF0
      refine lv_iload hx hb dX4_whatOf_40 (lv_at hl 3 rfl) ?_
      refine lv_sipush (v := 255) hx hb dX4_whatOf_42 (by decide +kernel) ?_
      refine lv_icmp_ne (tgt := 50) hx hb dX4_whatOf_45 (by decide) (fun c_14 => ?_) (fun c_14 => ?_)
      · have hF_16 := ineg c_14 hF_13
        clear hF_13
        refine lv_iload_n hx hb dX4_whatOf_50 rfl (lv_at hl 1 rfl) ?_
        refine lv_bipush (v := 11) hx hb dX4_whatOf_51 (by decide +kernel) ?_
        obtain ⟨j_18, ej_18, hF_19⟩ := bnd_e hF_16
        clear hF_16
        have Jj_18 : ∀  (σ_17 : HS), j_18  σ_17 = some res → ∀ (H : Heap) (locs : List Loc), va_P (dC, dI) vwCl (b_m cB cC cI cJ cZ oA rA σ_17 ++ b_w cB cC cI cJ cZ oA rA σ_17 ++ b_s cB cC cI cJ cZ oA rA σ_17 ++ b_c cB cC cI cJ cZ oA rA σ_17 ++ b_t cB cC cI cJ cZ oA rA σ_17 ++ b_d cB cC cI cJ cZ oA rA σ_17) H → va_S A s.heap H locs → ∀ ls : Array Slot, lv_has ls 5 [(0, .ref (oA 3)), (1, .int p0), (2, .int p1), (4, .int u_1.1)] → W p l e (headSpec (g_ws yX4_whatOf cX4_whatOf 5 (some .int)) { frames := 5, cells := 0, slots := 0, locals := 124 }).room s m ([.ref (oA 3), .int p0, .int p1, .int p2] : List Value).toArray below meth c H locs 0 0 (MQ below (va_Qi (fun r (_ : Unit) => r = res.1) (g_Bo (dC, dI) A (fun (_ : Unit) => (b_m cB cC cI cJ cZ oA rA res.2 ++ b_w cB cC cI cJ cZ oA rA res.2 ++ b_s cB cC cI cJ cZ oA rA res.2 ++ b_c cB cC cI cJ cZ oA rA res.2 ++ b_t cB cC cI cJ cZ oA rA res.2 ++ b_d cB cC cI cJ cZ oA rA res.2))) A) ([.ref (oA 3), .int p0, .int p1, .int p2] : List Value).toArray s 0 0 A) (F0 m 81 ls []) := by
          intro  σ_17 hF0 H locs hP hS ls hl
          subst ej_18
          have hF_20 := hF0
          clear hF0
          refine lv_iload_n hx hb dX4_whatOf_81 rfl (lv_at hl 1 rfl) ?_
          refine lv_bipush (v := 11) hx hb dX4_whatOf_82 (by decide +kernel) ?_
          obtain ⟨j_22, ej_22, hF_23⟩ := bnd_e hF_20
          clear hF_20
          have Jj_22 : ∀  (σ_21 : HS), j_22  σ_21 = some res → ∀ (H : Heap) (locs : List Loc), va_P (dC, dI) vwCl (b_m cB cC cI cJ cZ oA rA σ_21 ++ b_w cB cC cI cJ cZ oA rA σ_21 ++ b_s cB cC cI cJ cZ oA rA σ_21 ++ b_c cB cC cI cJ cZ oA rA σ_21 ++ b_t cB cC cI cJ cZ oA rA σ_21 ++ b_d cB cC cI cJ cZ oA rA σ_21) H → va_S A s.heap H locs → ∀ ls : Array Slot, lv_has ls 5 [(0, .ref (oA 3)), (1, .int p0), (2, .int p1)] → W p l e (headSpec (g_ws yX4_whatOf cX4_whatOf 5 (some .int)) { frames := 5, cells := 0, slots := 0, locals := 124 }).room s m ([.ref (oA 3), .int p0, .int p1, .int p2] : List Value).toArray below meth c H locs 0 0 (MQ below (va_Qi (fun r (_ : Unit) => r = res.1) (g_Bo (dC, dI) A (fun (_ : Unit) => (b_m cB cC cI cJ cZ oA rA res.2 ++ b_w cB cC cI cJ cZ oA rA res.2 ++ b_s cB cC cI cJ cZ oA rA res.2 ++ b_c cB cC cI cJ cZ oA rA res.2 ++ b_t cB cC cI cJ cZ oA rA res.2 ++ b_d cB cC cI cJ cZ oA rA res.2))) A) ([.ref (oA 3), .int p0, .int p1, .int p2] : List Value).toArray s 0 0 A) (F0 m 97 ls []) := by
            intro  σ_21 hF0 H locs hP hS ls hl
            subst ej_22
            have hF_24 := hF0
            clear hF0
            refine lv_iload_n hx hb dX4_whatOf_97 rfl (lv_at hl 1 rfl) ?_
            refine lv_bipush (v := 11) hx hb dX4_whatOf_98 (by decide +kernel) ?_
            obtain ⟨j_26, ej_26, hF_27⟩ := bnd_e hF_24
            clear hF_24
            have Jj_26 : ∀  (σ_25 : HS), j_26  σ_25 = some res → ∀ (H : Heap) (locs : List Loc), va_P (dC, dI) vwCl (b_m cB cC cI cJ cZ oA rA σ_25 ++ b_w cB cC cI cJ cZ oA rA σ_25 ++ b_s cB cC cI cJ cZ oA rA σ_25 ++ b_c cB cC cI cJ cZ oA rA σ_25 ++ b_t cB cC cI cJ cZ oA rA σ_25 ++ b_d cB cC cI cJ cZ oA rA σ_25) H → va_S A s.heap H locs → ∀ ls : Array Slot, lv_has ls 5 [(0, .ref (oA 3)), (2, .int p1)] → W p l e (headSpec (g_ws yX4_whatOf cX4_whatOf 5 (some .int)) { frames := 5, cells := 0, slots := 0, locals := 124 }).room s m ([.ref (oA 3), .int p0, .int p1, .int p2] : List Value).toArray below meth c H locs 0 0 (MQ below (va_Qi (fun r (_ : Unit) => r = res.1) (g_Bo (dC, dI) A (fun (_ : Unit) => (b_m cB cC cI cJ cZ oA rA res.2 ++ b_w cB cC cI cJ cZ oA rA res.2 ++ b_s cB cC cI cJ cZ oA rA res.2 ++ b_c cB cC cI cJ cZ oA rA res.2 ++ b_t cB cC cI cJ cZ oA rA res.2 ++ b_d cB cC cI cJ cZ oA rA res.2))) A) ([.ref (oA 3), .int p0, .int p1, .int p2] : List Value).toArray s 0 0 A) (F0 m 118 ls []) := by
              intro  σ_25 hF0 H locs hP hS ls hl
              subst ej_26
              have hF_28 := hF0
              clear hF0
              refine lv_aload_n hx hb dX4_whatOf_118 rfl (lv_at hl 0 rfl) ?_
              refine lv_iload_n hx hb dX4_whatOf_119 rfl (lv_at hl 1 rfl) ?_
              obtain ⟨u_29, hu_29, hF_30⟩ := Option.bind_eq_some_iff.mp hF_28
              clear hF_28
              have hPc := bx_P (bs := [b_m cB cC cI cJ cZ oA rA σ_25, b_w cB cC cI cJ cZ oA rA σ_25, b_s cB cC cI cJ cZ oA rA σ_25, b_c cB cC cI cJ cZ oA rA σ_25, b_t cB cC cI cJ cZ oA rA σ_25, b_d cB cC cI cJ cZ oA rA σ_25]) (bs' := [b_m cB cC cI cJ cZ oA rA σ_25, b_w cB cC cI cJ cZ oA rA σ_25, b_s cB cC cI cJ cZ oA rA σ_25, b_c cB cC cI cJ cZ oA rA σ_25, b_t cB cC cI cJ cZ oA rA σ_25, b_d cB cC cI cJ cZ oA rA σ_25]) (ws' := (b_m cB cC cI cJ cZ oA rA σ_25 ++ b_w cB cC cI cJ cZ oA rA σ_25 ++ b_s cB cC cI cJ cZ oA rA σ_25 ++ b_c cB cC cI cJ cZ oA rA σ_25 ++ b_t cB cC cI cJ cZ oA rA σ_25 ++ b_d cB cC cI cJ cZ oA rA σ_25)) hP fl_6 fl_6 [0, 1, 2, 3, 4, 5] rfl
              have hDc := bx_D (bs := [b_m cB cC cI cJ cZ oA rA σ_25, b_w cB cC cI cJ cZ oA rA σ_25, b_s cB cC cI cJ cZ oA rA σ_25, b_c cB cC cI cJ cZ oA rA σ_25, b_t cB cC cI cJ cZ oA rA σ_25, b_d cB cC cI cJ cZ oA rA σ_25]) (bs' := [b_m cB cC cI cJ cZ oA rA σ_25, b_w cB cC cI cJ cZ oA rA σ_25, b_s cB cC cI cJ cZ oA rA σ_25, b_c cB cC cI cJ cZ oA rA σ_25, b_t cB cC cI cJ cZ oA rA σ_25, b_d cB cC cI cJ cZ oA rA σ_25]) (ws' := (b_m cB cC cI cJ cZ oA rA σ_25 ++ b_w cB cC cI cJ cZ oA rA σ_25 ++ b_s cB cC cI cJ cZ oA rA σ_25 ++ b_c cB cC cI cJ cZ oA rA σ_25 ++ b_t cB cC cI cJ cZ oA rA σ_25 ++ b_d cB cC cI cJ cZ oA rA σ_25)) (hDD σ_25) fl_6 fl_6 [0, 1, 2, 3, 4, 5] (by decide +kernel) rfl
              have hFc := bx_F (bs := [b_m cB cC cI cJ cZ oA rA σ_25, b_w cB cC cI cJ cZ oA rA σ_25, b_s cB cC cI cJ cZ oA rA σ_25, b_c cB cC cI cJ cZ oA rA σ_25, b_t cB cC cI cJ cZ oA rA σ_25, b_d cB cC cI cJ cZ oA rA σ_25]) (bs' := [b_m cB cC cI cJ cZ oA rA σ_25, b_w cB cC cI cJ cZ oA rA σ_25, b_s cB cC cI cJ cZ oA rA σ_25, b_c cB cC cI cJ cZ oA rA σ_25, b_t cB cC cI cJ cZ oA rA σ_25, b_d cB cC cI cJ cZ oA rA σ_25]) (wc := (b_m cB cC cI cJ cZ oA rA σ_25 ++ b_w cB cC cI cJ cZ oA rA σ_25 ++ b_s cB cC cI cJ cZ oA rA σ_25 ++ b_c cB cC cI cJ cZ oA rA σ_25 ++ b_t cB cC cI cJ cZ oA rA σ_25 ++ b_d cB cC cI cJ cZ oA rA σ_25)) (hDD σ_25) hS hA fl_6 fl_6 [0, 1, 2, 3, 4, 5] rfl
              refine g_ofi (wc := (b_m cB cC cI cJ cZ oA rA σ_25 ++ b_w cB cC cI cJ cZ oA rA σ_25 ++ b_s cB cC cI cJ cZ oA rA σ_25 ++ b_c cB cC cI cJ cZ oA rA σ_25 ++ b_t cB cC cI cJ cZ oA rA σ_25 ++ b_d cB cC cI cJ cZ oA rA σ_25)) (wr := ([] : va_W)) hP (hDD σ_25) hS hFc (bx_ix [b_m cB cC cI cJ cZ oA rA σ_25, b_w cB cC cI cJ cZ oA rA σ_25, b_s cB cC cI cJ cZ oA rA σ_25, b_c cB cC cI cJ cZ oA rA σ_25, b_t cB cC cI cJ cZ oA rA σ_25, b_d cB cC cI cJ cZ oA rA σ_25] [0, 1, 2, 3, 4, 5]) (bx_ix [b_m cB cC cI cJ cZ oA rA σ_25, b_w cB cC cI cJ cZ oA rA σ_25, b_s cB cC cI cJ cZ oA rA σ_25, b_c cB cC cI cJ cZ oA rA σ_25, b_t cB cC cI cJ cZ oA rA σ_25, b_d cB cC cI cJ cZ oA rA σ_25] []) (bx_C (bs := [b_m cB cC cI cJ cZ oA rA σ_25, b_w cB cC cI cJ cZ oA rA σ_25, b_s cB cC cI cJ cZ oA rA σ_25, b_c cB cC cI cJ cZ oA rA σ_25, b_t cB cC cI cJ cZ oA rA σ_25, b_d cB cC cI cJ cZ oA rA σ_25]) (bs' := [b_m cB cC cI cJ cZ oA rA σ_25, b_w cB cC cI cJ cZ oA rA σ_25, b_s cB cC cI cJ cZ oA rA σ_25, b_c cB cC cI cJ cZ oA rA σ_25, b_t cB cC cI cJ cZ oA rA σ_25, b_d cB cC cI cJ cZ oA rA σ_25]) (is := [0, 1, 2, 3, 4, 5]) fl_6 fl_6 rfl) (bx_C (bs := [b_m cB cC cI cJ cZ oA rA σ_25, b_w cB cC cI cJ cZ oA rA σ_25, b_s cB cC cI cJ cZ oA rA σ_25, b_c cB cC cI cJ cZ oA rA σ_25, b_t cB cC cI cJ cZ oA rA σ_25, b_d cB cC cI cJ cZ oA rA σ_25]) (bs' := []) (is := []) fl_6 fl_0 rfl) (bx_n (by decide +kernel)) (bx_d (by decide +kernel)) (va_runV (As := [.int p1]) (rest := []) ⟨hx, hb, hml, hown, hts⟩ (k_X4_numberOf l dC dI cB cC cI cJ cZ cP oA rA H.size  p1 σ_25 _ hu_29) (cwV 1 hts (g_gV wq_769 wq_770 wq_2051 wq_4 wq_771) rfl rfl rfl (by decide +kernel) ⟨Nat.le_of_ble_eq_true rfl, Nat.le_of_ble_eq_true rfl⟩) (g_preV g_bl0 hK hPc hDc hS hE hFc g_to0 (q0 := 0) (ci := 4) rfl rfl) rfl rfl hl.1 rfl (lv_room (Nat.le_of_ble_eq_true rfl)) dX4_whatOf_120 ⟨Nat.le_of_ble_eq_true rfl, Nat.le_of_ble_eq_true rfl⟩) (fun r9 u9 H locs hw9 hP' hD' hS => ?_)
              clear hPc hDc hFc
              subst hw9
              have hP : va_P (dC, dI) vwCl (b_m cB cC cI cJ cZ oA rA u_29.2 ++ b_w cB cC cI cJ cZ oA rA u_29.2 ++ b_s cB cC cI cJ cZ oA rA u_29.2 ++ b_c cB cC cI cJ cZ oA rA u_29.2 ++ b_t cB cC cI cJ cZ oA rA u_29.2 ++ b_d cB cC cI cJ cZ oA rA u_29.2) H := hP'
              clear hP' hD'
              have h9 := Option.some.inj hF_30
              subst h9
              exact W.iret (v := u_29.1) hx hb hr (fun t ht hW => ⟨⟨u_29.1, (), rfl, rfl, m_end ht hP, hDD _⟩, hS.F ht⟩) hS.2.2 dX4_whatOf_123
            obtain ⟨j_32, ej_32, hF_33⟩ := bnd_e hF_27
            clear hF_27
            have Jj_32 : ∀  (σ_31 : HS), j_32  σ_31 = some res → ∀ (H : Heap) (locs : List Loc), va_P (dC, dI) vwCl (b_m cB cC cI cJ cZ oA rA σ_31 ++ b_w cB cC cI cJ cZ oA rA σ_31 ++ b_s cB cC cI cJ cZ oA rA σ_31 ++ b_c cB cC cI cJ cZ oA rA σ_31 ++ b_t cB cC cI cJ cZ oA rA σ_31 ++ b_d cB cC cI cJ cZ oA rA σ_31) H → va_S A s.heap H locs → ∀ ls : Array Slot, lv_has ls 5 [(0, .ref (oA 3)), (2, .int p1)] → W p l e (headSpec (g_ws yX4_whatOf cX4_whatOf 5 (some .int)) { frames := 5, cells := 0, slots := 0, locals := 124 }).room s m ([.ref (oA 3), .int p0, .int p1, .int p2] : List Value).toArray below meth c H locs 0 0 (MQ below (va_Qi (fun r (_ : Unit) => r = res.1) (g_Bo (dC, dI) A (fun (_ : Unit) => (b_m cB cC cI cJ cZ oA rA res.2 ++ b_w cB cC cI cJ cZ oA rA res.2 ++ b_s cB cC cI cJ cZ oA rA res.2 ++ b_c cB cC cI cJ cZ oA rA res.2 ++ b_t cB cC cI cJ cZ oA rA res.2 ++ b_d cB cC cI cJ cZ oA rA res.2))) A) ([.ref (oA 3), .int p0, .int p1, .int p2] : List Value).toArray s 0 0 A) (F0 m 112 ls []) := by
              intro  σ_31 hF0 H locs hP hS ls hl
              subst ej_32
              have hF_34 := hF0
              clear hF0
              refine lv_aload_n hx hb dX4_whatOf_112 rfl (lv_at hl 0 rfl) ?_
              refine lv_iconst (v := 3) hx hb dX4_whatOf_113 (by decide +kernel) ?_
              refine lv_iload_n hx hb dX4_whatOf_114 rfl (lv_at hl 1 rfl) ?_
              obtain ⟨u_35, hu_35, hF_36⟩ := Option.bind_eq_some_iff.mp hF_34
              clear hF_34
              have hPc := bx_P (bs := [b_m cB cC cI cJ cZ oA rA σ_31, b_w cB cC cI cJ cZ oA rA σ_31, b_s cB cC cI cJ cZ oA rA σ_31, b_c cB cC cI cJ cZ oA rA σ_31, b_t cB cC cI cJ cZ oA rA σ_31, b_d cB cC cI cJ cZ oA rA σ_31]) (bs' := [b_m cB cC cI cJ cZ oA rA σ_31, b_w cB cC cI cJ cZ oA rA σ_31, b_s cB cC cI cJ cZ oA rA σ_31, b_c cB cC cI cJ cZ oA rA σ_31, b_t cB cC cI cJ cZ oA rA σ_31, b_d cB cC cI cJ cZ oA rA σ_31]) (ws' := (b_m cB cC cI cJ cZ oA rA σ_31 ++ b_w cB cC cI cJ cZ oA rA σ_31 ++ b_s cB cC cI cJ cZ oA rA σ_31 ++ b_c cB cC cI cJ cZ oA rA σ_31 ++ b_t cB cC cI cJ cZ oA rA σ_31 ++ b_d cB cC cI cJ cZ oA rA σ_31)) hP fl_6 fl_6 [0, 1, 2, 3, 4, 5] rfl
              have hDc := bx_D (bs := [b_m cB cC cI cJ cZ oA rA σ_31, b_w cB cC cI cJ cZ oA rA σ_31, b_s cB cC cI cJ cZ oA rA σ_31, b_c cB cC cI cJ cZ oA rA σ_31, b_t cB cC cI cJ cZ oA rA σ_31, b_d cB cC cI cJ cZ oA rA σ_31]) (bs' := [b_m cB cC cI cJ cZ oA rA σ_31, b_w cB cC cI cJ cZ oA rA σ_31, b_s cB cC cI cJ cZ oA rA σ_31, b_c cB cC cI cJ cZ oA rA σ_31, b_t cB cC cI cJ cZ oA rA σ_31, b_d cB cC cI cJ cZ oA rA σ_31]) (ws' := (b_m cB cC cI cJ cZ oA rA σ_31 ++ b_w cB cC cI cJ cZ oA rA σ_31 ++ b_s cB cC cI cJ cZ oA rA σ_31 ++ b_c cB cC cI cJ cZ oA rA σ_31 ++ b_t cB cC cI cJ cZ oA rA σ_31 ++ b_d cB cC cI cJ cZ oA rA σ_31)) (hDD σ_31) fl_6 fl_6 [0, 1, 2, 3, 4, 5] (by decide +kernel) rfl
              have hFc := bx_F (bs := [b_m cB cC cI cJ cZ oA rA σ_31, b_w cB cC cI cJ cZ oA rA σ_31, b_s cB cC cI cJ cZ oA rA σ_31, b_c cB cC cI cJ cZ oA rA σ_31, b_t cB cC cI cJ cZ oA rA σ_31, b_d cB cC cI cJ cZ oA rA σ_31]) (bs' := [b_m cB cC cI cJ cZ oA rA σ_31, b_w cB cC cI cJ cZ oA rA σ_31, b_s cB cC cI cJ cZ oA rA σ_31, b_c cB cC cI cJ cZ oA rA σ_31, b_t cB cC cI cJ cZ oA rA σ_31, b_d cB cC cI cJ cZ oA rA σ_31]) (wc := (b_m cB cC cI cJ cZ oA rA σ_31 ++ b_w cB cC cI cJ cZ oA rA σ_31 ++ b_s cB cC cI cJ cZ oA rA σ_31 ++ b_c cB cC cI cJ cZ oA rA σ_31 ++ b_t cB cC cI cJ cZ oA rA σ_31 ++ b_d cB cC cI cJ cZ oA rA σ_31)) (hDD σ_31) hS hA fl_6 fl_6 [0, 1, 2, 3, 4, 5] rfl
              refine g_ofv (wc := (b_m cB cC cI cJ cZ oA rA σ_31 ++ b_w cB cC cI cJ cZ oA rA σ_31 ++ b_s cB cC cI cJ cZ oA rA σ_31 ++ b_c cB cC cI cJ cZ oA rA σ_31 ++ b_t cB cC cI cJ cZ oA rA σ_31 ++ b_d cB cC cI cJ cZ oA rA σ_31)) (wr := ([] : va_W)) hP (hDD σ_31) hS hFc (bx_ix [b_m cB cC cI cJ cZ oA rA σ_31, b_w cB cC cI cJ cZ oA rA σ_31, b_s cB cC cI cJ cZ oA rA σ_31, b_c cB cC cI cJ cZ oA rA σ_31, b_t cB cC cI cJ cZ oA rA σ_31, b_d cB cC cI cJ cZ oA rA σ_31] [0, 1, 2, 3, 4, 5]) (bx_ix [b_m cB cC cI cJ cZ oA rA σ_31, b_w cB cC cI cJ cZ oA rA σ_31, b_s cB cC cI cJ cZ oA rA σ_31, b_c cB cC cI cJ cZ oA rA σ_31, b_t cB cC cI cJ cZ oA rA σ_31, b_d cB cC cI cJ cZ oA rA σ_31] []) (bx_C (bs := [b_m cB cC cI cJ cZ oA rA σ_31, b_w cB cC cI cJ cZ oA rA σ_31, b_s cB cC cI cJ cZ oA rA σ_31, b_c cB cC cI cJ cZ oA rA σ_31, b_t cB cC cI cJ cZ oA rA σ_31, b_d cB cC cI cJ cZ oA rA σ_31]) (bs' := [b_m cB cC cI cJ cZ oA rA σ_31, b_w cB cC cI cJ cZ oA rA σ_31, b_s cB cC cI cJ cZ oA rA σ_31, b_c cB cC cI cJ cZ oA rA σ_31, b_t cB cC cI cJ cZ oA rA σ_31, b_d cB cC cI cJ cZ oA rA σ_31]) (is := [0, 1, 2, 3, 4, 5]) fl_6 fl_6 rfl) (bx_C (bs := [b_m cB cC cI cJ cZ oA rA σ_31, b_w cB cC cI cJ cZ oA rA σ_31, b_s cB cC cI cJ cZ oA rA σ_31, b_c cB cC cI cJ cZ oA rA σ_31, b_t cB cC cI cJ cZ oA rA σ_31, b_d cB cC cI cJ cZ oA rA σ_31]) (bs' := []) (is := []) fl_6 fl_0 rfl) (bx_n (by decide +kernel)) (bx_d (by decide +kernel)) (va_runV (As := [.int 3, .int p1]) (rest := []) ⟨hx, hb, hml, hown, hts⟩ (k_X4_fail l dC dI cB cC cI cJ cZ cP oA rA H.size  3 p1 σ_31 _ hu_35) (cwV 2 hts (g_gV wq_725 wq_726 wq_2037 wq_4 wq_727) rfl rfl rfl (by decide +kernel) ⟨Nat.le_of_ble_eq_true rfl, Nat.le_of_ble_eq_true rfl⟩) (g_preV g_bl0 hK hPc hDc hS hE hFc g_to0 (q0 := 0) (ci := 4) rfl rfl) rfl rfl hl.1 rfl (lv_room (Nat.le_of_ble_eq_true rfl)) dX4_whatOf_115 ⟨Nat.le_of_ble_eq_true rfl, Nat.le_of_ble_eq_true rfl⟩) (fun u9 H locs hw9 hP' hD' hS => ?_)
              clear hPc hDc hFc
              have hP : va_P (dC, dI) vwCl (b_m cB cC cI cJ cZ oA rA u_35.2 ++ b_w cB cC cI cJ cZ oA rA u_35.2 ++ b_s cB cC cI cJ cZ oA rA u_35.2 ++ b_c cB cC cI cJ cZ oA rA u_35.2 ++ b_t cB cC cI cJ cZ oA rA u_35.2 ++ b_d cB cC cI cJ cZ oA rA u_35.2) H := hP'
              clear hP' hD'
              exact Jj_26  u_35.2 hF_36 _ _ hP hS ls (lv_sub hl [0, 1] rfl)
            refine lv_icmp_eq (tgt := 112) hx hb dX4_whatOf_100 (by decide) (fun c_37 => ?_) (fun c_37 => ?_)
            · have hF_38 := ipos c_37 hF_33
              clear hF_33
              exact Jj_32  σ_21 hF_38 _ _ hP hS ls (lv_sub hl [0, 2] rfl)
            · have hF_39 := ineg c_37 hF_33
              clear hF_33
              refine lv_aload_n hx hb dX4_whatOf_103 rfl (lv_at hl 0 rfl) ?_
              refine lv_iload_n hx hb dX4_whatOf_104 rfl (lv_at hl 2 rfl) ?_
              obtain ⟨u_40, hu_40, hF_41⟩ := Option.bind_eq_some_iff.mp hF_39
              clear hF_39
              have hPc := bx_P (bs := [b_m cB cC cI cJ cZ oA rA σ_21, b_w cB cC cI cJ cZ oA rA σ_21, b_s cB cC cI cJ cZ oA rA σ_21, b_c cB cC cI cJ cZ oA rA σ_21, b_t cB cC cI cJ cZ oA rA σ_21, b_d cB cC cI cJ cZ oA rA σ_21]) (bs' := [b_m cB cC cI cJ cZ oA rA σ_21, b_w cB cC cI cJ cZ oA rA σ_21, b_s cB cC cI cJ cZ oA rA σ_21, b_c cB cC cI cJ cZ oA rA σ_21, b_t cB cC cI cJ cZ oA rA σ_21, b_d cB cC cI cJ cZ oA rA σ_21]) (ws' := (b_m cB cC cI cJ cZ oA rA σ_21 ++ b_w cB cC cI cJ cZ oA rA σ_21 ++ b_s cB cC cI cJ cZ oA rA σ_21 ++ b_c cB cC cI cJ cZ oA rA σ_21 ++ b_t cB cC cI cJ cZ oA rA σ_21 ++ b_d cB cC cI cJ cZ oA rA σ_21)) hP fl_6 fl_6 [0, 1, 2, 3, 4, 5] rfl
              have hDc := bx_D (bs := [b_m cB cC cI cJ cZ oA rA σ_21, b_w cB cC cI cJ cZ oA rA σ_21, b_s cB cC cI cJ cZ oA rA σ_21, b_c cB cC cI cJ cZ oA rA σ_21, b_t cB cC cI cJ cZ oA rA σ_21, b_d cB cC cI cJ cZ oA rA σ_21]) (bs' := [b_m cB cC cI cJ cZ oA rA σ_21, b_w cB cC cI cJ cZ oA rA σ_21, b_s cB cC cI cJ cZ oA rA σ_21, b_c cB cC cI cJ cZ oA rA σ_21, b_t cB cC cI cJ cZ oA rA σ_21, b_d cB cC cI cJ cZ oA rA σ_21]) (ws' := (b_m cB cC cI cJ cZ oA rA σ_21 ++ b_w cB cC cI cJ cZ oA rA σ_21 ++ b_s cB cC cI cJ cZ oA rA σ_21 ++ b_c cB cC cI cJ cZ oA rA σ_21 ++ b_t cB cC cI cJ cZ oA rA σ_21 ++ b_d cB cC cI cJ cZ oA rA σ_21)) (hDD σ_21) fl_6 fl_6 [0, 1, 2, 3, 4, 5] (by decide +kernel) rfl
              have hFc := bx_F (bs := [b_m cB cC cI cJ cZ oA rA σ_21, b_w cB cC cI cJ cZ oA rA σ_21, b_s cB cC cI cJ cZ oA rA σ_21, b_c cB cC cI cJ cZ oA rA σ_21, b_t cB cC cI cJ cZ oA rA σ_21, b_d cB cC cI cJ cZ oA rA σ_21]) (bs' := [b_m cB cC cI cJ cZ oA rA σ_21, b_w cB cC cI cJ cZ oA rA σ_21, b_s cB cC cI cJ cZ oA rA σ_21, b_c cB cC cI cJ cZ oA rA σ_21, b_t cB cC cI cJ cZ oA rA σ_21, b_d cB cC cI cJ cZ oA rA σ_21]) (wc := (b_m cB cC cI cJ cZ oA rA σ_21 ++ b_w cB cC cI cJ cZ oA rA σ_21 ++ b_s cB cC cI cJ cZ oA rA σ_21 ++ b_c cB cC cI cJ cZ oA rA σ_21 ++ b_t cB cC cI cJ cZ oA rA σ_21 ++ b_d cB cC cI cJ cZ oA rA σ_21)) (hDD σ_21) hS hA fl_6 fl_6 [0, 1, 2, 3, 4, 5] rfl
              refine g_ofi (wc := (b_m cB cC cI cJ cZ oA rA σ_21 ++ b_w cB cC cI cJ cZ oA rA σ_21 ++ b_s cB cC cI cJ cZ oA rA σ_21 ++ b_c cB cC cI cJ cZ oA rA σ_21 ++ b_t cB cC cI cJ cZ oA rA σ_21 ++ b_d cB cC cI cJ cZ oA rA σ_21)) (wr := ([] : va_W)) hP (hDD σ_21) hS hFc (bx_ix [b_m cB cC cI cJ cZ oA rA σ_21, b_w cB cC cI cJ cZ oA rA σ_21, b_s cB cC cI cJ cZ oA rA σ_21, b_c cB cC cI cJ cZ oA rA σ_21, b_t cB cC cI cJ cZ oA rA σ_21, b_d cB cC cI cJ cZ oA rA σ_21] [0, 1, 2, 3, 4, 5]) (bx_ix [b_m cB cC cI cJ cZ oA rA σ_21, b_w cB cC cI cJ cZ oA rA σ_21, b_s cB cC cI cJ cZ oA rA σ_21, b_c cB cC cI cJ cZ oA rA σ_21, b_t cB cC cI cJ cZ oA rA σ_21, b_d cB cC cI cJ cZ oA rA σ_21] []) (bx_C (bs := [b_m cB cC cI cJ cZ oA rA σ_21, b_w cB cC cI cJ cZ oA rA σ_21, b_s cB cC cI cJ cZ oA rA σ_21, b_c cB cC cI cJ cZ oA rA σ_21, b_t cB cC cI cJ cZ oA rA σ_21, b_d cB cC cI cJ cZ oA rA σ_21]) (bs' := [b_m cB cC cI cJ cZ oA rA σ_21, b_w cB cC cI cJ cZ oA rA σ_21, b_s cB cC cI cJ cZ oA rA σ_21, b_c cB cC cI cJ cZ oA rA σ_21, b_t cB cC cI cJ cZ oA rA σ_21, b_d cB cC cI cJ cZ oA rA σ_21]) (is := [0, 1, 2, 3, 4, 5]) fl_6 fl_6 rfl) (bx_C (bs := [b_m cB cC cI cJ cZ oA rA σ_21, b_w cB cC cI cJ cZ oA rA σ_21, b_s cB cC cI cJ cZ oA rA σ_21, b_c cB cC cI cJ cZ oA rA σ_21, b_t cB cC cI cJ cZ oA rA σ_21, b_d cB cC cI cJ cZ oA rA σ_21]) (bs' := []) (is := []) fl_6 fl_0 rfl) (bx_n (by decide +kernel)) (bx_d (by decide +kernel)) (va_runV (As := [.int p1]) (rest := []) ⟨hx, hb, hml, hown, hts⟩ (k_X4_sortOf l dC dI cB cC cI cJ cZ cP oA rA H.size  p1 σ_21 _ hu_40) (cwV 1 hts (g_gV wq_766 wq_767 wq_2050 wq_4 wq_768) rfl rfl rfl (by decide +kernel) ⟨Nat.le_of_ble_eq_true rfl, Nat.le_of_ble_eq_true rfl⟩) (g_preV g_bl0 hK hPc hDc hS hE hFc g_to0 (q0 := 0) (ci := 4) rfl rfl) rfl rfl hl.1 rfl (lv_room (Nat.le_of_ble_eq_true rfl)) dX4_whatOf_105 ⟨Nat.le_of_ble_eq_true rfl, Nat.le_of_ble_eq_true rfl⟩) (fun r9 u9 H locs hw9 hP' hD' hS => ?_)
              clear hPc hDc hFc
              subst hw9
              have hP : va_P (dC, dI) vwCl (b_m cB cC cI cJ cZ oA rA u_40.2 ++ b_w cB cC cI cJ cZ oA rA u_40.2 ++ b_s cB cC cI cJ cZ oA rA u_40.2 ++ b_c cB cC cI cJ cZ oA rA u_40.2 ++ b_t cB cC cI cJ cZ oA rA u_40.2 ++ b_d cB cC cI cJ cZ oA rA u_40.2) H := hP'
              clear hP' hD'
              refine lv_iconst (v := 2) hx hb dX4_whatOf_108 (by decide +kernel) ?_
              refine lv_icmp_eq (tgt := 118) hx hb dX4_whatOf_109 (by decide) (fun c_42 => ?_) (fun c_42 => ?_)
              · have hF_43 := ipos c_42 hF_41
                clear hF_41
                exact Jj_26  u_40.2 hF_43 _ _ hP hS ls (lv_sub hl [0, 2] rfl)
              · have hF_44 := ineg c_42 hF_41
                clear hF_41
                exact Jj_32  u_40.2 hF_44 _ _ hP hS ls (lv_sub hl [0, 2] rfl)
          refine lv_icmp_eq (tgt := 97) hx hb dX4_whatOf_84 (by decide) (fun c_45 => ?_) (fun c_45 => ?_)
          · have hF_46 := ipos c_45 hF_23
            clear hF_23
            exact Jj_22  σ_17 hF_46 _ _ hP hS ls (lv_sub hl [0, 1, 2] rfl)
          · have hF_47 := ineg c_45 hF_23
            clear hF_23
            refine lv_iload hx hb dX4_whatOf_87 (lv_at hl 3 rfl) ?_
            refine lv_sipush (v := 228) hx hb dX4_whatOf_89 (by decide +kernel) ?_
            refine lv_icmp_ne (tgt := 97) hx hb dX4_whatOf_92 (by decide) (fun c_48 => ?_) (fun c_48 => ?_)
            · have hF_50 := ineg c_48 hF_47
              clear hF_47
              exact Jj_22  σ_17 hF_50 _ _ hP hS ls (lv_sub hl [0, 1, 2] rfl)
            · have hF_49 := ipos c_48 hF_47
              clear hF_47
              refine lv_iconst (v := 1) hx hb dX4_whatOf_95 (by decide +kernel) ?_
              have h9 := Option.some.inj hF_49
              subst h9
              exact W.iret (v := 1) hx hb hr (fun t ht hW => ⟨⟨1, (), rfl, rfl, m_end ht hP, hDD _⟩, hS.F ht⟩) hS.2.2 dX4_whatOf_96
        refine lv_icmp_ne (tgt := 81) hx hb dX4_whatOf_53 (by decide) (fun c_51 => ?_) (fun c_51 => ?_)
        · have hF_59 := ineg c_51 hF_19
          clear hF_19
          exact Jj_18  σ_10 hF_59 _ _ hP hS ls (lv_sub hl [0, 1, 2, 3] rfl)
        · have hF_52 := ipos c_51 hF_19
          clear hF_19
          refine lv_iload hx hb dX4_whatOf_56 (lv_at hl 3 rfl) ?_
          refine lv_sipush (v := 200) hx hb dX4_whatOf_58 (by decide +kernel) ?_
          refine lv_icmp_lt (tgt := 81) hx hb dX4_whatOf_61 (by decide) (fun c_53 => ?_) (fun c_53 => ?_)
          · have hF_54 := ipos c_53 hF_52
            clear hF_52
            exact Jj_18  σ_10 hF_54 _ _ hP hS ls (lv_sub hl [0, 1, 2, 3] rfl)
          · have hF_55 := ineg c_53 hF_52
            clear hF_52
            refine lv_iload hx hb dX4_whatOf_64 (lv_at hl 3 rfl) ?_
            refine lv_sipush (v := 205) hx hb dX4_whatOf_66 (by decide +kernel) ?_
            refine lv_icmp_gt (tgt := 81) hx hb dX4_whatOf_69 (by decide) (fun c_56 => ?_) (fun c_56 => ?_)
            · have hF_57 := ipos c_56 hF_55
              clear hF_55
              exact Jj_18  σ_10 hF_57 _ _ hP hS ls (lv_sub hl [0, 1, 2, 3] rfl)
            · have hF_58 := ineg c_56 hF_55
              clear hF_55
              refine lv_iload hx hb dX4_whatOf_72 (lv_at hl 3 rfl) ?_
              refine lv_sipush (v := 200) hx hb dX4_whatOf_74 (by decide +kernel) ?_
              refine lv_isub hx hb dX4_whatOf_77 ?_
              refine lv_iconst (v := 1) hx hb dX4_whatOf_78 (by decide +kernel) ?_
              refine lv_iadd hx hb dX4_whatOf_79 ?_
              have h9 := Option.some.inj hF_58
              subst h9
              exact W.iret (v := ((u_1.1 - 200) + 1)) hx hb hr (fun t ht hW => ⟨⟨((u_1.1 - 200) + 1), (), rfl, rfl, m_end ht hP, hDD _⟩, hS.F ht⟩) hS.2.2 dX4_whatOf_80
      · have hF_15 := ipos c_14 hF_13
        clear hF_13
        refine lv_iconst (v := 0) hx hb dX4_whatOf_48 (by decide +kernel) ?_
        have h9 := Option.some.inj hF_15
        subst h9
        exact W.iret (v := 0) hx hb hr (fun t ht hW => ⟨⟨0, (), rfl, rfl, m_end ht hP, hDD _⟩, hS.F ht⟩) hS.2.2 dX4_whatOf_49
    refine lv_icmp_le (tgt := 40) hx hb dX4_whatOf_31 (by decide) (fun c_60 => ?_) (fun c_60 => ?_)
    · have hF_61 := ipos c_60 hF_12
      clear hF_12
      exact Jj_11  σ_3 hF_61 _ _ hP hS ls (lv_sub hl [1, 2, 3, 0] rfl)
    · have hF_62 := ineg c_60 hF_12
      clear hF_12
      refine lv_aload_n hx hb dX4_whatOf_34 rfl (lv_at hl 1 rfl) ?_
      refine lv_iconst (v := 3) hx hb dX4_whatOf_35 (by decide +kernel) ?_
      refine lv_iload_n hx hb dX4_whatOf_36 rfl (lv_at hl 3 rfl) ?_
      obtain ⟨u_63, hu_63, hF_64⟩ := Option.bind_eq_some_iff.mp hF_62
      clear hF_62
      have hPc := bx_P (bs := [b_m cB cC cI cJ cZ oA rA σ_3, b_w cB cC cI cJ cZ oA rA σ_3, b_s cB cC cI cJ cZ oA rA σ_3, b_c cB cC cI cJ cZ oA rA σ_3, b_t cB cC cI cJ cZ oA rA σ_3, b_d cB cC cI cJ cZ oA rA σ_3]) (bs' := [b_m cB cC cI cJ cZ oA rA σ_3, b_w cB cC cI cJ cZ oA rA σ_3, b_s cB cC cI cJ cZ oA rA σ_3, b_c cB cC cI cJ cZ oA rA σ_3, b_t cB cC cI cJ cZ oA rA σ_3, b_d cB cC cI cJ cZ oA rA σ_3]) (ws' := (b_m cB cC cI cJ cZ oA rA σ_3 ++ b_w cB cC cI cJ cZ oA rA σ_3 ++ b_s cB cC cI cJ cZ oA rA σ_3 ++ b_c cB cC cI cJ cZ oA rA σ_3 ++ b_t cB cC cI cJ cZ oA rA σ_3 ++ b_d cB cC cI cJ cZ oA rA σ_3)) hP fl_6 fl_6 [0, 1, 2, 3, 4, 5] rfl
      have hDc := bx_D (bs := [b_m cB cC cI cJ cZ oA rA σ_3, b_w cB cC cI cJ cZ oA rA σ_3, b_s cB cC cI cJ cZ oA rA σ_3, b_c cB cC cI cJ cZ oA rA σ_3, b_t cB cC cI cJ cZ oA rA σ_3, b_d cB cC cI cJ cZ oA rA σ_3]) (bs' := [b_m cB cC cI cJ cZ oA rA σ_3, b_w cB cC cI cJ cZ oA rA σ_3, b_s cB cC cI cJ cZ oA rA σ_3, b_c cB cC cI cJ cZ oA rA σ_3, b_t cB cC cI cJ cZ oA rA σ_3, b_d cB cC cI cJ cZ oA rA σ_3]) (ws' := (b_m cB cC cI cJ cZ oA rA σ_3 ++ b_w cB cC cI cJ cZ oA rA σ_3 ++ b_s cB cC cI cJ cZ oA rA σ_3 ++ b_c cB cC cI cJ cZ oA rA σ_3 ++ b_t cB cC cI cJ cZ oA rA σ_3 ++ b_d cB cC cI cJ cZ oA rA σ_3)) (hDD σ_3) fl_6 fl_6 [0, 1, 2, 3, 4, 5] (by decide +kernel) rfl
      have hFc := bx_F (bs := [b_m cB cC cI cJ cZ oA rA σ_3, b_w cB cC cI cJ cZ oA rA σ_3, b_s cB cC cI cJ cZ oA rA σ_3, b_c cB cC cI cJ cZ oA rA σ_3, b_t cB cC cI cJ cZ oA rA σ_3, b_d cB cC cI cJ cZ oA rA σ_3]) (bs' := [b_m cB cC cI cJ cZ oA rA σ_3, b_w cB cC cI cJ cZ oA rA σ_3, b_s cB cC cI cJ cZ oA rA σ_3, b_c cB cC cI cJ cZ oA rA σ_3, b_t cB cC cI cJ cZ oA rA σ_3, b_d cB cC cI cJ cZ oA rA σ_3]) (wc := (b_m cB cC cI cJ cZ oA rA σ_3 ++ b_w cB cC cI cJ cZ oA rA σ_3 ++ b_s cB cC cI cJ cZ oA rA σ_3 ++ b_c cB cC cI cJ cZ oA rA σ_3 ++ b_t cB cC cI cJ cZ oA rA σ_3 ++ b_d cB cC cI cJ cZ oA rA σ_3)) (hDD σ_3) hS hA fl_6 fl_6 [0, 1, 2, 3, 4, 5] rfl
      refine g_ofv (wc := (b_m cB cC cI cJ cZ oA rA σ_3 ++ b_w cB cC cI cJ cZ oA rA σ_3 ++ b_s cB cC cI cJ cZ oA rA σ_3 ++ b_c cB cC cI cJ cZ oA rA σ_3 ++ b_t cB cC cI cJ cZ oA rA σ_3 ++ b_d cB cC cI cJ cZ oA rA σ_3)) (wr := ([] : va_W)) hP (hDD σ_3) hS hFc (bx_ix [b_m cB cC cI cJ cZ oA rA σ_3, b_w cB cC cI cJ cZ oA rA σ_3, b_s cB cC cI cJ cZ oA rA σ_3, b_c cB cC cI cJ cZ oA rA σ_3, b_t cB cC cI cJ cZ oA rA σ_3, b_d cB cC cI cJ cZ oA rA σ_3] [0, 1, 2, 3, 4, 5]) (bx_ix [b_m cB cC cI cJ cZ oA rA σ_3, b_w cB cC cI cJ cZ oA rA σ_3, b_s cB cC cI cJ cZ oA rA σ_3, b_c cB cC cI cJ cZ oA rA σ_3, b_t cB cC cI cJ cZ oA rA σ_3, b_d cB cC cI cJ cZ oA rA σ_3] []) (bx_C (bs := [b_m cB cC cI cJ cZ oA rA σ_3, b_w cB cC cI cJ cZ oA rA σ_3, b_s cB cC cI cJ cZ oA rA σ_3, b_c cB cC cI cJ cZ oA rA σ_3, b_t cB cC cI cJ cZ oA rA σ_3, b_d cB cC cI cJ cZ oA rA σ_3]) (bs' := [b_m cB cC cI cJ cZ oA rA σ_3, b_w cB cC cI cJ cZ oA rA σ_3, b_s cB cC cI cJ cZ oA rA σ_3, b_c cB cC cI cJ cZ oA rA σ_3, b_t cB cC cI cJ cZ oA rA σ_3, b_d cB cC cI cJ cZ oA rA σ_3]) (is := [0, 1, 2, 3, 4, 5]) fl_6 fl_6 rfl) (bx_C (bs := [b_m cB cC cI cJ cZ oA rA σ_3, b_w cB cC cI cJ cZ oA rA σ_3, b_s cB cC cI cJ cZ oA rA σ_3, b_c cB cC cI cJ cZ oA rA σ_3, b_t cB cC cI cJ cZ oA rA σ_3, b_d cB cC cI cJ cZ oA rA σ_3]) (bs' := []) (is := []) fl_6 fl_0 rfl) (bx_n (by decide +kernel)) (bx_d (by decide +kernel)) (va_runV (As := [.int 3, .int p1]) (rest := []) ⟨hx, hb, hml, hown, hts⟩ (k_X4_fail l dC dI cB cC cI cJ cZ cP oA rA H.size  3 p1 σ_3 _ hu_63) (cwV 2 hts (g_gV wq_725 wq_726 wq_2037 wq_4 wq_727) rfl rfl rfl (by decide +kernel) ⟨Nat.le_of_ble_eq_true rfl, Nat.le_of_ble_eq_true rfl⟩) (g_preV g_bl0 hK hPc hDc hS hE hFc g_to0 (q0 := 0) (ci := 4) rfl rfl) rfl rfl hl.1 rfl (lv_room (Nat.le_of_ble_eq_true rfl)) dX4_whatOf_37 ⟨Nat.le_of_ble_eq_true rfl, Nat.le_of_ble_eq_true rfl⟩) (fun u9 H locs hw9 hP' hD' hS => ?_)
      clear hPc hDc hFc
      have hP : va_P (dC, dI) vwCl (b_m cB cC cI cJ cZ oA rA u_63.2 ++ b_w cB cC cI cJ cZ oA rA u_63.2 ++ b_s cB cC cI cJ cZ oA rA u_63.2 ++ b_c cB cC cI cJ cZ oA rA u_63.2 ++ b_t cB cC cI cJ cZ oA rA u_63.2 ++ b_d cB cC cI cJ cZ oA rA u_63.2) H := hP'
      clear hP' hD'
      exact Jj_11  u_63.2 hF_64 _ _ hP hS ls (lv_sub hl [1, 2, 3, 0] rfl)
  · have hF_6 := ipos c_5 hF_4
    clear hF_4
    refine lv_iconst (v := (-1)) hx hb dX4_whatOf_17 (by decide +kernel) ?_
    have h9 := Option.some.inj hF_6
    subst h9
    exact W.iret (v := (-1)) hx hb hr (fun t ht hW => ⟨⟨(-1), (), rfl, rfl, m_end ht hP, hDD _⟩, hS.F ht⟩) hS.2.2 dX4_whatOf_18
theorem dX4_onItem_0 : decode cX4_onItem 0 = .ok (.aload_n 0, 1) := by decide +kernel
theorem dX4_onItem_1 : decode cX4_onItem 1 = .ok (.iload_n 1, 1) := by decide +kernel
theorem dX4_onItem_2 : decode cX4_onItem 2 = .ok (.iconst 1, 1) := by decide +kernel
theorem dX4_onItem_3 : decode cX4_onItem 3 = .ok (.iadd, 1) := by decide +kernel
theorem dX4_onItem_4 : decode cX4_onItem 4 = .ok (.invokevirtual 221, 3) := by decide +kernel
theorem dX4_onItem_7 : decode cX4_onItem 7 = .ok (.iconst 3, 1) := by decide +kernel
theorem dX4_onItem_8 : decode cX4_onItem 8 = .ok (.if_icmp .eq 12, 3) := by decide +kernel
theorem dX4_onItem_11 : decode cX4_onItem 11 = .ok (.aload_n 0, 1) := by decide +kernel
theorem dX4_onItem_12 : decode cX4_onItem 12 = .ok (.iconst 3, 1) := by decide +kernel
theorem dX4_onItem_13 : decode cX4_onItem 13 = .ok (.iload_n 1, 1) := by decide +kernel
theorem dX4_onItem_14 : decode cX4_onItem 14 = .ok (.iconst 1, 1) := by decide +kernel
theorem dX4_onItem_15 : decode cX4_onItem 15 = .ok (.iadd, 1) := by decide +kernel
theorem dX4_onItem_16 : decode cX4_onItem 16 = .ok (.invokevirtual 84, 3) := by decide +kernel
theorem dX4_onItem_19 : decode cX4_onItem 19 = .ok (.return_, 1) := by decide +kernel
theorem dX4_onItem_20 : decode cX4_onItem 20 = .ok (.aload_n 0, 1) := by decide +kernel
theorem dX4_onItem_21 : decode cX4_onItem 21 = .ok (.iload_n 1, 1) := by decide +kernel
theorem dX4_onItem_22 : decode cX4_onItem 22 = .ok (.iconst 1, 1) := by decide +kernel
theorem dX4_onItem_23 : decode cX4_onItem 23 = .ok (.iadd, 1) := by decide +kernel
theorem dX4_onItem_24 : decode cX4_onItem 24 = .ok (.invokevirtual 193, 3) := by decide +kernel
theorem dX4_onItem_27 : decode cX4_onItem 27 = .ok (.istore_n 2, 1) := by decide +kernel
theorem dX4_onItem_28 : decode cX4_onItem 28 = .ok (.aload_n 0, 1) := by decide +kernel
theorem dX4_onItem_29 : decode cX4_onItem 29 = .ok (.getfield 36, 3) := by decide +kernel
theorem dX4_onItem_32 : decode cX4_onItem 32 = .ok (.getfield 253, 3) := by decide +kernel
theorem dX4_onItem_35 : decode cX4_onItem 35 = .ok (.aload_n 0, 1) := by decide +kernel
theorem dX4_onItem_36 : decode cX4_onItem 36 = .ok (.getfield 135, 3) := by decide +kernel
theorem dX4_onItem_39 : decode cX4_onItem 39 = .ok (.iload_n 2, 1) := by decide +kernel
theorem dX4_onItem_40 : decode cX4_onItem 40 = .ok (.invokestatic 112, 3) := by decide +kernel
theorem dX4_onItem_43 : decode cX4_onItem 43 = .ok (.aload_n 0, 1) := by decide +kernel
theorem dX4_onItem_44 : decode cX4_onItem 44 = .ok (.getfield 36, 3) := by decide +kernel
theorem dX4_onItem_47 : decode cX4_onItem 47 = .ok (.getfield 256, 3) := by decide +kernel
theorem dX4_onItem_50 : decode cX4_onItem 50 = .ok (.aload_n 0, 1) := by decide +kernel
theorem dX4_onItem_51 : decode cX4_onItem 51 = .ok (.getfield 135, 3) := by decide +kernel
theorem dX4_onItem_54 : decode cX4_onItem 54 = .ok (.aload_n 0, 1) := by decide +kernel
theorem dX4_onItem_55 : decode cX4_onItem 55 = .ok (.iload_n 2, 1) := by decide +kernel
theorem dX4_onItem_56 : decode cX4_onItem 56 = .ok (.iload_n 1, 1) := by decide +kernel
theorem dX4_onItem_57 : decode cX4_onItem 57 = .ok (.iconst 2, 1) := by decide +kernel
theorem dX4_onItem_58 : decode cX4_onItem 58 = .ok (.iadd, 1) := by decide +kernel
theorem dX4_onItem_59 : decode cX4_onItem 59 = .ok (.iconst 1, 1) := by decide +kernel
theorem dX4_onItem_60 : decode cX4_onItem 60 = .ok (.invokevirtual 259, 3) := by decide +kernel
theorem dX4_onItem_63 : decode cX4_onItem 63 = .ok (.invokestatic 112, 3) := by decide +kernel
theorem dX4_onItem_66 : decode cX4_onItem 66 = .ok (.aload_n 0, 1) := by decide +kernel
theorem dX4_onItem_67 : decode cX4_onItem 67 = .ok (.getfield 36, 3) := by decide +kernel
theorem dX4_onItem_70 : decode cX4_onItem 70 = .ok (.getfield 263, 3) := by decide +kernel
theorem dX4_onItem_73 : decode cX4_onItem 73 = .ok (.aload_n 0, 1) := by decide +kernel
theorem dX4_onItem_74 : decode cX4_onItem 74 = .ok (.getfield 135, 3) := by decide +kernel
theorem dX4_onItem_77 : decode cX4_onItem 77 = .ok (.aload_n 0, 1) := by decide +kernel
theorem dX4_onItem_78 : decode cX4_onItem 78 = .ok (.getfield 32, 3) := by decide +kernel
theorem dX4_onItem_81 : decode cX4_onItem 81 = .ok (.iload_n 1, 1) := by decide +kernel
theorem dX4_onItem_82 : decode cX4_onItem 82 = .ok (.iconst 2, 1) := by decide +kernel
theorem dX4_onItem_83 : decode cX4_onItem 83 = .ok (.iadd, 1) := by decide +kernel
theorem dX4_onItem_84 : decode cX4_onItem 84 = .ok (.invokevirtual 116, 3) := by decide +kernel
theorem dX4_onItem_87 : decode cX4_onItem 87 = .ok (.bipush 123, 2) := by decide +kernel
theorem dX4_onItem_89 : decode cX4_onItem 89 = .ok (.if_icmp .ne 7, 3) := by decide +kernel
theorem dX4_onItem_92 : decode cX4_onItem 92 = .ok (.iconst (-1), 1) := by decide +kernel
theorem dX4_onItem_93 : decode cX4_onItem 93 = .ok (.goto 12, 3) := by decide +kernel
theorem dX4_onItem_96 : decode cX4_onItem 96 = .ok (.aload_n 0, 1) := by decide +kernel
theorem dX4_onItem_97 : decode cX4_onItem 97 = .ok (.iload_n 2, 1) := by decide +kernel
theorem dX4_onItem_98 : decode cX4_onItem 98 = .ok (.iload_n 1, 1) := by decide +kernel
theorem dX4_onItem_99 : decode cX4_onItem 99 = .ok (.iconst 3, 1) := by decide +kernel
theorem dX4_onItem_100 : decode cX4_onItem 100 = .ok (.iadd, 1) := by decide +kernel
theorem dX4_onItem_101 : decode cX4_onItem 101 = .ok (.iconst 2, 1) := by decide +kernel
theorem dX4_onItem_102 : decode cX4_onItem 102 = .ok (.invokevirtual 259, 3) := by decide +kernel
theorem dX4_onItem_105 : decode cX4_onItem 105 = .ok (.invokestatic 112, 3) := by decide +kernel
theorem dX4_onItem_108 : decode cX4_onItem 108 = .ok (.aload_n 0, 1) := by decide +kernel
theorem dX4_onItem_109 : decode cX4_onItem 109 = .ok (.dup, 1) := by decide +kernel
theorem dX4_onItem_110 : decode cX4_onItem 110 = .ok (.getfield 135, 3) := by decide +kernel
theorem dX4_onItem_113 : decode cX4_onItem 113 = .ok (.iconst 1, 1) := by decide +kernel
theorem dX4_onItem_114 : decode cX4_onItem 114 = .ok (.iadd, 1) := by decide +kernel
theorem dX4_onItem_115 : decode cX4_onItem 115 = .ok (.putfield 135, 3) := by decide +kernel
theorem dX4_onItem_118 : decode cX4_onItem 118 = .ok (.return_, 1) := by decide +kernel
def F_X4_onItem (p0 : Int32) (Γ : HS) : HR :=
  (F_X4_sortOf (p0 + 1) Γ).bind fun u_1 =>
  if u_1.1 = 3 then (
    (F_X4_numberOf (p0 + 1) u_1.2).bind fun u_5 =>
    bnd (cA' u_5.2 4 13 (g_put 200 ((u_5.2 4).2.1 13) ((u_5.2 3).1 15) u_5.1)) fun σ_7 =>
    (F_X4_whatOf u_5.1 (p0 + 2) 1 σ_7).bind fun u_9 =>
    bnd (cA' u_9.2 4 14 (g_put 200 ((u_9.2 4).2.1 14) ((σ_7 3).1 15) u_9.1)) fun σ_11 =>
    (F_X10_kindOf (p0 + 2) σ_11).bind fun u_13 =>
    bnd (mrg (fun j => j == 1) σ_11 u_13.2) fun σ_15 =>
    bnd (fun (t_17 : Int32) (σ_18 : HS) => (
      bnd (cA' σ_18 4 15 (g_put 200 ((σ_18 4).2.1 15) ((σ_11 3).1 15) t_17)) fun σ_22 =>
      bnd (cI' σ_22 3 15 (((σ_22 3).1 15) + 1)) fun σ_24 =>
      some (0, σ_24)
    ) : Int32 → HS → HR) fun j_19 =>
    if u_13.1 = 123 then (
      j_19 (-1) σ_15
    ) else (
      (F_X4_whatOf u_5.1 (p0 + 3) 2 σ_15).bind fun u_29 =>
      j_19 u_29.1 u_29.2
    )
  ) else (
    (F_X4_fail 3 (p0 + 1) u_1.2).bind fun u_32 =>
    some (0, u_32.2)
  )
set_option maxHeartbeats 4000000 in
set_option maxRecDepth 100000 in
theorem k_X4_onItem (l : Launch) (dC : Nat → ClassId) (dI : Nat → Nat → Nat) (cB cC cI cJ cZ cP : ClassId) (oA : Nat → Nat) (rA : Nat → Nat → Nat) (sz : Nat)  (p0 : Int32) (Γ : HS) (res : Int32 × HS) (hF : F_X4_onItem p0 Γ = some res) : Met l yX4_onItem (g_ws yX4_onItem cX4_onItem 3 none) ({ frames := 6, cells := 0, slots := 0, locals := 148 }) (va_Pc [.ref (oA 3), .int p0] (g_B (dC, dI) [(cB, .byte), (cC, .char), (cI, .int), (cJ, .long), (cZ, .boolean), (cP, .object "StoryHouse$Play")] sz (b_m cB cC cI cJ cZ oA rA Γ ++ b_w cB cC cI cJ cZ oA rA Γ ++ b_s cB cC cI cJ cZ oA rA Γ ++ b_c cB cC cI cJ cZ oA rA Γ ++ b_t cB cC cI cJ cZ oA rA Γ ++ b_d cB cC cI cJ cZ oA rA Γ) g_0)) (va_Qv (fun (_ : Unit) => True) (g_Bo (dC, dI) (va_A (b_m cB cC cI cJ cZ oA rA Γ ++ b_w cB cC cI cJ cZ oA rA Γ ++ b_s cB cC cI cJ cZ oA rA Γ ++ b_c cB cC cI cJ cZ oA rA Γ ++ b_t cB cC cI cJ cZ oA rA Γ ++ b_d cB cC cI cJ cZ oA rA Γ) sz) (fun (_ : Unit) => (b_m cB cC cI cJ cZ oA rA res.2 ++ b_w cB cC cI cJ cZ oA rA res.2 ++ b_s cB cC cI cJ cZ oA rA res.2 ++ b_c cB cC cI cJ cZ oA rA res.2 ++ b_t cB cC cI cJ cZ oA rA res.2 ++ b_d cB cC cI cJ cZ oA rA res.2))) (va_A (b_m cB cC cI cJ cZ oA rA Γ ++ b_w cB cC cI cJ cZ oA rA Γ ++ b_s cB cC cI cJ cZ oA rA Γ ++ b_c cB cC cI cJ cZ oA rA Γ ++ b_t cB cC cI cJ cZ oA rA Γ ++ b_d cB cC cI cJ cZ oA rA Γ) sz)) 0 0 (va_A (b_m cB cC cI cJ cZ oA rA Γ ++ b_w cB cC cI cJ cZ oA rA Γ ++ b_s cB cC cI cJ cZ oA rA Γ ++ b_c cB cC cI cJ cZ oA rA Γ ++ b_t cB cC cI cJ cZ oA rA Γ ++ b_d cB cC cI cJ cZ oA rA Γ) sz) := by
  refine Met.ofW (cc := cX4_onItem) (maxL := 3) (ret := none) (by decide) rfl ?_
  intro p e s m args below meth c s₁ B hml hv
  obtain ⟨rfl, hsz, hP, hK, hD0, hE, hX⟩ := hv
  have hx := B.exec
  have hb := B.bytes
  have hr := B.returns
  have hts0 := atoms_spec (ws := g_ws yX4_onItem cX4_onItem 3 none) B.pre
  have hts : ∀ w ∈ lw_good, w.before ([.ref (oA 3), .int p0] : List Value).toArray s = true := fun w z => hts0 w (List.mem_cons_of_mem _ z)
  have hown : s.vm.findClass RX4 = some m.cls := findClass_of_methodNamed B.named
  have hlocks := B.notSynchronized
  subst hsz
  have hD1 := hD0.self (sz := s.heap.size)
  generalize hAe : va_A (b_m cB cC cI cJ cZ oA rA Γ ++ b_w cB cC cI cJ cZ oA rA Γ ++ b_s cB cC cI cJ cZ oA rA Γ ++ b_c cB cC cI cJ cZ oA rA Γ ++ b_t cB cC cI cJ cZ oA rA Γ ++ b_d cB cC cI cJ cZ oA rA Γ) s.heap.size = A at hD1 hE hX ⊢
  have hA : ∀ q : Nat, s.heap.size ≤ q → A q := fun q z => by rw [← hAe]; exact Or.inr z
  have hDD : ∀ Γ : HS, va_D A (b_m cB cC cI cJ cZ oA rA Γ ++ b_w cB cC cI cJ cZ oA rA Γ ++ b_s cB cC cI cJ cZ oA rA Γ ++ b_c cB cC cI cJ cZ oA rA Γ ++ b_t cB cC cI cJ cZ oA rA Γ ++ b_d cB cC cI cJ cZ oA rA Γ) := fun Γ9 => va_D_fst (ws := (b_m cB cC cI cJ cZ oA rA Γ ++ b_w cB cC cI cJ cZ oA rA Γ ++ b_s cB cC cI cJ cZ oA rA Γ ++ b_c cB cC cI cJ cZ oA rA Γ ++ b_t cB cC cI cJ cZ oA rA Γ ++ b_d cB cC cI cJ cZ oA rA Γ)) (ws' := (b_m cB cC cI cJ cZ oA rA Γ9 ++ b_w cB cC cI cJ cZ oA rA Γ9 ++ b_s cB cC cI cJ cZ oA rA Γ9 ++ b_c cB cC cI cJ cZ oA rA Γ9 ++ b_t cB cC cI cJ cZ oA rA Γ9 ++ b_d cB cC cI cJ cZ oA rA Γ9)) rfl hD1
  have hN := hE.1
  have hS : va_S A s.heap s.heap [] := va_S.rf
  have hl := lv_entry ([.ref (oA 3), .int p0]) (n := 3) (Nat.le_of_ble_eq_true rfl)
  rw [lg_entry_eq]
  generalize (lg_sl ([.ref (oA 3), .int p0]) ++ List.replicate (3 - (lg_sl ([.ref (oA 3), .int p0])).length) Slot.unset).toArray = ls at hl ⊢
  have hl : lv_has ls 3 [(0, .ref (oA 3)), (1, .int p0)] := hl
  unfold F_X4_onItem at hF
  refine lv_aload_n hx hb dX4_onItem_0 rfl (lv_at hl 0 rfl) ?_
  refine lv_iload_n hx hb dX4_onItem_1 rfl (lv_at hl 1 rfl) ?_
  refine lv_iconst (v := 1) hx hb dX4_onItem_2 (by decide +kernel) ?_
  refine lv_iadd hx hb dX4_onItem_3 ?_
  obtain ⟨u_1, hu_1, hF_2⟩ := Option.bind_eq_some_iff.mp hF
  clear hF
  have hPc := bx_P (bs := [b_m cB cC cI cJ cZ oA rA Γ, b_w cB cC cI cJ cZ oA rA Γ, b_s cB cC cI cJ cZ oA rA Γ, b_c cB cC cI cJ cZ oA rA Γ, b_t cB cC cI cJ cZ oA rA Γ, b_d cB cC cI cJ cZ oA rA Γ]) (bs' := [b_m cB cC cI cJ cZ oA rA Γ, b_w cB cC cI cJ cZ oA rA Γ, b_s cB cC cI cJ cZ oA rA Γ, b_c cB cC cI cJ cZ oA rA Γ, b_t cB cC cI cJ cZ oA rA Γ, b_d cB cC cI cJ cZ oA rA Γ]) (ws' := (b_m cB cC cI cJ cZ oA rA Γ ++ b_w cB cC cI cJ cZ oA rA Γ ++ b_s cB cC cI cJ cZ oA rA Γ ++ b_c cB cC cI cJ cZ oA rA Γ ++ b_t cB cC cI cJ cZ oA rA Γ ++ b_d cB cC cI cJ cZ oA rA Γ)) hP fl_6 fl_6 [0, 1, 2, 3, 4, 5] rfl
  have hDc := bx_D (bs := [b_m cB cC cI cJ cZ oA rA Γ, b_w cB cC cI cJ cZ oA rA Γ, b_s cB cC cI cJ cZ oA rA Γ, b_c cB cC cI cJ cZ oA rA Γ, b_t cB cC cI cJ cZ oA rA Γ, b_d cB cC cI cJ cZ oA rA Γ]) (bs' := [b_m cB cC cI cJ cZ oA rA Γ, b_w cB cC cI cJ cZ oA rA Γ, b_s cB cC cI cJ cZ oA rA Γ, b_c cB cC cI cJ cZ oA rA Γ, b_t cB cC cI cJ cZ oA rA Γ, b_d cB cC cI cJ cZ oA rA Γ]) (ws' := (b_m cB cC cI cJ cZ oA rA Γ ++ b_w cB cC cI cJ cZ oA rA Γ ++ b_s cB cC cI cJ cZ oA rA Γ ++ b_c cB cC cI cJ cZ oA rA Γ ++ b_t cB cC cI cJ cZ oA rA Γ ++ b_d cB cC cI cJ cZ oA rA Γ)) (hDD Γ) fl_6 fl_6 [0, 1, 2, 3, 4, 5] (by decide +kernel) rfl
  have hFc := bx_F (bs := [b_m cB cC cI cJ cZ oA rA Γ, b_w cB cC cI cJ cZ oA rA Γ, b_s cB cC cI cJ cZ oA rA Γ, b_c cB cC cI cJ cZ oA rA Γ, b_t cB cC cI cJ cZ oA rA Γ, b_d cB cC cI cJ cZ oA rA Γ]) (bs' := [b_m cB cC cI cJ cZ oA rA Γ, b_w cB cC cI cJ cZ oA rA Γ, b_s cB cC cI cJ cZ oA rA Γ, b_c cB cC cI cJ cZ oA rA Γ, b_t cB cC cI cJ cZ oA rA Γ, b_d cB cC cI cJ cZ oA rA Γ]) (wc := (b_m cB cC cI cJ cZ oA rA Γ ++ b_w cB cC cI cJ cZ oA rA Γ ++ b_s cB cC cI cJ cZ oA rA Γ ++ b_c cB cC cI cJ cZ oA rA Γ ++ b_t cB cC cI cJ cZ oA rA Γ ++ b_d cB cC cI cJ cZ oA rA Γ)) (hDD Γ) hS hA fl_6 fl_6 [0, 1, 2, 3, 4, 5] rfl
  refine g_ofi (wc := (b_m cB cC cI cJ cZ oA rA Γ ++ b_w cB cC cI cJ cZ oA rA Γ ++ b_s cB cC cI cJ cZ oA rA Γ ++ b_c cB cC cI cJ cZ oA rA Γ ++ b_t cB cC cI cJ cZ oA rA Γ ++ b_d cB cC cI cJ cZ oA rA Γ)) (wr := ([] : va_W)) hP (hDD Γ) hS hFc (bx_ix [b_m cB cC cI cJ cZ oA rA Γ, b_w cB cC cI cJ cZ oA rA Γ, b_s cB cC cI cJ cZ oA rA Γ, b_c cB cC cI cJ cZ oA rA Γ, b_t cB cC cI cJ cZ oA rA Γ, b_d cB cC cI cJ cZ oA rA Γ] [0, 1, 2, 3, 4, 5]) (bx_ix [b_m cB cC cI cJ cZ oA rA Γ, b_w cB cC cI cJ cZ oA rA Γ, b_s cB cC cI cJ cZ oA rA Γ, b_c cB cC cI cJ cZ oA rA Γ, b_t cB cC cI cJ cZ oA rA Γ, b_d cB cC cI cJ cZ oA rA Γ] []) (bx_C (bs := [b_m cB cC cI cJ cZ oA rA Γ, b_w cB cC cI cJ cZ oA rA Γ, b_s cB cC cI cJ cZ oA rA Γ, b_c cB cC cI cJ cZ oA rA Γ, b_t cB cC cI cJ cZ oA rA Γ, b_d cB cC cI cJ cZ oA rA Γ]) (bs' := [b_m cB cC cI cJ cZ oA rA Γ, b_w cB cC cI cJ cZ oA rA Γ, b_s cB cC cI cJ cZ oA rA Γ, b_c cB cC cI cJ cZ oA rA Γ, b_t cB cC cI cJ cZ oA rA Γ, b_d cB cC cI cJ cZ oA rA Γ]) (is := [0, 1, 2, 3, 4, 5]) fl_6 fl_6 rfl) (bx_C (bs := [b_m cB cC cI cJ cZ oA rA Γ, b_w cB cC cI cJ cZ oA rA Γ, b_s cB cC cI cJ cZ oA rA Γ, b_c cB cC cI cJ cZ oA rA Γ, b_t cB cC cI cJ cZ oA rA Γ, b_d cB cC cI cJ cZ oA rA Γ]) (bs' := []) (is := []) fl_6 fl_0 rfl) (bx_n (by decide +kernel)) (bx_d (by decide +kernel)) (va_runV (As := [.int (p0 + 1)]) (rest := []) ⟨hx, hb, hml, hown, hts⟩ (k_X4_sortOf l dC dI cB cC cI cJ cZ cP oA rA s.heap.size  (p0 + 1) Γ _ hu_1) (cwV 1 hts (g_gV wq_766 wq_767 wq_2050 wq_4 wq_768) rfl rfl rfl (by decide +kernel) ⟨Nat.le_of_ble_eq_true rfl, Nat.le_of_ble_eq_true rfl⟩) (g_preV g_bl0 hK hPc hDc hS hE hFc g_to0 (q0 := 0) (ci := 4) rfl rfl) rfl rfl hl.1 rfl (lv_room (Nat.le_of_ble_eq_true rfl)) dX4_onItem_4 ⟨Nat.le_of_ble_eq_true rfl, Nat.le_of_ble_eq_true rfl⟩) (fun r9 u9 H locs hw9 hP' hD' hS => ?_)
  clear hPc hDc hFc
  subst hw9
  have hP : va_P (dC, dI) vwCl (b_m cB cC cI cJ cZ oA rA u_1.2 ++ b_w cB cC cI cJ cZ oA rA u_1.2 ++ b_s cB cC cI cJ cZ oA rA u_1.2 ++ b_c cB cC cI cJ cZ oA rA u_1.2 ++ b_t cB cC cI cJ cZ oA rA u_1.2 ++ b_d cB cC cI cJ cZ oA rA u_1.2) H := hP'
  clear hP' hD'
  refine lv_iconst (v := 3) hx hb dX4_onItem_7 (by decide +kernel) ?_
  refine lv_icmp_eq (tgt := 20) hx hb dX4_onItem_8 (by decide) (fun c_3 => ?_) (fun c_3 => ?_)
  · have hF_4 := ipos c_3 hF_2
    clear hF_2
    refine lv_aload_n hx hb dX4_onItem_20 rfl (lv_at hl 0 rfl) ?_
    refine lv_iload_n hx hb dX4_onItem_21 rfl (lv_at hl 1 rfl) ?_
    refine lv_iconst (v := 1) hx hb dX4_onItem_22 (by decide +kernel) ?_
    refine lv_iadd hx hb dX4_onItem_23 ?_
    obtain ⟨u_5, hu_5, hF_6⟩ := Option.bind_eq_some_iff.mp hF_4
    clear hF_4
    have hPc := bx_P (bs := [b_m cB cC cI cJ cZ oA rA u_1.2, b_w cB cC cI cJ cZ oA rA u_1.2, b_s cB cC cI cJ cZ oA rA u_1.2, b_c cB cC cI cJ cZ oA rA u_1.2, b_t cB cC cI cJ cZ oA rA u_1.2, b_d cB cC cI cJ cZ oA rA u_1.2]) (bs' := [b_m cB cC cI cJ cZ oA rA u_1.2, b_w cB cC cI cJ cZ oA rA u_1.2, b_s cB cC cI cJ cZ oA rA u_1.2, b_c cB cC cI cJ cZ oA rA u_1.2, b_t cB cC cI cJ cZ oA rA u_1.2, b_d cB cC cI cJ cZ oA rA u_1.2]) (ws' := (b_m cB cC cI cJ cZ oA rA u_1.2 ++ b_w cB cC cI cJ cZ oA rA u_1.2 ++ b_s cB cC cI cJ cZ oA rA u_1.2 ++ b_c cB cC cI cJ cZ oA rA u_1.2 ++ b_t cB cC cI cJ cZ oA rA u_1.2 ++ b_d cB cC cI cJ cZ oA rA u_1.2)) hP fl_6 fl_6 [0, 1, 2, 3, 4, 5] rfl
    have hDc := bx_D (bs := [b_m cB cC cI cJ cZ oA rA u_1.2, b_w cB cC cI cJ cZ oA rA u_1.2, b_s cB cC cI cJ cZ oA rA u_1.2, b_c cB cC cI cJ cZ oA rA u_1.2, b_t cB cC cI cJ cZ oA rA u_1.2, b_d cB cC cI cJ cZ oA rA u_1.2]) (bs' := [b_m cB cC cI cJ cZ oA rA u_1.2, b_w cB cC cI cJ cZ oA rA u_1.2, b_s cB cC cI cJ cZ oA rA u_1.2, b_c cB cC cI cJ cZ oA rA u_1.2, b_t cB cC cI cJ cZ oA rA u_1.2, b_d cB cC cI cJ cZ oA rA u_1.2]) (ws' := (b_m cB cC cI cJ cZ oA rA u_1.2 ++ b_w cB cC cI cJ cZ oA rA u_1.2 ++ b_s cB cC cI cJ cZ oA rA u_1.2 ++ b_c cB cC cI cJ cZ oA rA u_1.2 ++ b_t cB cC cI cJ cZ oA rA u_1.2 ++ b_d cB cC cI cJ cZ oA rA u_1.2)) (hDD u_1.2) fl_6 fl_6 [0, 1, 2, 3, 4, 5] (by decide +kernel) rfl
    have hFc := bx_F (bs := [b_m cB cC cI cJ cZ oA rA u_1.2, b_w cB cC cI cJ cZ oA rA u_1.2, b_s cB cC cI cJ cZ oA rA u_1.2, b_c cB cC cI cJ cZ oA rA u_1.2, b_t cB cC cI cJ cZ oA rA u_1.2, b_d cB cC cI cJ cZ oA rA u_1.2]) (bs' := [b_m cB cC cI cJ cZ oA rA u_1.2, b_w cB cC cI cJ cZ oA rA u_1.2, b_s cB cC cI cJ cZ oA rA u_1.2, b_c cB cC cI cJ cZ oA rA u_1.2, b_t cB cC cI cJ cZ oA rA u_1.2, b_d cB cC cI cJ cZ oA rA u_1.2]) (wc := (b_m cB cC cI cJ cZ oA rA u_1.2 ++ b_w cB cC cI cJ cZ oA rA u_1.2 ++ b_s cB cC cI cJ cZ oA rA u_1.2 ++ b_c cB cC cI cJ cZ oA rA u_1.2 ++ b_t cB cC cI cJ cZ oA rA u_1.2 ++ b_d cB cC cI cJ cZ oA rA u_1.2)) (hDD u_1.2) hS hA fl_6 fl_6 [0, 1, 2, 3, 4, 5] rfl
    refine g_ofi (wc := (b_m cB cC cI cJ cZ oA rA u_1.2 ++ b_w cB cC cI cJ cZ oA rA u_1.2 ++ b_s cB cC cI cJ cZ oA rA u_1.2 ++ b_c cB cC cI cJ cZ oA rA u_1.2 ++ b_t cB cC cI cJ cZ oA rA u_1.2 ++ b_d cB cC cI cJ cZ oA rA u_1.2)) (wr := ([] : va_W)) hP (hDD u_1.2) hS hFc (bx_ix [b_m cB cC cI cJ cZ oA rA u_1.2, b_w cB cC cI cJ cZ oA rA u_1.2, b_s cB cC cI cJ cZ oA rA u_1.2, b_c cB cC cI cJ cZ oA rA u_1.2, b_t cB cC cI cJ cZ oA rA u_1.2, b_d cB cC cI cJ cZ oA rA u_1.2] [0, 1, 2, 3, 4, 5]) (bx_ix [b_m cB cC cI cJ cZ oA rA u_1.2, b_w cB cC cI cJ cZ oA rA u_1.2, b_s cB cC cI cJ cZ oA rA u_1.2, b_c cB cC cI cJ cZ oA rA u_1.2, b_t cB cC cI cJ cZ oA rA u_1.2, b_d cB cC cI cJ cZ oA rA u_1.2] []) (bx_C (bs := [b_m cB cC cI cJ cZ oA rA u_1.2, b_w cB cC cI cJ cZ oA rA u_1.2, b_s cB cC cI cJ cZ oA rA u_1.2, b_c cB cC cI cJ cZ oA rA u_1.2, b_t cB cC cI cJ cZ oA rA u_1.2, b_d cB cC cI cJ cZ oA rA u_1.2]) (bs' := [b_m cB cC cI cJ cZ oA rA u_1.2, b_w cB cC cI cJ cZ oA rA u_1.2, b_s cB cC cI cJ cZ oA rA u_1.2, b_c cB cC cI cJ cZ oA rA u_1.2, b_t cB cC cI cJ cZ oA rA u_1.2, b_d cB cC cI cJ cZ oA rA u_1.2]) (is := [0, 1, 2, 3, 4, 5]) fl_6 fl_6 rfl) (bx_C (bs := [b_m cB cC cI cJ cZ oA rA u_1.2, b_w cB cC cI cJ cZ oA rA u_1.2, b_s cB cC cI cJ cZ oA rA u_1.2, b_c cB cC cI cJ cZ oA rA u_1.2, b_t cB cC cI cJ cZ oA rA u_1.2, b_d cB cC cI cJ cZ oA rA u_1.2]) (bs' := []) (is := []) fl_6 fl_0 rfl) (bx_n (by decide +kernel)) (bx_d (by decide +kernel)) (va_runV (As := [.int (p0 + 1)]) (rest := []) ⟨hx, hb, hml, hown, hts⟩ (k_X4_numberOf l dC dI cB cC cI cJ cZ cP oA rA H.size  (p0 + 1) u_1.2 _ hu_5) (cwV 1 hts (g_gV wq_769 wq_770 wq_2051 wq_4 wq_771) rfl rfl rfl (by decide +kernel) ⟨Nat.le_of_ble_eq_true rfl, Nat.le_of_ble_eq_true rfl⟩) (g_preV g_bl0 hK hPc hDc hS hE hFc g_to0 (q0 := 0) (ci := 4) rfl rfl) rfl rfl hl.1 rfl (lv_room (Nat.le_of_ble_eq_true rfl)) dX4_onItem_24 ⟨Nat.le_of_ble_eq_true rfl, Nat.le_of_ble_eq_true rfl⟩) (fun r9 u9 H locs hw9 hP' hD' hS => ?_)
    clear hPc hDc hFc
    subst hw9
    have hP : va_P (dC, dI) vwCl (b_m cB cC cI cJ cZ oA rA u_5.2 ++ b_w cB cC cI cJ cZ oA rA u_5.2 ++ b_s cB cC cI cJ cZ oA rA u_5.2 ++ b_c cB cC cI cJ cZ oA rA u_5.2 ++ b_t cB cC cI cJ cZ oA rA u_5.2 ++ b_d cB cC cI cJ cZ oA rA u_5.2) H := hP'
    clear hP' hD'
    refine lv_istore_n (lv' := [(2, .int u_5.1), (0, .ref (oA 3)), (1, .int p0)]) hx hb dX4_onItem_27 rfl hl (by decide) rfl (fun ls hl => ?_)
    refine lv_aload_n hx hb dX4_onItem_28 rfl (lv_at hl 1 rfl) ?_
    refine va_get (D := (dC, dI)) (ci := 4) (v := .ref (oA 4)) (C := RX4) (T := TX4) (N := 18) hx hb hts ii_X4 hown hK hP 0 rfl rfl 1 (by decide) (hts (.fieldLink RX4 36 "StoryHouse$Meanings" "story" "LStoryHouse$Story;") wq_87) (fun _ h9 => h9) rfl dX4_onItem_29 ?_
    refine va_get (D := (dC, dI)) (ci := 7) (v := .ref (rA 4 13)) (C := RX7) (T := TX7) (N := 19) hx hb hts ii_X7 hown hK hP 16 rfl rfl 13 (by decide) (hts (.fieldLink RX4 253 "StoryHouse$Story" "onVerbs" "[I") wq_185) (fun _ h9 => h9) rfl dX4_onItem_32 ?_
    refine lv_aload_n hx hb dX4_onItem_35 rfl (lv_at hl 1 rfl) ?_
    refine va_get (D := (dC, dI)) (ci := 4) (v := .int ((u_5.2 3).1 15)) (C := RX4) (T := TX4) (N := 18) hx hb hts ii_X4 hown hK hP 0 rfl rfl 15 (by decide) (hts (.fieldLink RX4 135 "StoryHouse$Meanings" "ons" "I") wq_101) (fun _ h9 => h9) rfl dX4_onItem_36 ?_
    refine lv_iload_n hx hb dX4_onItem_39 rfl (lv_at hl 0 rfl) ?_
    have hq9 : ((b_m cB cC cI cJ cZ oA rA u_5.2 ++ b_w cB cC cI cJ cZ oA rA u_5.2 ++ b_s cB cC cI cJ cZ oA rA u_5.2 ++ b_c cB cC cI cJ cZ oA rA u_5.2 ++ b_t cB cC cI cJ cZ oA rA u_5.2 ++ b_d cB cC cI cJ cZ oA rA u_5.2))[30]? = some (rA 4 13, .inl (cI, 200, .inl ((u_5.2 4).2.1 13))) := rfl
    have hPc := hP.sub (ws' := [(rA 4 13, .inl (cI, 200, .inl ((u_5.2 4).2.1 13)))]) [30] (pk_fm (er_C hq9))
    have hDc := (hDD u_5.2).sub (ws' := [(rA 4 13, .inl (cI, 200, .inl ((u_5.2 4).2.1 13)))]) [30] (by decide +kernel) (er_C hq9)
    have hFc := va_free (wc := [(rA 4 13, .inl (cI, 200, .inl ((u_5.2 4).2.1 13)))]) (hDD u_5.2) hS hA [30] (er_C hq9)
    refine g_ofv (wc := [(rA 4 13, .inl (cI, 200, .inl ((u_5.2 4).2.1 13)))]) (wr := (((b_m cB cC cI cJ cZ oA rA u_5.2 ++ b_w cB cC cI cJ cZ oA rA u_5.2 ++ b_s cB cC cI cJ cZ oA rA u_5.2 ++ b_c cB cC cI cJ cZ oA rA u_5.2 ++ b_t cB cC cI cJ cZ oA rA u_5.2 ++ b_d cB cC cI cJ cZ oA rA u_5.2)).eraseIdx 30)) hP (hDD u_5.2) hS hFc [30] ((List.range ((b_m cB cC cI cJ cZ oA rA u_5.2 ++ b_w cB cC cI cJ cZ oA rA u_5.2 ++ b_s cB cC cI cJ cZ oA rA u_5.2 ++ b_c cB cC cI cJ cZ oA rA u_5.2 ++ b_t cB cC cI cJ cZ oA rA u_5.2 ++ b_d cB cC cI cJ cZ oA rA u_5.2)).length).eraseIdx 30) (er_C hq9) er_R er_n er_d (va_runSN (As := [.ref (rA 4 13), .int ((u_5.2 3).1 15), .int u_5.1]) (rest := []) ⟨hx, hb, hml, hown, hts⟩ (c_X11_put l dC dI cB cC cI cJ cZ cP H.size (rA 4 13) ((u_5.2 3).1 15) u_5.1 200 ((u_5.2 4).2.1 13) (by decide)) ⟨va_cnB 3 hts (g_gA wq_412) rfl rfl rfl (nw_23 hN) (hts (.initialized RX11) wq_1) (by decide +kernel) ⟨Nat.le_of_ble_eq_true rfl, Nat.le_of_ble_eq_true rfl⟩, (hts (.static yX11_put) wq_411), trivial⟩ (g_preS g_bl0 hK hPc hDc hS hE hFc g_to0) rfl rfl hl.1 rfl (lv_room (Nat.le_of_ble_eq_true rfl)) dX4_onItem_40 ⟨Nat.le_of_ble_eq_true rfl, Nat.le_of_ble_eq_true rfl⟩) (fun g9 H locs hw9 hP' hD' hS => ?_)
    clear hPc hDc hFc hD'
    obtain ⟨σ_7, eσ_7, hF_8⟩ := bnd_e hF_6
    clear hF_6
    subst hw9
    have hP : va_P (dC, dI) vwCl (b_m cB cC cI cJ cZ oA rA σ_7 ++ b_w cB cC cI cJ cZ oA rA σ_7 ++ b_s cB cC cI cJ cZ oA rA σ_7 ++ b_c cB cC cI cJ cZ oA rA σ_7 ++ b_t cB cC cI cJ cZ oA rA σ_7 ++ b_d cB cC cI cJ cZ oA rA σ_7) H := by rw [eσ_7]; exact cs_mwsctd_s_13 ▸ er_P hP' (er_lt hq9)
    clear hP' hq9
    refine lv_aload_n hx hb dX4_onItem_43 rfl (lv_at hl 1 rfl) ?_
    refine va_get (D := (dC, dI)) (ci := 4) (v := .ref (oA 4)) (C := RX4) (T := TX4) (N := 18) hx hb hts ii_X4 hown hK hP 0 rfl rfl 1 (by decide) (hts (.fieldLink RX4 36 "StoryHouse$Meanings" "story" "LStoryHouse$Story;") wq_87) (fun _ h9 => h9) rfl dX4_onItem_44 ?_
    refine va_get (D := (dC, dI)) (ci := 7) (v := .ref (rA 4 14)) (C := RX7) (T := TX7) (N := 19) hx hb hts ii_X7 hown hK hP 16 rfl rfl 14 (by decide) (hts (.fieldLink RX4 256 "StoryHouse$Story" "onFirsts" "[I") wq_188) (fun _ h9 => h9) rfl dX4_onItem_47 ?_
    refine lv_aload_n hx hb dX4_onItem_50 rfl (lv_at hl 1 rfl) ?_
    refine va_get (D := (dC, dI)) (ci := 4) (v := .int ((σ_7 3).1 15)) (C := RX4) (T := TX4) (N := 18) hx hb hts ii_X4 hown hK hP 0 rfl rfl 15 (by decide) (hts (.fieldLink RX4 135 "StoryHouse$Meanings" "ons" "I") wq_101) (fun _ h9 => h9) rfl dX4_onItem_51 ?_
    refine lv_aload_n hx hb dX4_onItem_54 rfl (lv_at hl 1 rfl) ?_
    refine lv_iload_n hx hb dX4_onItem_55 rfl (lv_at hl 0 rfl) ?_
    refine lv_iload_n hx hb dX4_onItem_56 rfl (lv_at hl 2 rfl) ?_
    refine lv_iconst (v := 2) hx hb dX4_onItem_57 (by decide +kernel) ?_
    refine lv_iadd hx hb dX4_onItem_58 ?_
    refine lv_iconst (v := 1) hx hb dX4_onItem_59 (by decide +kernel) ?_
    obtain ⟨u_9, hu_9, hF_10⟩ := Option.bind_eq_some_iff.mp hF_8
    clear hF_8
    have hPc := bx_P (bs := [b_m cB cC cI cJ cZ oA rA σ_7, b_w cB cC cI cJ cZ oA rA σ_7, b_s cB cC cI cJ cZ oA rA σ_7, b_c cB cC cI cJ cZ oA rA σ_7, b_t cB cC cI cJ cZ oA rA σ_7, b_d cB cC cI cJ cZ oA rA σ_7]) (bs' := [b_m cB cC cI cJ cZ oA rA σ_7, b_w cB cC cI cJ cZ oA rA σ_7, b_s cB cC cI cJ cZ oA rA σ_7, b_c cB cC cI cJ cZ oA rA σ_7, b_t cB cC cI cJ cZ oA rA σ_7, b_d cB cC cI cJ cZ oA rA σ_7]) (ws' := (b_m cB cC cI cJ cZ oA rA σ_7 ++ b_w cB cC cI cJ cZ oA rA σ_7 ++ b_s cB cC cI cJ cZ oA rA σ_7 ++ b_c cB cC cI cJ cZ oA rA σ_7 ++ b_t cB cC cI cJ cZ oA rA σ_7 ++ b_d cB cC cI cJ cZ oA rA σ_7)) hP fl_6 fl_6 [0, 1, 2, 3, 4, 5] rfl
    have hDc := bx_D (bs := [b_m cB cC cI cJ cZ oA rA σ_7, b_w cB cC cI cJ cZ oA rA σ_7, b_s cB cC cI cJ cZ oA rA σ_7, b_c cB cC cI cJ cZ oA rA σ_7, b_t cB cC cI cJ cZ oA rA σ_7, b_d cB cC cI cJ cZ oA rA σ_7]) (bs' := [b_m cB cC cI cJ cZ oA rA σ_7, b_w cB cC cI cJ cZ oA rA σ_7, b_s cB cC cI cJ cZ oA rA σ_7, b_c cB cC cI cJ cZ oA rA σ_7, b_t cB cC cI cJ cZ oA rA σ_7, b_d cB cC cI cJ cZ oA rA σ_7]) (ws' := (b_m cB cC cI cJ cZ oA rA σ_7 ++ b_w cB cC cI cJ cZ oA rA σ_7 ++ b_s cB cC cI cJ cZ oA rA σ_7 ++ b_c cB cC cI cJ cZ oA rA σ_7 ++ b_t cB cC cI cJ cZ oA rA σ_7 ++ b_d cB cC cI cJ cZ oA rA σ_7)) (hDD σ_7) fl_6 fl_6 [0, 1, 2, 3, 4, 5] (by decide +kernel) rfl
    have hFc := bx_F (bs := [b_m cB cC cI cJ cZ oA rA σ_7, b_w cB cC cI cJ cZ oA rA σ_7, b_s cB cC cI cJ cZ oA rA σ_7, b_c cB cC cI cJ cZ oA rA σ_7, b_t cB cC cI cJ cZ oA rA σ_7, b_d cB cC cI cJ cZ oA rA σ_7]) (bs' := [b_m cB cC cI cJ cZ oA rA σ_7, b_w cB cC cI cJ cZ oA rA σ_7, b_s cB cC cI cJ cZ oA rA σ_7, b_c cB cC cI cJ cZ oA rA σ_7, b_t cB cC cI cJ cZ oA rA σ_7, b_d cB cC cI cJ cZ oA rA σ_7]) (wc := (b_m cB cC cI cJ cZ oA rA σ_7 ++ b_w cB cC cI cJ cZ oA rA σ_7 ++ b_s cB cC cI cJ cZ oA rA σ_7 ++ b_c cB cC cI cJ cZ oA rA σ_7 ++ b_t cB cC cI cJ cZ oA rA σ_7 ++ b_d cB cC cI cJ cZ oA rA σ_7)) (hDD σ_7) hS hA fl_6 fl_6 [0, 1, 2, 3, 4, 5] rfl
    refine g_ofi (wc := (b_m cB cC cI cJ cZ oA rA σ_7 ++ b_w cB cC cI cJ cZ oA rA σ_7 ++ b_s cB cC cI cJ cZ oA rA σ_7 ++ b_c cB cC cI cJ cZ oA rA σ_7 ++ b_t cB cC cI cJ cZ oA rA σ_7 ++ b_d cB cC cI cJ cZ oA rA σ_7)) (wr := ([] : va_W)) hP (hDD σ_7) hS hFc (bx_ix [b_m cB cC cI cJ cZ oA rA σ_7, b_w cB cC cI cJ cZ oA rA σ_7, b_s cB cC cI cJ cZ oA rA σ_7, b_c cB cC cI cJ cZ oA rA σ_7, b_t cB cC cI cJ cZ oA rA σ_7, b_d cB cC cI cJ cZ oA rA σ_7] [0, 1, 2, 3, 4, 5]) (bx_ix [b_m cB cC cI cJ cZ oA rA σ_7, b_w cB cC cI cJ cZ oA rA σ_7, b_s cB cC cI cJ cZ oA rA σ_7, b_c cB cC cI cJ cZ oA rA σ_7, b_t cB cC cI cJ cZ oA rA σ_7, b_d cB cC cI cJ cZ oA rA σ_7] []) (bx_C (bs := [b_m cB cC cI cJ cZ oA rA σ_7, b_w cB cC cI cJ cZ oA rA σ_7, b_s cB cC cI cJ cZ oA rA σ_7, b_c cB cC cI cJ cZ oA rA σ_7, b_t cB cC cI cJ cZ oA rA σ_7, b_d cB cC cI cJ cZ oA rA σ_7]) (bs' := [b_m cB cC cI cJ cZ oA rA σ_7, b_w cB cC cI cJ cZ oA rA σ_7, b_s cB cC cI cJ cZ oA rA σ_7, b_c cB cC cI cJ cZ oA rA σ_7, b_t cB cC cI cJ cZ oA rA σ_7, b_d cB cC cI cJ cZ oA rA σ_7]) (is := [0, 1, 2, 3, 4, 5]) fl_6 fl_6 rfl) (bx_C (bs := [b_m cB cC cI cJ cZ oA rA σ_7, b_w cB cC cI cJ cZ oA rA σ_7, b_s cB cC cI cJ cZ oA rA σ_7, b_c cB cC cI cJ cZ oA rA σ_7, b_t cB cC cI cJ cZ oA rA σ_7, b_d cB cC cI cJ cZ oA rA σ_7]) (bs' := []) (is := []) fl_6 fl_0 rfl) (bx_n (by decide +kernel)) (bx_d (by decide +kernel)) (va_runV (As := [.int u_5.1, .int (p0 + 2), .int 1]) (rest := [.int ((σ_7 3).1 15), .ref (rA 4 14)]) ⟨hx, hb, hml, hown, hts⟩ (k_X4_whatOf l dC dI cB cC cI cJ cZ cP oA rA H.size  u_5.1 (p0 + 2) 1 σ_7 _ hu_9) (cwV 3 hts (g_gV wq_804 wq_805 wq_2059 wq_4 wq_806) rfl rfl rfl (by decide +kernel) ⟨Nat.le_of_ble_eq_true rfl, Nat.le_of_ble_eq_true rfl⟩) (g_preV g_bl0 hK hPc hDc hS hE hFc g_to0 (q0 := 0) (ci := 4) rfl rfl) rfl rfl hl.1 rfl (lv_room (Nat.le_of_ble_eq_true rfl)) dX4_onItem_60 ⟨Nat.le_of_ble_eq_true rfl, Nat.le_of_ble_eq_true rfl⟩) (fun r9 u9 H locs hw9 hP' hD' hS => ?_)
    clear hPc hDc hFc
    subst hw9
    have hP : va_P (dC, dI) vwCl (b_m cB cC cI cJ cZ oA rA u_9.2 ++ b_w cB cC cI cJ cZ oA rA u_9.2 ++ b_s cB cC cI cJ cZ oA rA u_9.2 ++ b_c cB cC cI cJ cZ oA rA u_9.2 ++ b_t cB cC cI cJ cZ oA rA u_9.2 ++ b_d cB cC cI cJ cZ oA rA u_9.2) H := hP'
    clear hP' hD'
    have hq9 : ((b_m cB cC cI cJ cZ oA rA u_9.2 ++ b_w cB cC cI cJ cZ oA rA u_9.2 ++ b_s cB cC cI cJ cZ oA rA u_9.2 ++ b_c cB cC cI cJ cZ oA rA u_9.2 ++ b_t cB cC cI cJ cZ oA rA u_9.2 ++ b_d cB cC cI cJ cZ oA rA u_9.2))[31]? = some (rA 4 14, .inl (cI, 200, .inl ((u_9.2 4).2.1 14))) := rfl
    have hPc := hP.sub (ws' := [(rA 4 14, .inl (cI, 200, .inl ((u_9.2 4).2.1 14)))]) [31] (pk_fm (er_C hq9))
    have hDc := (hDD u_9.2).sub (ws' := [(rA 4 14, .inl (cI, 200, .inl ((u_9.2 4).2.1 14)))]) [31] (by decide +kernel) (er_C hq9)
    have hFc := va_free (wc := [(rA 4 14, .inl (cI, 200, .inl ((u_9.2 4).2.1 14)))]) (hDD u_9.2) hS hA [31] (er_C hq9)
    refine g_ofv (wc := [(rA 4 14, .inl (cI, 200, .inl ((u_9.2 4).2.1 14)))]) (wr := (((b_m cB cC cI cJ cZ oA rA u_9.2 ++ b_w cB cC cI cJ cZ oA rA u_9.2 ++ b_s cB cC cI cJ cZ oA rA u_9.2 ++ b_c cB cC cI cJ cZ oA rA u_9.2 ++ b_t cB cC cI cJ cZ oA rA u_9.2 ++ b_d cB cC cI cJ cZ oA rA u_9.2)).eraseIdx 31)) hP (hDD u_9.2) hS hFc [31] ((List.range ((b_m cB cC cI cJ cZ oA rA u_9.2 ++ b_w cB cC cI cJ cZ oA rA u_9.2 ++ b_s cB cC cI cJ cZ oA rA u_9.2 ++ b_c cB cC cI cJ cZ oA rA u_9.2 ++ b_t cB cC cI cJ cZ oA rA u_9.2 ++ b_d cB cC cI cJ cZ oA rA u_9.2)).length).eraseIdx 31) (er_C hq9) er_R er_n er_d (va_runSN (As := [.ref (rA 4 14), .int ((σ_7 3).1 15), .int u_9.1]) (rest := []) ⟨hx, hb, hml, hown, hts⟩ (c_X11_put l dC dI cB cC cI cJ cZ cP H.size (rA 4 14) ((σ_7 3).1 15) u_9.1 200 ((u_9.2 4).2.1 14) (by decide)) ⟨va_cnB 3 hts (g_gA wq_412) rfl rfl rfl (nw_23 hN) (hts (.initialized RX11) wq_1) (by decide +kernel) ⟨Nat.le_of_ble_eq_true rfl, Nat.le_of_ble_eq_true rfl⟩, (hts (.static yX11_put) wq_411), trivial⟩ (g_preS g_bl0 hK hPc hDc hS hE hFc g_to0) rfl rfl hl.1 rfl (lv_room (Nat.le_of_ble_eq_true rfl)) dX4_onItem_63 ⟨Nat.le_of_ble_eq_true rfl, Nat.le_of_ble_eq_true rfl⟩) (fun g9 H locs hw9 hP' hD' hS => ?_)
    clear hPc hDc hFc hD'
    obtain ⟨σ_11, eσ_11, hF_12⟩ := bnd_e hF_10
    clear hF_10
    subst hw9
    have hP : va_P (dC, dI) vwCl (b_m cB cC cI cJ cZ oA rA σ_11 ++ b_w cB cC cI cJ cZ oA rA σ_11 ++ b_s cB cC cI cJ cZ oA rA σ_11 ++ b_c cB cC cI cJ cZ oA rA σ_11 ++ b_t cB cC cI cJ cZ oA rA σ_11 ++ b_d cB cC cI cJ cZ oA rA σ_11) H := by rw [eσ_11]; exact cs_mwsctd_s_14 ▸ er_P hP' (er_lt hq9)
    clear hP' hq9
    refine lv_aload_n hx hb dX4_onItem_66 rfl (lv_at hl 1 rfl) ?_
    refine va_get (D := (dC, dI)) (ci := 4) (v := .ref (oA 4)) (C := RX4) (T := TX4) (N := 18) hx hb hts ii_X4 hown hK hP 0 rfl rfl 1 (by decide) (hts (.fieldLink RX4 36 "StoryHouse$Meanings" "story" "LStoryHouse$Story;") wq_87) (fun _ h9 => h9) rfl dX4_onItem_67 ?_
    refine va_get (D := (dC, dI)) (ci := 7) (v := .ref (rA 4 15)) (C := RX7) (T := TX7) (N := 19) hx hb hts ii_X7 hown hK hP 16 rfl rfl 15 (by decide) (hts (.fieldLink RX4 263 "StoryHouse$Story" "onSeconds" "[I") wq_191) (fun _ h9 => h9) rfl dX4_onItem_70 ?_
    refine lv_aload_n hx hb dX4_onItem_73 rfl (lv_at hl 1 rfl) ?_
    refine va_get (D := (dC, dI)) (ci := 4) (v := .int ((σ_11 3).1 15)) (C := RX4) (T := TX4) (N := 18) hx hb hts ii_X4 hown hK hP 0 rfl rfl 15 (by decide) (hts (.fieldLink RX4 135 "StoryHouse$Meanings" "ons" "I") wq_101) (fun _ h9 => h9) rfl dX4_onItem_74 ?_
    refine lv_aload_n hx hb dX4_onItem_77 rfl (lv_at hl 1 rfl) ?_
    refine va_get (D := (dC, dI)) (ci := 4) (v := .ref (oA 1)) (C := RX4) (T := TX4) (N := 18) hx hb hts ii_X4 hown hK hP 0 rfl rfl 0 (by decide) (hts (.fieldLink RX4 32 "StoryHouse$Meanings" "words" "LStoryHouse$Words;") wq_86) (fun _ h9 => h9) rfl dX4_onItem_78 ?_
    refine lv_iload_n hx hb dX4_onItem_81 rfl (lv_at hl 2 rfl) ?_
    refine lv_iconst (v := 2) hx hb dX4_onItem_82 (by decide +kernel) ?_
    refine lv_iadd hx hb dX4_onItem_83 ?_
    obtain ⟨u_13, hu_13, hF_14⟩ := Option.bind_eq_some_iff.mp hF_12
    clear hF_12
    have hPc := bx_P (bs := [b_m cB cC cI cJ cZ oA rA σ_11, b_w cB cC cI cJ cZ oA rA σ_11, b_s cB cC cI cJ cZ oA rA σ_11, b_c cB cC cI cJ cZ oA rA σ_11, b_t cB cC cI cJ cZ oA rA σ_11, b_d cB cC cI cJ cZ oA rA σ_11]) (bs' := [b_w cB cC cI cJ cZ oA rA σ_11]) (ws' := (b_w cB cC cI cJ cZ oA rA σ_11)) hP fl_6 fl_1 [1] rfl
    have hDc := bx_D (bs := [b_m cB cC cI cJ cZ oA rA σ_11, b_w cB cC cI cJ cZ oA rA σ_11, b_s cB cC cI cJ cZ oA rA σ_11, b_c cB cC cI cJ cZ oA rA σ_11, b_t cB cC cI cJ cZ oA rA σ_11, b_d cB cC cI cJ cZ oA rA σ_11]) (bs' := [b_w cB cC cI cJ cZ oA rA σ_11]) (ws' := (b_w cB cC cI cJ cZ oA rA σ_11)) (hDD σ_11) fl_6 fl_1 [1] (by decide +kernel) rfl
    have hFc := bx_F (bs := [b_m cB cC cI cJ cZ oA rA σ_11, b_w cB cC cI cJ cZ oA rA σ_11, b_s cB cC cI cJ cZ oA rA σ_11, b_c cB cC cI cJ cZ oA rA σ_11, b_t cB cC cI cJ cZ oA rA σ_11, b_d cB cC cI cJ cZ oA rA σ_11]) (bs' := [b_w cB cC cI cJ cZ oA rA σ_11]) (wc := (b_w cB cC cI cJ cZ oA rA σ_11)) (hDD σ_11) hS hA fl_6 fl_1 [1] rfl
    refine g_ofi (wc := (b_w cB cC cI cJ cZ oA rA σ_11)) (wr := (b_m cB cC cI cJ cZ oA rA σ_11 ++ b_s cB cC cI cJ cZ oA rA σ_11 ++ b_c cB cC cI cJ cZ oA rA σ_11 ++ b_t cB cC cI cJ cZ oA rA σ_11 ++ b_d cB cC cI cJ cZ oA rA σ_11)) hP (hDD σ_11) hS hFc (bx_ix [b_m cB cC cI cJ cZ oA rA σ_11, b_w cB cC cI cJ cZ oA rA σ_11, b_s cB cC cI cJ cZ oA rA σ_11, b_c cB cC cI cJ cZ oA rA σ_11, b_t cB cC cI cJ cZ oA rA σ_11, b_d cB cC cI cJ cZ oA rA σ_11] [1]) (bx_ix [b_m cB cC cI cJ cZ oA rA σ_11, b_w cB cC cI cJ cZ oA rA σ_11, b_s cB cC cI cJ cZ oA rA σ_11, b_c cB cC cI cJ cZ oA rA σ_11, b_t cB cC cI cJ cZ oA rA σ_11, b_d cB cC cI cJ cZ oA rA σ_11] [0, 2, 3, 4, 5]) (bx_C (bs := [b_m cB cC cI cJ cZ oA rA σ_11, b_w cB cC cI cJ cZ oA rA σ_11, b_s cB cC cI cJ cZ oA rA σ_11, b_c cB cC cI cJ cZ oA rA σ_11, b_t cB cC cI cJ cZ oA rA σ_11, b_d cB cC cI cJ cZ oA rA σ_11]) (bs' := [b_w cB cC cI cJ cZ oA rA σ_11]) (is := [1]) fl_6 fl_1 rfl) (bx_C (bs := [b_m cB cC cI cJ cZ oA rA σ_11, b_w cB cC cI cJ cZ oA rA σ_11, b_s cB cC cI cJ cZ oA rA σ_11, b_c cB cC cI cJ cZ oA rA σ_11, b_t cB cC cI cJ cZ oA rA σ_11, b_d cB cC cI cJ cZ oA rA σ_11]) (bs' := [b_m cB cC cI cJ cZ oA rA σ_11, b_s cB cC cI cJ cZ oA rA σ_11, b_c cB cC cI cJ cZ oA rA σ_11, b_t cB cC cI cJ cZ oA rA σ_11, b_d cB cC cI cJ cZ oA rA σ_11]) (is := [0, 2, 3, 4, 5]) fl_6 fl_5 rfl) (bx_n (by decide +kernel)) (bx_d (by decide +kernel)) (va_runV (As := [.int (p0 + 2)]) (rest := [.int ((σ_11 3).1 15), .ref (rA 4 15)]) ⟨hx, hb, hml, hown, hts⟩ (k_X10_kindOf l dC dI cB cC cI cJ cZ cP oA rA H.size  (p0 + 2) σ_11 _ hu_13) (cwV 1 hts (g_gV wq_714 wq_543 wq_544 wq_2 wq_545) rfl rfl rfl (by decide +kernel) ⟨Nat.le_of_ble_eq_true rfl, Nat.le_of_ble_eq_true rfl⟩) (g_preV g_bl0 hK hPc hDc hS hE hFc g_to0 (q0 := 0) (ci := 10) rfl rfl) rfl rfl hl.1 rfl (lv_room (Nat.le_of_ble_eq_true rfl)) dX4_onItem_84 ⟨Nat.le_of_ble_eq_true rfl, Nat.le_of_ble_eq_true rfl⟩) (fun r9 u9 H locs hw9 hP' hD' hS => ?_)
    clear hPc hDc hFc
    subst hw9
    obtain ⟨σ_15, eσ_15, hF_16⟩ := bnd_e hF_14
    clear hF_14
    have hP : va_P (dC, dI) vwCl (b_m cB cC cI cJ cZ oA rA σ_15 ++ b_w cB cC cI cJ cZ oA rA σ_15 ++ b_s cB cC cI cJ cZ oA rA σ_15 ++ b_c cB cC cI cJ cZ oA rA σ_15 ++ b_t cB cC cI cJ cZ oA rA σ_15 ++ b_d cB cC cI cJ cZ oA rA σ_15) H := by rw [eσ_15]; exact bx_P (bs := [b_m cB cC cI cJ cZ oA rA σ_11, b_s cB cC cI cJ cZ oA rA σ_11, b_c cB cC cI cJ cZ oA rA σ_11, b_t cB cC cI cJ cZ oA rA σ_11, b_d cB cC cI cJ cZ oA rA σ_11] ++ [b_w cB cC cI cJ cZ oA rA u_13.2]) (bs' := [b_m cB cC cI cJ cZ oA rA (mrg (fun j => j == 1) σ_11 u_13.2), b_w cB cC cI cJ cZ oA rA (mrg (fun j => j == 1) σ_11 u_13.2), b_s cB cC cI cJ cZ oA rA (mrg (fun j => j == 1) σ_11 u_13.2), b_c cB cC cI cJ cZ oA rA (mrg (fun j => j == 1) σ_11 u_13.2), b_t cB cC cI cJ cZ oA rA (mrg (fun j => j == 1) σ_11 u_13.2), b_d cB cC cI cJ cZ oA rA (mrg (fun j => j == 1) σ_11 u_13.2)]) hP' (fl_a fl_5 fl_1) fl_6 [0, 5, 1, 2, 3, 4] rfl
    clear hP' hD'
    refine lv_bipush (v := 123) hx hb dX4_onItem_87 (by decide +kernel) ?_
    obtain ⟨j_19, ej_19, hF_20⟩ := bnd_e hF_16
    clear hF_16
    have Jj_19 : ∀ (t_17 : Int32) (σ_18 : HS), j_19 t_17 σ_18 = some res → ∀ (H : Heap) (locs : List Loc), va_P (dC, dI) vwCl (b_m cB cC cI cJ cZ oA rA σ_18 ++ b_w cB cC cI cJ cZ oA rA σ_18 ++ b_s cB cC cI cJ cZ oA rA σ_18 ++ b_c cB cC cI cJ cZ oA rA σ_18 ++ b_t cB cC cI cJ cZ oA rA σ_18 ++ b_d cB cC cI cJ cZ oA rA σ_18) H → va_S A s.heap H locs → ∀ ls : Array Slot, lv_has ls 3 [(0, .ref (oA 3))] → W p l e (headSpec (g_ws yX4_onItem cX4_onItem 3 none) { frames := 6, cells := 0, slots := 0, locals := 148 }).room s m ([.ref (oA 3), .int p0] : List Value).toArray below meth c H locs 0 0 (MQ below (va_Qv (fun (_ : Unit) => True) (g_Bo (dC, dI) A (fun (_ : Unit) => (b_m cB cC cI cJ cZ oA rA res.2 ++ b_w cB cC cI cJ cZ oA rA res.2 ++ b_s cB cC cI cJ cZ oA rA res.2 ++ b_c cB cC cI cJ cZ oA rA res.2 ++ b_t cB cC cI cJ cZ oA rA res.2 ++ b_d cB cC cI cJ cZ oA rA res.2))) A) ([.ref (oA 3), .int p0] : List Value).toArray s 0 0 A) (F0 m 105 ls [.int t_17, .int ((σ_11 3).1 15), .ref (rA 4 15)]) := by
      intro t_17 σ_18 hF0 H locs hP hS ls hl
      subst ej_19
      have hF_21 := hF0
      clear hF0
      have hq9 : ((b_m cB cC cI cJ cZ oA rA σ_18 ++ b_w cB cC cI cJ cZ oA rA σ_18 ++ b_s cB cC cI cJ cZ oA rA σ_18 ++ b_c cB cC cI cJ cZ oA rA σ_18 ++ b_t cB cC cI cJ cZ oA rA σ_18 ++ b_d cB cC cI cJ cZ oA rA σ_18))[32]? = some (rA 4 15, .inl (cI, 200, .inl ((σ_18 4).2.1 15))) := rfl
      have hPc := hP.sub (ws' := [(rA 4 15, .inl (cI, 200, .inl ((σ_18 4).2.1 15)))]) [32] (pk_fm (er_C hq9))
      have hDc := (hDD σ_18).sub (ws' := [(rA 4 15, .inl (cI, 200, .inl ((σ_18 4).2.1 15)))]) [32] (by decide +kernel) (er_C hq9)
      have hFc := va_free (wc := [(rA 4 15, .inl (cI, 200, .inl ((σ_18 4).2.1 15)))]) (hDD σ_18) hS hA [32] (er_C hq9)
      refine g_ofv (wc := [(rA 4 15, .inl (cI, 200, .inl ((σ_18 4).2.1 15)))]) (wr := (((b_m cB cC cI cJ cZ oA rA σ_18 ++ b_w cB cC cI cJ cZ oA rA σ_18 ++ b_s cB cC cI cJ cZ oA rA σ_18 ++ b_c cB cC cI cJ cZ oA rA σ_18 ++ b_t cB cC cI cJ cZ oA rA σ_18 ++ b_d cB cC cI cJ cZ oA rA σ_18)).eraseIdx 32)) hP (hDD σ_18) hS hFc [32] ((List.range ((b_m cB cC cI cJ cZ oA rA σ_18 ++ b_w cB cC cI cJ cZ oA rA σ_18 ++ b_s cB cC cI cJ cZ oA rA σ_18 ++ b_c cB cC cI cJ cZ oA rA σ_18 ++ b_t cB cC cI cJ cZ oA rA σ_18 ++ b_d cB cC cI cJ cZ oA rA σ_18)).length).eraseIdx 32) (er_C hq9) er_R er_n er_d (va_runSN (As := [.ref (rA 4 15), .int ((σ_11 3).1 15), .int t_17]) (rest := []) ⟨hx, hb, hml, hown, hts⟩ (c_X11_put l dC dI cB cC cI cJ cZ cP H.size (rA 4 15) ((σ_11 3).1 15) t_17 200 ((σ_18 4).2.1 15) (by decide)) ⟨va_cnB 3 hts (g_gA wq_412) rfl rfl rfl (nw_23 hN) (hts (.initialized RX11) wq_1) (by decide +kernel) ⟨Nat.le_of_ble_eq_true rfl, Nat.le_of_ble_eq_true rfl⟩, (hts (.static yX11_put) wq_411), trivial⟩ (g_preS g_bl0 hK hPc hDc hS hE hFc g_to0) rfl rfl hl.1 rfl (lv_room (Nat.le_of_ble_eq_true rfl)) dX4_onItem_105 ⟨Nat.le_of_ble_eq_true rfl, Nat.le_of_ble_eq_true rfl⟩) (fun g9 H locs hw9 hP' hD' hS => ?_)
      clear hPc hDc hFc hD'
      obtain ⟨σ_22, eσ_22, hF_23⟩ := bnd_e hF_21
      clear hF_21
      subst hw9
      have hP : va_P (dC, dI) vwCl (b_m cB cC cI cJ cZ oA rA σ_22 ++ b_w cB cC cI cJ cZ oA rA σ_22 ++ b_s cB cC cI cJ cZ oA rA σ_22 ++ b_c cB cC cI cJ cZ oA rA σ_22 ++ b_t cB cC cI cJ cZ oA rA σ_22 ++ b_d cB cC cI cJ cZ oA rA σ_22) H := by rw [eσ_22]; exact cs_mwsctd_s_15 ▸ er_P hP' (er_lt hq9)
      clear hP' hq9
      refine lv_aload_n hx hb dX4_onItem_108 rfl (lv_at hl 0 rfl) ?_
      refine lv_dup hx hb dX4_onItem_109 rfl ?_
      refine va_get (D := (dC, dI)) (ci := 4) (v := .int ((σ_22 3).1 15)) (C := RX4) (T := TX4) (N := 18) hx hb hts ii_X4 hown hK hP 0 rfl rfl 15 (by decide) (hts (.fieldLink RX4 135 "StoryHouse$Meanings" "ons" "I") wq_101) (fun _ h9 => h9) rfl dX4_onItem_110 ?_
      refine lv_iconst (v := 1) hx hb dX4_onItem_113 (by decide +kernel) ?_
      refine lv_iadd hx hb dX4_onItem_114 ?_
      obtain ⟨σ_24, eσ_24, hF_25⟩ := bnd_e hF_23
      clear hF_23
      refine va_put (D := (dC, dI)) (ci := 4) (v := .int (((σ_22 3).1 15) + 1)) (ty := .int) (C := RX4) (T := TX4) (N := 18) hx hb hts ii_X4 tyX4 tyX4_ok nmX4 hown hK hP (hDD _) hS 0 rfl rfl 15 (by decide) (hts (.fieldLink RX4 135 "StoryHouse$Meanings" "ons" "I") wq_101) (fun _ h9 => h9) rfl (by decide +kernel) rfl rfl (Nat.le_of_ble_eq_true rfl) dX4_onItem_115 (fun H locs hP' _ hS => ?_)
      have hP : va_P (dC, dI) vwCl (b_m cB cC cI cJ cZ oA rA σ_24 ++ b_w cB cC cI cJ cZ oA rA σ_24 ++ b_s cB cC cI cJ cZ oA rA σ_24 ++ b_c cB cC cI cJ cZ oA rA σ_24 ++ b_t cB cC cI cJ cZ oA rA σ_24 ++ b_d cB cC cI cJ cZ oA rA σ_24) H := by rw [eσ_24]; exact cs_mwsctd_m_15 ▸ hP'
      clear hP'
      have h9 := Option.some.inj hF_25
      subst h9
      exact W.vret hx hb hr (fun t ht hW => ⟨⟨(), rfl, trivial, m_end ht hP, hDD _⟩, hS.F ht⟩) hS.2.2 dX4_onItem_118
    refine lv_icmp_ne (tgt := 96) hx hb dX4_onItem_89 (by decide) (fun c_26 => ?_) (fun c_26 => ?_)
    · have hF_28 := ineg c_26 hF_20
      clear hF_20
      refine lv_aload_n hx hb dX4_onItem_96 rfl (lv_at hl 1 rfl) ?_
      refine lv_iload_n hx hb dX4_onItem_97 rfl (lv_at hl 0 rfl) ?_
      refine lv_iload_n hx hb dX4_onItem_98 rfl (lv_at hl 2 rfl) ?_
      refine lv_iconst (v := 3) hx hb dX4_onItem_99 (by decide +kernel) ?_
      refine lv_iadd hx hb dX4_onItem_100 ?_
      refine lv_iconst (v := 2) hx hb dX4_onItem_101 (by decide +kernel) ?_
      obtain ⟨u_29, hu_29, hF_30⟩ := Option.bind_eq_some_iff.mp hF_28
      clear hF_28
      have hPc := bx_P (bs := [b_m cB cC cI cJ cZ oA rA σ_15, b_w cB cC cI cJ cZ oA rA σ_15, b_s cB cC cI cJ cZ oA rA σ_15, b_c cB cC cI cJ cZ oA rA σ_15, b_t cB cC cI cJ cZ oA rA σ_15, b_d cB cC cI cJ cZ oA rA σ_15]) (bs' := [b_m cB cC cI cJ cZ oA rA σ_15, b_w cB cC cI cJ cZ oA rA σ_15, b_s cB cC cI cJ cZ oA rA σ_15, b_c cB cC cI cJ cZ oA rA σ_15, b_t cB cC cI cJ cZ oA rA σ_15, b_d cB cC cI cJ cZ oA rA σ_15]) (ws' := (b_m cB cC cI cJ cZ oA rA σ_15 ++ b_w cB cC cI cJ cZ oA rA σ_15 ++ b_s cB cC cI cJ cZ oA rA σ_15 ++ b_c cB cC cI cJ cZ oA rA σ_15 ++ b_t cB cC cI cJ cZ oA rA σ_15 ++ b_d cB cC cI cJ cZ oA rA σ_15)) hP fl_6 fl_6 [0, 1, 2, 3, 4, 5] rfl
      have hDc := bx_D (bs := [b_m cB cC cI cJ cZ oA rA σ_15, b_w cB cC cI cJ cZ oA rA σ_15, b_s cB cC cI cJ cZ oA rA σ_15, b_c cB cC cI cJ cZ oA rA σ_15, b_t cB cC cI cJ cZ oA rA σ_15, b_d cB cC cI cJ cZ oA rA σ_15]) (bs' := [b_m cB cC cI cJ cZ oA rA σ_15, b_w cB cC cI cJ cZ oA rA σ_15, b_s cB cC cI cJ cZ oA rA σ_15, b_c cB cC cI cJ cZ oA rA σ_15, b_t cB cC cI cJ cZ oA rA σ_15, b_d cB cC cI cJ cZ oA rA σ_15]) (ws' := (b_m cB cC cI cJ cZ oA rA σ_15 ++ b_w cB cC cI cJ cZ oA rA σ_15 ++ b_s cB cC cI cJ cZ oA rA σ_15 ++ b_c cB cC cI cJ cZ oA rA σ_15 ++ b_t cB cC cI cJ cZ oA rA σ_15 ++ b_d cB cC cI cJ cZ oA rA σ_15)) (hDD σ_15) fl_6 fl_6 [0, 1, 2, 3, 4, 5] (by decide +kernel) rfl
      have hFc := bx_F (bs := [b_m cB cC cI cJ cZ oA rA σ_15, b_w cB cC cI cJ cZ oA rA σ_15, b_s cB cC cI cJ cZ oA rA σ_15, b_c cB cC cI cJ cZ oA rA σ_15, b_t cB cC cI cJ cZ oA rA σ_15, b_d cB cC cI cJ cZ oA rA σ_15]) (bs' := [b_m cB cC cI cJ cZ oA rA σ_15, b_w cB cC cI cJ cZ oA rA σ_15, b_s cB cC cI cJ cZ oA rA σ_15, b_c cB cC cI cJ cZ oA rA σ_15, b_t cB cC cI cJ cZ oA rA σ_15, b_d cB cC cI cJ cZ oA rA σ_15]) (wc := (b_m cB cC cI cJ cZ oA rA σ_15 ++ b_w cB cC cI cJ cZ oA rA σ_15 ++ b_s cB cC cI cJ cZ oA rA σ_15 ++ b_c cB cC cI cJ cZ oA rA σ_15 ++ b_t cB cC cI cJ cZ oA rA σ_15 ++ b_d cB cC cI cJ cZ oA rA σ_15)) (hDD σ_15) hS hA fl_6 fl_6 [0, 1, 2, 3, 4, 5] rfl
      refine g_ofi (wc := (b_m cB cC cI cJ cZ oA rA σ_15 ++ b_w cB cC cI cJ cZ oA rA σ_15 ++ b_s cB cC cI cJ cZ oA rA σ_15 ++ b_c cB cC cI cJ cZ oA rA σ_15 ++ b_t cB cC cI cJ cZ oA rA σ_15 ++ b_d cB cC cI cJ cZ oA rA σ_15)) (wr := ([] : va_W)) hP (hDD σ_15) hS hFc (bx_ix [b_m cB cC cI cJ cZ oA rA σ_15, b_w cB cC cI cJ cZ oA rA σ_15, b_s cB cC cI cJ cZ oA rA σ_15, b_c cB cC cI cJ cZ oA rA σ_15, b_t cB cC cI cJ cZ oA rA σ_15, b_d cB cC cI cJ cZ oA rA σ_15] [0, 1, 2, 3, 4, 5]) (bx_ix [b_m cB cC cI cJ cZ oA rA σ_15, b_w cB cC cI cJ cZ oA rA σ_15, b_s cB cC cI cJ cZ oA rA σ_15, b_c cB cC cI cJ cZ oA rA σ_15, b_t cB cC cI cJ cZ oA rA σ_15, b_d cB cC cI cJ cZ oA rA σ_15] []) (bx_C (bs := [b_m cB cC cI cJ cZ oA rA σ_15, b_w cB cC cI cJ cZ oA rA σ_15, b_s cB cC cI cJ cZ oA rA σ_15, b_c cB cC cI cJ cZ oA rA σ_15, b_t cB cC cI cJ cZ oA rA σ_15, b_d cB cC cI cJ cZ oA rA σ_15]) (bs' := [b_m cB cC cI cJ cZ oA rA σ_15, b_w cB cC cI cJ cZ oA rA σ_15, b_s cB cC cI cJ cZ oA rA σ_15, b_c cB cC cI cJ cZ oA rA σ_15, b_t cB cC cI cJ cZ oA rA σ_15, b_d cB cC cI cJ cZ oA rA σ_15]) (is := [0, 1, 2, 3, 4, 5]) fl_6 fl_6 rfl) (bx_C (bs := [b_m cB cC cI cJ cZ oA rA σ_15, b_w cB cC cI cJ cZ oA rA σ_15, b_s cB cC cI cJ cZ oA rA σ_15, b_c cB cC cI cJ cZ oA rA σ_15, b_t cB cC cI cJ cZ oA rA σ_15, b_d cB cC cI cJ cZ oA rA σ_15]) (bs' := []) (is := []) fl_6 fl_0 rfl) (bx_n (by decide +kernel)) (bx_d (by decide +kernel)) (va_runV (As := [.int u_5.1, .int (p0 + 3), .int 2]) (rest := [.int ((σ_11 3).1 15), .ref (rA 4 15)]) ⟨hx, hb, hml, hown, hts⟩ (k_X4_whatOf l dC dI cB cC cI cJ cZ cP oA rA H.size  u_5.1 (p0 + 3) 2 σ_15 _ hu_29) (cwV 3 hts (g_gV wq_804 wq_805 wq_2059 wq_4 wq_806) rfl rfl rfl (by decide +kernel) ⟨Nat.le_of_ble_eq_true rfl, Nat.le_of_ble_eq_true rfl⟩) (g_preV g_bl0 hK hPc hDc hS hE hFc g_to0 (q0 := 0) (ci := 4) rfl rfl) rfl rfl hl.1 rfl (lv_room (Nat.le_of_ble_eq_true rfl)) dX4_onItem_102 ⟨Nat.le_of_ble_eq_true rfl, Nat.le_of_ble_eq_true rfl⟩) (fun r9 u9 H locs hw9 hP' hD' hS => ?_)
      clear hPc hDc hFc
      subst hw9
      have hP : va_P (dC, dI) vwCl (b_m cB cC cI cJ cZ oA rA u_29.2 ++ b_w cB cC cI cJ cZ oA rA u_29.2 ++ b_s cB cC cI cJ cZ oA rA u_29.2 ++ b_c cB cC cI cJ cZ oA rA u_29.2 ++ b_t cB cC cI cJ cZ oA rA u_29.2 ++ b_d cB cC cI cJ cZ oA rA u_29.2) H := hP'
      clear hP' hD'
      exact Jj_19 u_29.1 u_29.2 hF_30 _ _ hP hS ls (lv_sub hl [1] rfl)
    · have hF_27 := ipos c_26 hF_20
      clear hF_20
      refine lv_iconst (v := (-1)) hx hb dX4_onItem_92 (by decide +kernel) ?_
      refine lv_goto (tgt := 105) hx hb dX4_onItem_93 (by decide) ?_
      exact Jj_19 (-1) σ_15 hF_27 _ _ hP hS ls (lv_sub hl [1] rfl)
  · have hF_31 := ineg c_3 hF_2
    clear hF_2
    refine lv_aload_n hx hb dX4_onItem_11 rfl (lv_at hl 0 rfl) ?_
    refine lv_iconst (v := 3) hx hb dX4_onItem_12 (by decide +kernel) ?_
    refine lv_iload_n hx hb dX4_onItem_13 rfl (lv_at hl 1 rfl) ?_
    refine lv_iconst (v := 1) hx hb dX4_onItem_14 (by decide +kernel) ?_
    refine lv_iadd hx hb dX4_onItem_15 ?_
    obtain ⟨u_32, hu_32, hF_33⟩ := Option.bind_eq_some_iff.mp hF_31
    clear hF_31
    have hPc := bx_P (bs := [b_m cB cC cI cJ cZ oA rA u_1.2, b_w cB cC cI cJ cZ oA rA u_1.2, b_s cB cC cI cJ cZ oA rA u_1.2, b_c cB cC cI cJ cZ oA rA u_1.2, b_t cB cC cI cJ cZ oA rA u_1.2, b_d cB cC cI cJ cZ oA rA u_1.2]) (bs' := [b_m cB cC cI cJ cZ oA rA u_1.2, b_w cB cC cI cJ cZ oA rA u_1.2, b_s cB cC cI cJ cZ oA rA u_1.2, b_c cB cC cI cJ cZ oA rA u_1.2, b_t cB cC cI cJ cZ oA rA u_1.2, b_d cB cC cI cJ cZ oA rA u_1.2]) (ws' := (b_m cB cC cI cJ cZ oA rA u_1.2 ++ b_w cB cC cI cJ cZ oA rA u_1.2 ++ b_s cB cC cI cJ cZ oA rA u_1.2 ++ b_c cB cC cI cJ cZ oA rA u_1.2 ++ b_t cB cC cI cJ cZ oA rA u_1.2 ++ b_d cB cC cI cJ cZ oA rA u_1.2)) hP fl_6 fl_6 [0, 1, 2, 3, 4, 5] rfl
    have hDc := bx_D (bs := [b_m cB cC cI cJ cZ oA rA u_1.2, b_w cB cC cI cJ cZ oA rA u_1.2, b_s cB cC cI cJ cZ oA rA u_1.2, b_c cB cC cI cJ cZ oA rA u_1.2, b_t cB cC cI cJ cZ oA rA u_1.2, b_d cB cC cI cJ cZ oA rA u_1.2]) (bs' := [b_m cB cC cI cJ cZ oA rA u_1.2, b_w cB cC cI cJ cZ oA rA u_1.2, b_s cB cC cI cJ cZ oA rA u_1.2, b_c cB cC cI cJ cZ oA rA u_1.2, b_t cB cC cI cJ cZ oA rA u_1.2, b_d cB cC cI cJ cZ oA rA u_1.2]) (ws' := (b_m cB cC cI cJ cZ oA rA u_1.2 ++ b_w cB cC cI cJ cZ oA rA u_1.2 ++ b_s cB cC cI cJ cZ oA rA u_1.2 ++ b_c cB cC cI cJ cZ oA rA u_1.2 ++ b_t cB cC cI cJ cZ oA rA u_1.2 ++ b_d cB cC cI cJ cZ oA rA u_1.2)) (hDD u_1.2) fl_6 fl_6 [0, 1, 2, 3, 4, 5] (by decide +kernel) rfl
    have hFc := bx_F (bs := [b_m cB cC cI cJ cZ oA rA u_1.2, b_w cB cC cI cJ cZ oA rA u_1.2, b_s cB cC cI cJ cZ oA rA u_1.2, b_c cB cC cI cJ cZ oA rA u_1.2, b_t cB cC cI cJ cZ oA rA u_1.2, b_d cB cC cI cJ cZ oA rA u_1.2]) (bs' := [b_m cB cC cI cJ cZ oA rA u_1.2, b_w cB cC cI cJ cZ oA rA u_1.2, b_s cB cC cI cJ cZ oA rA u_1.2, b_c cB cC cI cJ cZ oA rA u_1.2, b_t cB cC cI cJ cZ oA rA u_1.2, b_d cB cC cI cJ cZ oA rA u_1.2]) (wc := (b_m cB cC cI cJ cZ oA rA u_1.2 ++ b_w cB cC cI cJ cZ oA rA u_1.2 ++ b_s cB cC cI cJ cZ oA rA u_1.2 ++ b_c cB cC cI cJ cZ oA rA u_1.2 ++ b_t cB cC cI cJ cZ oA rA u_1.2 ++ b_d cB cC cI cJ cZ oA rA u_1.2)) (hDD u_1.2) hS hA fl_6 fl_6 [0, 1, 2, 3, 4, 5] rfl
    refine g_ofv (wc := (b_m cB cC cI cJ cZ oA rA u_1.2 ++ b_w cB cC cI cJ cZ oA rA u_1.2 ++ b_s cB cC cI cJ cZ oA rA u_1.2 ++ b_c cB cC cI cJ cZ oA rA u_1.2 ++ b_t cB cC cI cJ cZ oA rA u_1.2 ++ b_d cB cC cI cJ cZ oA rA u_1.2)) (wr := ([] : va_W)) hP (hDD u_1.2) hS hFc (bx_ix [b_m cB cC cI cJ cZ oA rA u_1.2, b_w cB cC cI cJ cZ oA rA u_1.2, b_s cB cC cI cJ cZ oA rA u_1.2, b_c cB cC cI cJ cZ oA rA u_1.2, b_t cB cC cI cJ cZ oA rA u_1.2, b_d cB cC cI cJ cZ oA rA u_1.2] [0, 1, 2, 3, 4, 5]) (bx_ix [b_m cB cC cI cJ cZ oA rA u_1.2, b_w cB cC cI cJ cZ oA rA u_1.2, b_s cB cC cI cJ cZ oA rA u_1.2, b_c cB cC cI cJ cZ oA rA u_1.2, b_t cB cC cI cJ cZ oA rA u_1.2, b_d cB cC cI cJ cZ oA rA u_1.2] []) (bx_C (bs := [b_m cB cC cI cJ cZ oA rA u_1.2, b_w cB cC cI cJ cZ oA rA u_1.2, b_s cB cC cI cJ cZ oA rA u_1.2, b_c cB cC cI cJ cZ oA rA u_1.2, b_t cB cC cI cJ cZ oA rA u_1.2, b_d cB cC cI cJ cZ oA rA u_1.2]) (bs' := [b_m cB cC cI cJ cZ oA rA u_1.2, b_w cB cC cI cJ cZ oA rA u_1.2, b_s cB cC cI cJ cZ oA rA u_1.2, b_c cB cC cI cJ cZ oA rA u_1.2, b_t cB cC cI cJ cZ oA rA u_1.2, b_d cB cC cI cJ cZ oA rA u_1.2]) (is := [0, 1, 2, 3, 4, 5]) fl_6 fl_6 rfl) (bx_C (bs := [b_m cB cC cI cJ cZ oA rA u_1.2, b_w cB cC cI cJ cZ oA rA u_1.2, b_s cB cC cI cJ cZ oA rA u_1.2, b_c cB cC cI cJ cZ oA rA u_1.2, b_t cB cC cI cJ cZ oA rA u_1.2, b_d cB cC cI cJ cZ oA rA u_1.2]) (bs' := []) (is := []) fl_6 fl_0 rfl) (bx_n (by decide +kernel)) (bx_d (by decide +kernel)) (va_runV (As := [.int 3, .int (p0 + 1)]) (rest := []) ⟨hx, hb, hml, hown, hts⟩ (k_X4_fail l dC dI cB cC cI cJ cZ cP oA rA H.size  3 (p0 + 1) u_1.2 _ hu_32) (cwV 2 hts (g_gV wq_725 wq_726 wq_2037 wq_4 wq_727) rfl rfl rfl (by decide +kernel) ⟨Nat.le_of_ble_eq_true rfl, Nat.le_of_ble_eq_true rfl⟩) (g_preV g_bl0 hK hPc hDc hS hE hFc g_to0 (q0 := 0) (ci := 4) rfl rfl) rfl rfl hl.1 rfl (lv_room (Nat.le_of_ble_eq_true rfl)) dX4_onItem_16 ⟨Nat.le_of_ble_eq_true rfl, Nat.le_of_ble_eq_true rfl⟩) (fun u9 H locs hw9 hP' hD' hS => ?_)
    clear hPc hDc hFc
    have hP : va_P (dC, dI) vwCl (b_m cB cC cI cJ cZ oA rA u_32.2 ++ b_w cB cC cI cJ cZ oA rA u_32.2 ++ b_s cB cC cI cJ cZ oA rA u_32.2 ++ b_c cB cC cI cJ cZ oA rA u_32.2 ++ b_t cB cC cI cJ cZ oA rA u_32.2 ++ b_d cB cC cI cJ cZ oA rA u_32.2) H := hP'
    clear hP' hD'
    have h9 := Option.some.inj hF_33
    subst h9
    exact W.vret hx hb hr (fun t ht hW => ⟨⟨(), rfl, trivial, m_end ht hP, hDD _⟩, hS.F ht⟩) hS.2.2 dX4_onItem_19
theorem dX10_termOf_0 : decode cX10_termOf 0 = .ok (.iload_n 1, 1) := by decide +kernel
theorem dX10_termOf_1 : decode cX10_termOf 1 = .ok (.ifCond .lt 29, 3) := by decide +kernel
theorem dX10_termOf_4 : decode cX10_termOf 4 = .ok (.iload_n 1, 1) := by decide +kernel
theorem dX10_termOf_5 : decode cX10_termOf 5 = .ok (.aload_n 0, 1) := by decide +kernel
theorem dX10_termOf_6 : decode cX10_termOf 6 = .ok (.getfield 63, 3) := by decide +kernel
theorem dX10_termOf_9 : decode cX10_termOf 9 = .ok (.if_icmp .ge 21, 3) := by decide +kernel
theorem dX10_termOf_12 : decode cX10_termOf 12 = .ok (.iload_n 1, 1) := by decide +kernel
theorem dX10_termOf_13 : decode cX10_termOf 13 = .ok (.aload_n 0, 1) := by decide +kernel
theorem dX10_termOf_14 : decode cX10_termOf 14 = .ok (.getfield 31, 3) := by decide +kernel
theorem dX10_termOf_17 : decode cX10_termOf 17 = .ok (.arraylength, 1) := by decide +kernel
theorem dX10_termOf_18 : decode cX10_termOf 18 = .ok (.if_icmp .ge 12, 3) := by decide +kernel
theorem dX10_termOf_21 : decode cX10_termOf 21 = .ok (.aload_n 0, 1) := by decide +kernel
theorem dX10_termOf_22 : decode cX10_termOf 22 = .ok (.getfield 31, 3) := by decide +kernel
theorem dX10_termOf_25 : decode cX10_termOf 25 = .ok (.iload_n 1, 1) := by decide +kernel
theorem dX10_termOf_26 : decode cX10_termOf 26 = .ok (.laload, 1) := by decide +kernel
theorem dX10_termOf_27 : decode cX10_termOf 27 = .ok (.goto 4, 3) := by decide +kernel
theorem dX10_termOf_30 : decode cX10_termOf 30 = .ok (.lconst 0, 1) := by decide +kernel
theorem dX10_termOf_31 : decode cX10_termOf 31 = .ok (.lstore_n 2, 1) := by decide +kernel
theorem dX10_termOf_32 : decode cX10_termOf 32 = .ok (.lload_n 2, 1) := by decide +kernel
theorem dX10_termOf_33 : decode cX10_termOf 33 = .ok (.ldc2_w 101, 3) := by decide +kernel
theorem dX10_termOf_36 : decode cX10_termOf 36 = .ok (.ldiv, 1) := by decide +kernel
theorem dX10_termOf_37 : decode cX10_termOf 37 = .ok (.lreturn, 1) := by decide +kernel
def F_X10_termOf (p0 : Int32) (Γ : HS) : HJ :=
  bnd (fun (t_1 : Int64) (σ_2 : HS) => (
    some ((t_1 / 50653), σ_2)
  ) : Int64 → HS → HJ) fun j_3 =>
  bnd (fun  (σ_6 : HS) => (
    j_3 0 σ_6
  ) : HS → HJ) fun j_7 =>
  if p0 < 0 then (
    j_7  Γ
  ) else (
    if ((Γ 1).1 10) ≤ p0 then (
      j_7  Γ
    ) else (
      if 4500 ≤ p0 then (
        j_7  Γ
      ) else (
        if p0 < 0 ∨ 4500 ≤ p0.toNatClampNeg then none else
        j_3 ((Γ 1).2.2 8 p0.toNatClampNeg) Γ
      )
    )
  )
set_option maxHeartbeats 4000000 in
set_option maxRecDepth 100000 in
theorem k_X10_termOf (l : Launch) (dC : Nat → ClassId) (dI : Nat → Nat → Nat) (cB cC cI cJ cZ cP : ClassId) (oA : Nat → Nat) (rA : Nat → Nat → Nat) (sz : Nat)  (p0 : Int32) (Γ : HS) (res : Int64 × HS) (hF : F_X10_termOf p0 Γ = some res) : Met l yX10_termOf (g_ws yX10_termOf cX10_termOf 4 (some .long)) ({ frames := 1, cells := 0, slots := 0, locals := 40 }) (va_Pc [.ref (oA 1), .int p0] (g_B (dC, dI) [(cB, .byte), (cC, .char), (cI, .int), (cJ, .long), (cZ, .boolean), (cP, .object "StoryHouse$Play")] sz (b_w cB cC cI cJ cZ oA rA Γ) g_0)) (va_Ql (fun r (_ : Unit) => r = res.1) (g_Bo (dC, dI) (va_A (b_w cB cC cI cJ cZ oA rA Γ) sz) (fun (_ : Unit) => (b_w cB cC cI cJ cZ oA rA res.2))) (va_A (b_w cB cC cI cJ cZ oA rA Γ) sz)) 0 0 (va_A (b_w cB cC cI cJ cZ oA rA Γ) sz) := by
  refine Met.ofW (cc := cX10_termOf) (maxL := 4) (ret := (some .long)) (by decide) rfl ?_
  intro p e s m args below meth c s₁ B hml hv
  obtain ⟨rfl, hsz, hP, hK, hD0, hE, hX⟩ := hv
  have hx := B.exec
  have hb := B.bytes
  have hr := B.returns
  have hts0 := atoms_spec (ws := g_ws yX10_termOf cX10_termOf 4 (some .long)) B.pre
  have hts : ∀ w ∈ lw_good, w.before ([.ref (oA 1), .int p0] : List Value).toArray s = true := fun w z => hts0 w (List.mem_cons_of_mem _ z)
  have hown : s.vm.findClass RX10 = some m.cls := findClass_of_methodNamed B.named
  have hlocks := B.notSynchronized
  subst hsz
  have hD1 := hD0.self (sz := s.heap.size)
  generalize hAe : va_A (b_w cB cC cI cJ cZ oA rA Γ) s.heap.size = A at hD1 hE hX ⊢
  have hA : ∀ q : Nat, s.heap.size ≤ q → A q := fun q z => by rw [← hAe]; exact Or.inr z
  have hDD : ∀ Γ : HS, va_D A (b_w cB cC cI cJ cZ oA rA Γ) := fun Γ9 => va_D_fst (ws := (b_w cB cC cI cJ cZ oA rA Γ)) (ws' := (b_w cB cC cI cJ cZ oA rA Γ9)) rfl hD1
  have hN := hE.1
  have hS : va_S A s.heap s.heap [] := va_S.rf
  have hl := lv_entry ([.ref (oA 1), .int p0]) (n := 4) (Nat.le_of_ble_eq_true rfl)
  rw [lg_entry_eq]
  generalize (lg_sl ([.ref (oA 1), .int p0]) ++ List.replicate (4 - (lg_sl ([.ref (oA 1), .int p0])).length) Slot.unset).toArray = ls at hl ⊢
  have hl : lv_has ls 4 [(0, .ref (oA 1)), (1, .int p0)] := hl
  unfold F_X10_termOf at hF
  refine lv_iload_n hx hb dX10_termOf_0 rfl (lv_at hl 1 rfl) ?_
  obtain ⟨j_3, ej_3, hF_4⟩ := bnd_e hF
  clear hF
  have Jj_3 : ∀ (t_1 : Int64) (σ_2 : HS), j_3 t_1 σ_2 = some res → ∀ (H : Heap) (locs : List Loc), va_P (dC, dI) vwCl (b_w cB cC cI cJ cZ oA rA σ_2) H → va_S A s.heap H locs → ∀ ls : Array Slot, lv_has ls 4 [] → W p l e (headSpec (g_ws yX10_termOf cX10_termOf 4 (some .long)) { frames := 1, cells := 0, slots := 0, locals := 40 }).room s m ([.ref (oA 1), .int p0] : List Value).toArray below meth c H locs 0 0 (MQ below (va_Ql (fun r (_ : Unit) => r = res.1) (g_Bo (dC, dI) A (fun (_ : Unit) => (b_w cB cC cI cJ cZ oA rA res.2))) A) ([.ref (oA 1), .int p0] : List Value).toArray s 0 0 A) (F0 m 31 ls [.long t_1]) := by
    intro t_1 σ_2 hF0 H locs hP hS ls hl
    subst ej_3
    have hF_5 := hF0
    clear hF0
    refine lv_lstore_n (lv' := [(2, .long t_1)]) hx hb dX10_termOf_31 rfl hl (by decide) rfl (fun ls hl => ?_)
    refine lv_lload_n hx hb dX10_termOf_32 rfl (lv_at hl 0 rfl) ?_
    refine lv_ldc2 (v := 50653) hx hb hown (hts (.constantLong RX10 101 (50653)) wq_792) dX10_termOf_33 ?_
    refine lv_ldiv hx hb dX10_termOf_36 (by decide +kernel) ?_
    have h9 := Option.some.inj hF_5
    subst h9
    exact W.lret (v := (t_1 / 50653)) hx hb hr (fun t ht hW => ⟨⟨(t_1 / 50653), (), rfl, rfl, m_end ht hP, hDD _⟩, hS.F ht⟩) hS.2.2 dX10_termOf_37
  obtain ⟨j_7, ej_7, hF_8⟩ := bnd_e hF_4
  clear hF_4
  have Jj_7 : ∀  (σ_6 : HS), j_7  σ_6 = some res → ∀ (H : Heap) (locs : List Loc), va_P (dC, dI) vwCl (b_w cB cC cI cJ cZ oA rA σ_6) H → va_S A s.heap H locs → ∀ ls : Array Slot, lv_has ls 4 [] → W p l e (headSpec (g_ws yX10_termOf cX10_termOf 4 (some .long)) { frames := 1, cells := 0, slots := 0, locals := 40 }).room s m ([.ref (oA 1), .int p0] : List Value).toArray below meth c H locs 0 0 (MQ below (va_Ql (fun r (_ : Unit) => r = res.1) (g_Bo (dC, dI) A (fun (_ : Unit) => (b_w cB cC cI cJ cZ oA rA res.2))) A) ([.ref (oA 1), .int p0] : List Value).toArray s 0 0 A) (F0 m 30 ls []) := by
    intro  σ_6 hF0 H locs hP hS ls hl
    subst ej_7
    have hF_9 := hF0
    clear hF0
    refine lv_lconst (v := 0) hx hb dX10_termOf_30 (by decide +kernel) ?_
    exact Jj_3 0 σ_6 hF_9 _ _ hP hS ls (lv_sub hl [] rfl)
  refine lv_if_lt (tgt := 30) hx hb dX10_termOf_1 (by decide) (fun c_10 => ?_) (fun c_10 => ?_)
  · have hF_11 := ipos c_10 hF_8
    clear hF_8
    exact Jj_7  Γ hF_11 _ _ hP hS ls (lv_sub hl [] rfl)
  · have hF_12 := ineg c_10 hF_8
    clear hF_8
    refine lv_iload_n hx hb dX10_termOf_4 rfl (lv_at hl 1 rfl) ?_
    refine lv_aload_n hx hb dX10_termOf_5 rfl (lv_at hl 0 rfl) ?_
    refine va_get (D := (dC, dI)) (ci := 10) (v := .int ((Γ 1).1 10)) (C := RX10) (T := TX10) (N := 12) hx hb hts ii_X10 hown hK hP 0 rfl rfl 10 (by decide) (hts (.fieldLink RX10 63 "StoryHouse$Words" "named" "I") wq_60) (fun _ h9 => h9) rfl dX10_termOf_6 ?_
    refine lv_icmp_ge (tgt := 30) hx hb dX10_termOf_9 (by decide) (fun c_13 => ?_) (fun c_13 => ?_)
    · have hF_14 := ipos c_13 hF_12
      clear hF_12
      exact Jj_7  Γ hF_14 _ _ hP hS ls (lv_sub hl [] rfl)
    · have hF_15 := ineg c_13 hF_12
      clear hF_12
      refine lv_iload_n hx hb dX10_termOf_12 rfl (lv_at hl 1 rfl) ?_
      refine lv_aload_n hx hb dX10_termOf_13 rfl (lv_at hl 0 rfl) ?_
      refine va_get (D := (dC, dI)) (ci := 10) (v := .ref (rA 1 8)) (C := RX10) (T := TX10) (N := 12) hx hb hts ii_X10 hown hK hP 0 rfl rfl 8 (by decide) (hts (.fieldLink RX10 31 "StoryHouse$Words" "names" "[J") wq_58) (fun _ h9 => h9) rfl dX10_termOf_14 ?_
      refine va_alen (v := 4500) hx hb hK hP 7 3 rfl rfl (by first | rfl | decide +kernel) dX10_termOf_17 ?_
      refine lv_icmp_ge (tgt := 30) hx hb dX10_termOf_18 (by decide) (fun c_16 => ?_) (fun c_16 => ?_)
      · have hF_17 := ipos c_16 hF_15
        clear hF_15
        exact Jj_7  Γ hF_17 _ _ hP hS ls (lv_sub hl [] rfl)
      · have hF_18 := ineg c_16 hF_15
        clear hF_15
        refine lv_aload_n hx hb dX10_termOf_21 rfl (lv_at hl 0 rfl) ?_
        refine va_get (D := (dC, dI)) (ci := 10) (v := .ref (rA 1 8)) (C := RX10) (T := TX10) (N := 12) hx hb hts ii_X10 hown hK hP 0 rfl rfl 8 (by decide) (hts (.fieldLink RX10 31 "StoryHouse$Words" "names" "[J") wq_58) (fun _ h9 => h9) rfl dX10_termOf_22 ?_
        refine lv_iload_n hx hb dX10_termOf_25 rfl (lv_at hl 1 rfl) ?_
        obtain ⟨g_19, hF_20⟩ := nif_e hF_18
        clear hF_18
        refine va_lald (f := (Γ 1).2.2 8) hx hb hK hP 7 3 rfl rfl g_19 dX10_termOf_26 ?_
        refine lv_goto (tgt := 31) hx hb dX10_termOf_27 (by decide) ?_
        exact Jj_3 ((Γ 1).2.2 8 p0.toNatClampNeg) Γ hF_20 _ _ hP hS ls (lv_sub hl [] rfl)
theorem dX7_addWord_0 : decode cX7_addWord 0 = .ok (.aload_n 0, 1) := by decide +kernel
theorem dX7_addWord_1 : decode cX7_addWord 1 = .ok (.getfield 78, 3) := by decide +kernel
theorem dX7_addWord_4 : decode cX7_addWord 4 = .ok (.lload_n 2, 1) := by decide +kernel
theorem dX7_addWord_5 : decode cX7_addWord 5 = .ok (.invokevirtual 133, 3) := by decide +kernel
theorem dX7_addWord_8 : decode cX7_addWord 8 = .ok (.istore 4, 2) := by decide +kernel
theorem dX7_addWord_10 : decode cX7_addWord 10 = .ok (.aload_n 0, 1) := by decide +kernel
theorem dX7_addWord_11 : decode cX7_addWord 11 = .ok (.getfield 43, 3) := by decide +kernel
theorem dX7_addWord_14 : decode cX7_addWord 14 = .ok (.iload_n 1, 1) := by decide +kernel
theorem dX7_addWord_15 : decode cX7_addWord 15 = .ok (.invokestatic 155, 3) := by decide +kernel
theorem dX7_addWord_18 : decode cX7_addWord 18 = .ok (.istore 5, 2) := by decide +kernel
theorem dX7_addWord_20 : decode cX7_addWord 20 = .ok (.iload_n 1, 1) := by decide +kernel
theorem dX7_addWord_21 : decode cX7_addWord 21 = .ok (.ifCond .le 38, 3) := by decide +kernel
theorem dX7_addWord_24 : decode cX7_addWord 24 = .ok (.iload 5, 2) := by decide +kernel
theorem dX7_addWord_26 : decode cX7_addWord 26 = .ok (.bipush 10, 2) := by decide +kernel
theorem dX7_addWord_28 : decode cX7_addWord 28 = .ok (.if_icmp .ge 31, 3) := by decide +kernel
theorem dX7_addWord_31 : decode cX7_addWord 31 = .ok (.aload_n 0, 1) := by decide +kernel
theorem dX7_addWord_32 : decode cX7_addWord 32 = .ok (.getfield 40, 3) := by decide +kernel
theorem dX7_addWord_35 : decode cX7_addWord 35 = .ok (.iload_n 1, 1) := by decide +kernel
theorem dX7_addWord_36 : decode cX7_addWord 36 = .ok (.bipush 10, 2) := by decide +kernel
theorem dX7_addWord_38 : decode cX7_addWord 38 = .ok (.imul, 1) := by decide +kernel
theorem dX7_addWord_39 : decode cX7_addWord 39 = .ok (.iload 5, 2) := by decide +kernel
theorem dX7_addWord_41 : decode cX7_addWord 41 = .ok (.iadd, 1) := by decide +kernel
theorem dX7_addWord_42 : decode cX7_addWord 42 = .ok (.iload 4, 2) := by decide +kernel
theorem dX7_addWord_44 : decode cX7_addWord 44 = .ok (.invokestatic 141, 3) := by decide +kernel
theorem dX7_addWord_47 : decode cX7_addWord 47 = .ok (.aload_n 0, 1) := by decide +kernel
theorem dX7_addWord_48 : decode cX7_addWord 48 = .ok (.getfield 43, 3) := by decide +kernel
theorem dX7_addWord_51 : decode cX7_addWord 51 = .ok (.iload_n 1, 1) := by decide +kernel
theorem dX7_addWord_52 : decode cX7_addWord 52 = .ok (.iload 5, 2) := by decide +kernel
theorem dX7_addWord_54 : decode cX7_addWord 54 = .ok (.iconst 1, 1) := by decide +kernel
theorem dX7_addWord_55 : decode cX7_addWord 55 = .ok (.iadd, 1) := by decide +kernel
theorem dX7_addWord_56 : decode cX7_addWord 56 = .ok (.invokestatic 141, 3) := by decide +kernel
theorem dX7_addWord_59 : decode cX7_addWord 59 = .ok (.return_, 1) := by decide +kernel
def F_X7_addWord (p0 : Int32) (p1 : Int64) (Γ : HS) : HR :=
  (F_X1_learn p1 Γ).bind fun u_1 =>
  bnd (mrg (fun j => j == 7) Γ u_1.2) fun σ_3 =>
  bnd ((g_at 181 ((σ_3 4).2.1 10) p0)) fun (x_5 : Int32) =>
  if p0 ≤ 0 then (
    some (0, σ_3)
  ) else (
    if 10 ≤ x_5 then (
      some (0, σ_3)
    ) else (
      bnd (cA' σ_3 4 9 (g_put 1810 ((σ_3 4).2.1 9) ((p0 * 10) + x_5) u_1.1)) fun σ_13 =>
      bnd ((x_5 + 1)) fun (x_15 : Int32) =>
      bnd (cA' σ_13 4 10 (g_put 181 ((σ_13 4).2.1 10) p0 x_15)) fun σ_17 =>
      some (0, σ_17)
    )
  )
set_option maxHeartbeats 4000000 in
set_option maxRecDepth 100000 in
theorem k_X7_addWord (l : Launch) (dC : Nat → ClassId) (dI : Nat → Nat → Nat) (cB cC cI cJ cZ cP : ClassId) (oA : Nat → Nat) (rA : Nat → Nat → Nat) (sz : Nat)  (p0 : Int32) (p1 : Int64) (Γ : HS) (res : Int32 × HS) (hF : F_X7_addWord p0 p1 Γ = some res) : Met l yX7_addWord (g_ws yX7_addWord cX7_addWord 6 none) ({ frames := 4, cells := 0, slots := 0, locals := 104 }) (va_Pc [.ref (oA 4), .int p0, .long p1] (g_B (dC, dI) [(cB, .byte), (cC, .char), (cI, .int), (cJ, .long), (cZ, .boolean), (cP, .object "StoryHouse$Play")] sz (b_s cB cC cI cJ cZ oA rA Γ ++ b_c cB cC cI cJ cZ oA rA Γ ++ b_t cB cC cI cJ cZ oA rA Γ ++ b_d cB cC cI cJ cZ oA rA Γ) g_0)) (va_Qv (fun (_ : Unit) => True) (g_Bo (dC, dI) (va_A (b_s cB cC cI cJ cZ oA rA Γ ++ b_c cB cC cI cJ cZ oA rA Γ ++ b_t cB cC cI cJ cZ oA rA Γ ++ b_d cB cC cI cJ cZ oA rA Γ) sz) (fun (_ : Unit) => (b_s cB cC cI cJ cZ oA rA res.2 ++ b_c cB cC cI cJ cZ oA rA res.2 ++ b_t cB cC cI cJ cZ oA rA res.2 ++ b_d cB cC cI cJ cZ oA rA res.2))) (va_A (b_s cB cC cI cJ cZ oA rA Γ ++ b_c cB cC cI cJ cZ oA rA Γ ++ b_t cB cC cI cJ cZ oA rA Γ ++ b_d cB cC cI cJ cZ oA rA Γ) sz)) 0 0 (va_A (b_s cB cC cI cJ cZ oA rA Γ ++ b_c cB cC cI cJ cZ oA rA Γ ++ b_t cB cC cI cJ cZ oA rA Γ ++ b_d cB cC cI cJ cZ oA rA Γ) sz) := by
  refine Met.ofW (cc := cX7_addWord) (maxL := 6) (ret := none) (by decide) rfl ?_
  intro p e s m args below meth c s₁ B hml hv
  obtain ⟨rfl, hsz, hP, hK, hD0, hE, hX⟩ := hv
  have hx := B.exec
  have hb := B.bytes
  have hr := B.returns
  have hts0 := atoms_spec (ws := g_ws yX7_addWord cX7_addWord 6 none) B.pre
  have hts : ∀ w ∈ lw_good, w.before ([.ref (oA 4), .int p0, .long p1] : List Value).toArray s = true := fun w z => hts0 w (List.mem_cons_of_mem _ z)
  have hown : s.vm.findClass RX7 = some m.cls := findClass_of_methodNamed B.named
  have hlocks := B.notSynchronized
  subst hsz
  have hD1 := hD0.self (sz := s.heap.size)
  generalize hAe : va_A (b_s cB cC cI cJ cZ oA rA Γ ++ b_c cB cC cI cJ cZ oA rA Γ ++ b_t cB cC cI cJ cZ oA rA Γ ++ b_d cB cC cI cJ cZ oA rA Γ) s.heap.size = A at hD1 hE hX ⊢
  have hA : ∀ q : Nat, s.heap.size ≤ q → A q := fun q z => by rw [← hAe]; exact Or.inr z
  have hDD : ∀ Γ : HS, va_D A (b_s cB cC cI cJ cZ oA rA Γ ++ b_c cB cC cI cJ cZ oA rA Γ ++ b_t cB cC cI cJ cZ oA rA Γ ++ b_d cB cC cI cJ cZ oA rA Γ) := fun Γ9 => va_D_fst (ws := (b_s cB cC cI cJ cZ oA rA Γ ++ b_c cB cC cI cJ cZ oA rA Γ ++ b_t cB cC cI cJ cZ oA rA Γ ++ b_d cB cC cI cJ cZ oA rA Γ)) (ws' := (b_s cB cC cI cJ cZ oA rA Γ9 ++ b_c cB cC cI cJ cZ oA rA Γ9 ++ b_t cB cC cI cJ cZ oA rA Γ9 ++ b_d cB cC cI cJ cZ oA rA Γ9)) rfl hD1
  have hN := hE.1
  have hS : va_S A s.heap s.heap [] := va_S.rf
  have hl := lv_entry ([.ref (oA 4), .int p0, .long p1]) (n := 6) (Nat.le_of_ble_eq_true rfl)
  rw [lg_entry_eq]
  generalize (lg_sl ([.ref (oA 4), .int p0, .long p1]) ++ List.replicate (6 - (lg_sl ([.ref (oA 4), .int p0, .long p1])).length) Slot.unset).toArray = ls at hl ⊢
  have hl : lv_has ls 6 [(0, .ref (oA 4)), (1, .int p0), (2, .long p1)] := hl
  unfold F_X7_addWord at hF
  refine lv_aload_n hx hb dX7_addWord_0 rfl (lv_at hl 0 rfl) ?_
  refine va_get (D := (dC, dI)) (ci := 7) (v := .ref (oA 7)) (C := RX7) (T := TX7) (N := 19) hx hb hts ii_X7 hown hK hP 0 rfl rfl 18 (by decide) (hts (.fieldLink RX7 78 "StoryHouse$Story" "dictionary" "LStoryHouse$Dictionary;") wq_199) (fun _ h9 => h9) rfl dX7_addWord_1 ?_
  refine lv_lload_n hx hb dX7_addWord_4 rfl (lv_at hl 2 rfl) ?_
  obtain ⟨u_1, hu_1, hF_2⟩ := Option.bind_eq_some_iff.mp hF
  clear hF
  have hPc := bx_P (bs := [b_s cB cC cI cJ cZ oA rA Γ, b_c cB cC cI cJ cZ oA rA Γ, b_t cB cC cI cJ cZ oA rA Γ, b_d cB cC cI cJ cZ oA rA Γ]) (bs' := [b_d cB cC cI cJ cZ oA rA Γ]) (ws' := (b_d cB cC cI cJ cZ oA rA Γ)) hP fl_4 fl_1 [3] rfl
  have hDc := bx_D (bs := [b_s cB cC cI cJ cZ oA rA Γ, b_c cB cC cI cJ cZ oA rA Γ, b_t cB cC cI cJ cZ oA rA Γ, b_d cB cC cI cJ cZ oA rA Γ]) (bs' := [b_d cB cC cI cJ cZ oA rA Γ]) (ws' := (b_d cB cC cI cJ cZ oA rA Γ)) (hDD Γ) fl_4 fl_1 [3] (by decide +kernel) rfl
  have hFc := bx_F (bs := [b_s cB cC cI cJ cZ oA rA Γ, b_c cB cC cI cJ cZ oA rA Γ, b_t cB cC cI cJ cZ oA rA Γ, b_d cB cC cI cJ cZ oA rA Γ]) (bs' := [b_d cB cC cI cJ cZ oA rA Γ]) (wc := (b_d cB cC cI cJ cZ oA rA Γ)) (hDD Γ) hS hA fl_4 fl_1 [3] rfl
  refine g_ofi (wc := (b_d cB cC cI cJ cZ oA rA Γ)) (wr := (b_s cB cC cI cJ cZ oA rA Γ ++ b_c cB cC cI cJ cZ oA rA Γ ++ b_t cB cC cI cJ cZ oA rA Γ)) hP (hDD Γ) hS hFc (bx_ix [b_s cB cC cI cJ cZ oA rA Γ, b_c cB cC cI cJ cZ oA rA Γ, b_t cB cC cI cJ cZ oA rA Γ, b_d cB cC cI cJ cZ oA rA Γ] [3]) (bx_ix [b_s cB cC cI cJ cZ oA rA Γ, b_c cB cC cI cJ cZ oA rA Γ, b_t cB cC cI cJ cZ oA rA Γ, b_d cB cC cI cJ cZ oA rA Γ] [0, 1, 2]) (bx_C (bs := [b_s cB cC cI cJ cZ oA rA Γ, b_c cB cC cI cJ cZ oA rA Γ, b_t cB cC cI cJ cZ oA rA Γ, b_d cB cC cI cJ cZ oA rA Γ]) (bs' := [b_d cB cC cI cJ cZ oA rA Γ]) (is := [3]) fl_4 fl_1 rfl) (bx_C (bs := [b_s cB cC cI cJ cZ oA rA Γ, b_c cB cC cI cJ cZ oA rA Γ, b_t cB cC cI cJ cZ oA rA Γ, b_d cB cC cI cJ cZ oA rA Γ]) (bs' := [b_s cB cC cI cJ cZ oA rA Γ, b_c cB cC cI cJ cZ oA rA Γ, b_t cB cC cI cJ cZ oA rA Γ]) (is := [0, 1, 2]) fl_4 fl_3 rfl) (bx_n (by decide +kernel)) (bx_d (by decide +kernel)) (va_runV (As := [.long p1]) (rest := []) ⟨hx, hb, hml, hown, hts⟩ (k_X1_learn l dC dI cB cC cI cJ cZ cP oA rA s.heap.size  p1 Γ _ hu_1) (cwV 1 hts (g_gV wq_524 wq_525 wq_526 wq_8 wq_527) rfl rfl rfl (by decide +kernel) ⟨Nat.le_of_ble_eq_true rfl, Nat.le_of_ble_eq_true rfl⟩) (g_preV g_bl0 hK hPc hDc hS hE hFc g_to0 (q0 := 0) (ci := 1) rfl rfl) rfl rfl hl.1 rfl (lv_room (Nat.le_of_ble_eq_true rfl)) dX7_addWord_5 ⟨Nat.le_of_ble_eq_true rfl, Nat.le_of_ble_eq_true rfl⟩) (fun r9 u9 H locs hw9 hP' hD' hS => ?_)
  clear hPc hDc hFc
  subst hw9
  obtain ⟨σ_3, eσ_3, hF_4⟩ := bnd_e hF_2
  clear hF_2
  have hP : va_P (dC, dI) vwCl (b_s cB cC cI cJ cZ oA rA σ_3 ++ b_c cB cC cI cJ cZ oA rA σ_3 ++ b_t cB cC cI cJ cZ oA rA σ_3 ++ b_d cB cC cI cJ cZ oA rA σ_3) H := by rw [eσ_3]; exact bx_P (bs := [b_s cB cC cI cJ cZ oA rA Γ, b_c cB cC cI cJ cZ oA rA Γ, b_t cB cC cI cJ cZ oA rA Γ] ++ [b_d cB cC cI cJ cZ oA rA u_1.2]) (bs' := [b_s cB cC cI cJ cZ oA rA (mrg (fun j => j == 7) Γ u_1.2), b_c cB cC cI cJ cZ oA rA (mrg (fun j => j == 7) Γ u_1.2), b_t cB cC cI cJ cZ oA rA (mrg (fun j => j == 7) Γ u_1.2), b_d cB cC cI cJ cZ oA rA (mrg (fun j => j == 7) Γ u_1.2)]) hP' (fl_a fl_3 fl_1) fl_4 [0, 1, 2, 3] rfl
  clear hP' hD'
  refine lv_istore (lv' := [(4, .int u_1.1), (0, .ref (oA 4)), (1, .int p0), (2, .long p1)]) hx hb dX7_addWord_8 hl (by decide) rfl (fun ls hl => ?_)
  refine lv_aload_n hx hb dX7_addWord_10 rfl (lv_at hl 1 rfl) ?_
  refine va_get (D := (dC, dI)) (ci := 7) (v := .ref (rA 4 10)) (C := RX7) (T := TX7) (N := 19) hx hb hts ii_X7 hown hK hP 0 rfl rfl 10 (by decide) (hts (.fieldLink RX7 43 "StoryHouse$Story" "ownedCounts" "[I") wq_177) (fun _ h9 => h9) rfl dX7_addWord_11 ?_
  refine lv_iload_n hx hb dX7_addWord_14 rfl (lv_at hl 2 rfl) ?_
  have hq9 : ((b_s cB cC cI cJ cZ oA rA σ_3 ++ b_c cB cC cI cJ cZ oA rA σ_3 ++ b_t cB cC cI cJ cZ oA rA σ_3 ++ b_d cB cC cI cJ cZ oA rA σ_3))[11]? = some (rA 4 10, .inl (cI, 181, .inl ((σ_3 4).2.1 10))) := rfl
  have hPc := hP.sub (ws' := [(rA 4 10, .inl (cI, 181, .inl ((σ_3 4).2.1 10)))]) [11] (pk_fm (er_C hq9))
  have hDc := (hDD σ_3).sub (ws' := [(rA 4 10, .inl (cI, 181, .inl ((σ_3 4).2.1 10)))]) [11] (by decide +kernel) (er_C hq9)
  have hFc := va_free (wc := [(rA 4 10, .inl (cI, 181, .inl ((σ_3 4).2.1 10)))]) (hDD σ_3) hS hA [11] (er_C hq9)
  refine g_ofi (wc := [(rA 4 10, .inl (cI, 181, .inl ((σ_3 4).2.1 10)))]) (wr := (((b_s cB cC cI cJ cZ oA rA σ_3 ++ b_c cB cC cI cJ cZ oA rA σ_3 ++ b_t cB cC cI cJ cZ oA rA σ_3 ++ b_d cB cC cI cJ cZ oA rA σ_3)).eraseIdx 11)) hP (hDD σ_3) hS hFc [11] ((List.range ((b_s cB cC cI cJ cZ oA rA σ_3 ++ b_c cB cC cI cJ cZ oA rA σ_3 ++ b_t cB cC cI cJ cZ oA rA σ_3 ++ b_d cB cC cI cJ cZ oA rA σ_3)).length).eraseIdx 11) (er_C hq9) er_R er_n er_d (va_runSN (As := [.ref (rA 4 10), .int p0]) (rest := []) ⟨hx, hb, hml, hown, hts⟩ (c_X11_at l dC dI cB cC cI cJ cZ cP H.size (rA 4 10) p0 181 ((σ_3 4).2.1 10) (by decide)) ⟨va_cnB 2 hts (g_gA wq_407) rfl rfl rfl (nw_17 hN) (hts (.initialized RX11) wq_1) (by decide +kernel) ⟨Nat.le_of_ble_eq_true rfl, Nat.le_of_ble_eq_true rfl⟩, (hts (.static yX11_at) wq_406), trivial⟩ (g_preS g_bl0 hK hPc hDc hS hE hFc g_to0) rfl rfl hl.1 rfl (lv_room (Nat.le_of_ble_eq_true rfl)) dX7_addWord_15 ⟨Nat.le_of_ble_eq_true rfl, Nat.le_of_ble_eq_true rfl⟩) (fun r9 u9 H locs hw9 hP' hD' hS => ?_)
  clear hPc hDc hFc hD'
  have hP : va_P (dC, dI) vwCl (b_s cB cC cI cJ cZ oA rA σ_3 ++ b_c cB cC cI cJ cZ oA rA σ_3 ++ b_t cB cC cI cJ cZ oA rA σ_3 ++ b_d cB cC cI cJ cZ oA rA σ_3) H := er_I hP' hq9
  clear hP' hq9
  subst hw9
  obtain ⟨x_5, ex_5, hF_6⟩ := bnd_e hF_4
  clear hF_4
  refine m_top ex_5 ?_
  refine lv_istore (lv' := [(5, .int x_5), (4, .int u_1.1), (0, .ref (oA 4)), (1, .int p0), (2, .long p1)]) hx hb dX7_addWord_18 hl (by decide) rfl (fun ls hl => ?_)
  refine lv_iload_n hx hb dX7_addWord_20 rfl (lv_at hl 3 rfl) ?_
  refine lv_if_le (tgt := 59) hx hb dX7_addWord_21 (by decide) (fun c_7 => ?_) (fun c_7 => ?_)
  · have hF_8 := ipos c_7 hF_6
    clear hF_6
    have h9 := Option.some.inj hF_8
    subst h9
    exact W.vret hx hb hr (fun t ht hW => ⟨⟨(), rfl, trivial, m_end ht hP, hDD _⟩, hS.F ht⟩) hS.2.2 dX7_addWord_59
  · have hF_9 := ineg c_7 hF_6
    clear hF_6
    refine lv_iload hx hb dX7_addWord_24 (lv_at hl 0 rfl) ?_
    refine lv_bipush (v := 10) hx hb dX7_addWord_26 (by decide +kernel) ?_
    refine lv_icmp_ge (tgt := 59) hx hb dX7_addWord_28 (by decide) (fun c_10 => ?_) (fun c_10 => ?_)
    · have hF_11 := ipos c_10 hF_9
      clear hF_9
      have h9 := Option.some.inj hF_11
      subst h9
      exact W.vret hx hb hr (fun t ht hW => ⟨⟨(), rfl, trivial, m_end ht hP, hDD _⟩, hS.F ht⟩) hS.2.2 dX7_addWord_59
    · have hF_12 := ineg c_10 hF_9
      clear hF_9
      refine lv_aload_n hx hb dX7_addWord_31 rfl (lv_at hl 2 rfl) ?_
      refine va_get (D := (dC, dI)) (ci := 7) (v := .ref (rA 4 9)) (C := RX7) (T := TX7) (N := 19) hx hb hts ii_X7 hown hK hP 0 rfl rfl 9 (by decide) (hts (.fieldLink RX7 40 "StoryHouse$Story" "owned" "[I") wq_176) (fun _ h9 => h9) rfl dX7_addWord_32 ?_
      refine lv_iload_n hx hb dX7_addWord_35 rfl (lv_at hl 3 rfl) ?_
      refine lv_bipush (v := 10) hx hb dX7_addWord_36 (by decide +kernel) ?_
      refine lv_imul hx hb dX7_addWord_38 ?_
      refine lv_iload hx hb dX7_addWord_39 (lv_at hl 0 rfl) ?_
      refine lv_iadd hx hb dX7_addWord_41 ?_
      refine lv_iload hx hb dX7_addWord_42 (lv_at hl 1 rfl) ?_
      have hq9 : ((b_s cB cC cI cJ cZ oA rA σ_3 ++ b_c cB cC cI cJ cZ oA rA σ_3 ++ b_t cB cC cI cJ cZ oA rA σ_3 ++ b_d cB cC cI cJ cZ oA rA σ_3))[10]? = some (rA 4 9, .inl (cI, 1810, .inl ((σ_3 4).2.1 9))) := rfl
      have hPc := hP.sub (ws' := [(rA 4 9, .inl (cI, 1810, .inl ((σ_3 4).2.1 9)))]) [10] (pk_fm (er_C hq9))
      have hDc := (hDD σ_3).sub (ws' := [(rA 4 9, .inl (cI, 1810, .inl ((σ_3 4).2.1 9)))]) [10] (by decide +kernel) (er_C hq9)
      have hFc := va_free (wc := [(rA 4 9, .inl (cI, 1810, .inl ((σ_3 4).2.1 9)))]) (hDD σ_3) hS hA [10] (er_C hq9)
      refine g_ofv (wc := [(rA 4 9, .inl (cI, 1810, .inl ((σ_3 4).2.1 9)))]) (wr := (((b_s cB cC cI cJ cZ oA rA σ_3 ++ b_c cB cC cI cJ cZ oA rA σ_3 ++ b_t cB cC cI cJ cZ oA rA σ_3 ++ b_d cB cC cI cJ cZ oA rA σ_3)).eraseIdx 10)) hP (hDD σ_3) hS hFc [10] ((List.range ((b_s cB cC cI cJ cZ oA rA σ_3 ++ b_c cB cC cI cJ cZ oA rA σ_3 ++ b_t cB cC cI cJ cZ oA rA σ_3 ++ b_d cB cC cI cJ cZ oA rA σ_3)).length).eraseIdx 10) (er_C hq9) er_R er_n er_d (va_runSN (As := [.ref (rA 4 9), .int ((p0 * 10) + x_5), .int u_1.1]) (rest := []) ⟨hx, hb, hml, hown, hts⟩ (c_X11_put l dC dI cB cC cI cJ cZ cP H.size (rA 4 9) ((p0 * 10) + x_5) u_1.1 1810 ((σ_3 4).2.1 9) (by decide)) ⟨va_cnB 3 hts (g_gA wq_412) rfl rfl rfl (nw_18 hN) (hts (.initialized RX11) wq_1) (by decide +kernel) ⟨Nat.le_of_ble_eq_true rfl, Nat.le_of_ble_eq_true rfl⟩, (hts (.static yX11_put) wq_411), trivial⟩ (g_preS g_bl0 hK hPc hDc hS hE hFc g_to0) rfl rfl hl.1 rfl (lv_room (Nat.le_of_ble_eq_true rfl)) dX7_addWord_44 ⟨Nat.le_of_ble_eq_true rfl, Nat.le_of_ble_eq_true rfl⟩) (fun g9 H locs hw9 hP' hD' hS => ?_)
      clear hPc hDc hFc hD'
      obtain ⟨σ_13, eσ_13, hF_14⟩ := bnd_e hF_12
      clear hF_12
      subst hw9
      have hP : va_P (dC, dI) vwCl (b_s cB cC cI cJ cZ oA rA σ_13 ++ b_c cB cC cI cJ cZ oA rA σ_13 ++ b_t cB cC cI cJ cZ oA rA σ_13 ++ b_d cB cC cI cJ cZ oA rA σ_13) H := by rw [eσ_13]; exact cs_sctd_s_9 ▸ er_P hP' (er_lt hq9)
      clear hP' hq9
      refine lv_aload_n hx hb dX7_addWord_47 rfl (lv_at hl 2 rfl) ?_
      refine va_get (D := (dC, dI)) (ci := 7) (v := .ref (rA 4 10)) (C := RX7) (T := TX7) (N := 19) hx hb hts ii_X7 hown hK hP 0 rfl rfl 10 (by decide) (hts (.fieldLink RX7 43 "StoryHouse$Story" "ownedCounts" "[I") wq_177) (fun _ h9 => h9) rfl dX7_addWord_48 ?_
      refine lv_iload_n hx hb dX7_addWord_51 rfl (lv_at hl 3 rfl) ?_
      refine lv_iload hx hb dX7_addWord_52 (lv_at hl 0 rfl) ?_
      refine lv_iconst (v := 1) hx hb dX7_addWord_54 (by decide +kernel) ?_
      refine lv_iadd hx hb dX7_addWord_55 ?_
      obtain ⟨x_15, ex_15, hF_16⟩ := bnd_e hF_14
      clear hF_14
      refine m_top ex_15 ?_
      have hq9 : ((b_s cB cC cI cJ cZ oA rA σ_13 ++ b_c cB cC cI cJ cZ oA rA σ_13 ++ b_t cB cC cI cJ cZ oA rA σ_13 ++ b_d cB cC cI cJ cZ oA rA σ_13))[11]? = some (rA 4 10, .inl (cI, 181, .inl ((σ_13 4).2.1 10))) := rfl
      have hPc := hP.sub (ws' := [(rA 4 10, .inl (cI, 181, .inl ((σ_13 4).2.1 10)))]) [11] (pk_fm (er_C hq9))
      have hDc := (hDD σ_13).sub (ws' := [(rA 4 10, .inl (cI, 181, .inl ((σ_13 4).2.1 10)))]) [11] (by decide +kernel) (er_C hq9)
      have hFc := va_free (wc := [(rA 4 10, .inl (cI, 181, .inl ((σ_13 4).2.1 10)))]) (hDD σ_13) hS hA [11] (er_C hq9)
      refine g_ofv (wc := [(rA 4 10, .inl (cI, 181, .inl ((σ_13 4).2.1 10)))]) (wr := (((b_s cB cC cI cJ cZ oA rA σ_13 ++ b_c cB cC cI cJ cZ oA rA σ_13 ++ b_t cB cC cI cJ cZ oA rA σ_13 ++ b_d cB cC cI cJ cZ oA rA σ_13)).eraseIdx 11)) hP (hDD σ_13) hS hFc [11] ((List.range ((b_s cB cC cI cJ cZ oA rA σ_13 ++ b_c cB cC cI cJ cZ oA rA σ_13 ++ b_t cB cC cI cJ cZ oA rA σ_13 ++ b_d cB cC cI cJ cZ oA rA σ_13)).length).eraseIdx 11) (er_C hq9) er_R er_n er_d (va_runSN (As := [.ref (rA 4 10), .int p0, .int x_15]) (rest := []) ⟨hx, hb, hml, hown, hts⟩ (c_X11_put l dC dI cB cC cI cJ cZ cP H.size (rA 4 10) p0 x_15 181 ((σ_13 4).2.1 10) (by decide)) ⟨va_cnB 3 hts (g_gA wq_412) rfl rfl rfl (nw_18 hN) (hts (.initialized RX11) wq_1) (by decide +kernel) ⟨Nat.le_of_ble_eq_true rfl, Nat.le_of_ble_eq_true rfl⟩, (hts (.static yX11_put) wq_411), trivial⟩ (g_preS g_bl0 hK hPc hDc hS hE hFc g_to0) rfl rfl hl.1 rfl (lv_room (Nat.le_of_ble_eq_true rfl)) dX7_addWord_56 ⟨Nat.le_of_ble_eq_true rfl, Nat.le_of_ble_eq_true rfl⟩) (fun g9 H locs hw9 hP' hD' hS => ?_)
      clear hPc hDc hFc hD'
      obtain ⟨σ_17, eσ_17, hF_18⟩ := bnd_e hF_16
      clear hF_16
      subst hw9
      have hP : va_P (dC, dI) vwCl (b_s cB cC cI cJ cZ oA rA σ_17 ++ b_c cB cC cI cJ cZ oA rA σ_17 ++ b_t cB cC cI cJ cZ oA rA σ_17 ++ b_d cB cC cI cJ cZ oA rA σ_17) H := by rw [eσ_17]; exact cs_sctd_s_10 ▸ er_P hP' (er_lt hq9)
      clear hP' hq9
      have h9 := Option.some.inj hF_18
      subst h9
      exact W.vret hx hb hr (fun t ht hW => ⟨⟨(), rfl, trivial, m_end ht hP, hDD _⟩, hS.F ht⟩) hS.2.2 dX7_addWord_59
