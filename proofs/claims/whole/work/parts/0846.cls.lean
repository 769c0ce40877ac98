/-! methods of the class: what each does is its function -/
theorem dX8_putThere_0 : decode cX8_putThere 0 = .ok (.aload_n 0, 1) := by decide +kernel
theorem dX8_putThere_1 : decode cX8_putThere 1 = .ok (.getfield 127, 3) := by decide +kernel
theorem dX8_putThere_4 : decode cX8_putThere 4 = .ok (.bipush 9, 2) := by decide +kernel
theorem dX8_putThere_6 : decode cX8_putThere 6 = .ok (.if_icmp .ne 7, 3) := by decide +kernel
theorem dX8_putThere_9 : decode cX8_putThere 9 = .ok (.iconst 1, 1) := by decide +kernel
theorem dX8_putThere_10 : decode cX8_putThere 10 = .ok (.goto 4, 3) := by decide +kernel
theorem dX8_putThere_13 : decode cX8_putThere 13 = .ok (.iconst 0, 1) := by decide +kernel
theorem dX8_putThere_14 : decode cX8_putThere 14 = .ok (.istore_n 1, 1) := by decide +kernel
theorem dX8_putThere_15 : decode cX8_putThere 15 = .ok (.aload_n 0, 1) := by decide +kernel
theorem dX8_putThere_16 : decode cX8_putThere 16 = .ok (.aload_n 0, 1) := by decide +kernel
theorem dX8_putThere_17 : decode cX8_putThere 17 = .ok (.getfield 114, 3) := by decide +kernel
theorem dX8_putThere_20 : decode cX8_putThere 20 = .ok (.invokevirtual 348, 3) := by decide +kernel
theorem dX8_putThere_23 : decode cX8_putThere 23 = .ok (.ifCond .ne 16, 3) := by decide +kernel
theorem dX8_putThere_26 : decode cX8_putThere 26 = .ok (.aload_n 0, 1) := by decide +kernel
theorem dX8_putThere_27 : decode cX8_putThere 27 = .ok (.getfield 26, 3) := by decide +kernel
theorem dX8_putThere_30 : decode cX8_putThere 30 = .ok (.ldc_w 361, 3) := by decide +kernel
theorem dX8_putThere_33 : decode cX8_putThere 33 = .ok (.invokevirtual 65, 3) := by decide +kernel
theorem dX8_putThere_36 : decode cX8_putThere 36 = .ok (.goto 114, 3) := by decide +kernel
theorem dX8_putThere_39 : decode cX8_putThere 39 = .ok (.aload_n 0, 1) := by decide +kernel
theorem dX8_putThere_40 : decode cX8_putThere 40 = .ok (.getfield 22, 3) := by decide +kernel
theorem dX8_putThere_43 : decode cX8_putThere 43 = .ok (.aload_n 0, 1) := by decide +kernel
theorem dX8_putThere_44 : decode cX8_putThere 44 = .ok (.getfield 117, 3) := by decide +kernel
theorem dX8_putThere_47 : decode cX8_putThere 47 = .ok (.aload_n 0, 1) := by decide +kernel
theorem dX8_putThere_48 : decode cX8_putThere 48 = .ok (.getfield 114, 3) := by decide +kernel
theorem dX8_putThere_51 : decode cX8_putThere 51 = .ok (.invokevirtual 383, 3) := by decide +kernel
theorem dX8_putThere_54 : decode cX8_putThere 54 = .ok (.ifCond .ne 26, 3) := by decide +kernel
theorem dX8_putThere_57 : decode cX8_putThere 57 = .ok (.aload_n 0, 1) := by decide +kernel
theorem dX8_putThere_58 : decode cX8_putThere 58 = .ok (.getfield 22, 3) := by decide +kernel
theorem dX8_putThere_61 : decode cX8_putThere 61 = .ok (.aload_n 0, 1) := by decide +kernel
theorem dX8_putThere_62 : decode cX8_putThere 62 = .ok (.getfield 117, 3) := by decide +kernel
theorem dX8_putThere_65 : decode cX8_putThere 65 = .ok (.iload_n 1, 1) := by decide +kernel
theorem dX8_putThere_66 : decode cX8_putThere 66 = .ok (.ifCond .eq 7, 3) := by decide +kernel
theorem dX8_putThere_69 : decode cX8_putThere 69 = .ok (.iconst 0, 1) := by decide +kernel
theorem dX8_putThere_70 : decode cX8_putThere 70 = .ok (.goto 4, 3) := by decide +kernel
theorem dX8_putThere_73 : decode cX8_putThere 73 = .ok (.iconst 5, 1) := by decide +kernel
theorem dX8_putThere_74 : decode cX8_putThere 74 = .ok (.invokevirtual 205, 3) := by decide +kernel
theorem dX8_putThere_77 : decode cX8_putThere 77 = .ok (.ifCond .ne 16, 3) := by decide +kernel
theorem dX8_putThere_80 : decode cX8_putThere 80 = .ok (.aload_n 0, 1) := by decide +kernel
theorem dX8_putThere_81 : decode cX8_putThere 81 = .ok (.getfield 26, 3) := by decide +kernel
theorem dX8_putThere_84 : decode cX8_putThere 84 = .ok (.ldc_w 386, 3) := by decide +kernel
theorem dX8_putThere_87 : decode cX8_putThere 87 = .ok (.invokevirtual 65, 3) := by decide +kernel
theorem dX8_putThere_90 : decode cX8_putThere 90 = .ok (.goto 60, 3) := by decide +kernel
theorem dX8_putThere_93 : decode cX8_putThere 93 = .ok (.iload_n 1, 1) := by decide +kernel
theorem dX8_putThere_94 : decode cX8_putThere 94 = .ok (.ifCond .eq 31, 3) := by decide +kernel
theorem dX8_putThere_97 : decode cX8_putThere 97 = .ok (.aload_n 0, 1) := by decide +kernel
theorem dX8_putThere_98 : decode cX8_putThere 98 = .ok (.getfield 22, 3) := by decide +kernel
theorem dX8_putThere_101 : decode cX8_putThere 101 = .ok (.aload_n 0, 1) := by decide +kernel
theorem dX8_putThere_102 : decode cX8_putThere 102 = .ok (.getfield 117, 3) := by decide +kernel
theorem dX8_putThere_105 : decode cX8_putThere 105 = .ok (.iconst 4, 1) := by decide +kernel
theorem dX8_putThere_106 : decode cX8_putThere 106 = .ok (.invokevirtual 205, 3) := by decide +kernel
theorem dX8_putThere_109 : decode cX8_putThere 109 = .ok (.ifCond .ne 16, 3) := by decide +kernel
theorem dX8_putThere_112 : decode cX8_putThere 112 = .ok (.aload_n 0, 1) := by decide +kernel
theorem dX8_putThere_113 : decode cX8_putThere 113 = .ok (.getfield 26, 3) := by decide +kernel
theorem dX8_putThere_116 : decode cX8_putThere 116 = .ok (.ldc_w 379, 3) := by decide +kernel
theorem dX8_putThere_119 : decode cX8_putThere 119 = .ok (.invokevirtual 65, 3) := by decide +kernel
theorem dX8_putThere_122 : decode cX8_putThere 122 = .ok (.goto 28, 3) := by decide +kernel
theorem dX8_putThere_125 : decode cX8_putThere 125 = .ok (.aload_n 0, 1) := by decide +kernel
theorem dX8_putThere_126 : decode cX8_putThere 126 = .ok (.getfield 22, 3) := by decide +kernel
theorem dX8_putThere_129 : decode cX8_putThere 129 = .ok (.aload_n 0, 1) := by decide +kernel
theorem dX8_putThere_130 : decode cX8_putThere 130 = .ok (.getfield 114, 3) := by decide +kernel
theorem dX8_putThere_133 : decode cX8_putThere 133 = .ok (.aload_n 0, 1) := by decide +kernel
theorem dX8_putThere_134 : decode cX8_putThere 134 = .ok (.getfield 117, 3) := by decide +kernel
theorem dX8_putThere_137 : decode cX8_putThere 137 = .ok (.invokevirtual 355, 3) := by decide +kernel
theorem dX8_putThere_140 : decode cX8_putThere 140 = .ok (.aload_n 0, 1) := by decide +kernel
theorem dX8_putThere_141 : decode cX8_putThere 141 = .ok (.getfield 26, 3) := by decide +kernel
theorem dX8_putThere_144 : decode cX8_putThere 144 = .ok (.ldc_w 388, 3) := by decide +kernel
theorem dX8_putThere_147 : decode cX8_putThere 147 = .ok (.invokevirtual 65, 3) := by decide +kernel
theorem dX8_putThere_150 : decode cX8_putThere 150 = .ok (.return_, 1) := by decide +kernel
def F_X8_putThere  (Γ : HS) : HR :=
  bnd (fun (t_1 : Int32) (σ_2 : HS) => (
    (F_X8_playerHas ((σ_2 11).1 10) σ_2).bind fun u_6 =>
    if u_6.1 = 0 then (
      (F_X5_line ([89, 111, 117, 32, 100, 111, 32, 110, 111, 116, 32, 104, 97, 118, 101, 32, 116, 104, 97, 116, 46] : List Int32) u_6.2).bind fun u_11 =>
      bnd (mrg (fun j => j == 8) u_6.2 u_11.2) fun σ_13 =>
      some (0, σ_13)
    ) else (
      (F_X6_isWithin ((u_6.2 11).1 11) ((u_6.2 11).1 10) u_6.2).bind fun u_16 =>
      bnd (mrg (fun j => j == 9) u_6.2 u_16.2) fun σ_18 =>
      bnd (fun  (σ_20 : HS) => (
        (F_X5_line ([89, 111, 117, 32, 99, 97, 110, 32, 110, 111, 116, 32, 100, 111, 32, 116, 104, 97, 116, 46] : List Int32) σ_20).bind fun u_25 =>
        bnd (mrg (fun j => j == 8) σ_20 u_25.2) fun σ_27 =>
        some (0, σ_27)
      ) : HS → HR) fun j_21 =>
      if u_16.1 = 0 then (
        bnd (fun (t_31 : Int32) (σ_32 : HS) => (
          (F_X6_bears ((σ_18 11).1 11) t_31 σ_32).bind fun u_36 =>
          bnd (mrg (fun j => j == 9) σ_32 u_36.2) fun σ_38 =>
          if u_36.1 = 0 then (
            j_21  σ_38
          ) else (
            bnd (fun  (σ_43 : HS) => (
              (F_X6_moveInto ((σ_43 11).1 10) ((σ_43 11).1 11) σ_43).bind fun u_47 =>
              bnd (mrg (fun j => j == 9) σ_43 u_47.2) fun σ_49 =>
              (F_X5_line ([68, 111, 110, 101, 46] : List Int32) σ_49).bind fun u_52 =>
              bnd (mrg (fun j => j == 8) σ_49 u_52.2) fun σ_54 =>
              some (0, σ_54)
            ) : HS → HR) fun j_44 =>
            if t_1 = 0 then (
              j_44  σ_38
            ) else (
              (F_X6_bears ((σ_38 11).1 11) 4 σ_38).bind fun u_59 =>
              bnd (mrg (fun j => j == 9) σ_38 u_59.2) fun σ_61 =>
              if u_59.1 = 0 then (
                (F_X5_line ([84, 104, 97, 116, 32, 105, 115, 32, 99, 108, 111, 115, 101, 100, 46] : List Int32) σ_61).bind fun u_66 =>
                bnd (mrg (fun j => j == 8) σ_61 u_66.2) fun σ_68 =>
                some (0, σ_68)
              ) else (
                j_44  σ_61
              )
            )
          )
        ) : Int32 → HS → HR) fun j_33 =>
        if t_1 = 0 then (
          j_33 5 σ_18
        ) else (
          j_33 0 σ_18
        )
      ) else (
        j_21  σ_18
      )
    )
  ) : Int32 → HS → HR) fun j_3 =>
  if ((Γ 11).1 8) = 9 then (
    j_3 1 Γ
  ) else (
    j_3 0 Γ
  )
set_option maxHeartbeats 4000000 in
set_option maxRecDepth 100000 in
theorem k_X8_putThere (l : Launch) (dC : Nat → ClassId) (dI : Nat → Nat → Nat) (cB cC cI cJ cZ cP : ClassId) (oA : Nat → Nat) (rA : Nat → Nat → Nat) (sz : Nat)   (Γ : HS) (res : Int32 × HS) (hF : F_X8_putThere  Γ = some res) : Met l yX8_putThere (g_ws yX8_putThere cX8_putThere 2 none) ({ frames := 7, cells := 0, slots := 0, locals := 168 }) (va_Pc [.ref (oA 11)] (g_B (dC, dI) [(cB, .byte), (cC, .char), (cI, .int), (cJ, .long), (cZ, .boolean), (cP, .object "StoryHouse$Play")] sz (b_e cB cC cI cJ cZ oA rA Γ ++ b_k cB cC cI cJ cZ oA rA Γ ++ b_p cB cC cI cJ cZ oA rA Γ ++ b_o cB cC cI cJ cZ oA rA Γ ++ b_s cB cC cI cJ cZ oA rA Γ ++ b_c cB cC cI cJ cZ oA rA Γ ++ b_t cB cC cI cJ cZ oA rA Γ ++ b_d cB cC cI cJ cZ oA rA Γ) g_0)) (va_Qv (fun (_ : Unit) => True) (g_Bo (dC, dI) (va_A (b_e cB cC cI cJ cZ oA rA Γ ++ b_k cB cC cI cJ cZ oA rA Γ ++ b_p cB cC cI cJ cZ oA rA Γ ++ b_o cB cC cI cJ cZ oA rA Γ ++ b_s cB cC cI cJ cZ oA rA Γ ++ b_c cB cC cI cJ cZ oA rA Γ ++ b_t cB cC cI cJ cZ oA rA Γ ++ b_d cB cC cI cJ cZ oA rA Γ) sz) (fun (_ : Unit) => (b_e cB cC cI cJ cZ oA rA res.2 ++ b_k cB cC cI cJ cZ oA rA res.2 ++ b_p cB cC cI cJ cZ oA rA res.2 ++ b_o cB cC cI cJ cZ oA rA res.2 ++ b_s cB cC cI cJ cZ oA rA res.2 ++ b_c cB cC cI cJ cZ oA rA res.2 ++ b_t cB cC cI cJ cZ oA rA res.2 ++ b_d cB cC cI cJ cZ oA rA res.2))) (va_A (b_e cB cC cI cJ cZ oA rA Γ ++ b_k cB cC cI cJ cZ oA rA Γ ++ b_p cB cC cI cJ cZ oA rA Γ ++ b_o cB cC cI cJ cZ oA rA Γ ++ b_s cB cC cI cJ cZ oA rA Γ ++ b_c cB cC cI cJ cZ oA rA Γ ++ b_t cB cC cI cJ cZ oA rA Γ ++ b_d cB cC cI cJ cZ oA rA Γ) sz)) 0 0 (va_A (b_e cB cC cI cJ cZ oA rA Γ ++ b_k cB cC cI cJ cZ oA rA Γ ++ b_p cB cC cI cJ cZ oA rA Γ ++ b_o cB cC cI cJ cZ oA rA Γ ++ b_s cB cC cI cJ cZ oA rA Γ ++ b_c cB cC cI cJ cZ oA rA Γ ++ b_t cB cC cI cJ cZ oA rA Γ ++ b_d cB cC cI cJ cZ oA rA Γ) sz) := by
  refine Met.ofW (cc := cX8_putThere) (maxL := 2) (ret := none) (by decide) rfl ?_
  intro p e s m args below meth c s₁ B hml hv
  obtain ⟨rfl, hsz, hP, hK, hD0, hE, hX⟩ := hv
  have hx := B.exec
  have hb := B.bytes
  have hr := B.returns
  have hts0 := atoms_spec (ws := g_ws yX8_putThere cX8_putThere 2 none) B.pre
  have hts : ∀ w ∈ lw_good, w.before ([.ref (oA 11)] : List Value).toArray s = true := fun w z => hts0 w (List.mem_cons_of_mem _ z)
  have hown : s.vm.findClass RX8 = some m.cls := findClass_of_methodNamed B.named
  have hlocks := B.notSynchronized
  subst hsz
  have hD1 := hD0.self (sz := s.heap.size)
  generalize hAe : va_A (b_e cB cC cI cJ cZ oA rA Γ ++ b_k cB cC cI cJ cZ oA rA Γ ++ b_p cB cC cI cJ cZ oA rA Γ ++ b_o cB cC cI cJ cZ oA rA Γ ++ b_s cB cC cI cJ cZ oA rA Γ ++ b_c cB cC cI cJ cZ oA rA Γ ++ b_t cB cC cI cJ cZ oA rA Γ ++ b_d cB cC cI cJ cZ oA rA Γ) s.heap.size = A at hD1 hE hX ⊢
  have hA : ∀ q : Nat, s.heap.size ≤ q → A q := fun q z => by rw [← hAe]; exact Or.inr z
  have hDD : ∀ Γ : HS, va_D A (b_e cB cC cI cJ cZ oA rA Γ ++ b_k cB cC cI cJ cZ oA rA Γ ++ b_p cB cC cI cJ cZ oA rA Γ ++ b_o cB cC cI cJ cZ oA rA Γ ++ b_s cB cC cI cJ cZ oA rA Γ ++ b_c cB cC cI cJ cZ oA rA Γ ++ b_t cB cC cI cJ cZ oA rA Γ ++ b_d cB cC cI cJ cZ oA rA Γ) := fun Γ9 => va_D_fst (ws := (b_e cB cC cI cJ cZ oA rA Γ ++ b_k cB cC cI cJ cZ oA rA Γ ++ b_p cB cC cI cJ cZ oA rA Γ ++ b_o cB cC cI cJ cZ oA rA Γ ++ b_s cB cC cI cJ cZ oA rA Γ ++ b_c cB cC cI cJ cZ oA rA Γ ++ b_t cB cC cI cJ cZ oA rA Γ ++ b_d cB cC cI cJ cZ oA rA Γ)) (ws' := (b_e cB cC cI cJ cZ oA rA Γ9 ++ b_k cB cC cI cJ cZ oA rA Γ9 ++ b_p cB cC cI cJ cZ oA rA Γ9 ++ b_o cB cC cI cJ cZ oA rA Γ9 ++ b_s cB cC cI cJ cZ oA rA Γ9 ++ b_c cB cC cI cJ cZ oA rA Γ9 ++ b_t cB cC cI cJ cZ oA rA Γ9 ++ b_d cB cC cI cJ cZ oA rA Γ9)) rfl hD1
  have hN := hE.1
  have hS : va_S A s.heap s.heap [] := va_S.rf
  have hl := lv_entry ([.ref (oA 11)]) (n := 2) (Nat.le_of_ble_eq_true rfl)
  rw [lg_entry_eq]
  generalize (lg_sl ([.ref (oA 11)]) ++ List.replicate (2 - (lg_sl ([.ref (oA 11)])).length) Slot.unset).toArray = ls at hl ⊢
  have hl : lv_has ls 2 [(0, .ref (oA 11))] := hl
  unfold F_X8_putThere at hF
  refine lv_aload_n hx hb dX8_putThere_0 rfl (lv_at hl 0 rfl) ?_
  refine va_get (D := (dC, dI)) (ci := 8) (v := .int ((Γ 11).1 8)) (C := RX8) (T := TX8) (N := 16) hx hb hts ii_X8 hown hK hP 0 rfl rfl 8 (by decide) (hts (.fieldLink RX8 127 "StoryHouse$Teller" "verb" "I") wq_295) (fun _ h9 => h9) rfl dX8_putThere_1 ?_
  refine lv_bipush (v := 9) hx hb dX8_putThere_4 (by decide +kernel) ?_
  obtain ⟨j_3, ej_3, hF_4⟩ := bnd_e hF
  clear hF
  have Jj_3 : ∀ (t_1 : Int32) (σ_2 : HS), j_3 t_1 σ_2 = some res → ∀ (H : Heap) (locs : List Loc), va_P (dC, dI) vwCl (b_e cB cC cI cJ cZ oA rA σ_2 ++ b_k cB cC cI cJ cZ oA rA σ_2 ++ b_p cB cC cI cJ cZ oA rA σ_2 ++ b_o cB cC cI cJ cZ oA rA σ_2 ++ b_s cB cC cI cJ cZ oA rA σ_2 ++ b_c cB cC cI cJ cZ oA rA σ_2 ++ b_t cB cC cI cJ cZ oA rA σ_2 ++ b_d cB cC cI cJ cZ oA rA σ_2) H → va_S A s.heap H locs → ∀ ls : Array Slot, lv_has ls 2 [(0, .ref (oA 11))] → W p l e (headSpec (g_ws yX8_putThere cX8_putThere 2 none) { frames := 7, cells := 0, slots := 0, locals := 168 }).room s m ([.ref (oA 11)] : List Value).toArray below meth c H locs 0 0 (MQ below (va_Qv (fun (_ : Unit) => True) (g_Bo (dC, dI) A (fun (_ : Unit) => (b_e cB cC cI cJ cZ oA rA res.2 ++ b_k cB cC cI cJ cZ oA rA res.2 ++ b_p cB cC cI cJ cZ oA rA res.2 ++ b_o cB cC cI cJ cZ oA rA res.2 ++ b_s cB cC cI cJ cZ oA rA res.2 ++ b_c cB cC cI cJ cZ oA rA res.2 ++ b_t cB cC cI cJ cZ oA rA res.2 ++ b_d cB cC cI cJ cZ oA rA res.2))) A) ([.ref (oA 11)] : List Value).toArray s 0 0 A) (F0 m 14 ls [.int t_1]) := by
    intro t_1 σ_2 hF0 H locs hP hS ls hl
    subst ej_3
    have hF_5 := hF0
    clear hF0
    refine lv_istore_n (lv' := [(1, .int t_1), (0, .ref (oA 11))]) hx hb dX8_putThere_14 rfl hl (by decide) rfl (fun ls hl => ?_)
    refine lv_aload_n hx hb dX8_putThere_15 rfl (lv_at hl 1 rfl) ?_
    refine lv_aload_n hx hb dX8_putThere_16 rfl (lv_at hl 1 rfl) ?_
    refine va_get (D := (dC, dI)) (ci := 8) (v := .int ((σ_2 11).1 10)) (C := RX8) (T := TX8) (N := 16) hx hb hts ii_X8 hown hK hP 0 rfl rfl 10 (by decide) (hts (.fieldLink RX8 114 "StoryHouse$Teller" "noun" "I") wq_297) (fun _ h9 => h9) rfl dX8_putThere_17 ?_
    obtain ⟨u_6, hu_6, hF_7⟩ := Option.bind_eq_some_iff.mp hF_5
    clear hF_5
    have hPc := bx_P (bs := [b_e cB cC cI cJ cZ oA rA σ_2, b_k cB cC cI cJ cZ oA rA σ_2, b_p cB cC cI cJ cZ oA rA σ_2, b_o cB cC cI cJ cZ oA rA σ_2, b_s cB cC cI cJ cZ oA rA σ_2, b_c cB cC cI cJ cZ oA rA σ_2, b_t cB cC cI cJ cZ oA rA σ_2, b_d cB cC cI cJ cZ oA rA σ_2]) (bs' := [b_e cB cC cI cJ cZ oA rA σ_2, b_k cB cC cI cJ cZ oA rA σ_2, b_p cB cC cI cJ cZ oA rA σ_2, b_o cB cC cI cJ cZ oA rA σ_2, b_s cB cC cI cJ cZ oA rA σ_2, b_c cB cC cI cJ cZ oA rA σ_2, b_t cB cC cI cJ cZ oA rA σ_2, b_d cB cC cI cJ cZ oA rA σ_2]) (ws' := (b_e cB cC cI cJ cZ oA rA σ_2 ++ b_k cB cC cI cJ cZ oA rA σ_2 ++ b_p cB cC cI cJ cZ oA rA σ_2 ++ b_o cB cC cI cJ cZ oA rA σ_2 ++ b_s cB cC cI cJ cZ oA rA σ_2 ++ b_c cB cC cI cJ cZ oA rA σ_2 ++ b_t cB cC cI cJ cZ oA rA σ_2 ++ b_d cB cC cI cJ cZ oA rA σ_2)) hP fl_8 fl_8 [0, 1, 2, 3, 4, 5, 6, 7] rfl
    have hDc := bx_D (bs := [b_e cB cC cI cJ cZ oA rA σ_2, b_k cB cC cI cJ cZ oA rA σ_2, b_p cB cC cI cJ cZ oA rA σ_2, b_o cB cC cI cJ cZ oA rA σ_2, b_s cB cC cI cJ cZ oA rA σ_2, b_c cB cC cI cJ cZ oA rA σ_2, b_t cB cC cI cJ cZ oA rA σ_2, b_d cB cC cI cJ cZ oA rA σ_2]) (bs' := [b_e cB cC cI cJ cZ oA rA σ_2, b_k cB cC cI cJ cZ oA rA σ_2, b_p cB cC cI cJ cZ oA rA σ_2, b_o cB cC cI cJ cZ oA rA σ_2, b_s cB cC cI cJ cZ oA rA σ_2, b_c cB cC cI cJ cZ oA rA σ_2, b_t cB cC cI cJ cZ oA rA σ_2, b_d cB cC cI cJ cZ oA rA σ_2]) (ws' := (b_e cB cC cI cJ cZ oA rA σ_2 ++ b_k cB cC cI cJ cZ oA rA σ_2 ++ b_p cB cC cI cJ cZ oA rA σ_2 ++ b_o cB cC cI cJ cZ oA rA σ_2 ++ b_s cB cC cI cJ cZ oA rA σ_2 ++ b_c cB cC cI cJ cZ oA rA σ_2 ++ b_t cB cC cI cJ cZ oA rA σ_2 ++ b_d cB cC cI cJ cZ oA rA σ_2)) (hDD σ_2) fl_8 fl_8 [0, 1, 2, 3, 4, 5, 6, 7] (by decide +kernel) rfl
    have hFc := bx_F (bs := [b_e cB cC cI cJ cZ oA rA σ_2, b_k cB cC cI cJ cZ oA rA σ_2, b_p cB cC cI cJ cZ oA rA σ_2, b_o cB cC cI cJ cZ oA rA σ_2, b_s cB cC cI cJ cZ oA rA σ_2, b_c cB cC cI cJ cZ oA rA σ_2, b_t cB cC cI cJ cZ oA rA σ_2, b_d cB cC cI cJ cZ oA rA σ_2]) (bs' := [b_e cB cC cI cJ cZ oA rA σ_2, b_k cB cC cI cJ cZ oA rA σ_2, b_p cB cC cI cJ cZ oA rA σ_2, b_o cB cC cI cJ cZ oA rA σ_2, b_s cB cC cI cJ cZ oA rA σ_2, b_c cB cC cI cJ cZ oA rA σ_2, b_t cB cC cI cJ cZ oA rA σ_2, b_d cB cC cI cJ cZ oA rA σ_2]) (wc := (b_e cB cC cI cJ cZ oA rA σ_2 ++ b_k cB cC cI cJ cZ oA rA σ_2 ++ b_p cB cC cI cJ cZ oA rA σ_2 ++ b_o cB cC cI cJ cZ oA rA σ_2 ++ b_s cB cC cI cJ cZ oA rA σ_2 ++ b_c cB cC cI cJ cZ oA rA σ_2 ++ b_t cB cC cI cJ cZ oA rA σ_2 ++ b_d cB cC cI cJ cZ oA rA σ_2)) (hDD σ_2) hS hA fl_8 fl_8 [0, 1, 2, 3, 4, 5, 6, 7] rfl
    refine g_ofi (wc := (b_e cB cC cI cJ cZ oA rA σ_2 ++ b_k cB cC cI cJ cZ oA rA σ_2 ++ b_p cB cC cI cJ cZ oA rA σ_2 ++ b_o cB cC cI cJ cZ oA rA σ_2 ++ b_s cB cC cI cJ cZ oA rA σ_2 ++ b_c cB cC cI cJ cZ oA rA σ_2 ++ b_t cB cC cI cJ cZ oA rA σ_2 ++ b_d cB cC cI cJ cZ oA rA σ_2)) (wr := ([] : va_W)) hP (hDD σ_2) hS hFc (bx_ix [b_e cB cC cI cJ cZ oA rA σ_2, b_k cB cC cI cJ cZ oA rA σ_2, b_p cB cC cI cJ cZ oA rA σ_2, b_o cB cC cI cJ cZ oA rA σ_2, b_s cB cC cI cJ cZ oA rA σ_2, b_c cB cC cI cJ cZ oA rA σ_2, b_t cB cC cI cJ cZ oA rA σ_2, b_d cB cC cI cJ cZ oA rA σ_2] [0, 1, 2, 3, 4, 5, 6, 7]) (bx_ix [b_e cB cC cI cJ cZ oA rA σ_2, b_k cB cC cI cJ cZ oA rA σ_2, b_p cB cC cI cJ cZ oA rA σ_2, b_o cB cC cI cJ cZ oA rA σ_2, b_s cB cC cI cJ cZ oA rA σ_2, b_c cB cC cI cJ cZ oA rA σ_2, b_t cB cC cI cJ cZ oA rA σ_2, b_d cB cC cI cJ cZ oA rA σ_2] []) (bx_C (bs := [b_e cB cC cI cJ cZ oA rA σ_2, b_k cB cC cI cJ cZ oA rA σ_2, b_p cB cC cI cJ cZ oA rA σ_2, b_o cB cC cI cJ cZ oA rA σ_2, b_s cB cC cI cJ cZ oA rA σ_2, b_c cB cC cI cJ cZ oA rA σ_2, b_t cB cC cI cJ cZ oA rA σ_2, b_d cB cC cI cJ cZ oA rA σ_2]) (bs' := [b_e cB cC cI cJ cZ oA rA σ_2, b_k cB cC cI cJ cZ oA rA σ_2, b_p cB cC cI cJ cZ oA rA σ_2, b_o cB cC cI cJ cZ oA rA σ_2, b_s cB cC cI cJ cZ oA rA σ_2, b_c cB cC cI cJ cZ oA rA σ_2, b_t cB cC cI cJ cZ oA rA σ_2, b_d cB cC cI cJ cZ oA rA σ_2]) (is := [0, 1, 2, 3, 4, 5, 6, 7]) fl_8 fl_8 rfl) (bx_C (bs := [b_e cB cC cI cJ cZ oA rA σ_2, b_k cB cC cI cJ cZ oA rA σ_2, b_p cB cC cI cJ cZ oA rA σ_2, b_o cB cC cI cJ cZ oA rA σ_2, b_s cB cC cI cJ cZ oA rA σ_2, b_c cB cC cI cJ cZ oA rA σ_2, b_t cB cC cI cJ cZ oA rA σ_2, b_d cB cC cI cJ cZ oA rA σ_2]) (bs' := []) (is := []) fl_8 fl_0 rfl) (bx_n (by decide +kernel)) (bx_d (by decide +kernel)) (va_runV (As := [.int ((σ_2 11).1 10)]) (rest := []) ⟨hx, hb, hml, hown, hts⟩ (k_X8_playerHas l dC dI cB cC cI cJ cZ cP oA rA H.size  ((σ_2 11).1 10) σ_2 _ hu_6) (cwV 1 hts (g_gV wq_1226 wq_1227 wq_2103 wq_12 wq_1228) rfl rfl rfl (by decide +kernel) ⟨Nat.le_of_ble_eq_true rfl, Nat.le_of_ble_eq_true rfl⟩) (g_preV g_bl0 hK hPc hDc hS hE hFc g_to0 (q0 := 0) (ci := 8) rfl rfl) rfl rfl hl.1 rfl (lv_room (Nat.le_of_ble_eq_true rfl)) dX8_putThere_20 ⟨Nat.le_of_ble_eq_true rfl, Nat.le_of_ble_eq_true rfl⟩) (fun r9 u9 H locs hw9 hP' hD' hS => ?_)
    clear hPc hDc hFc
    subst hw9
    have hP : va_P (dC, dI) vwCl (b_e cB cC cI cJ cZ oA rA u_6.2 ++ b_k cB cC cI cJ cZ oA rA u_6.2 ++ b_p cB cC cI cJ cZ oA rA u_6.2 ++ b_o cB cC cI cJ cZ oA rA u_6.2 ++ b_s cB cC cI cJ cZ oA rA u_6.2 ++ b_c cB cC cI cJ cZ oA rA u_6.2 ++ b_t cB cC cI cJ cZ oA rA u_6.2 ++ b_d cB cC cI cJ cZ oA rA u_6.2) H := hP'
    clear hP' hD'
    refine lv_if_ne (tgt := 39) hx hb dX8_putThere_23 (by decide) (fun c_8 => ?_) (fun c_8 => ?_)
    · have hF_15 := ineg c_8 hF_7
      clear hF_7
      refine lv_aload_n hx hb dX8_putThere_39 rfl (lv_at hl 1 rfl) ?_
      refine va_get (D := (dC, dI)) (ci := 8) (v := .ref (oA 9)) (C := RX8) (T := TX8) (N := 16) hx hb hts ii_X8 hown hK hP 0 rfl rfl 0 (by decide) (hts (.fieldLink RX8 22 "StoryHouse$Teller" "play" "LStoryHouse$Play;") wq_286) (fun _ h9 => h9) rfl dX8_putThere_40 ?_
      refine lv_aload_n hx hb dX8_putThere_43 rfl (lv_at hl 1 rfl) ?_
      refine va_get (D := (dC, dI)) (ci := 8) (v := .int ((u_6.2 11).1 11)) (C := RX8) (T := TX8) (N := 16) hx hb hts ii_X8 hown hK hP 0 rfl rfl 11 (by decide) (hts (.fieldLink RX8 117 "StoryHouse$Teller" "second" "I") wq_298) (fun _ h9 => h9) rfl dX8_putThere_44 ?_
      refine lv_aload_n hx hb dX8_putThere_47 rfl (lv_at hl 1 rfl) ?_
      refine va_get (D := (dC, dI)) (ci := 8) (v := .int ((u_6.2 11).1 10)) (C := RX8) (T := TX8) (N := 16) hx hb hts ii_X8 hown hK hP 0 rfl rfl 10 (by decide) (hts (.fieldLink RX8 114 "StoryHouse$Teller" "noun" "I") wq_297) (fun _ h9 => h9) rfl dX8_putThere_48 ?_
      obtain ⟨u_16, hu_16, hF_17⟩ := Option.bind_eq_some_iff.mp hF_15
      clear hF_15
      have hPc := bx_P (bs := [b_e cB cC cI cJ cZ oA rA u_6.2, b_k cB cC cI cJ cZ oA rA u_6.2, b_p cB cC cI cJ cZ oA rA u_6.2, b_o cB cC cI cJ cZ oA rA u_6.2, b_s cB cC cI cJ cZ oA rA u_6.2, b_c cB cC cI cJ cZ oA rA u_6.2, b_t cB cC cI cJ cZ oA rA u_6.2, b_d cB cC cI cJ cZ oA rA u_6.2]) (bs' := [b_p cB cC cI cJ cZ oA rA u_6.2]) (ws' := (b_p cB cC cI cJ cZ oA rA u_6.2)) hP fl_8 fl_1 [2] rfl
      have hDc := bx_D (bs := [b_e cB cC cI cJ cZ oA rA u_6.2, b_k cB cC cI cJ cZ oA rA u_6.2, b_p cB cC cI cJ cZ oA rA u_6.2, b_o cB cC cI cJ cZ oA rA u_6.2, b_s cB cC cI cJ cZ oA rA u_6.2, b_c cB cC cI cJ cZ oA rA u_6.2, b_t cB cC cI cJ cZ oA rA u_6.2, b_d cB cC cI cJ cZ oA rA u_6.2]) (bs' := [b_p cB cC cI cJ cZ oA rA u_6.2]) (ws' := (b_p cB cC cI cJ cZ oA rA u_6.2)) (hDD u_6.2) fl_8 fl_1 [2] (by decide +kernel) rfl
      have hFc := bx_F (bs := [b_e cB cC cI cJ cZ oA rA u_6.2, b_k cB cC cI cJ cZ oA rA u_6.2, b_p cB cC cI cJ cZ oA rA u_6.2, b_o cB cC cI cJ cZ oA rA u_6.2, b_s cB cC cI cJ cZ oA rA u_6.2, b_c cB cC cI cJ cZ oA rA u_6.2, b_t cB cC cI cJ cZ oA rA u_6.2, b_d cB cC cI cJ cZ oA rA u_6.2]) (bs' := [b_p cB cC cI cJ cZ oA rA u_6.2]) (wc := (b_p cB cC cI cJ cZ oA rA u_6.2)) (hDD u_6.2) hS hA fl_8 fl_1 [2] rfl
      refine g_ofi (wc := (b_p cB cC cI cJ cZ oA rA u_6.2)) (wr := (b_e cB cC cI cJ cZ oA rA u_6.2 ++ b_k cB cC cI cJ cZ oA rA u_6.2 ++ b_o cB cC cI cJ cZ oA rA u_6.2 ++ b_s cB cC cI cJ cZ oA rA u_6.2 ++ b_c cB cC cI cJ cZ oA rA u_6.2 ++ b_t cB cC cI cJ cZ oA rA u_6.2 ++ b_d cB cC cI cJ cZ oA rA u_6.2)) hP (hDD u_6.2) hS hFc (bx_ix [b_e cB cC cI cJ cZ oA rA u_6.2, b_k cB cC cI cJ cZ oA rA u_6.2, b_p cB cC cI cJ cZ oA rA u_6.2, b_o cB cC cI cJ cZ oA rA u_6.2, b_s cB cC cI cJ cZ oA rA u_6.2, b_c cB cC cI cJ cZ oA rA u_6.2, b_t cB cC cI cJ cZ oA rA u_6.2, b_d cB cC cI cJ cZ oA rA u_6.2] [2]) (bx_ix [b_e cB cC cI cJ cZ oA rA u_6.2, b_k cB cC cI cJ cZ oA rA u_6.2, b_p cB cC cI cJ cZ oA rA u_6.2, b_o cB cC cI cJ cZ oA rA u_6.2, b_s cB cC cI cJ cZ oA rA u_6.2, b_c cB cC cI cJ cZ oA rA u_6.2, b_t cB cC cI cJ cZ oA rA u_6.2, b_d cB cC cI cJ cZ oA rA u_6.2] [0, 1, 3, 4, 5, 6, 7]) (bx_C (bs := [b_e cB cC cI cJ cZ oA rA u_6.2, b_k cB cC cI cJ cZ oA rA u_6.2, b_p cB cC cI cJ cZ oA rA u_6.2, b_o cB cC cI cJ cZ oA rA u_6.2, b_s cB cC cI cJ cZ oA rA u_6.2, b_c cB cC cI cJ cZ oA rA u_6.2, b_t cB cC cI cJ cZ oA rA u_6.2, b_d cB cC cI cJ cZ oA rA u_6.2]) (bs' := [b_p cB cC cI cJ cZ oA rA u_6.2]) (is := [2]) fl_8 fl_1 rfl) (bx_C (bs := [b_e cB cC cI cJ cZ oA rA u_6.2, b_k cB cC cI cJ cZ oA rA u_6.2, b_p cB cC cI cJ cZ oA rA u_6.2, b_o cB cC cI cJ cZ oA rA u_6.2, b_s cB cC cI cJ cZ oA rA u_6.2, b_c cB cC cI cJ cZ oA rA u_6.2, b_t cB cC cI cJ cZ oA rA u_6.2, b_d cB cC cI cJ cZ oA rA u_6.2]) (bs' := [b_e cB cC cI cJ cZ oA rA u_6.2, b_k cB cC cI cJ cZ oA rA u_6.2, b_o cB cC cI cJ cZ oA rA u_6.2, b_s cB cC cI cJ cZ oA rA u_6.2, b_c cB cC cI cJ cZ oA rA u_6.2, b_t cB cC cI cJ cZ oA rA u_6.2, b_d cB cC cI cJ cZ oA rA u_6.2]) (is := [0, 1, 3, 4, 5, 6, 7]) fl_8 fl_7 rfl) (bx_n (by decide +kernel)) (bx_d (by decide +kernel)) (va_runV (As := [.int ((u_6.2 11).1 11), .int ((u_6.2 11).1 10)]) (rest := []) ⟨hx, hb, hml, hown, hts⟩ (k_X6_isWithin l dC dI cB cC cI cJ cZ cP oA rA H.size  ((u_6.2 11).1 11) ((u_6.2 11).1 10) u_6.2 _ hu_16) (cwV 2 hts (g_gV wq_1246 wq_1180 wq_1181 wq_10 wq_1182) rfl rfl rfl (by decide +kernel) ⟨Nat.le_of_ble_eq_true rfl, Nat.le_of_ble_eq_true rfl⟩) (g_preV g_bl0 hK hPc hDc hS hE hFc g_to0 (q0 := 0) (ci := 6) rfl rfl) rfl rfl hl.1 rfl (lv_room (Nat.le_of_ble_eq_true rfl)) dX8_putThere_51 ⟨Nat.le_of_ble_eq_true rfl, Nat.le_of_ble_eq_true rfl⟩) (fun r9 u9 H locs hw9 hP' hD' hS => ?_)
      clear hPc hDc hFc
      subst hw9
      obtain ⟨σ_18, eσ_18, hF_19⟩ := bnd_e hF_17
      clear hF_17
      have hP : va_P (dC, dI) vwCl (b_e cB cC cI cJ cZ oA rA σ_18 ++ b_k cB cC cI cJ cZ oA rA σ_18 ++ b_p cB cC cI cJ cZ oA rA σ_18 ++ b_o cB cC cI cJ cZ oA rA σ_18 ++ b_s cB cC cI cJ cZ oA rA σ_18 ++ b_c cB cC cI cJ cZ oA rA σ_18 ++ b_t cB cC cI cJ cZ oA rA σ_18 ++ b_d cB cC cI cJ cZ oA rA σ_18) H := by rw [eσ_18]; exact bx_P (bs := [b_e cB cC cI cJ cZ oA rA u_6.2, b_k cB cC cI cJ cZ oA rA u_6.2, b_o cB cC cI cJ cZ oA rA u_6.2, b_s cB cC cI cJ cZ oA rA u_6.2, b_c cB cC cI cJ cZ oA rA u_6.2, b_t cB cC cI cJ cZ oA rA u_6.2, b_d cB cC cI cJ cZ oA rA u_6.2] ++ [b_p cB cC cI cJ cZ oA rA u_16.2]) (bs' := [b_e cB cC cI cJ cZ oA rA (mrg (fun j => j == 9) u_6.2 u_16.2), b_k cB cC cI cJ cZ oA rA (mrg (fun j => j == 9) u_6.2 u_16.2), b_p cB cC cI cJ cZ oA rA (mrg (fun j => j == 9) u_6.2 u_16.2), b_o cB cC cI cJ cZ oA rA (mrg (fun j => j == 9) u_6.2 u_16.2), b_s cB cC cI cJ cZ oA rA (mrg (fun j => j == 9) u_6.2 u_16.2), b_c cB cC cI cJ cZ oA rA (mrg (fun j => j == 9) u_6.2 u_16.2), b_t cB cC cI cJ cZ oA rA (mrg (fun j => j == 9) u_6.2 u_16.2), b_d cB cC cI cJ cZ oA rA (mrg (fun j => j == 9) u_6.2 u_16.2)]) hP' (fl_a fl_7 fl_1) fl_8 [0, 1, 7, 2, 3, 4, 5, 6] rfl
      clear hP' hD'
      obtain ⟨j_21, ej_21, hF_22⟩ := bnd_e hF_19
      clear hF_19
      have Jj_21 : ∀  (σ_20 : HS), j_21  σ_20 = some res → ∀ (H : Heap) (locs : List Loc), va_P (dC, dI) vwCl (b_e cB cC cI cJ cZ oA rA σ_20 ++ b_k cB cC cI cJ cZ oA rA σ_20 ++ b_p cB cC cI cJ cZ oA rA σ_20 ++ b_o cB cC cI cJ cZ oA rA σ_20 ++ b_s cB cC cI cJ cZ oA rA σ_20 ++ b_c cB cC cI cJ cZ oA rA σ_20 ++ b_t cB cC cI cJ cZ oA rA σ_20 ++ b_d cB cC cI cJ cZ oA rA σ_20) H → va_S A s.heap H locs → ∀ ls : Array Slot, lv_has ls 2 [(0, .ref (oA 11))] → W p l e (headSpec (g_ws yX8_putThere cX8_putThere 2 none) { frames := 7, cells := 0, slots := 0, locals := 168 }).room s m ([.ref (oA 11)] : List Value).toArray below meth c H locs 0 0 (MQ below (va_Qv (fun (_ : Unit) => True) (g_Bo (dC, dI) A (fun (_ : Unit) => (b_e cB cC cI cJ cZ oA rA res.2 ++ b_k cB cC cI cJ cZ oA rA res.2 ++ b_p cB cC cI cJ cZ oA rA res.2 ++ b_o cB cC cI cJ cZ oA rA res.2 ++ b_s cB cC cI cJ cZ oA rA res.2 ++ b_c cB cC cI cJ cZ oA rA res.2 ++ b_t cB cC cI cJ cZ oA rA res.2 ++ b_d cB cC cI cJ cZ oA rA res.2))) A) ([.ref (oA 11)] : List Value).toArray s 0 0 A) (F0 m 80 ls []) := by
        intro  σ_20 hF0 H locs hP hS ls hl
        subst ej_21
        have hF_23 := hF0
        clear hF0
        refine lv_aload_n hx hb dX8_putThere_80 rfl (lv_at hl 0 rfl) ?_
        refine va_get (D := (dC, dI)) (ci := 8) (v := .ref (oA 8)) (C := RX8) (T := TX8) (N := 16) hx hb hts ii_X8 hown hK hP 0 rfl rfl 1 (by decide) (hts (.fieldLink RX8 26 "StoryHouse$Teller" "told" "LStoryHouse$Out;") wq_287) (fun _ h9 => h9) rfl dX8_putThere_81 ?_
        obtain ⟨q_24, vq_24, hRq_24, hSq_24⟩ := hE.2.2.2.2 _ (List.mem_of_getElem? (i := 64) rfl)
        refine g_ldcwS (own := RX8) (tx := "You can not do that.") hx hb hown hRq_24 dX8_putThere_84 ?_
        obtain ⟨u_25, hu_25, hF_26⟩ := Option.bind_eq_some_iff.mp hF_23
        clear hF_23
        have hPc := bx_P (bs := [b_e cB cC cI cJ cZ oA rA σ_20, b_k cB cC cI cJ cZ oA rA σ_20, b_p cB cC cI cJ cZ oA rA σ_20, b_o cB cC cI cJ cZ oA rA σ_20, b_s cB cC cI cJ cZ oA rA σ_20, b_c cB cC cI cJ cZ oA rA σ_20, b_t cB cC cI cJ cZ oA rA σ_20, b_d cB cC cI cJ cZ oA rA σ_20]) (bs' := [b_o cB cC cI cJ cZ oA rA σ_20]) (ws' := (b_o cB cC cI cJ cZ oA rA σ_20)) hP fl_8 fl_1 [3] rfl
        have hDc := bx_D (bs := [b_e cB cC cI cJ cZ oA rA σ_20, b_k cB cC cI cJ cZ oA rA σ_20, b_p cB cC cI cJ cZ oA rA σ_20, b_o cB cC cI cJ cZ oA rA σ_20, b_s cB cC cI cJ cZ oA rA σ_20, b_c cB cC cI cJ cZ oA rA σ_20, b_t cB cC cI cJ cZ oA rA σ_20, b_d cB cC cI cJ cZ oA rA σ_20]) (bs' := [b_o cB cC cI cJ cZ oA rA σ_20]) (ws' := (b_o cB cC cI cJ cZ oA rA σ_20)) (hDD σ_20) fl_8 fl_1 [3] (by decide +kernel) rfl
        have hFc := bx_F (bs := [b_e cB cC cI cJ cZ oA rA σ_20, b_k cB cC cI cJ cZ oA rA σ_20, b_p cB cC cI cJ cZ oA rA σ_20, b_o cB cC cI cJ cZ oA rA σ_20, b_s cB cC cI cJ cZ oA rA σ_20, b_c cB cC cI cJ cZ oA rA σ_20, b_t cB cC cI cJ cZ oA rA σ_20, b_d cB cC cI cJ cZ oA rA σ_20]) (bs' := [b_o cB cC cI cJ cZ oA rA σ_20]) (wc := (b_o cB cC cI cJ cZ oA rA σ_20)) (hDD σ_20) hS hA fl_8 fl_1 [3] rfl
        refine g_ofv (wc := (b_o cB cC cI cJ cZ oA rA σ_20)) (wr := (b_e cB cC cI cJ cZ oA rA σ_20 ++ b_k cB cC cI cJ cZ oA rA σ_20 ++ b_p cB cC cI cJ cZ oA rA σ_20 ++ b_s cB cC cI cJ cZ oA rA σ_20 ++ b_c cB cC cI cJ cZ oA rA σ_20 ++ b_t cB cC cI cJ cZ oA rA σ_20 ++ b_d cB cC cI cJ cZ oA rA σ_20)) hP (hDD σ_20) hS hFc (bx_ix [b_e cB cC cI cJ cZ oA rA σ_20, b_k cB cC cI cJ cZ oA rA σ_20, b_p cB cC cI cJ cZ oA rA σ_20, b_o cB cC cI cJ cZ oA rA σ_20, b_s cB cC cI cJ cZ oA rA σ_20, b_c cB cC cI cJ cZ oA rA σ_20, b_t cB cC cI cJ cZ oA rA σ_20, b_d cB cC cI cJ cZ oA rA σ_20] [3]) (bx_ix [b_e cB cC cI cJ cZ oA rA σ_20, b_k cB cC cI cJ cZ oA rA σ_20, b_p cB cC cI cJ cZ oA rA σ_20, b_o cB cC cI cJ cZ oA rA σ_20, b_s cB cC cI cJ cZ oA rA σ_20, b_c cB cC cI cJ cZ oA rA σ_20, b_t cB cC cI cJ cZ oA rA σ_20, b_d cB cC cI cJ cZ oA rA σ_20] [0, 1, 2, 4, 5, 6, 7]) (bx_C (bs := [b_e cB cC cI cJ cZ oA rA σ_20, b_k cB cC cI cJ cZ oA rA σ_20, b_p cB cC cI cJ cZ oA rA σ_20, b_o cB cC cI cJ cZ oA rA σ_20, b_s cB cC cI cJ cZ oA rA σ_20, b_c cB cC cI cJ cZ oA rA σ_20, b_t cB cC cI cJ cZ oA rA σ_20, b_d cB cC cI cJ cZ oA rA σ_20]) (bs' := [b_o cB cC cI cJ cZ oA rA σ_20]) (is := [3]) fl_8 fl_1 rfl) (bx_C (bs := [b_e cB cC cI cJ cZ oA rA σ_20, b_k cB cC cI cJ cZ oA rA σ_20, b_p cB cC cI cJ cZ oA rA σ_20, b_o cB cC cI cJ cZ oA rA σ_20, b_s cB cC cI cJ cZ oA rA σ_20, b_c cB cC cI cJ cZ oA rA σ_20, b_t cB cC cI cJ cZ oA rA σ_20, b_d cB cC cI cJ cZ oA rA σ_20]) (bs' := [b_e cB cC cI cJ cZ oA rA σ_20, b_k cB cC cI cJ cZ oA rA σ_20, b_p cB cC cI cJ cZ oA rA σ_20, b_s cB cC cI cJ cZ oA rA σ_20, b_c cB cC cI cJ cZ oA rA σ_20, b_t cB cC cI cJ cZ oA rA σ_20, b_d cB cC cI cJ cZ oA rA σ_20]) (is := [0, 1, 2, 4, 5, 6, 7]) fl_8 fl_7 rfl) (bx_n (by decide +kernel)) (bx_d (by decide +kernel)) (va_runV (As := [.ref q_24]) (rest := []) ⟨hx, hb, hml, hown, hts⟩ (k_X5_line l dC dI cB cC cI cJ cZ cP oA rA H.size q_24 _ ([89, 111, 117, 32, 99, 97, 110, 32, 110, 111, 116, 32, 100, 111, 32, 116, 104, 97, 116, 46] : List Int32) σ_20 _ hu_25) (cwV 1 hts (g_gV wq_998 wq_999 wq_1000 wq_9 wq_1001) rfl rfl rfl (by decide +kernel) ⟨Nat.le_of_ble_eq_true rfl, Nat.le_of_ble_eq_true rfl⟩) (g_preV g_blS hK hPc hDc hS hE hFc (g_toS hSq_24 hS hFc) (q0 := 0) (ci := 5) rfl rfl) rfl rfl hl.1 rfl (lv_room (Nat.le_of_ble_eq_true rfl)) dX8_putThere_87 ⟨Nat.le_of_ble_eq_true rfl, Nat.le_of_ble_eq_true rfl⟩) (fun u9 H locs hw9 hP' hD' hS => ?_)
        clear hPc hDc hFc
        obtain ⟨σ_27, eσ_27, hF_28⟩ := bnd_e hF_26
        clear hF_26
        have hP : va_P (dC, dI) vwCl (b_e cB cC cI cJ cZ oA rA σ_27 ++ b_k cB cC cI cJ cZ oA rA σ_27 ++ b_p cB cC cI cJ cZ oA rA σ_27 ++ b_o cB cC cI cJ cZ oA rA σ_27 ++ b_s cB cC cI cJ cZ oA rA σ_27 ++ b_c cB cC cI cJ cZ oA rA σ_27 ++ b_t cB cC cI cJ cZ oA rA σ_27 ++ b_d cB cC cI cJ cZ oA rA σ_27) H := by rw [eσ_27]; exact bx_P (bs := [b_e cB cC cI cJ cZ oA rA σ_20, b_k cB cC cI cJ cZ oA rA σ_20, b_p cB cC cI cJ cZ oA rA σ_20, b_s cB cC cI cJ cZ oA rA σ_20, b_c cB cC cI cJ cZ oA rA σ_20, b_t cB cC cI cJ cZ oA rA σ_20, b_d cB cC cI cJ cZ oA rA σ_20] ++ [b_o cB cC cI cJ cZ oA rA u_25.2]) (bs' := [b_e cB cC cI cJ cZ oA rA (mrg (fun j => j == 8) σ_20 u_25.2), b_k cB cC cI cJ cZ oA rA (mrg (fun j => j == 8) σ_20 u_25.2), b_p cB cC cI cJ cZ oA rA (mrg (fun j => j == 8) σ_20 u_25.2), b_o cB cC cI cJ cZ oA rA (mrg (fun j => j == 8) σ_20 u_25.2), b_s cB cC cI cJ cZ oA rA (mrg (fun j => j == 8) σ_20 u_25.2), b_c cB cC cI cJ cZ oA rA (mrg (fun j => j == 8) σ_20 u_25.2), b_t cB cC cI cJ cZ oA rA (mrg (fun j => j == 8) σ_20 u_25.2), b_d cB cC cI cJ cZ oA rA (mrg (fun j => j == 8) σ_20 u_25.2)]) hP' (fl_a fl_7 fl_1) fl_8 [0, 1, 2, 7, 3, 4, 5, 6] rfl
        clear hP' hD'
        refine lv_goto (tgt := 150) hx hb dX8_putThere_90 (by decide) ?_
        have h9 := Option.some.inj hF_28
        subst h9
        exact W.vret hx hb hr (fun t ht hW => ⟨⟨(), rfl, trivial, m_end ht hP, hDD _⟩, hS.F ht⟩) hS.2.2 dX8_putThere_150
      refine lv_if_ne (tgt := 80) hx hb dX8_putThere_54 (by decide) (fun c_29 => ?_) (fun c_29 => ?_)
      · have hF_74 := ineg c_29 hF_22
        clear hF_22
        exact Jj_21  σ_18 hF_74 _ _ hP hS ls (lv_sub hl [1] rfl)
      · have hF_30 := ipos c_29 hF_22
        clear hF_22
        refine lv_aload_n hx hb dX8_putThere_57 rfl (lv_at hl 1 rfl) ?_
        refine va_get (D := (dC, dI)) (ci := 8) (v := .ref (oA 9)) (C := RX8) (T := TX8) (N := 16) hx hb hts ii_X8 hown hK hP 0 rfl rfl 0 (by decide) (hts (.fieldLink RX8 22 "StoryHouse$Teller" "play" "LStoryHouse$Play;") wq_286) (fun _ h9 => h9) rfl dX8_putThere_58 ?_
        refine lv_aload_n hx hb dX8_putThere_61 rfl (lv_at hl 1 rfl) ?_
        refine va_get (D := (dC, dI)) (ci := 8) (v := .int ((σ_18 11).1 11)) (C := RX8) (T := TX8) (N := 16) hx hb hts ii_X8 hown hK hP 0 rfl rfl 11 (by decide) (hts (.fieldLink RX8 117 "StoryHouse$Teller" "second" "I") wq_298) (fun _ h9 => h9) rfl dX8_putThere_62 ?_
        refine lv_iload_n hx hb dX8_putThere_65 rfl (lv_at hl 0 rfl) ?_
        obtain ⟨j_33, ej_33, hF_34⟩ := bnd_e hF_30
        clear hF_30
        have Jj_33 : ∀ (t_31 : Int32) (σ_32 : HS), j_33 t_31 σ_32 = some res → ∀ (H : Heap) (locs : List Loc), va_P (dC, dI) vwCl (b_e cB cC cI cJ cZ oA rA σ_32 ++ b_k cB cC cI cJ cZ oA rA σ_32 ++ b_p cB cC cI cJ cZ oA rA σ_32 ++ b_o cB cC cI cJ cZ oA rA σ_32 ++ b_s cB cC cI cJ cZ oA rA σ_32 ++ b_c cB cC cI cJ cZ oA rA σ_32 ++ b_t cB cC cI cJ cZ oA rA σ_32 ++ b_d cB cC cI cJ cZ oA rA σ_32) H → va_S A s.heap H locs → ∀ ls : Array Slot, lv_has ls 2 [(0, .ref (oA 11)), (1, .int t_1)] → W p l e (headSpec (g_ws yX8_putThere cX8_putThere 2 none) { frames := 7, cells := 0, slots := 0, locals := 168 }).room s m ([.ref (oA 11)] : List Value).toArray below meth c H locs 0 0 (MQ below (va_Qv (fun (_ : Unit) => True) (g_Bo (dC, dI) A (fun (_ : Unit) => (b_e cB cC cI cJ cZ oA rA res.2 ++ b_k cB cC cI cJ cZ oA rA res.2 ++ b_p cB cC cI cJ cZ oA rA res.2 ++ b_o cB cC cI cJ cZ oA rA res.2 ++ b_s cB cC cI cJ cZ oA rA res.2 ++ b_c cB cC cI cJ cZ oA rA res.2 ++ b_t cB cC cI cJ cZ oA rA res.2 ++ b_d cB cC cI cJ cZ oA rA res.2))) A) ([.ref (oA 11)] : List Value).toArray s 0 0 A) (F0 m 74 ls [.int t_31, .int ((σ_18 11).1 11), .ref (oA 9)]) := by
          intro t_31 σ_32 hF0 H locs hP hS ls hl
          subst ej_33
          have hF_35 := hF0
          clear hF0
          obtain ⟨u_36, hu_36, hF_37⟩ := Option.bind_eq_some_iff.mp hF_35
          clear hF_35
          have hPc := bx_P (bs := [b_e cB cC cI cJ cZ oA rA σ_32, b_k cB cC cI cJ cZ oA rA σ_32, b_p cB cC cI cJ cZ oA rA σ_32, b_o cB cC cI cJ cZ oA rA σ_32, b_s cB cC cI cJ cZ oA rA σ_32, b_c cB cC cI cJ cZ oA rA σ_32, b_t cB cC cI cJ cZ oA rA σ_32, b_d cB cC cI cJ cZ oA rA σ_32]) (bs' := [b_p cB cC cI cJ cZ oA rA σ_32]) (ws' := (b_p cB cC cI cJ cZ oA rA σ_32)) hP fl_8 fl_1 [2] rfl
          have hDc := bx_D (bs := [b_e cB cC cI cJ cZ oA rA σ_32, b_k cB cC cI cJ cZ oA rA σ_32, b_p cB cC cI cJ cZ oA rA σ_32, b_o cB cC cI cJ cZ oA rA σ_32, b_s cB cC cI cJ cZ oA rA σ_32, b_c cB cC cI cJ cZ oA rA σ_32, b_t cB cC cI cJ cZ oA rA σ_32, b_d cB cC cI cJ cZ oA rA σ_32]) (bs' := [b_p cB cC cI cJ cZ oA rA σ_32]) (ws' := (b_p cB cC cI cJ cZ oA rA σ_32)) (hDD σ_32) fl_8 fl_1 [2] (by decide +kernel) rfl
          have hFc := bx_F (bs := [b_e cB cC cI cJ cZ oA rA σ_32, b_k cB cC cI cJ cZ oA rA σ_32, b_p cB cC cI cJ cZ oA rA σ_32, b_o cB cC cI cJ cZ oA rA σ_32, b_s cB cC cI cJ cZ oA rA σ_32, b_c cB cC cI cJ cZ oA rA σ_32, b_t cB cC cI cJ cZ oA rA σ_32, b_d cB cC cI cJ cZ oA rA σ_32]) (bs' := [b_p cB cC cI cJ cZ oA rA σ_32]) (wc := (b_p cB cC cI cJ cZ oA rA σ_32)) (hDD σ_32) hS hA fl_8 fl_1 [2] rfl
          refine g_ofi (wc := (b_p cB cC cI cJ cZ oA rA σ_32)) (wr := (b_e cB cC cI cJ cZ oA rA σ_32 ++ b_k cB cC cI cJ cZ oA rA σ_32 ++ b_o cB cC cI cJ cZ oA rA σ_32 ++ b_s cB cC cI cJ cZ oA rA σ_32 ++ b_c cB cC cI cJ cZ oA rA σ_32 ++ b_t cB cC cI cJ cZ oA rA σ_32 ++ b_d cB cC cI cJ cZ oA rA σ_32)) hP (hDD σ_32) hS hFc (bx_ix [b_e cB cC cI cJ cZ oA rA σ_32, b_k cB cC cI cJ cZ oA rA σ_32, b_p cB cC cI cJ cZ oA rA σ_32, b_o cB cC cI cJ cZ oA rA σ_32, b_s cB cC cI cJ cZ oA rA σ_32, b_c cB cC cI cJ cZ oA rA σ_32, b_t cB cC cI cJ cZ oA rA σ_32, b_d cB cC cI cJ cZ oA rA σ_32] [2]) (bx_ix [b_e cB cC cI cJ cZ oA rA σ_32, b_k cB cC cI cJ cZ oA rA σ_32, b_p cB cC cI cJ cZ oA rA σ_32, b_o cB cC cI cJ cZ oA rA σ_32, b_s cB cC cI cJ cZ oA rA σ_32, b_c cB cC cI cJ cZ oA rA σ_32, b_t cB cC cI cJ cZ oA rA σ_32, b_d cB cC cI cJ cZ oA rA σ_32] [0, 1, 3, 4, 5, 6, 7]) (bx_C (bs := [b_e cB cC cI cJ cZ oA rA σ_32, b_k cB cC cI cJ cZ oA rA σ_32, b_p cB cC cI cJ cZ oA rA σ_32, b_o cB cC cI cJ cZ oA rA σ_32, b_s cB cC cI cJ cZ oA rA σ_32, b_c cB cC cI cJ cZ oA rA σ_32, b_t cB cC cI cJ cZ oA rA σ_32, b_d cB cC cI cJ cZ oA rA σ_32]) (bs' := [b_p cB cC cI cJ cZ oA rA σ_32]) (is := [2]) fl_8 fl_1 rfl) (bx_C (bs := [b_e cB cC cI cJ cZ oA rA σ_32, b_k cB cC cI cJ cZ oA rA σ_32, b_p cB cC cI cJ cZ oA rA σ_32, b_o cB cC cI cJ cZ oA rA σ_32, b_s cB cC cI cJ cZ oA rA σ_32, b_c cB cC cI cJ cZ oA rA σ_32, b_t cB cC cI cJ cZ oA rA σ_32, b_d cB cC cI cJ cZ oA rA σ_32]) (bs' := [b_e cB cC cI cJ cZ oA rA σ_32, b_k cB cC cI cJ cZ oA rA σ_32, b_o cB cC cI cJ cZ oA rA σ_32, b_s cB cC cI cJ cZ oA rA σ_32, b_c cB cC cI cJ cZ oA rA σ_32, b_t cB cC cI cJ cZ oA rA σ_32, b_d cB cC cI cJ cZ oA rA σ_32]) (is := [0, 1, 3, 4, 5, 6, 7]) fl_8 fl_7 rfl) (bx_n (by decide +kernel)) (bx_d (by decide +kernel)) (va_runV (As := [.int ((σ_18 11).1 11), .int t_31]) (rest := []) ⟨hx, hb, hml, hown, hts⟩ (k_X6_bears l dC dI cB cC cI cJ cZ cP oA rA H.size  ((σ_18 11).1 11) t_31 σ_32 _ hu_36) (cwV 2 hts (g_gV wq_1030 wq_987 wq_988 wq_10 wq_989) rfl rfl rfl (by decide +kernel) ⟨Nat.le_of_ble_eq_true rfl, Nat.le_of_ble_eq_true rfl⟩) (g_preV g_bl0 hK hPc hDc hS hE hFc g_to0 (q0 := 0) (ci := 6) rfl rfl) rfl rfl hl.1 rfl (lv_room (Nat.le_of_ble_eq_true rfl)) dX8_putThere_74 ⟨Nat.le_of_ble_eq_true rfl, Nat.le_of_ble_eq_true rfl⟩) (fun r9 u9 H locs hw9 hP' hD' hS => ?_)
          clear hPc hDc hFc
          subst hw9
          obtain ⟨σ_38, eσ_38, hF_39⟩ := bnd_e hF_37
          clear hF_37
          have hP : va_P (dC, dI) vwCl (b_e cB cC cI cJ cZ oA rA σ_38 ++ b_k cB cC cI cJ cZ oA rA σ_38 ++ b_p cB cC cI cJ cZ oA rA σ_38 ++ b_o cB cC cI cJ cZ oA rA σ_38 ++ b_s cB cC cI cJ cZ oA rA σ_38 ++ b_c cB cC cI cJ cZ oA rA σ_38 ++ b_t cB cC cI cJ cZ oA rA σ_38 ++ b_d cB cC cI cJ cZ oA rA σ_38) H := by rw [eσ_38]; exact bx_P (bs := [b_e cB cC cI cJ cZ oA rA σ_32, b_k cB cC cI cJ cZ oA rA σ_32, b_o cB cC cI cJ cZ oA rA σ_32, b_s cB cC cI cJ cZ oA rA σ_32, b_c cB cC cI cJ cZ oA rA σ_32, b_t cB cC cI cJ cZ oA rA σ_32, b_d cB cC cI cJ cZ oA rA σ_32] ++ [b_p cB cC cI cJ cZ oA rA u_36.2]) (bs' := [b_e cB cC cI cJ cZ oA rA (mrg (fun j => j == 9) σ_32 u_36.2), b_k cB cC cI cJ cZ oA rA (mrg (fun j => j == 9) σ_32 u_36.2), b_p cB cC cI cJ cZ oA rA (mrg (fun j => j == 9) σ_32 u_36.2), b_o cB cC cI cJ cZ oA rA (mrg (fun j => j == 9) σ_32 u_36.2), b_s cB cC cI cJ cZ oA rA (mrg (fun j => j == 9) σ_32 u_36.2), b_c cB cC cI cJ cZ oA rA (mrg (fun j => j == 9) σ_32 u_36.2), b_t cB cC cI cJ cZ oA rA (mrg (fun j => j == 9) σ_32 u_36.2), b_d cB cC cI cJ cZ oA rA (mrg (fun j => j == 9) σ_32 u_36.2)]) hP' (fl_a fl_7 fl_1) fl_8 [0, 1, 7, 2, 3, 4, 5, 6] rfl
          clear hP' hD'
          refine lv_if_ne (tgt := 93) hx hb dX8_putThere_77 (by decide) (fun c_40 => ?_) (fun c_40 => ?_)
          · have hF_42 := ineg c_40 hF_39
            clear hF_39
            refine lv_iload_n hx hb dX8_putThere_93 rfl (lv_at hl 1 rfl) ?_
            obtain ⟨j_44, ej_44, hF_45⟩ := bnd_e hF_42
            clear hF_42
            have Jj_44 : ∀  (σ_43 : HS), j_44  σ_43 = some res → ∀ (H : Heap) (locs : List Loc), va_P (dC, dI) vwCl (b_e cB cC cI cJ cZ oA rA σ_43 ++ b_k cB cC cI cJ cZ oA rA σ_43 ++ b_p cB cC cI cJ cZ oA rA σ_43 ++ b_o cB cC cI cJ cZ oA rA σ_43 ++ b_s cB cC cI cJ cZ oA rA σ_43 ++ b_c cB cC cI cJ cZ oA rA σ_43 ++ b_t cB cC cI cJ cZ oA rA σ_43 ++ b_d cB cC cI cJ cZ oA rA σ_43) H → va_S A s.heap H locs → ∀ ls : Array Slot, lv_has ls 2 [(0, .ref (oA 11))] → W p l e (headSpec (g_ws yX8_putThere cX8_putThere 2 none) { frames := 7, cells := 0, slots := 0, locals := 168 }).room s m ([.ref (oA 11)] : List Value).toArray below meth c H locs 0 0 (MQ below (va_Qv (fun (_ : Unit) => True) (g_Bo (dC, dI) A (fun (_ : Unit) => (b_e cB cC cI cJ cZ oA rA res.2 ++ b_k cB cC cI cJ cZ oA rA res.2 ++ b_p cB cC cI cJ cZ oA rA res.2 ++ b_o cB cC cI cJ cZ oA rA res.2 ++ b_s cB cC cI cJ cZ oA rA res.2 ++ b_c cB cC cI cJ cZ oA rA res.2 ++ b_t cB cC cI cJ cZ oA rA res.2 ++ b_d cB cC cI cJ cZ oA rA res.2))) A) ([.ref (oA 11)] : List Value).toArray s 0 0 A) (F0 m 125 ls []) := by
              intro  σ_43 hF0 H locs hP hS ls hl
              subst ej_44
              have hF_46 := hF0
              clear hF0
              refine lv_aload_n hx hb dX8_putThere_125 rfl (lv_at hl 0 rfl) ?_
              refine va_get (D := (dC, dI)) (ci := 8) (v := .ref (oA 9)) (C := RX8) (T := TX8) (N := 16) hx hb hts ii_X8 hown hK hP 0 rfl rfl 0 (by decide) (hts (.fieldLink RX8 22 "StoryHouse$Teller" "play" "LStoryHouse$Play;") wq_286) (fun _ h9 => h9) rfl dX8_putThere_126 ?_
              refine lv_aload_n hx hb dX8_putThere_129 rfl (lv_at hl 0 rfl) ?_
              refine va_get (D := (dC, dI)) (ci := 8) (v := .int ((σ_43 11).1 10)) (C := RX8) (T := TX8) (N := 16) hx hb hts ii_X8 hown hK hP 0 rfl rfl 10 (by decide) (hts (.fieldLink RX8 114 "StoryHouse$Teller" "noun" "I") wq_297) (fun _ h9 => h9) rfl dX8_putThere_130 ?_
              refine lv_aload_n hx hb dX8_putThere_133 rfl (lv_at hl 0 rfl) ?_
              refine va_get (D := (dC, dI)) (ci := 8) (v := .int ((σ_43 11).1 11)) (C := RX8) (T := TX8) (N := 16) hx hb hts ii_X8 hown hK hP 0 rfl rfl 11 (by decide) (hts (.fieldLink RX8 117 "StoryHouse$Teller" "second" "I") wq_298) (fun _ h9 => h9) rfl dX8_putThere_134 ?_
              obtain ⟨u_47, hu_47, hF_48⟩ := Option.bind_eq_some_iff.mp hF_46
              clear hF_46
              have hPc := bx_P (bs := [b_e cB cC cI cJ cZ oA rA σ_43, b_k cB cC cI cJ cZ oA rA σ_43, b_p cB cC cI cJ cZ oA rA σ_43, b_o cB cC cI cJ cZ oA rA σ_43, b_s cB cC cI cJ cZ oA rA σ_43, b_c cB cC cI cJ cZ oA rA σ_43, b_t cB cC cI cJ cZ oA rA σ_43, b_d cB cC cI cJ cZ oA rA σ_43]) (bs' := [b_p cB cC cI cJ cZ oA rA σ_43]) (ws' := (b_p cB cC cI cJ cZ oA rA σ_43)) hP fl_8 fl_1 [2] rfl
              have hDc := bx_D (bs := [b_e cB cC cI cJ cZ oA rA σ_43, b_k cB cC cI cJ cZ oA rA σ_43, b_p cB cC cI cJ cZ oA rA σ_43, b_o cB cC cI cJ cZ oA rA σ_43, b_s cB cC cI cJ cZ oA rA σ_43, b_c cB cC cI cJ cZ oA rA σ_43, b_t cB cC cI cJ cZ oA rA σ_43, b_d cB cC cI cJ cZ oA rA σ_43]) (bs' := [b_p cB cC cI cJ cZ oA rA σ_43]) (ws' := (b_p cB cC cI cJ cZ oA rA σ_43)) (hDD σ_43) fl_8 fl_1 [2] (by decide +kernel) rfl
              have hFc := bx_F (bs := [b_e cB cC cI cJ cZ oA rA σ_43, b_k cB cC cI cJ cZ oA rA σ_43, b_p cB cC cI cJ cZ oA rA σ_43, b_o cB cC cI cJ cZ oA rA σ_43, b_s cB cC cI cJ cZ oA rA σ_43, b_c cB cC cI cJ cZ oA rA σ_43, b_t cB cC cI cJ cZ oA rA σ_43, b_d cB cC cI cJ cZ oA rA σ_43]) (bs' := [b_p cB cC cI cJ cZ oA rA σ_43]) (wc := (b_p cB cC cI cJ cZ oA rA σ_43)) (hDD σ_43) hS hA fl_8 fl_1 [2] rfl
              refine g_ofv (wc := (b_p cB cC cI cJ cZ oA rA σ_43)) (wr := (b_e cB cC cI cJ cZ oA rA σ_43 ++ b_k cB cC cI cJ cZ oA rA σ_43 ++ b_o cB cC cI cJ cZ oA rA σ_43 ++ b_s cB cC cI cJ cZ oA rA σ_43 ++ b_c cB cC cI cJ cZ oA rA σ_43 ++ b_t cB cC cI cJ cZ oA rA σ_43 ++ b_d cB cC cI cJ cZ oA rA σ_43)) hP (hDD σ_43) hS hFc (bx_ix [b_e cB cC cI cJ cZ oA rA σ_43, b_k cB cC cI cJ cZ oA rA σ_43, b_p cB cC cI cJ cZ oA rA σ_43, b_o cB cC cI cJ cZ oA rA σ_43, b_s cB cC cI cJ cZ oA rA σ_43, b_c cB cC cI cJ cZ oA rA σ_43, b_t cB cC cI cJ cZ oA rA σ_43, b_d cB cC cI cJ cZ oA rA σ_43] [2]) (bx_ix [b_e cB cC cI cJ cZ oA rA σ_43, b_k cB cC cI cJ cZ oA rA σ_43, b_p cB cC cI cJ cZ oA rA σ_43, b_o cB cC cI cJ cZ oA rA σ_43, b_s cB cC cI cJ cZ oA rA σ_43, b_c cB cC cI cJ cZ oA rA σ_43, b_t cB cC cI cJ cZ oA rA σ_43, b_d cB cC cI cJ cZ oA rA σ_43] [0, 1, 3, 4, 5, 6, 7]) (bx_C (bs := [b_e cB cC cI cJ cZ oA rA σ_43, b_k cB cC cI cJ cZ oA rA σ_43, b_p cB cC cI cJ cZ oA rA σ_43, b_o cB cC cI cJ cZ oA rA σ_43, b_s cB cC cI cJ cZ oA rA σ_43, b_c cB cC cI cJ cZ oA rA σ_43, b_t cB cC cI cJ cZ oA rA σ_43, b_d cB cC cI cJ cZ oA rA σ_43]) (bs' := [b_p cB cC cI cJ cZ oA rA σ_43]) (is := [2]) fl_8 fl_1 rfl) (bx_C (bs := [b_e cB cC cI cJ cZ oA rA σ_43, b_k cB cC cI cJ cZ oA rA σ_43, b_p cB cC cI cJ cZ oA rA σ_43, b_o cB cC cI cJ cZ oA rA σ_43, b_s cB cC cI cJ cZ oA rA σ_43, b_c cB cC cI cJ cZ oA rA σ_43, b_t cB cC cI cJ cZ oA rA σ_43, b_d cB cC cI cJ cZ oA rA σ_43]) (bs' := [b_e cB cC cI cJ cZ oA rA σ_43, b_k cB cC cI cJ cZ oA rA σ_43, b_o cB cC cI cJ cZ oA rA σ_43, b_s cB cC cI cJ cZ oA rA σ_43, b_c cB cC cI cJ cZ oA rA σ_43, b_t cB cC cI cJ cZ oA rA σ_43, b_d cB cC cI cJ cZ oA rA σ_43]) (is := [0, 1, 3, 4, 5, 6, 7]) fl_8 fl_7 rfl) (bx_n (by decide +kernel)) (bx_d (by decide +kernel)) (va_runV (As := [.int ((σ_43 11).1 10), .int ((σ_43 11).1 11)]) (rest := []) ⟨hx, hb, hml, hown, hts⟩ (k_X6_moveInto l dC dI cB cC cI cJ cZ cP oA rA H.size  ((σ_43 11).1 10) ((σ_43 11).1 11) σ_43 _ hu_47) (cwV 2 hts (g_gV wq_1229 wq_963 wq_964 wq_10 wq_965) rfl rfl rfl (by decide +kernel) ⟨Nat.le_of_ble_eq_true rfl, Nat.le_of_ble_eq_true rfl⟩) (g_preV g_bl0 hK hPc hDc hS hE hFc g_to0 (q0 := 0) (ci := 6) rfl rfl) rfl rfl hl.1 rfl (lv_room (Nat.le_of_ble_eq_true rfl)) dX8_putThere_137 ⟨Nat.le_of_ble_eq_true rfl, Nat.le_of_ble_eq_true rfl⟩) (fun u9 H locs hw9 hP' hD' hS => ?_)
              clear hPc hDc hFc
              obtain ⟨σ_49, eσ_49, hF_50⟩ := bnd_e hF_48
              clear hF_48
              have hP : va_P (dC, dI) vwCl (b_e cB cC cI cJ cZ oA rA σ_49 ++ b_k cB cC cI cJ cZ oA rA σ_49 ++ b_p cB cC cI cJ cZ oA rA σ_49 ++ b_o cB cC cI cJ cZ oA rA σ_49 ++ b_s cB cC cI cJ cZ oA rA σ_49 ++ b_c cB cC cI cJ cZ oA rA σ_49 ++ b_t cB cC cI cJ cZ oA rA σ_49 ++ b_d cB cC cI cJ cZ oA rA σ_49) H := by rw [eσ_49]; exact bx_P (bs := [b_e cB cC cI cJ cZ oA rA σ_43, b_k cB cC cI cJ cZ oA rA σ_43, b_o cB cC cI cJ cZ oA rA σ_43, b_s cB cC cI cJ cZ oA rA σ_43, b_c cB cC cI cJ cZ oA rA σ_43, b_t cB cC cI cJ cZ oA rA σ_43, b_d cB cC cI cJ cZ oA rA σ_43] ++ [b_p cB cC cI cJ cZ oA rA u_47.2]) (bs' := [b_e cB cC cI cJ cZ oA rA (mrg (fun j => j == 9) σ_43 u_47.2), b_k cB cC cI cJ cZ oA rA (mrg (fun j => j == 9) σ_43 u_47.2), b_p cB cC cI cJ cZ oA rA (mrg (fun j => j == 9) σ_43 u_47.2), b_o cB cC cI cJ cZ oA rA (mrg (fun j => j == 9) σ_43 u_47.2), b_s cB cC cI cJ cZ oA rA (mrg (fun j => j == 9) σ_43 u_47.2), b_c cB cC cI cJ cZ oA rA (mrg (fun j => j == 9) σ_43 u_47.2), b_t cB cC cI cJ cZ oA rA (mrg (fun j => j == 9) σ_43 u_47.2), b_d cB cC cI cJ cZ oA rA (mrg (fun j => j == 9) σ_43 u_47.2)]) hP' (fl_a fl_7 fl_1) fl_8 [0, 1, 7, 2, 3, 4, 5, 6] rfl
              clear hP' hD'
              refine lv_aload_n hx hb dX8_putThere_140 rfl (lv_at hl 0 rfl) ?_
              refine va_get (D := (dC, dI)) (ci := 8) (v := .ref (oA 8)) (C := RX8) (T := TX8) (N := 16) hx hb hts ii_X8 hown hK hP 0 rfl rfl 1 (by decide) (hts (.fieldLink RX8 26 "StoryHouse$Teller" "told" "LStoryHouse$Out;") wq_287) (fun _ h9 => h9) rfl dX8_putThere_141 ?_
              obtain ⟨q_51, vq_51, hRq_51, hSq_51⟩ := hE.2.2.2.2 _ (List.mem_of_getElem? (i := 65) rfl)
              refine g_ldcwS (own := RX8) (tx := "Done.") hx hb hown hRq_51 dX8_putThere_144 ?_
              obtain ⟨u_52, hu_52, hF_53⟩ := Option.bind_eq_some_iff.mp hF_50
              clear hF_50
              have hPc := bx_P (bs := [b_e cB cC cI cJ cZ oA rA σ_49, b_k cB cC cI cJ cZ oA rA σ_49, b_p cB cC cI cJ cZ oA rA σ_49, b_o cB cC cI cJ cZ oA rA σ_49, b_s cB cC cI cJ cZ oA rA σ_49, b_c cB cC cI cJ cZ oA rA σ_49, b_t cB cC cI cJ cZ oA rA σ_49, b_d cB cC cI cJ cZ oA rA σ_49]) (bs' := [b_o cB cC cI cJ cZ oA rA σ_49]) (ws' := (b_o cB cC cI cJ cZ oA rA σ_49)) hP fl_8 fl_1 [3] rfl
              have hDc := bx_D (bs := [b_e cB cC cI cJ cZ oA rA σ_49, b_k cB cC cI cJ cZ oA rA σ_49, b_p cB cC cI cJ cZ oA rA σ_49, b_o cB cC cI cJ cZ oA rA σ_49, b_s cB cC cI cJ cZ oA rA σ_49, b_c cB cC cI cJ cZ oA rA σ_49, b_t cB cC cI cJ cZ oA rA σ_49, b_d cB cC cI cJ cZ oA rA σ_49]) (bs' := [b_o cB cC cI cJ cZ oA rA σ_49]) (ws' := (b_o cB cC cI cJ cZ oA rA σ_49)) (hDD σ_49) fl_8 fl_1 [3] (by decide +kernel) rfl
              have hFc := bx_F (bs := [b_e cB cC cI cJ cZ oA rA σ_49, b_k cB cC cI cJ cZ oA rA σ_49, b_p cB cC cI cJ cZ oA rA σ_49, b_o cB cC cI cJ cZ oA rA σ_49, b_s cB cC cI cJ cZ oA rA σ_49, b_c cB cC cI cJ cZ oA rA σ_49, b_t cB cC cI cJ cZ oA rA σ_49, b_d cB cC cI cJ cZ oA rA σ_49]) (bs' := [b_o cB cC cI cJ cZ oA rA σ_49]) (wc := (b_o cB cC cI cJ cZ oA rA σ_49)) (hDD σ_49) hS hA fl_8 fl_1 [3] rfl
              refine g_ofv (wc := (b_o cB cC cI cJ cZ oA rA σ_49)) (wr := (b_e cB cC cI cJ cZ oA rA σ_49 ++ b_k cB cC cI cJ cZ oA rA σ_49 ++ b_p cB cC cI cJ cZ oA rA σ_49 ++ b_s cB cC cI cJ cZ oA rA σ_49 ++ b_c cB cC cI cJ cZ oA rA σ_49 ++ b_t cB cC cI cJ cZ oA rA σ_49 ++ b_d cB cC cI cJ cZ oA rA σ_49)) hP (hDD σ_49) hS hFc (bx_ix [b_e cB cC cI cJ cZ oA rA σ_49, b_k cB cC cI cJ cZ oA rA σ_49, b_p cB cC cI cJ cZ oA rA σ_49, b_o cB cC cI cJ cZ oA rA σ_49, b_s cB cC cI cJ cZ oA rA σ_49, b_c cB cC cI cJ cZ oA rA σ_49, b_t cB cC cI cJ cZ oA rA σ_49, b_d cB cC cI cJ cZ oA rA σ_49] [3]) (bx_ix [b_e cB cC cI cJ cZ oA rA σ_49, b_k cB cC cI cJ cZ oA rA σ_49, b_p cB cC cI cJ cZ oA rA σ_49, b_o cB cC cI cJ cZ oA rA σ_49, b_s cB cC cI cJ cZ oA rA σ_49, b_c cB cC cI cJ cZ oA rA σ_49, b_t cB cC cI cJ cZ oA rA σ_49, b_d cB cC cI cJ cZ oA rA σ_49] [0, 1, 2, 4, 5, 6, 7]) (bx_C (bs := [b_e cB cC cI cJ cZ oA rA σ_49, b_k cB cC cI cJ cZ oA rA σ_49, b_p cB cC cI cJ cZ oA rA σ_49, b_o cB cC cI cJ cZ oA rA σ_49, b_s cB cC cI cJ cZ oA rA σ_49, b_c cB cC cI cJ cZ oA rA σ_49, b_t cB cC cI cJ cZ oA rA σ_49, b_d cB cC cI cJ cZ oA rA σ_49]) (bs' := [b_o cB cC cI cJ cZ oA rA σ_49]) (is := [3]) fl_8 fl_1 rfl) (bx_C (bs := [b_e cB cC cI cJ cZ oA rA σ_49, b_k cB cC cI cJ cZ oA rA σ_49, b_p cB cC cI cJ cZ oA rA σ_49, b_o cB cC cI cJ cZ oA rA σ_49, b_s cB cC cI cJ cZ oA rA σ_49, b_c cB cC cI cJ cZ oA rA σ_49, b_t cB cC cI cJ cZ oA rA σ_49, b_d cB cC cI cJ cZ oA rA σ_49]) (bs' := [b_e cB cC cI cJ cZ oA rA σ_49, b_k cB cC cI cJ cZ oA rA σ_49, b_p cB cC cI cJ cZ oA rA σ_49, b_s cB cC cI cJ cZ oA rA σ_49, b_c cB cC cI cJ cZ oA rA σ_49, b_t cB cC cI cJ cZ oA rA σ_49, b_d cB cC cI cJ cZ oA rA σ_49]) (is := [0, 1, 2, 4, 5, 6, 7]) fl_8 fl_7 rfl) (bx_n (by decide +kernel)) (bx_d (by decide +kernel)) (va_runV (As := [.ref q_51]) (rest := []) ⟨hx, hb, hml, hown, hts⟩ (k_X5_line l dC dI cB cC cI cJ cZ cP oA rA H.size q_51 _ ([68, 111, 110, 101, 46] : List Int32) σ_49 _ hu_52) (cwV 1 hts (g_gV wq_998 wq_999 wq_1000 wq_9 wq_1001) rfl rfl rfl (by decide +kernel) ⟨Nat.le_of_ble_eq_true rfl, Nat.le_of_ble_eq_true rfl⟩) (g_preV g_blS hK hPc hDc hS hE hFc (g_toS hSq_51 hS hFc) (q0 := 0) (ci := 5) rfl rfl) rfl rfl hl.1 rfl (lv_room (Nat.le_of_ble_eq_true rfl)) dX8_putThere_147 ⟨Nat.le_of_ble_eq_true rfl, Nat.le_of_ble_eq_true rfl⟩) (fun u9 H locs hw9 hP' hD' hS => ?_)
              clear hPc hDc hFc
              obtain ⟨σ_54, eσ_54, hF_55⟩ := bnd_e hF_53
              clear hF_53
              have hP : va_P (dC, dI) vwCl (b_e cB cC cI cJ cZ oA rA σ_54 ++ b_k cB cC cI cJ cZ oA rA σ_54 ++ b_p cB cC cI cJ cZ oA rA σ_54 ++ b_o cB cC cI cJ cZ oA rA σ_54 ++ b_s cB cC cI cJ cZ oA rA σ_54 ++ b_c cB cC cI cJ cZ oA rA σ_54 ++ b_t cB cC cI cJ cZ oA rA σ_54 ++ b_d cB cC cI cJ cZ oA rA σ_54) H := by rw [eσ_54]; exact bx_P (bs := [b_e cB cC cI cJ cZ oA rA σ_49, b_k cB cC cI cJ cZ oA rA σ_49, b_p cB cC cI cJ cZ oA rA σ_49, b_s cB cC cI cJ cZ oA rA σ_49, b_c cB cC cI cJ cZ oA rA σ_49, b_t cB cC cI cJ cZ oA rA σ_49, b_d cB cC cI cJ cZ oA rA σ_49] ++ [b_o cB cC cI cJ cZ oA rA u_52.2]) (bs' := [b_e cB cC cI cJ cZ oA rA (mrg (fun j => j == 8) σ_49 u_52.2), b_k cB cC cI cJ cZ oA rA (mrg (fun j => j == 8) σ_49 u_52.2), b_p cB cC cI cJ cZ oA rA (mrg (fun j => j == 8) σ_49 u_52.2), b_o cB cC cI cJ cZ oA rA (mrg (fun j => j == 8) σ_49 u_52.2), b_s cB cC cI cJ cZ oA rA (mrg (fun j => j == 8) σ_49 u_52.2), b_c cB cC cI cJ cZ oA rA (mrg (fun j => j == 8) σ_49 u_52.2), b_t cB cC cI cJ cZ oA rA (mrg (fun j => j == 8) σ_49 u_52.2), b_d cB cC cI cJ cZ oA rA (mrg (fun j => j == 8) σ_49 u_52.2)]) hP' (fl_a fl_7 fl_1) fl_8 [0, 1, 2, 7, 3, 4, 5, 6] rfl
              clear hP' hD'
              have h9 := Option.some.inj hF_55
              subst h9
              exact W.vret hx hb hr (fun t ht hW => ⟨⟨(), rfl, trivial, m_end ht hP, hDD _⟩, hS.F ht⟩) hS.2.2 dX8_putThere_150
            refine lv_if_eq (tgt := 125) hx hb dX8_putThere_94 (by decide) (fun c_56 => ?_) (fun c_56 => ?_)
            · have hF_57 := ipos c_56 hF_45
              clear hF_45
              exact Jj_44  σ_38 hF_57 _ _ hP hS ls (lv_sub hl [0] rfl)
            · have hF_58 := ineg c_56 hF_45
              clear hF_45
              refine lv_aload_n hx hb dX8_putThere_97 rfl (lv_at hl 0 rfl) ?_
              refine va_get (D := (dC, dI)) (ci := 8) (v := .ref (oA 9)) (C := RX8) (T := TX8) (N := 16) hx hb hts ii_X8 hown hK hP 0 rfl rfl 0 (by decide) (hts (.fieldLink RX8 22 "StoryHouse$Teller" "play" "LStoryHouse$Play;") wq_286) (fun _ h9 => h9) rfl dX8_putThere_98 ?_
              refine lv_aload_n hx hb dX8_putThere_101 rfl (lv_at hl 0 rfl) ?_
              refine va_get (D := (dC, dI)) (ci := 8) (v := .int ((σ_38 11).1 11)) (C := RX8) (T := TX8) (N := 16) hx hb hts ii_X8 hown hK hP 0 rfl rfl 11 (by decide) (hts (.fieldLink RX8 117 "StoryHouse$Teller" "second" "I") wq_298) (fun _ h9 => h9) rfl dX8_putThere_102 ?_
              refine lv_iconst (v := 4) hx hb dX8_putThere_105 (by decide +kernel) ?_
              obtain ⟨u_59, hu_59, hF_60⟩ := Option.bind_eq_some_iff.mp hF_58
              clear hF_58
              have hPc := bx_P (bs := [b_e cB cC cI cJ cZ oA rA σ_38, b_k cB cC cI cJ cZ oA rA σ_38, b_p cB cC cI cJ cZ oA rA σ_38, b_o cB cC cI cJ cZ oA rA σ_38, b_s cB cC cI cJ cZ oA rA σ_38, b_c cB cC cI cJ cZ oA rA σ_38, b_t cB cC cI cJ cZ oA rA σ_38, b_d cB cC cI cJ cZ oA rA σ_38]) (bs' := [b_p cB cC cI cJ cZ oA rA σ_38]) (ws' := (b_p cB cC cI cJ cZ oA rA σ_38)) hP fl_8 fl_1 [2] rfl
              have hDc := bx_D (bs := [b_e cB cC cI cJ cZ oA rA σ_38, b_k cB cC cI cJ cZ oA rA σ_38, b_p cB cC cI cJ cZ oA rA σ_38, b_o cB cC cI cJ cZ oA rA σ_38, b_s cB cC cI cJ cZ oA rA σ_38, b_c cB cC cI cJ cZ oA rA σ_38, b_t cB cC cI cJ cZ oA rA σ_38, b_d cB cC cI cJ cZ oA rA σ_38]) (bs' := [b_p cB cC cI cJ cZ oA rA σ_38]) (ws' := (b_p cB cC cI cJ cZ oA rA σ_38)) (hDD σ_38) fl_8 fl_1 [2] (by decide +kernel) rfl
              have hFc := bx_F (bs := [b_e cB cC cI cJ cZ oA rA σ_38, b_k cB cC cI cJ cZ oA rA σ_38, b_p cB cC cI cJ cZ oA rA σ_38, b_o cB cC cI cJ cZ oA rA σ_38, b_s cB cC cI cJ cZ oA rA σ_38, b_c cB cC cI cJ cZ oA rA σ_38, b_t cB cC cI cJ cZ oA rA σ_38, b_d cB cC cI cJ cZ oA rA σ_38]) (bs' := [b_p cB cC cI cJ cZ oA rA σ_38]) (wc := (b_p cB cC cI cJ cZ oA rA σ_38)) (hDD σ_38) hS hA fl_8 fl_1 [2] rfl
              refine g_ofi (wc := (b_p cB cC cI cJ cZ oA rA σ_38)) (wr := (b_e cB cC cI cJ cZ oA rA σ_38 ++ b_k cB cC cI cJ cZ oA rA σ_38 ++ b_o cB cC cI cJ cZ oA rA σ_38 ++ b_s cB cC cI cJ cZ oA rA σ_38 ++ b_c cB cC cI cJ cZ oA rA σ_38 ++ b_t cB cC cI cJ cZ oA rA σ_38 ++ b_d cB cC cI cJ cZ oA rA σ_38)) hP (hDD σ_38) hS hFc (bx_ix [b_e cB cC cI cJ cZ oA rA σ_38, b_k cB cC cI cJ cZ oA rA σ_38, b_p cB cC cI cJ cZ oA rA σ_38, b_o cB cC cI cJ cZ oA rA σ_38, b_s cB cC cI cJ cZ oA rA σ_38, b_c cB cC cI cJ cZ oA rA σ_38, b_t cB cC cI cJ cZ oA rA σ_38, b_d cB cC cI cJ cZ oA rA σ_38] [2]) (bx_ix [b_e cB cC cI cJ cZ oA rA σ_38, b_k cB cC cI cJ cZ oA rA σ_38, b_p cB cC cI cJ cZ oA rA σ_38, b_o cB cC cI cJ cZ oA rA σ_38, b_s cB cC cI cJ cZ oA rA σ_38, b_c cB cC cI cJ cZ oA rA σ_38, b_t cB cC cI cJ cZ oA rA σ_38, b_d cB cC cI cJ cZ oA rA σ_38] [0, 1, 3, 4, 5, 6, 7]) (bx_C (bs := [b_e cB cC cI cJ cZ oA rA σ_38, b_k cB cC cI cJ cZ oA rA σ_38, b_p cB cC cI cJ cZ oA rA σ_38, b_o cB cC cI cJ cZ oA rA σ_38, b_s cB cC cI cJ cZ oA rA σ_38, b_c cB cC cI cJ cZ oA rA σ_38, b_t cB cC cI cJ cZ oA rA σ_38, b_d cB cC cI cJ cZ oA rA σ_38]) (bs' := [b_p cB cC cI cJ cZ oA rA σ_38]) (is := [2]) fl_8 fl_1 rfl) (bx_C (bs := [b_e cB cC cI cJ cZ oA rA σ_38, b_k cB cC cI cJ cZ oA rA σ_38, b_p cB cC cI cJ cZ oA rA σ_38, b_o cB cC cI cJ cZ oA rA σ_38, b_s cB cC cI cJ cZ oA rA σ_38, b_c cB cC cI cJ cZ oA rA σ_38, b_t cB cC cI cJ cZ oA rA σ_38, b_d cB cC cI cJ cZ oA rA σ_38]) (bs' := [b_e cB cC cI cJ cZ oA rA σ_38, b_k cB cC cI cJ cZ oA rA σ_38, b_o cB cC cI cJ cZ oA rA σ_38, b_s cB cC cI cJ cZ oA rA σ_38, b_c cB cC cI cJ cZ oA rA σ_38, b_t cB cC cI cJ cZ oA rA σ_38, b_d cB cC cI cJ cZ oA rA σ_38]) (is := [0, 1, 3, 4, 5, 6, 7]) fl_8 fl_7 rfl) (bx_n (by decide +kernel)) (bx_d (by decide +kernel)) (va_runV (As := [.int ((σ_38 11).1 11), .int 4]) (rest := []) ⟨hx, hb, hml, hown, hts⟩ (k_X6_bears l dC dI cB cC cI cJ cZ cP oA rA H.size  ((σ_38 11).1 11) 4 σ_38 _ hu_59) (cwV 2 hts (g_gV wq_1030 wq_987 wq_988 wq_10 wq_989) rfl rfl rfl (by decide +kernel) ⟨Nat.le_of_ble_eq_true rfl, Nat.le_of_ble_eq_true rfl⟩) (g_preV g_bl0 hK hPc hDc hS hE hFc g_to0 (q0 := 0) (ci := 6) rfl rfl) rfl rfl hl.1 rfl (lv_room (Nat.le_of_ble_eq_true rfl)) dX8_putThere_106 ⟨Nat.le_of_ble_eq_true rfl, Nat.le_of_ble_eq_true rfl⟩) (fun r9 u9 H locs hw9 hP' hD' hS => ?_)
              clear hPc hDc hFc
              subst hw9
              obtain ⟨σ_61, eσ_61, hF_62⟩ := bnd_e hF_60
              clear hF_60
              have hP : va_P (dC, dI) vwCl (b_e cB cC cI cJ cZ oA rA σ_61 ++ b_k cB cC cI cJ cZ oA rA σ_61 ++ b_p cB cC cI cJ cZ oA rA σ_61 ++ b_o cB cC cI cJ cZ oA rA σ_61 ++ b_s cB cC cI cJ cZ oA rA σ_61 ++ b_c cB cC cI cJ cZ oA rA σ_61 ++ b_t cB cC cI cJ cZ oA rA σ_61 ++ b_d cB cC cI cJ cZ oA rA σ_61) H := by rw [eσ_61]; exact bx_P (bs := [b_e cB cC cI cJ cZ oA rA σ_38, b_k cB cC cI cJ cZ oA rA σ_38, b_o cB cC cI cJ cZ oA rA σ_38, b_s cB cC cI cJ cZ oA rA σ_38, b_c cB cC cI cJ cZ oA rA σ_38, b_t cB cC cI cJ cZ oA rA σ_38, b_d cB cC cI cJ cZ oA rA σ_38] ++ [b_p cB cC cI cJ cZ oA rA u_59.2]) (bs' := [b_e cB cC cI cJ cZ oA rA (mrg (fun j => j == 9) σ_38 u_59.2), b_k cB cC cI cJ cZ oA rA (mrg (fun j => j == 9) σ_38 u_59.2), b_p cB cC cI cJ cZ oA rA (mrg (fun j => j == 9) σ_38 u_59.2), b_o cB cC cI cJ cZ oA rA (mrg (fun j => j == 9) σ_38 u_59.2), b_s cB cC cI cJ cZ oA rA (mrg (fun j => j == 9) σ_38 u_59.2), b_c cB cC cI cJ cZ oA rA (mrg (fun j => j == 9) σ_38 u_59.2), b_t cB cC cI cJ cZ oA rA (mrg (fun j => j == 9) σ_38 u_59.2), b_d cB cC cI cJ cZ oA rA (mrg (fun j => j == 9) σ_38 u_59.2)]) hP' (fl_a fl_7 fl_1) fl_8 [0, 1, 7, 2, 3, 4, 5, 6] rfl
              clear hP' hD'
              refine lv_if_ne (tgt := 125) hx hb dX8_putThere_109 (by decide) (fun c_63 => ?_) (fun c_63 => ?_)
              · have hF_70 := ineg c_63 hF_62
                clear hF_62
                exact Jj_44  σ_61 hF_70 _ _ hP hS ls (lv_sub hl [0] rfl)
              · have hF_64 := ipos c_63 hF_62
                clear hF_62
                refine lv_aload_n hx hb dX8_putThere_112 rfl (lv_at hl 0 rfl) ?_
                refine va_get (D := (dC, dI)) (ci := 8) (v := .ref (oA 8)) (C := RX8) (T := TX8) (N := 16) hx hb hts ii_X8 hown hK hP 0 rfl rfl 1 (by decide) (hts (.fieldLink RX8 26 "StoryHouse$Teller" "told" "LStoryHouse$Out;") wq_287) (fun _ h9 => h9) rfl dX8_putThere_113 ?_
                obtain ⟨q_65, vq_65, hRq_65, hSq_65⟩ := hE.2.2.2.2 _ (List.mem_of_getElem? (i := 62) rfl)
                refine g_ldcwS (own := RX8) (tx := "That is closed.") hx hb hown hRq_65 dX8_putThere_116 ?_
                obtain ⟨u_66, hu_66, hF_67⟩ := Option.bind_eq_some_iff.mp hF_64
                clear hF_64
                have hPc := bx_P (bs := [b_e cB cC cI cJ cZ oA rA σ_61, b_k cB cC cI cJ cZ oA rA σ_61, b_p cB cC cI cJ cZ oA rA σ_61, b_o cB cC cI cJ cZ oA rA σ_61, b_s cB cC cI cJ cZ oA rA σ_61, b_c cB cC cI cJ cZ oA rA σ_61, b_t cB cC cI cJ cZ oA rA σ_61, b_d cB cC cI cJ cZ oA rA σ_61]) (bs' := [b_o cB cC cI cJ cZ oA rA σ_61]) (ws' := (b_o cB cC cI cJ cZ oA rA σ_61)) hP fl_8 fl_1 [3] rfl
                have hDc := bx_D (bs := [b_e cB cC cI cJ cZ oA rA σ_61, b_k cB cC cI cJ cZ oA rA σ_61, b_p cB cC cI cJ cZ oA rA σ_61, b_o cB cC cI cJ cZ oA rA σ_61, b_s cB cC cI cJ cZ oA rA σ_61, b_c cB cC cI cJ cZ oA rA σ_61, b_t cB cC cI cJ cZ oA rA σ_61, b_d cB cC cI cJ cZ oA rA σ_61]) (bs' := [b_o cB cC cI cJ cZ oA rA σ_61]) (ws' := (b_o cB cC cI cJ cZ oA rA σ_61)) (hDD σ_61) fl_8 fl_1 [3] (by decide +kernel) rfl
                have hFc := bx_F (bs := [b_e cB cC cI cJ cZ oA rA σ_61, b_k cB cC cI cJ cZ oA rA σ_61, b_p cB cC cI cJ cZ oA rA σ_61, b_o cB cC cI cJ cZ oA rA σ_61, b_s cB cC cI cJ cZ oA rA σ_61, b_c cB cC cI cJ cZ oA rA σ_61, b_t cB cC cI cJ cZ oA rA σ_61, b_d cB cC cI cJ cZ oA rA σ_61]) (bs' := [b_o cB cC cI cJ cZ oA rA σ_61]) (wc := (b_o cB cC cI cJ cZ oA rA σ_61)) (hDD σ_61) hS hA fl_8 fl_1 [3] rfl
                refine g_ofv (wc := (b_o cB cC cI cJ cZ oA rA σ_61)) (wr := (b_e cB cC cI cJ cZ oA rA σ_61 ++ b_k cB cC cI cJ cZ oA rA σ_61 ++ b_p cB cC cI cJ cZ oA rA σ_61 ++ b_s cB cC cI cJ cZ oA rA σ_61 ++ b_c cB cC cI cJ cZ oA rA σ_61 ++ b_t cB cC cI cJ cZ oA rA σ_61 ++ b_d cB cC cI cJ cZ oA rA σ_61)) hP (hDD σ_61) hS hFc (bx_ix [b_e cB cC cI cJ cZ oA rA σ_61, b_k cB cC cI cJ cZ oA rA σ_61, b_p cB cC cI cJ cZ oA rA σ_61, b_o cB cC cI cJ cZ oA rA σ_61, b_s cB cC cI cJ cZ oA rA σ_61, b_c cB cC cI cJ cZ oA rA σ_61, b_t cB cC cI cJ cZ oA rA σ_61, b_d cB cC cI cJ cZ oA rA σ_61] [3]) (bx_ix [b_e cB cC cI cJ cZ oA rA σ_61, b_k cB cC cI cJ cZ oA rA σ_61, b_p cB cC cI cJ cZ oA rA σ_61, b_o cB cC cI cJ cZ oA rA σ_61, b_s cB cC cI cJ cZ oA rA σ_61, b_c cB cC cI cJ cZ oA rA σ_61, b_t cB cC cI cJ cZ oA rA σ_61, b_d cB cC cI cJ cZ oA rA σ_61] [0, 1, 2, 4, 5, 6, 7]) (bx_C (bs := [b_e cB cC cI cJ cZ oA rA σ_61, b_k cB cC cI cJ cZ oA rA σ_61, b_p cB cC cI cJ cZ oA rA σ_61, b_o cB cC cI cJ cZ oA rA σ_61, b_s cB cC cI cJ cZ oA rA σ_61, b_c cB cC cI cJ cZ oA rA σ_61, b_t cB cC cI cJ cZ oA rA σ_61, b_d cB cC cI cJ cZ oA rA σ_61]) (bs' := [b_o cB cC cI cJ cZ oA rA σ_61]) (is := [3]) fl_8 fl_1 rfl) (bx_C (bs := [b_e cB cC cI cJ cZ oA rA σ_61, b_k cB cC cI cJ cZ oA rA σ_61, b_p cB cC cI cJ cZ oA rA σ_61, b_o cB cC cI cJ cZ oA rA σ_61, b_s cB cC cI cJ cZ oA rA σ_61, b_c cB cC cI cJ cZ oA rA σ_61, b_t cB cC cI cJ cZ oA rA σ_61, b_d cB cC cI cJ cZ oA rA σ_61]) (bs' := [b_e cB cC cI cJ cZ oA rA σ_61, b_k cB cC cI cJ cZ oA rA σ_61, b_p cB cC cI cJ cZ oA rA σ_61, b_s cB cC cI cJ cZ oA rA σ_61, b_c cB cC cI cJ cZ oA rA σ_61, b_t cB cC cI cJ cZ oA rA σ_61, b_d cB cC cI cJ cZ oA rA σ_61]) (is := [0, 1, 2, 4, 5, 6, 7]) fl_8 fl_7 rfl) (bx_n (by decide +kernel)) (bx_d (by decide +kernel)) (va_runV (As := [.ref q_65]) (rest := []) ⟨hx, hb, hml, hown, hts⟩ (k_X5_line l dC dI cB cC cI cJ cZ cP oA rA H.size q_65 _ ([84, 104, 97, 116, 32, 105, 115, 32, 99, 108, 111, 115, 101, 100, 46] : List Int32) σ_61 _ hu_66) (cwV 1 hts (g_gV wq_998 wq_999 wq_1000 wq_9 wq_1001) rfl rfl rfl (by decide +kernel) ⟨Nat.le_of_ble_eq_true rfl, Nat.le_of_ble_eq_true rfl⟩) (g_preV g_blS hK hPc hDc hS hE hFc (g_toS hSq_65 hS hFc) (q0 := 0) (ci := 5) rfl rfl) rfl rfl hl.1 rfl (lv_room (Nat.le_of_ble_eq_true rfl)) dX8_putThere_119 ⟨Nat.le_of_ble_eq_true rfl, Nat.le_of_ble_eq_true rfl⟩) (fun u9 H locs hw9 hP' hD' hS => ?_)
                clear hPc hDc hFc
                obtain ⟨σ_68, eσ_68, hF_69⟩ := bnd_e hF_67
                clear hF_67
                have hP : va_P (dC, dI) vwCl (b_e cB cC cI cJ cZ oA rA σ_68 ++ b_k cB cC cI cJ cZ oA rA σ_68 ++ b_p cB cC cI cJ cZ oA rA σ_68 ++ b_o cB cC cI cJ cZ oA rA σ_68 ++ b_s cB cC cI cJ cZ oA rA σ_68 ++ b_c cB cC cI cJ cZ oA rA σ_68 ++ b_t cB cC cI cJ cZ oA rA σ_68 ++ b_d cB cC cI cJ cZ oA rA σ_68) H := by rw [eσ_68]; exact bx_P (bs := [b_e cB cC cI cJ cZ oA rA σ_61, b_k cB cC cI cJ cZ oA rA σ_61, b_p cB cC cI cJ cZ oA rA σ_61, b_s cB cC cI cJ cZ oA rA σ_61, b_c cB cC cI cJ cZ oA rA σ_61, b_t cB cC cI cJ cZ oA rA σ_61, b_d cB cC cI cJ cZ oA rA σ_61] ++ [b_o cB cC cI cJ cZ oA rA u_66.2]) (bs' := [b_e cB cC cI cJ cZ oA rA (mrg (fun j => j == 8) σ_61 u_66.2), b_k cB cC cI cJ cZ oA rA (mrg (fun j => j == 8) σ_61 u_66.2), b_p cB cC cI cJ cZ oA rA (mrg (fun j => j == 8) σ_61 u_66.2), b_o cB cC cI cJ cZ oA rA (mrg (fun j => j == 8) σ_61 u_66.2), b_s cB cC cI cJ cZ oA rA (mrg (fun j => j == 8) σ_61 u_66.2), b_c cB cC cI cJ cZ oA rA (mrg (fun j => j == 8) σ_61 u_66.2), b_t cB cC cI cJ cZ oA rA (mrg (fun j => j == 8) σ_61 u_66.2), b_d cB cC cI cJ cZ oA rA (mrg (fun j => j == 8) σ_61 u_66.2)]) hP' (fl_a fl_7 fl_1) fl_8 [0, 1, 2, 7, 3, 4, 5, 6] rfl
                clear hP' hD'
                refine lv_goto (tgt := 150) hx hb dX8_putThere_122 (by decide) ?_
                have h9 := Option.some.inj hF_69
                subst h9
                exact W.vret hx hb hr (fun t ht hW => ⟨⟨(), rfl, trivial, m_end ht hP, hDD _⟩, hS.F ht⟩) hS.2.2 dX8_putThere_150
          · have hF_41 := ipos c_40 hF_39
            clear hF_39
            exact Jj_21  σ_38 hF_41 _ _ hP hS ls (lv_sub hl [0] rfl)
        refine lv_if_eq (tgt := 73) hx hb dX8_putThere_66 (by decide) (fun c_71 => ?_) (fun c_71 => ?_)
        · have hF_72 := ipos c_71 hF_34
          clear hF_34
          refine lv_iconst (v := 5) hx hb dX8_putThere_73 (by decide +kernel) ?_
          exact Jj_33 5 σ_18 hF_72 _ _ hP hS ls (lv_sub hl [1, 0] rfl)
        · have hF_73 := ineg c_71 hF_34
          clear hF_34
          refine lv_iconst (v := 0) hx hb dX8_putThere_69 (by decide +kernel) ?_
          refine lv_goto (tgt := 74) hx hb dX8_putThere_70 (by decide) ?_
          exact Jj_33 0 σ_18 hF_73 _ _ hP hS ls (lv_sub hl [1, 0] rfl)
    · have hF_9 := ipos c_8 hF_7
      clear hF_7
      refine lv_aload_n hx hb dX8_putThere_26 rfl (lv_at hl 1 rfl) ?_
      refine va_get (D := (dC, dI)) (ci := 8) (v := .ref (oA 8)) (C := RX8) (T := TX8) (N := 16) hx hb hts ii_X8 hown hK hP 0 rfl rfl 1 (by decide) (hts (.fieldLink RX8 26 "StoryHouse$Teller" "told" "LStoryHouse$Out;") wq_287) (fun _ h9 => h9) rfl dX8_putThere_27 ?_
      obtain ⟨q_10, vq_10, hRq_10, hSq_10⟩ := hE.2.2.2.2 _ (List.mem_of_getElem? (i := 55) rfl)
      refine g_ldcwS (own := RX8) (tx := "You do not have that.") hx hb hown hRq_10 dX8_putThere_30 ?_
      obtain ⟨u_11, hu_11, hF_12⟩ := Option.bind_eq_some_iff.mp hF_9
      clear hF_9
      have hPc := bx_P (bs := [b_e cB cC cI cJ cZ oA rA u_6.2, b_k cB cC cI cJ cZ oA rA u_6.2, b_p cB cC cI cJ cZ oA rA u_6.2, b_o cB cC cI cJ cZ oA rA u_6.2, b_s cB cC cI cJ cZ oA rA u_6.2, b_c cB cC cI cJ cZ oA rA u_6.2, b_t cB cC cI cJ cZ oA rA u_6.2, b_d cB cC cI cJ cZ oA rA u_6.2]) (bs' := [b_o cB cC cI cJ cZ oA rA u_6.2]) (ws' := (b_o cB cC cI cJ cZ oA rA u_6.2)) hP fl_8 fl_1 [3] rfl
      have hDc := bx_D (bs := [b_e cB cC cI cJ cZ oA rA u_6.2, b_k cB cC cI cJ cZ oA rA u_6.2, b_p cB cC cI cJ cZ oA rA u_6.2, b_o cB cC cI cJ cZ oA rA u_6.2, b_s cB cC cI cJ cZ oA rA u_6.2, b_c cB cC cI cJ cZ oA rA u_6.2, b_t cB cC cI cJ cZ oA rA u_6.2, b_d cB cC cI cJ cZ oA rA u_6.2]) (bs' := [b_o cB cC cI cJ cZ oA rA u_6.2]) (ws' := (b_o cB cC cI cJ cZ oA rA u_6.2)) (hDD u_6.2) fl_8 fl_1 [3] (by decide +kernel) rfl
      have hFc := bx_F (bs := [b_e cB cC cI cJ cZ oA rA u_6.2, b_k cB cC cI cJ cZ oA rA u_6.2, b_p cB cC cI cJ cZ oA rA u_6.2, b_o cB cC cI cJ cZ oA rA u_6.2, b_s cB cC cI cJ cZ oA rA u_6.2, b_c cB cC cI cJ cZ oA rA u_6.2, b_t cB cC cI cJ cZ oA rA u_6.2, b_d cB cC cI cJ cZ oA rA u_6.2]) (bs' := [b_o cB cC cI cJ cZ oA rA u_6.2]) (wc := (b_o cB cC cI cJ cZ oA rA u_6.2)) (hDD u_6.2) hS hA fl_8 fl_1 [3] rfl
      refine g_ofv (wc := (b_o cB cC cI cJ cZ oA rA u_6.2)) (wr := (b_e cB cC cI cJ cZ oA rA u_6.2 ++ b_k cB cC cI cJ cZ oA rA u_6.2 ++ b_p cB cC cI cJ cZ oA rA u_6.2 ++ b_s cB cC cI cJ cZ oA rA u_6.2 ++ b_c cB cC cI cJ cZ oA rA u_6.2 ++ b_t cB cC cI cJ cZ oA rA u_6.2 ++ b_d cB cC cI cJ cZ oA rA u_6.2)) hP (hDD u_6.2) hS hFc (bx_ix [b_e cB cC cI cJ cZ oA rA u_6.2, b_k cB cC cI cJ cZ oA rA u_6.2, b_p cB cC cI cJ cZ oA rA u_6.2, b_o cB cC cI cJ cZ oA rA u_6.2, b_s cB cC cI cJ cZ oA rA u_6.2, b_c cB cC cI cJ cZ oA rA u_6.2, b_t cB cC cI cJ cZ oA rA u_6.2, b_d cB cC cI cJ cZ oA rA u_6.2] [3]) (bx_ix [b_e cB cC cI cJ cZ oA rA u_6.2, b_k cB cC cI cJ cZ oA rA u_6.2, b_p cB cC cI cJ cZ oA rA u_6.2, b_o cB cC cI cJ cZ oA rA u_6.2, b_s cB cC cI cJ cZ oA rA u_6.2, b_c cB cC cI cJ cZ oA rA u_6.2, b_t cB cC cI cJ cZ oA rA u_6.2, b_d cB cC cI cJ cZ oA rA u_6.2] [0, 1, 2, 4, 5, 6, 7]) (bx_C (bs := [b_e cB cC cI cJ cZ oA rA u_6.2, b_k cB cC cI cJ cZ oA rA u_6.2, b_p cB cC cI cJ cZ oA rA u_6.2, b_o cB cC cI cJ cZ oA rA u_6.2, b_s cB cC cI cJ cZ oA rA u_6.2, b_c cB cC cI cJ cZ oA rA u_6.2, b_t cB cC cI cJ cZ oA rA u_6.2, b_d cB cC cI cJ cZ oA rA u_6.2]) (bs' := [b_o cB cC cI cJ cZ oA rA u_6.2]) (is := [3]) fl_8 fl_1 rfl) (bx_C (bs := [b_e cB cC cI cJ cZ oA rA u_6.2, b_k cB cC cI cJ cZ oA rA u_6.2, b_p cB cC cI cJ cZ oA rA u_6.2, b_o cB cC cI cJ cZ oA rA u_6.2, b_s cB cC cI cJ cZ oA rA u_6.2, b_c cB cC cI cJ cZ oA rA u_6.2, b_t cB cC cI cJ cZ oA rA u_6.2, b_d cB cC cI cJ cZ oA rA u_6.2]) (bs' := [b_e cB cC cI cJ cZ oA rA u_6.2, b_k cB cC cI cJ cZ oA rA u_6.2, b_p cB cC cI cJ cZ oA rA u_6.2, b_s cB cC cI cJ cZ oA rA u_6.2, b_c cB cC cI cJ cZ oA rA u_6.2, b_t cB cC cI cJ cZ oA rA u_6.2, b_d cB cC cI cJ cZ oA rA u_6.2]) (is := [0, 1, 2, 4, 5, 6, 7]) fl_8 fl_7 rfl) (bx_n (by decide +kernel)) (bx_d (by decide +kernel)) (va_runV (As := [.ref q_10]) (rest := []) ⟨hx, hb, hml, hown, hts⟩ (k_X5_line l dC dI cB cC cI cJ cZ cP oA rA H.size q_10 _ ([89, 111, 117, 32, 100, 111, 32, 110, 111, 116, 32, 104, 97, 118, 101, 32, 116, 104, 97, 116, 46] : List Int32) u_6.2 _ hu_11) (cwV 1 hts (g_gV wq_998 wq_999 wq_1000 wq_9 wq_1001) rfl rfl rfl (by decide +kernel) ⟨Nat.le_of_ble_eq_true rfl, Nat.le_of_ble_eq_true rfl⟩) (g_preV g_blS hK hPc hDc hS hE hFc (g_toS hSq_10 hS hFc) (q0 := 0) (ci := 5) rfl rfl) rfl rfl hl.1 rfl (lv_room (Nat.le_of_ble_eq_true rfl)) dX8_putThere_33 ⟨Nat.le_of_ble_eq_true rfl, Nat.le_of_ble_eq_true rfl⟩) (fun u9 H locs hw9 hP' hD' hS => ?_)
      clear hPc hDc hFc
      obtain ⟨σ_13, eσ_13, hF_14⟩ := bnd_e hF_12
      clear hF_12
      have hP : va_P (dC, dI) vwCl (b_e cB cC cI cJ cZ oA rA σ_13 ++ b_k cB cC cI cJ cZ oA rA σ_13 ++ b_p cB cC cI cJ cZ oA rA σ_13 ++ b_o cB cC cI cJ cZ oA rA σ_13 ++ b_s cB cC cI cJ cZ oA rA σ_13 ++ b_c cB cC cI cJ cZ oA rA σ_13 ++ b_t cB cC cI cJ cZ oA rA σ_13 ++ b_d cB cC cI cJ cZ oA rA σ_13) H := by rw [eσ_13]; exact bx_P (bs := [b_e cB cC cI cJ cZ oA rA u_6.2, b_k cB cC cI cJ cZ oA rA u_6.2, b_p cB cC cI cJ cZ oA rA u_6.2, b_s cB cC cI cJ cZ oA rA u_6.2, b_c cB cC cI cJ cZ oA rA u_6.2, b_t cB cC cI cJ cZ oA rA u_6.2, b_d cB cC cI cJ cZ oA rA u_6.2] ++ [b_o cB cC cI cJ cZ oA rA u_11.2]) (bs' := [b_e cB cC cI cJ cZ oA rA (mrg (fun j => j == 8) u_6.2 u_11.2), b_k cB cC cI cJ cZ oA rA (mrg (fun j => j == 8) u_6.2 u_11.2), b_p cB cC cI cJ cZ oA rA (mrg (fun j => j == 8) u_6.2 u_11.2), b_o cB cC cI cJ cZ oA rA (mrg (fun j => j == 8) u_6.2 u_11.2), b_s cB cC cI cJ cZ oA rA (mrg (fun j => j == 8) u_6.2 u_11.2), b_c cB cC cI cJ cZ oA rA (mrg (fun j => j == 8) u_6.2 u_11.2), b_t cB cC cI cJ cZ oA rA (mrg (fun j => j == 8) u_6.2 u_11.2), b_d cB cC cI cJ cZ oA rA (mrg (fun j => j == 8) u_6.2 u_11.2)]) hP' (fl_a fl_7 fl_1) fl_8 [0, 1, 2, 7, 3, 4, 5, 6] rfl
      clear hP' hD'
      refine lv_goto (tgt := 150) hx hb dX8_putThere_36 (by decide) ?_
      have h9 := Option.some.inj hF_14
      subst h9
      exact W.vret hx hb hr (fun t ht hW => ⟨⟨(), rfl, trivial, m_end ht hP, hDD _⟩, hS.F ht⟩) hS.2.2 dX8_putThere_150
  refine lv_icmp_ne (tgt := 13) hx hb dX8_putThere_6 (by decide) (fun c_75 => ?_) (fun c_75 => ?_)
  · have hF_77 := ineg c_75 hF_4
    clear hF_4
    refine lv_iconst (v := 0) hx hb dX8_putThere_13 (by decide +kernel) ?_
    exact Jj_3 0 Γ hF_77 _ _ hP hS ls (lv_sub hl [0] rfl)
  · have hF_76 := ipos c_75 hF_4
    clear hF_4
    refine lv_iconst (v := 1) hx hb dX8_putThere_9 (by decide +kernel) ?_
    refine lv_goto (tgt := 14) hx hb dX8_putThere_10 (by decide) ?_
    exact Jj_3 1 Γ hF_76 _ _ hP hS ls (lv_sub hl [0] rfl)
theorem dX8_take_0 : decode cX8_take 0 = .ok (.aload_n 0, 1) := by decide +kernel
theorem dX8_take_1 : decode cX8_take 1 = .ok (.getfield 114, 3) := by decide +kernel
theorem dX8_take_4 : decode cX8_take 4 = .ok (.iconst 1, 1) := by decide +kernel
theorem dX8_take_5 : decode cX8_take 5 = .ok (.if_icmp .eq 14, 3) := by decide +kernel
theorem dX8_take_8 : decode cX8_take 8 = .ok (.aload_n 0, 1) := by decide +kernel
theorem dX8_take_9 : decode cX8_take 9 = .ok (.aload_n 0, 1) := by decide +kernel
theorem dX8_take_10 : decode cX8_take 10 = .ok (.getfield 114, 3) := by decide +kernel
theorem dX8_take_13 : decode cX8_take 13 = .ok (.invokevirtual 348, 3) := by decide +kernel
theorem dX8_take_16 : decode cX8_take 16 = .ok (.ifCond .eq 16, 3) := by decide +kernel
theorem dX8_take_19 : decode cX8_take 19 = .ok (.aload_n 0, 1) := by decide +kernel
theorem dX8_take_20 : decode cX8_take 20 = .ok (.getfield 26, 3) := by decide +kernel
theorem dX8_take_23 : decode cX8_take 23 = .ok (.ldc_w 351, 3) := by decide +kernel
theorem dX8_take_26 : decode cX8_take 26 = .ok (.invokevirtual 65, 3) := by decide +kernel
theorem dX8_take_29 : decode cX8_take 29 = .ok (.goto 53, 3) := by decide +kernel
theorem dX8_take_32 : decode cX8_take 32 = .ok (.aload_n 0, 1) := by decide +kernel
theorem dX8_take_33 : decode cX8_take 33 = .ok (.getfield 22, 3) := by decide +kernel
theorem dX8_take_36 : decode cX8_take 36 = .ok (.aload_n 0, 1) := by decide +kernel
theorem dX8_take_37 : decode cX8_take 37 = .ok (.getfield 114, 3) := by decide +kernel
theorem dX8_take_40 : decode cX8_take 40 = .ok (.iconst 1, 1) := by decide +kernel
theorem dX8_take_41 : decode cX8_take 41 = .ok (.invokevirtual 205, 3) := by decide +kernel
theorem dX8_take_44 : decode cX8_take 44 = .ok (.ifCond .eq 16, 3) := by decide +kernel
theorem dX8_take_47 : decode cX8_take 47 = .ok (.aload_n 0, 1) := by decide +kernel
theorem dX8_take_48 : decode cX8_take 48 = .ok (.getfield 26, 3) := by decide +kernel
theorem dX8_take_51 : decode cX8_take 51 = .ok (.ldc_w 353, 3) := by decide +kernel
theorem dX8_take_54 : decode cX8_take 54 = .ok (.invokevirtual 65, 3) := by decide +kernel
theorem dX8_take_57 : decode cX8_take 57 = .ok (.goto 25, 3) := by decide +kernel
theorem dX8_take_60 : decode cX8_take 60 = .ok (.aload_n 0, 1) := by decide +kernel
theorem dX8_take_61 : decode cX8_take 61 = .ok (.getfield 22, 3) := by decide +kernel
theorem dX8_take_64 : decode cX8_take 64 = .ok (.aload_n 0, 1) := by decide +kernel
theorem dX8_take_65 : decode cX8_take 65 = .ok (.getfield 114, 3) := by decide +kernel
theorem dX8_take_68 : decode cX8_take 68 = .ok (.iconst 1, 1) := by decide +kernel
theorem dX8_take_69 : decode cX8_take 69 = .ok (.invokevirtual 355, 3) := by decide +kernel
theorem dX8_take_72 : decode cX8_take 72 = .ok (.aload_n 0, 1) := by decide +kernel
theorem dX8_take_73 : decode cX8_take 73 = .ok (.getfield 26, 3) := by decide +kernel
theorem dX8_take_76 : decode cX8_take 76 = .ok (.ldc_w 359, 3) := by decide +kernel
theorem dX8_take_79 : decode cX8_take 79 = .ok (.invokevirtual 65, 3) := by decide +kernel
theorem dX8_take_82 : decode cX8_take 82 = .ok (.return_, 1) := by decide +kernel
def F_X8_take  (Γ : HS) : HR :=
  bnd (fun  (σ_1 : HS) => (
    (F_X5_line ([89, 111, 117, 32, 104, 97, 118, 101, 32, 116, 104, 97, 116, 46] : List Int32) σ_1).bind fun u_6 =>
    bnd (mrg (fun j => j == 8) σ_1 u_6.2) fun σ_8 =>
    some (0, σ_8)
  ) : HS → HR) fun j_2 =>
  if ((Γ 11).1 10) = 1 then (
    j_2  Γ
  ) else (
    (F_X8_playerHas ((Γ 11).1 10) Γ).bind fun u_13 =>
    if u_13.1 = 0 then (
      (F_X6_bears ((u_13.2 11).1 10) 1 u_13.2).bind fun u_17 =>
      bnd (mrg (fun j => j == 9) u_13.2 u_17.2) fun σ_19 =>
      if u_17.1 = 0 then (
        (F_X6_moveInto ((σ_19 11).1 10) 1 σ_19).bind fun u_23 =>
        bnd (mrg (fun j => j == 9) σ_19 u_23.2) fun σ_25 =>
        (F_X5_line ([84, 97, 107, 101, 110, 46] : List Int32) σ_25).bind fun u_28 =>
        bnd (mrg (fun j => j == 8) σ_25 u_28.2) fun σ_30 =>
        some (0, σ_30)
      ) else (
        (F_X5_line ([84, 104, 97, 116, 32, 105, 115, 32, 102, 105, 120, 101, 100, 46] : List Int32) σ_19).bind fun u_34 =>
        bnd (mrg (fun j => j == 8) σ_19 u_34.2) fun σ_36 =>
        some (0, σ_36)
      )
    ) else (
      j_2  u_13.2
    )
  )
set_option maxHeartbeats 4000000 in
set_option maxRecDepth 100000 in
theorem k_X8_take (l : Launch) (dC : Nat → ClassId) (dI : Nat → Nat → Nat) (cB cC cI cJ cZ cP : ClassId) (oA : Nat → Nat) (rA : Nat → Nat → Nat) (sz : Nat)   (Γ : HS) (res : Int32 × HS) (hF : F_X8_take  Γ = some res) : Met l yX8_take (g_ws yX8_take cX8_take 1 none) ({ frames := 7, cells := 0, slots := 0, locals := 168 }) (va_Pc [.ref (oA 11)] (g_B (dC, dI) [(cB, .byte), (cC, .char), (cI, .int), (cJ, .long), (cZ, .boolean), (cP, .object "StoryHouse$Play")] sz (b_e cB cC cI cJ cZ oA rA Γ ++ b_k cB cC cI cJ cZ oA rA Γ ++ b_p cB cC cI cJ cZ oA rA Γ ++ b_o cB cC cI cJ cZ oA rA Γ ++ b_s cB cC cI cJ cZ oA rA Γ ++ b_c cB cC cI cJ cZ oA rA Γ ++ b_t cB cC cI cJ cZ oA rA Γ ++ b_d cB cC cI cJ cZ oA rA Γ) g_0)) (va_Qv (fun (_ : Unit) => True) (g_Bo (dC, dI) (va_A (b_e cB cC cI cJ cZ oA rA Γ ++ b_k cB cC cI cJ cZ oA rA Γ ++ b_p cB cC cI cJ cZ oA rA Γ ++ b_o cB cC cI cJ cZ oA rA Γ ++ b_s cB cC cI cJ cZ oA rA Γ ++ b_c cB cC cI cJ cZ oA rA Γ ++ b_t cB cC cI cJ cZ oA rA Γ ++ b_d cB cC cI cJ cZ oA rA Γ) sz) (fun (_ : Unit) => (b_e cB cC cI cJ cZ oA rA res.2 ++ b_k cB cC cI cJ cZ oA rA res.2 ++ b_p cB cC cI cJ cZ oA rA res.2 ++ b_o cB cC cI cJ cZ oA rA res.2 ++ b_s cB cC cI cJ cZ oA rA res.2 ++ b_c cB cC cI cJ cZ oA rA res.2 ++ b_t cB cC cI cJ cZ oA rA res.2 ++ b_d cB cC cI cJ cZ oA rA res.2))) (va_A (b_e cB cC cI cJ cZ oA rA Γ ++ b_k cB cC cI cJ cZ oA rA Γ ++ b_p cB cC cI cJ cZ oA rA Γ ++ b_o cB cC cI cJ cZ oA rA Γ ++ b_s cB cC cI cJ cZ oA rA Γ ++ b_c cB cC cI cJ cZ oA rA Γ ++ b_t cB cC cI cJ cZ oA rA Γ ++ b_d cB cC cI cJ cZ oA rA Γ) sz)) 0 0 (va_A (b_e cB cC cI cJ cZ oA rA Γ ++ b_k cB cC cI cJ cZ oA rA Γ ++ b_p cB cC cI cJ cZ oA rA Γ ++ b_o cB cC cI cJ cZ oA rA Γ ++ b_s cB cC cI cJ cZ oA rA Γ ++ b_c cB cC cI cJ cZ oA rA Γ ++ b_t cB cC cI cJ cZ oA rA Γ ++ b_d cB cC cI cJ cZ oA rA Γ) sz) := by
  refine Met.ofW (cc := cX8_take) (maxL := 1) (ret := none) (by decide) rfl ?_
  intro p e s m args below meth c s₁ B hml hv
  obtain ⟨rfl, hsz, hP, hK, hD0, hE, hX⟩ := hv
  have hx := B.exec
  have hb := B.bytes
  have hr := B.returns
  have hts0 := atoms_spec (ws := g_ws yX8_take cX8_take 1 none) B.pre
  have hts : ∀ w ∈ lw_good, w.before ([.ref (oA 11)] : List Value).toArray s = true := fun w z => hts0 w (List.mem_cons_of_mem _ z)
  have hown : s.vm.findClass RX8 = some m.cls := findClass_of_methodNamed B.named
  have hlocks := B.notSynchronized
  subst hsz
  have hD1 := hD0.self (sz := s.heap.size)
  generalize hAe : va_A (b_e cB cC cI cJ cZ oA rA Γ ++ b_k cB cC cI cJ cZ oA rA Γ ++ b_p cB cC cI cJ cZ oA rA Γ ++ b_o cB cC cI cJ cZ oA rA Γ ++ b_s cB cC cI cJ cZ oA rA Γ ++ b_c cB cC cI cJ cZ oA rA Γ ++ b_t cB cC cI cJ cZ oA rA Γ ++ b_d cB cC cI cJ cZ oA rA Γ) s.heap.size = A at hD1 hE hX ⊢
  have hA : ∀ q : Nat, s.heap.size ≤ q → A q := fun q z => by rw [← hAe]; exact Or.inr z
  have hDD : ∀ Γ : HS, va_D A (b_e cB cC cI cJ cZ oA rA Γ ++ b_k cB cC cI cJ cZ oA rA Γ ++ b_p cB cC cI cJ cZ oA rA Γ ++ b_o cB cC cI cJ cZ oA rA Γ ++ b_s cB cC cI cJ cZ oA rA Γ ++ b_c cB cC cI cJ cZ oA rA Γ ++ b_t cB cC cI cJ cZ oA rA Γ ++ b_d cB cC cI cJ cZ oA rA Γ) := fun Γ9 => va_D_fst (ws := (b_e cB cC cI cJ cZ oA rA Γ ++ b_k cB cC cI cJ cZ oA rA Γ ++ b_p cB cC cI cJ cZ oA rA Γ ++ b_o cB cC cI cJ cZ oA rA Γ ++ b_s cB cC cI cJ cZ oA rA Γ ++ b_c cB cC cI cJ cZ oA rA Γ ++ b_t cB cC cI cJ cZ oA rA Γ ++ b_d cB cC cI cJ cZ oA rA Γ)) (ws' := (b_e cB cC cI cJ cZ oA rA Γ9 ++ b_k cB cC cI cJ cZ oA rA Γ9 ++ b_p cB cC cI cJ cZ oA rA Γ9 ++ b_o cB cC cI cJ cZ oA rA Γ9 ++ b_s cB cC cI cJ cZ oA rA Γ9 ++ b_c cB cC cI cJ cZ oA rA Γ9 ++ b_t cB cC cI cJ cZ oA rA Γ9 ++ b_d cB cC cI cJ cZ oA rA Γ9)) rfl hD1
  have hN := hE.1
  have hS : va_S A s.heap s.heap [] := va_S.rf
  have hl := lv_entry ([.ref (oA 11)]) (n := 1) (Nat.le_of_ble_eq_true rfl)
  rw [lg_entry_eq]
  generalize (lg_sl ([.ref (oA 11)]) ++ List.replicate (1 - (lg_sl ([.ref (oA 11)])).length) Slot.unset).toArray = ls at hl ⊢
  have hl : lv_has ls 1 [(0, .ref (oA 11))] := hl
  unfold F_X8_take at hF
  refine lv_aload_n hx hb dX8_take_0 rfl (lv_at hl 0 rfl) ?_
  refine va_get (D := (dC, dI)) (ci := 8) (v := .int ((Γ 11).1 10)) (C := RX8) (T := TX8) (N := 16) hx hb hts ii_X8 hown hK hP 0 rfl rfl 10 (by decide) (hts (.fieldLink RX8 114 "StoryHouse$Teller" "noun" "I") wq_297) (fun _ h9 => h9) rfl dX8_take_1 ?_
  refine lv_iconst (v := 1) hx hb dX8_take_4 (by decide +kernel) ?_
  obtain ⟨j_2, ej_2, hF_3⟩ := bnd_e hF
  clear hF
  have Jj_2 : ∀  (σ_1 : HS), j_2  σ_1 = some res → ∀ (H : Heap) (locs : List Loc), va_P (dC, dI) vwCl (b_e cB cC cI cJ cZ oA rA σ_1 ++ b_k cB cC cI cJ cZ oA rA σ_1 ++ b_p cB cC cI cJ cZ oA rA σ_1 ++ b_o cB cC cI cJ cZ oA rA σ_1 ++ b_s cB cC cI cJ cZ oA rA σ_1 ++ b_c cB cC cI cJ cZ oA rA σ_1 ++ b_t cB cC cI cJ cZ oA rA σ_1 ++ b_d cB cC cI cJ cZ oA rA σ_1) H → va_S A s.heap H locs → ∀ ls : Array Slot, lv_has ls 1 [(0, .ref (oA 11))] → W p l e (headSpec (g_ws yX8_take cX8_take 1 none) { frames := 7, cells := 0, slots := 0, locals := 168 }).room s m ([.ref (oA 11)] : List Value).toArray below meth c H locs 0 0 (MQ below (va_Qv (fun (_ : Unit) => True) (g_Bo (dC, dI) A (fun (_ : Unit) => (b_e cB cC cI cJ cZ oA rA res.2 ++ b_k cB cC cI cJ cZ oA rA res.2 ++ b_p cB cC cI cJ cZ oA rA res.2 ++ b_o cB cC cI cJ cZ oA rA res.2 ++ b_s cB cC cI cJ cZ oA rA res.2 ++ b_c cB cC cI cJ cZ oA rA res.2 ++ b_t cB cC cI cJ cZ oA rA res.2 ++ b_d cB cC cI cJ cZ oA rA res.2))) A) ([.ref (oA 11)] : List Value).toArray s 0 0 A) (F0 m 19 ls []) := by
    intro  σ_1 hF0 H locs hP hS ls hl
    subst ej_2
    have hF_4 := hF0
    clear hF0
    refine lv_aload_n hx hb dX8_take_19 rfl (lv_at hl 0 rfl) ?_
    refine va_get (D := (dC, dI)) (ci := 8) (v := .ref (oA 8)) (C := RX8) (T := TX8) (N := 16) hx hb hts ii_X8 hown hK hP 0 rfl rfl 1 (by decide) (hts (.fieldLink RX8 26 "StoryHouse$Teller" "told" "LStoryHouse$Out;") wq_287) (fun _ h9 => h9) rfl dX8_take_20 ?_
    obtain ⟨q_5, vq_5, hRq_5, hSq_5⟩ := hE.2.2.2.2 _ (List.mem_of_getElem? (i := 52) rfl)
    refine g_ldcwS (own := RX8) (tx := "You have that.") hx hb hown hRq_5 dX8_take_23 ?_
    obtain ⟨u_6, hu_6, hF_7⟩ := Option.bind_eq_some_iff.mp hF_4
    clear hF_4
    have hPc := bx_P (bs := [b_e cB cC cI cJ cZ oA rA σ_1, b_k cB cC cI cJ cZ oA rA σ_1, b_p cB cC cI cJ cZ oA rA σ_1, b_o cB cC cI cJ cZ oA rA σ_1, b_s cB cC cI cJ cZ oA rA σ_1, b_c cB cC cI cJ cZ oA rA σ_1, b_t cB cC cI cJ cZ oA rA σ_1, b_d cB cC cI cJ cZ oA rA σ_1]) (bs' := [b_o cB cC cI cJ cZ oA rA σ_1]) (ws' := (b_o cB cC cI cJ cZ oA rA σ_1)) hP fl_8 fl_1 [3] rfl
    have hDc := bx_D (bs := [b_e cB cC cI cJ cZ oA rA σ_1, b_k cB cC cI cJ cZ oA rA σ_1, b_p cB cC cI cJ cZ oA rA σ_1, b_o cB cC cI cJ cZ oA rA σ_1, b_s cB cC cI cJ cZ oA rA σ_1, b_c cB cC cI cJ cZ oA rA σ_1, b_t cB cC cI cJ cZ oA rA σ_1, b_d cB cC cI cJ cZ oA rA σ_1]) (bs' := [b_o cB cC cI cJ cZ oA rA σ_1]) (ws' := (b_o cB cC cI cJ cZ oA rA σ_1)) (hDD σ_1) fl_8 fl_1 [3] (by decide +kernel) rfl
    have hFc := bx_F (bs := [b_e cB cC cI cJ cZ oA rA σ_1, b_k cB cC cI cJ cZ oA rA σ_1, b_p cB cC cI cJ cZ oA rA σ_1, b_o cB cC cI cJ cZ oA rA σ_1, b_s cB cC cI cJ cZ oA rA σ_1, b_c cB cC cI cJ cZ oA rA σ_1, b_t cB cC cI cJ cZ oA rA σ_1, b_d cB cC cI cJ cZ oA rA σ_1]) (bs' := [b_o cB cC cI cJ cZ oA rA σ_1]) (wc := (b_o cB cC cI cJ cZ oA rA σ_1)) (hDD σ_1) hS hA fl_8 fl_1 [3] rfl
    refine g_ofv (wc := (b_o cB cC cI cJ cZ oA rA σ_1)) (wr := (b_e cB cC cI cJ cZ oA rA σ_1 ++ b_k cB cC cI cJ cZ oA rA σ_1 ++ b_p cB cC cI cJ cZ oA rA σ_1 ++ b_s cB cC cI cJ cZ oA rA σ_1 ++ b_c cB cC cI cJ cZ oA rA σ_1 ++ b_t cB cC cI cJ cZ oA rA σ_1 ++ b_d cB cC cI cJ cZ oA rA σ_1)) hP (hDD σ_1) hS hFc (bx_ix [b_e cB cC cI cJ cZ oA rA σ_1, b_k cB cC cI cJ cZ oA rA σ_1, b_p cB cC cI cJ cZ oA rA σ_1, b_o cB cC cI cJ cZ oA rA σ_1, b_s cB cC cI cJ cZ oA rA σ_1, b_c cB cC cI cJ cZ oA rA σ_1, b_t cB cC cI cJ cZ oA rA σ_1, b_d cB cC cI cJ cZ oA rA σ_1] [3]) (bx_ix [b_e cB cC cI cJ cZ oA rA σ_1, b_k cB cC cI cJ cZ oA rA σ_1, b_p cB cC cI cJ cZ oA rA σ_1, b_o cB cC cI cJ cZ oA rA σ_1, b_s cB cC cI cJ cZ oA rA σ_1, b_c cB cC cI cJ cZ oA rA σ_1, b_t cB cC cI cJ cZ oA rA σ_1, b_d cB cC cI cJ cZ oA rA σ_1] [0, 1, 2, 4, 5, 6, 7]) (bx_C (bs := [b_e cB cC cI cJ cZ oA rA σ_1, b_k cB cC cI cJ cZ oA rA σ_1, b_p cB cC cI cJ cZ oA rA σ_1, b_o cB cC cI cJ cZ oA rA σ_1, b_s cB cC cI cJ cZ oA rA σ_1, b_c cB cC cI cJ cZ oA rA σ_1, b_t cB cC cI cJ cZ oA rA σ_1, b_d cB cC cI cJ cZ oA rA σ_1]) (bs' := [b_o cB cC cI cJ cZ oA rA σ_1]) (is := [3]) fl_8 fl_1 rfl) (bx_C (bs := [b_e cB cC cI cJ cZ oA rA σ_1, b_k cB cC cI cJ cZ oA rA σ_1, b_p cB cC cI cJ cZ oA rA σ_1, b_o cB cC cI cJ cZ oA rA σ_1, b_s cB cC cI cJ cZ oA rA σ_1, b_c cB cC cI cJ cZ oA rA σ_1, b_t cB cC cI cJ cZ oA rA σ_1, b_d cB cC cI cJ cZ oA rA σ_1]) (bs' := [b_e cB cC cI cJ cZ oA rA σ_1, b_k cB cC cI cJ cZ oA rA σ_1, b_p cB cC cI cJ cZ oA rA σ_1, b_s cB cC cI cJ cZ oA rA σ_1, b_c cB cC cI cJ cZ oA rA σ_1, b_t cB cC cI cJ cZ oA rA σ_1, b_d cB cC cI cJ cZ oA rA σ_1]) (is := [0, 1, 2, 4, 5, 6, 7]) fl_8 fl_7 rfl) (bx_n (by decide +kernel)) (bx_d (by decide +kernel)) (va_runV (As := [.ref q_5]) (rest := []) ⟨hx, hb, hml, hown, hts⟩ (k_X5_line l dC dI cB cC cI cJ cZ cP oA rA H.size q_5 _ ([89, 111, 117, 32, 104, 97, 118, 101, 32, 116, 104, 97, 116, 46] : List Int32) σ_1 _ hu_6) (cwV 1 hts (g_gV wq_998 wq_999 wq_1000 wq_9 wq_1001) rfl rfl rfl (by decide +kernel) ⟨Nat.le_of_ble_eq_true rfl, Nat.le_of_ble_eq_true rfl⟩) (g_preV g_blS hK hPc hDc hS hE hFc (g_toS hSq_5 hS hFc) (q0 := 0) (ci := 5) rfl rfl) rfl rfl hl.1 rfl (lv_room (Nat.le_of_ble_eq_true rfl)) dX8_take_26 ⟨Nat.le_of_ble_eq_true rfl, Nat.le_of_ble_eq_true rfl⟩) (fun u9 H locs hw9 hP' hD' hS => ?_)
    clear hPc hDc hFc
    obtain ⟨σ_8, eσ_8, hF_9⟩ := bnd_e hF_7
    clear hF_7
    have hP : va_P (dC, dI) vwCl (b_e cB cC cI cJ cZ oA rA σ_8 ++ b_k cB cC cI cJ cZ oA rA σ_8 ++ b_p cB cC cI cJ cZ oA rA σ_8 ++ b_o cB cC cI cJ cZ oA rA σ_8 ++ b_s cB cC cI cJ cZ oA rA σ_8 ++ b_c cB cC cI cJ cZ oA rA σ_8 ++ b_t cB cC cI cJ cZ oA rA σ_8 ++ b_d cB cC cI cJ cZ oA rA σ_8) H := by rw [eσ_8]; exact bx_P (bs := [b_e cB cC cI cJ cZ oA rA σ_1, b_k cB cC cI cJ cZ oA rA σ_1, b_p cB cC cI cJ cZ oA rA σ_1, b_s cB cC cI cJ cZ oA rA σ_1, b_c cB cC cI cJ cZ oA rA σ_1, b_t cB cC cI cJ cZ oA rA σ_1, b_d cB cC cI cJ cZ oA rA σ_1] ++ [b_o cB cC cI cJ cZ oA rA u_6.2]) (bs' := [b_e cB cC cI cJ cZ oA rA (mrg (fun j => j == 8) σ_1 u_6.2), b_k cB cC cI cJ cZ oA rA (mrg (fun j => j == 8) σ_1 u_6.2), b_p cB cC cI cJ cZ oA rA (mrg (fun j => j == 8) σ_1 u_6.2), b_o cB cC cI cJ cZ oA rA (mrg (fun j => j == 8) σ_1 u_6.2), b_s cB cC cI cJ cZ oA rA (mrg (fun j => j == 8) σ_1 u_6.2), b_c cB cC cI cJ cZ oA rA (mrg (fun j => j == 8) σ_1 u_6.2), b_t cB cC cI cJ cZ oA rA (mrg (fun j => j == 8) σ_1 u_6.2), b_d cB cC cI cJ cZ oA rA (mrg (fun j => j == 8) σ_1 u_6.2)]) hP' (fl_a fl_7 fl_1) fl_8 [0, 1, 2, 7, 3, 4, 5, 6] rfl
    clear hP' hD'
    refine lv_goto (tgt := 82) hx hb dX8_take_29 (by decide) ?_
    have h9 := Option.some.inj hF_9
    subst h9
    exact W.vret hx hb hr (fun t ht hW => ⟨⟨(), rfl, trivial, m_end ht hP, hDD _⟩, hS.F ht⟩) hS.2.2 dX8_take_82
  refine lv_icmp_eq (tgt := 19) hx hb dX8_take_5 (by decide) (fun c_10 => ?_) (fun c_10 => ?_)
  · have hF_11 := ipos c_10 hF_3
    clear hF_3
    exact Jj_2  Γ hF_11 _ _ hP hS ls (lv_sub hl [0] rfl)
  · have hF_12 := ineg c_10 hF_3
    clear hF_3
    refine lv_aload_n hx hb dX8_take_8 rfl (lv_at hl 0 rfl) ?_
    refine lv_aload_n hx hb dX8_take_9 rfl (lv_at hl 0 rfl) ?_
    refine va_get (D := (dC, dI)) (ci := 8) (v := .int ((Γ 11).1 10)) (C := RX8) (T := TX8) (N := 16) hx hb hts ii_X8 hown hK hP 0 rfl rfl 10 (by decide) (hts (.fieldLink RX8 114 "StoryHouse$Teller" "noun" "I") wq_297) (fun _ h9 => h9) rfl dX8_take_10 ?_
    obtain ⟨u_13, hu_13, hF_14⟩ := Option.bind_eq_some_iff.mp hF_12
    clear hF_12
    have hPc := bx_P (bs := [b_e cB cC cI cJ cZ oA rA Γ, b_k cB cC cI cJ cZ oA rA Γ, b_p cB cC cI cJ cZ oA rA Γ, b_o cB cC cI cJ cZ oA rA Γ, b_s cB cC cI cJ cZ oA rA Γ, b_c cB cC cI cJ cZ oA rA Γ, b_t cB cC cI cJ cZ oA rA Γ, b_d cB cC cI cJ cZ oA rA Γ]) (bs' := [b_e cB cC cI cJ cZ oA rA Γ, b_k cB cC cI cJ cZ oA rA Γ, b_p cB cC cI cJ cZ oA rA Γ, b_o cB cC cI cJ cZ oA rA Γ, b_s cB cC cI cJ cZ oA rA Γ, b_c cB cC cI cJ cZ oA rA Γ, b_t cB cC cI cJ cZ oA rA Γ, b_d cB cC cI cJ cZ oA rA Γ]) (ws' := (b_e cB cC cI cJ cZ oA rA Γ ++ b_k cB cC cI cJ cZ oA rA Γ ++ b_p cB cC cI cJ cZ oA rA Γ ++ b_o cB cC cI cJ cZ oA rA Γ ++ b_s cB cC cI cJ cZ oA rA Γ ++ b_c cB cC cI cJ cZ oA rA Γ ++ b_t cB cC cI cJ cZ oA rA Γ ++ b_d cB cC cI cJ cZ oA rA Γ)) hP fl_8 fl_8 [0, 1, 2, 3, 4, 5, 6, 7] rfl
    have hDc := bx_D (bs := [b_e cB cC cI cJ cZ oA rA Γ, b_k cB cC cI cJ cZ oA rA Γ, b_p cB cC cI cJ cZ oA rA Γ, b_o cB cC cI cJ cZ oA rA Γ, b_s cB cC cI cJ cZ oA rA Γ, b_c cB cC cI cJ cZ oA rA Γ, b_t cB cC cI cJ cZ oA rA Γ, b_d cB cC cI cJ cZ oA rA Γ]) (bs' := [b_e cB cC cI cJ cZ oA rA Γ, b_k cB cC cI cJ cZ oA rA Γ, b_p cB cC cI cJ cZ oA rA Γ, b_o cB cC cI cJ cZ oA rA Γ, b_s cB cC cI cJ cZ oA rA Γ, b_c cB cC cI cJ cZ oA rA Γ, b_t cB cC cI cJ cZ oA rA Γ, b_d cB cC cI cJ cZ oA rA Γ]) (ws' := (b_e cB cC cI cJ cZ oA rA Γ ++ b_k cB cC cI cJ cZ oA rA Γ ++ b_p cB cC cI cJ cZ oA rA Γ ++ b_o cB cC cI cJ cZ oA rA Γ ++ b_s cB cC cI cJ cZ oA rA Γ ++ b_c cB cC cI cJ cZ oA rA Γ ++ b_t cB cC cI cJ cZ oA rA Γ ++ b_d cB cC cI cJ cZ oA rA Γ)) (hDD Γ) fl_8 fl_8 [0, 1, 2, 3, 4, 5, 6, 7] (by decide +kernel) rfl
    have hFc := bx_F (bs := [b_e cB cC cI cJ cZ oA rA Γ, b_k cB cC cI cJ cZ oA rA Γ, b_p cB cC cI cJ cZ oA rA Γ, b_o cB cC cI cJ cZ oA rA Γ, b_s cB cC cI cJ cZ oA rA Γ, b_c cB cC cI cJ cZ oA rA Γ, b_t cB cC cI cJ cZ oA rA Γ, b_d cB cC cI cJ cZ oA rA Γ]) (bs' := [b_e cB cC cI cJ cZ oA rA Γ, b_k cB cC cI cJ cZ oA rA Γ, b_p cB cC cI cJ cZ oA rA Γ, b_o cB cC cI cJ cZ oA rA Γ, b_s cB cC cI cJ cZ oA rA Γ, b_c cB cC cI cJ cZ oA rA Γ, b_t cB cC cI cJ cZ oA rA Γ, b_d cB cC cI cJ cZ oA rA Γ]) (wc := (b_e cB cC cI cJ cZ oA rA Γ ++ b_k cB cC cI cJ cZ oA rA Γ ++ b_p cB cC cI cJ cZ oA rA Γ ++ b_o cB cC cI cJ cZ oA rA Γ ++ b_s cB cC cI cJ cZ oA rA Γ ++ b_c cB cC cI cJ cZ oA rA Γ ++ b_t cB cC cI cJ cZ oA rA Γ ++ b_d cB cC cI cJ cZ oA rA Γ)) (hDD Γ) hS hA fl_8 fl_8 [0, 1, 2, 3, 4, 5, 6, 7] rfl
    refine g_ofi (wc := (b_e cB cC cI cJ cZ oA rA Γ ++ b_k cB cC cI cJ cZ oA rA Γ ++ b_p cB cC cI cJ cZ oA rA Γ ++ b_o cB cC cI cJ cZ oA rA Γ ++ b_s cB cC cI cJ cZ oA rA Γ ++ b_c cB cC cI cJ cZ oA rA Γ ++ b_t cB cC cI cJ cZ oA rA Γ ++ b_d cB cC cI cJ cZ oA rA Γ)) (wr := ([] : va_W)) hP (hDD Γ) hS hFc (bx_ix [b_e cB cC cI cJ cZ oA rA Γ, b_k cB cC cI cJ cZ oA rA Γ, b_p cB cC cI cJ cZ oA rA Γ, b_o cB cC cI cJ cZ oA rA Γ, b_s cB cC cI cJ cZ oA rA Γ, b_c cB cC cI cJ cZ oA rA Γ, b_t cB cC cI cJ cZ oA rA Γ, b_d cB cC cI cJ cZ oA rA Γ] [0, 1, 2, 3, 4, 5, 6, 7]) (bx_ix [b_e cB cC cI cJ cZ oA rA Γ, b_k cB cC cI cJ cZ oA rA Γ, b_p cB cC cI cJ cZ oA rA Γ, b_o cB cC cI cJ cZ oA rA Γ, b_s cB cC cI cJ cZ oA rA Γ, b_c cB cC cI cJ cZ oA rA Γ, b_t cB cC cI cJ cZ oA rA Γ, b_d cB cC cI cJ cZ oA rA Γ] []) (bx_C (bs := [b_e cB cC cI cJ cZ oA rA Γ, b_k cB cC cI cJ cZ oA rA Γ, b_p cB cC cI cJ cZ oA rA Γ, b_o cB cC cI cJ cZ oA rA Γ, b_s cB cC cI cJ cZ oA rA Γ, b_c cB cC cI cJ cZ oA rA Γ, b_t cB cC cI cJ cZ oA rA Γ, b_d cB cC cI cJ cZ oA rA Γ]) (bs' := [b_e cB cC cI cJ cZ oA rA Γ, b_k cB cC cI cJ cZ oA rA Γ, b_p cB cC cI cJ cZ oA rA Γ, b_o cB cC cI cJ cZ oA rA Γ, b_s cB cC cI cJ cZ oA rA Γ, b_c cB cC cI cJ cZ oA rA Γ, b_t cB cC cI cJ cZ oA rA Γ, b_d cB cC cI cJ cZ oA rA Γ]) (is := [0, 1, 2, 3, 4, 5, 6, 7]) fl_8 fl_8 rfl) (bx_C (bs := [b_e cB cC cI cJ cZ oA rA Γ, b_k cB cC cI cJ cZ oA rA Γ, b_p cB cC cI cJ cZ oA rA Γ, b_o cB cC cI cJ cZ oA rA Γ, b_s cB cC cI cJ cZ oA rA Γ, b_c cB cC cI cJ cZ oA rA Γ, b_t cB cC cI cJ cZ oA rA Γ, b_d cB cC cI cJ cZ oA rA Γ]) (bs' := []) (is := []) fl_8 fl_0 rfl) (bx_n (by decide +kernel)) (bx_d (by decide +kernel)) (va_runV (As := [.int ((Γ 11).1 10)]) (rest := []) ⟨hx, hb, hml, hown, hts⟩ (k_X8_playerHas l dC dI cB cC cI cJ cZ cP oA rA s.heap.size  ((Γ 11).1 10) Γ _ hu_13) (cwV 1 hts (g_gV wq_1226 wq_1227 wq_2103 wq_12 wq_1228) rfl rfl rfl (by decide +kernel) ⟨Nat.le_of_ble_eq_true rfl, Nat.le_of_ble_eq_true rfl⟩) (g_preV g_bl0 hK hPc hDc hS hE hFc g_to0 (q0 := 0) (ci := 8) rfl rfl) rfl rfl hl.1 rfl (lv_room (Nat.le_of_ble_eq_true rfl)) dX8_take_13 ⟨Nat.le_of_ble_eq_true rfl, Nat.le_of_ble_eq_true rfl⟩) (fun r9 u9 H locs hw9 hP' hD' hS => ?_)
    clear hPc hDc hFc
    subst hw9
    have hP : va_P (dC, dI) vwCl (b_e cB cC cI cJ cZ oA rA u_13.2 ++ b_k cB cC cI cJ cZ oA rA u_13.2 ++ b_p cB cC cI cJ cZ oA rA u_13.2 ++ b_o cB cC cI cJ cZ oA rA u_13.2 ++ b_s cB cC cI cJ cZ oA rA u_13.2 ++ b_c cB cC cI cJ cZ oA rA u_13.2 ++ b_t cB cC cI cJ cZ oA rA u_13.2 ++ b_d cB cC cI cJ cZ oA rA u_13.2) H := hP'
    clear hP' hD'
    refine lv_if_eq (tgt := 32) hx hb dX8_take_16 (by decide) (fun c_15 => ?_) (fun c_15 => ?_)
    · have hF_16 := ipos c_15 hF_14
      clear hF_14
      refine lv_aload_n hx hb dX8_take_32 rfl (lv_at hl 0 rfl) ?_
      refine va_get (D := (dC, dI)) (ci := 8) (v := .ref (oA 9)) (C := RX8) (T := TX8) (N := 16) hx hb hts ii_X8 hown hK hP 0 rfl rfl 0 (by decide) (hts (.fieldLink RX8 22 "StoryHouse$Teller" "play" "LStoryHouse$Play;") wq_286) (fun _ h9 => h9) rfl dX8_take_33 ?_
      refine lv_aload_n hx hb dX8_take_36 rfl (lv_at hl 0 rfl) ?_
      refine va_get (D := (dC, dI)) (ci := 8) (v := .int ((u_13.2 11).1 10)) (C := RX8) (T := TX8) (N := 16) hx hb hts ii_X8 hown hK hP 0 rfl rfl 10 (by decide) (hts (.fieldLink RX8 114 "StoryHouse$Teller" "noun" "I") wq_297) (fun _ h9 => h9) rfl dX8_take_37 ?_
      refine lv_iconst (v := 1) hx hb dX8_take_40 (by decide +kernel) ?_
      obtain ⟨u_17, hu_17, hF_18⟩ := Option.bind_eq_some_iff.mp hF_16
      clear hF_16
      have hPc := bx_P (bs := [b_e cB cC cI cJ cZ oA rA u_13.2, b_k cB cC cI cJ cZ oA rA u_13.2, b_p cB cC cI cJ cZ oA rA u_13.2, b_o cB cC cI cJ cZ oA rA u_13.2, b_s cB cC cI cJ cZ oA rA u_13.2, b_c cB cC cI cJ cZ oA rA u_13.2, b_t cB cC cI cJ cZ oA rA u_13.2, b_d cB cC cI cJ cZ oA rA u_13.2]) (bs' := [b_p cB cC cI cJ cZ oA rA u_13.2]) (ws' := (b_p cB cC cI cJ cZ oA rA u_13.2)) hP fl_8 fl_1 [2] rfl
      have hDc := bx_D (bs := [b_e cB cC cI cJ cZ oA rA u_13.2, b_k cB cC cI cJ cZ oA rA u_13.2, b_p cB cC cI cJ cZ oA rA u_13.2, b_o cB cC cI cJ cZ oA rA u_13.2, b_s cB cC cI cJ cZ oA rA u_13.2, b_c cB cC cI cJ cZ oA rA u_13.2, b_t cB cC cI cJ cZ oA rA u_13.2, b_d cB cC cI cJ cZ oA rA u_13.2]) (bs' := [b_p cB cC cI cJ cZ oA rA u_13.2]) (ws' := (b_p cB cC cI cJ cZ oA rA u_13.2)) (hDD u_13.2) fl_8 fl_1 [2] (by decide +kernel) rfl
      have hFc := bx_F (bs := [b_e cB cC cI cJ cZ oA rA u_13.2, b_k cB cC cI cJ cZ oA rA u_13.2, b_p cB cC cI cJ cZ oA rA u_13.2, b_o cB cC cI cJ cZ oA rA u_13.2, b_s cB cC cI cJ cZ oA rA u_13.2, b_c cB cC cI cJ cZ oA rA u_13.2, b_t cB cC cI cJ cZ oA rA u_13.2, b_d cB cC cI cJ cZ oA rA u_13.2]) (bs' := [b_p cB cC cI cJ cZ oA rA u_13.2]) (wc := (b_p cB cC cI cJ cZ oA rA u_13.2)) (hDD u_13.2) hS hA fl_8 fl_1 [2] rfl
      refine g_ofi (wc := (b_p cB cC cI cJ cZ oA rA u_13.2)) (wr := (b_e cB cC cI cJ cZ oA rA u_13.2 ++ b_k cB cC cI cJ cZ oA rA u_13.2 ++ b_o cB cC cI cJ cZ oA rA u_13.2 ++ b_s cB cC cI cJ cZ oA rA u_13.2 ++ b_c cB cC cI cJ cZ oA rA u_13.2 ++ b_t cB cC cI cJ cZ oA rA u_13.2 ++ b_d cB cC cI cJ cZ oA rA u_13.2)) hP (hDD u_13.2) hS hFc (bx_ix [b_e cB cC cI cJ cZ oA rA u_13.2, b_k cB cC cI cJ cZ oA rA u_13.2, b_p cB cC cI cJ cZ oA rA u_13.2, b_o cB cC cI cJ cZ oA rA u_13.2, b_s cB cC cI cJ cZ oA rA u_13.2, b_c cB cC cI cJ cZ oA rA u_13.2, b_t cB cC cI cJ cZ oA rA u_13.2, b_d cB cC cI cJ cZ oA rA u_13.2] [2]) (bx_ix [b_e cB cC cI cJ cZ oA rA u_13.2, b_k cB cC cI cJ cZ oA rA u_13.2, b_p cB cC cI cJ cZ oA rA u_13.2, b_o cB cC cI cJ cZ oA rA u_13.2, b_s cB cC cI cJ cZ oA rA u_13.2, b_c cB cC cI cJ cZ oA rA u_13.2, b_t cB cC cI cJ cZ oA rA u_13.2, b_d cB cC cI cJ cZ oA rA u_13.2] [0, 1, 3, 4, 5, 6, 7]) (bx_C (bs := [b_e cB cC cI cJ cZ oA rA u_13.2, b_k cB cC cI cJ cZ oA rA u_13.2, b_p cB cC cI cJ cZ oA rA u_13.2, b_o cB cC cI cJ cZ oA rA u_13.2, b_s cB cC cI cJ cZ oA rA u_13.2, b_c cB cC cI cJ cZ oA rA u_13.2, b_t cB cC cI cJ cZ oA rA u_13.2, b_d cB cC cI cJ cZ oA rA u_13.2]) (bs' := [b_p cB cC cI cJ cZ oA rA u_13.2]) (is := [2]) fl_8 fl_1 rfl) (bx_C (bs := [b_e cB cC cI cJ cZ oA rA u_13.2, b_k cB cC cI cJ cZ oA rA u_13.2, b_p cB cC cI cJ cZ oA rA u_13.2, b_o cB cC cI cJ cZ oA rA u_13.2, b_s cB cC cI cJ cZ oA rA u_13.2, b_c cB cC cI cJ cZ oA rA u_13.2, b_t cB cC cI cJ cZ oA rA u_13.2, b_d cB cC cI cJ cZ oA rA u_13.2]) (bs' := [b_e cB cC cI cJ cZ oA rA u_13.2, b_k cB cC cI cJ cZ oA rA u_13.2, b_o cB cC cI cJ cZ oA rA u_13.2, b_s cB cC cI cJ cZ oA rA u_13.2, b_c cB cC cI cJ cZ oA rA u_13.2, b_t cB cC cI cJ cZ oA rA u_13.2, b_d cB cC cI cJ cZ oA rA u_13.2]) (is := [0, 1, 3, 4, 5, 6, 7]) fl_8 fl_7 rfl) (bx_n (by decide +kernel)) (bx_d (by decide +kernel)) (va_runV (As := [.int ((u_13.2 11).1 10), .int 1]) (rest := []) ⟨hx, hb, hml, hown, hts⟩ (k_X6_bears l dC dI cB cC cI cJ cZ cP oA rA H.size  ((u_13.2 11).1 10) 1 u_13.2 _ hu_17) (cwV 2 hts (g_gV wq_1030 wq_987 wq_988 wq_10 wq_989) rfl rfl rfl (by decide +kernel) ⟨Nat.le_of_ble_eq_true rfl, Nat.le_of_ble_eq_true rfl⟩) (g_preV g_bl0 hK hPc hDc hS hE hFc g_to0 (q0 := 0) (ci := 6) rfl rfl) rfl rfl hl.1 rfl (lv_room (Nat.le_of_ble_eq_true rfl)) dX8_take_41 ⟨Nat.le_of_ble_eq_true rfl, Nat.le_of_ble_eq_true rfl⟩) (fun r9 u9 H locs hw9 hP' hD' hS => ?_)
      clear hPc hDc hFc
      subst hw9
      obtain ⟨σ_19, eσ_19, hF_20⟩ := bnd_e hF_18
      clear hF_18
      have hP : va_P (dC, dI) vwCl (b_e cB cC cI cJ cZ oA rA σ_19 ++ b_k cB cC cI cJ cZ oA rA σ_19 ++ b_p cB cC cI cJ cZ oA rA σ_19 ++ b_o cB cC cI cJ cZ oA rA σ_19 ++ b_s cB cC cI cJ cZ oA rA σ_19 ++ b_c cB cC cI cJ cZ oA rA σ_19 ++ b_t cB cC cI cJ cZ oA rA σ_19 ++ b_d cB cC cI cJ cZ oA rA σ_19) H := by rw [eσ_19]; exact bx_P (bs := [b_e cB cC cI cJ cZ oA rA u_13.2, b_k cB cC cI cJ cZ oA rA u_13.2, b_o cB cC cI cJ cZ oA rA u_13.2, b_s cB cC cI cJ cZ oA rA u_13.2, b_c cB cC cI cJ cZ oA rA u_13.2, b_t cB cC cI cJ cZ oA rA u_13.2, b_d cB cC cI cJ cZ oA rA u_13.2] ++ [b_p cB cC cI cJ cZ oA rA u_17.2]) (bs' := [b_e cB cC cI cJ cZ oA rA (mrg (fun j => j == 9) u_13.2 u_17.2), b_k cB cC cI cJ cZ oA rA (mrg (fun j => j == 9) u_13.2 u_17.2), b_p cB cC cI cJ cZ oA rA (mrg (fun j => j == 9) u_13.2 u_17.2), b_o cB cC cI cJ cZ oA rA (mrg (fun j => j == 9) u_13.2 u_17.2), b_s cB cC cI cJ cZ oA rA (mrg (fun j => j == 9) u_13.2 u_17.2), b_c cB cC cI cJ cZ oA rA (mrg (fun j => j == 9) u_13.2 u_17.2), b_t cB cC cI cJ cZ oA rA (mrg (fun j => j == 9) u_13.2 u_17.2), b_d cB cC cI cJ cZ oA rA (mrg (fun j => j == 9) u_13.2 u_17.2)]) hP' (fl_a fl_7 fl_1) fl_8 [0, 1, 7, 2, 3, 4, 5, 6] rfl
      clear hP' hD'
      refine lv_if_eq (tgt := 60) hx hb dX8_take_44 (by decide) (fun c_21 => ?_) (fun c_21 => ?_)
      · have hF_22 := ipos c_21 hF_20
        clear hF_20
        refine lv_aload_n hx hb dX8_take_60 rfl (lv_at hl 0 rfl) ?_
        refine va_get (D := (dC, dI)) (ci := 8) (v := .ref (oA 9)) (C := RX8) (T := TX8) (N := 16) hx hb hts ii_X8 hown hK hP 0 rfl rfl 0 (by decide) (hts (.fieldLink RX8 22 "StoryHouse$Teller" "play" "LStoryHouse$Play;") wq_286) (fun _ h9 => h9) rfl dX8_take_61 ?_
        refine lv_aload_n hx hb dX8_take_64 rfl (lv_at hl 0 rfl) ?_
        refine va_get (D := (dC, dI)) (ci := 8) (v := .int ((σ_19 11).1 10)) (C := RX8) (T := TX8) (N := 16) hx hb hts ii_X8 hown hK hP 0 rfl rfl 10 (by decide) (hts (.fieldLink RX8 114 "StoryHouse$Teller" "noun" "I") wq_297) (fun _ h9 => h9) rfl dX8_take_65 ?_
        refine lv_iconst (v := 1) hx hb dX8_take_68 (by decide +kernel) ?_
        obtain ⟨u_23, hu_23, hF_24⟩ := Option.bind_eq_some_iff.mp hF_22
        clear hF_22
        have hPc := bx_P (bs := [b_e cB cC cI cJ cZ oA rA σ_19, b_k cB cC cI cJ cZ oA rA σ_19, b_p cB cC cI cJ cZ oA rA σ_19, b_o cB cC cI cJ cZ oA rA σ_19, b_s cB cC cI cJ cZ oA rA σ_19, b_c cB cC cI cJ cZ oA rA σ_19, b_t cB cC cI cJ cZ oA rA σ_19, b_d cB cC cI cJ cZ oA rA σ_19]) (bs' := [b_p cB cC cI cJ cZ oA rA σ_19]) (ws' := (b_p cB cC cI cJ cZ oA rA σ_19)) hP fl_8 fl_1 [2] rfl
        have hDc := bx_D (bs := [b_e cB cC cI cJ cZ oA rA σ_19, b_k cB cC cI cJ cZ oA rA σ_19, b_p cB cC cI cJ cZ oA rA σ_19, b_o cB cC cI cJ cZ oA rA σ_19, b_s cB cC cI cJ cZ oA rA σ_19, b_c cB cC cI cJ cZ oA rA σ_19, b_t cB cC cI cJ cZ oA rA σ_19, b_d cB cC cI cJ cZ oA rA σ_19]) (bs' := [b_p cB cC cI cJ cZ oA rA σ_19]) (ws' := (b_p cB cC cI cJ cZ oA rA σ_19)) (hDD σ_19) fl_8 fl_1 [2] (by decide +kernel) rfl
        have hFc := bx_F (bs := [b_e cB cC cI cJ cZ oA rA σ_19, b_k cB cC cI cJ cZ oA rA σ_19, b_p cB cC cI cJ cZ oA rA σ_19, b_o cB cC cI cJ cZ oA rA σ_19, b_s cB cC cI cJ cZ oA rA σ_19, b_c cB cC cI cJ cZ oA rA σ_19, b_t cB cC cI cJ cZ oA rA σ_19, b_d cB cC cI cJ cZ oA rA σ_19]) (bs' := [b_p cB cC cI cJ cZ oA rA σ_19]) (wc := (b_p cB cC cI cJ cZ oA rA σ_19)) (hDD σ_19) hS hA fl_8 fl_1 [2] rfl
        refine g_ofv (wc := (b_p cB cC cI cJ cZ oA rA σ_19)) (wr := (b_e cB cC cI cJ cZ oA rA σ_19 ++ b_k cB cC cI cJ cZ oA rA σ_19 ++ b_o cB cC cI cJ cZ oA rA σ_19 ++ b_s cB cC cI cJ cZ oA rA σ_19 ++ b_c cB cC cI cJ cZ oA rA σ_19 ++ b_t cB cC cI cJ cZ oA rA σ_19 ++ b_d cB cC cI cJ cZ oA rA σ_19)) hP (hDD σ_19) hS hFc (bx_ix [b_e cB cC cI cJ cZ oA rA σ_19, b_k cB cC cI cJ cZ oA rA σ_19, b_p cB cC cI cJ cZ oA rA σ_19, b_o cB cC cI cJ cZ oA rA σ_19, b_s cB cC cI cJ cZ oA rA σ_19, b_c cB cC cI cJ cZ oA rA σ_19, b_t cB cC cI cJ cZ oA rA σ_19, b_d cB cC cI cJ cZ oA rA σ_19] [2]) (bx_ix [b_e cB cC cI cJ cZ oA rA σ_19, b_k cB cC cI cJ cZ oA rA σ_19, b_p cB cC cI cJ cZ oA rA σ_19, b_o cB cC cI cJ cZ oA rA σ_19, b_s cB cC cI cJ cZ oA rA σ_19, b_c cB cC cI cJ cZ oA rA σ_19, b_t cB cC cI cJ cZ oA rA σ_19, b_d cB cC cI cJ cZ oA rA σ_19] [0, 1, 3, 4, 5, 6, 7]) (bx_C (bs := [b_e cB cC cI cJ cZ oA rA σ_19, b_k cB cC cI cJ cZ oA rA σ_19, b_p cB cC cI cJ cZ oA rA σ_19, b_o cB cC cI cJ cZ oA rA σ_19, b_s cB cC cI cJ cZ oA rA σ_19, b_c cB cC cI cJ cZ oA rA σ_19, b_t cB cC cI cJ cZ oA rA σ_19, b_d cB cC cI cJ cZ oA rA σ_19]) (bs' := [b_p cB cC cI cJ cZ oA rA σ_19]) (is := [2]) fl_8 fl_1 rfl) (bx_C (bs := [b_e cB cC cI cJ cZ oA rA σ_19, b_k cB cC cI cJ cZ oA rA σ_19, b_p cB cC cI cJ cZ oA rA σ_19, b_o cB cC cI cJ cZ oA rA σ_19, b_s cB cC cI cJ cZ oA rA σ_19, b_c cB cC cI cJ cZ oA rA σ_19, b_t cB cC cI cJ cZ oA rA σ_19, b_d cB cC cI cJ cZ oA rA σ_19]) (bs' := [b_e cB cC cI cJ cZ oA rA σ_19, b_k cB cC cI cJ cZ oA rA σ_19, b_o cB cC cI cJ cZ oA rA σ_19, b_s cB cC cI cJ cZ oA rA σ_19, b_c cB cC cI cJ cZ oA rA σ_19, b_t cB cC cI cJ cZ oA rA σ_19, b_d cB cC cI cJ cZ oA rA σ_19]) (is := [0, 1, 3, 4, 5, 6, 7]) fl_8 fl_7 rfl) (bx_n (by decide +kernel)) (bx_d (by decide +kernel)) (va_runV (As := [.int ((σ_19 11).1 10), .int 1]) (rest := []) ⟨hx, hb, hml, hown, hts⟩ (k_X6_moveInto l dC dI cB cC cI cJ cZ cP oA rA H.size  ((σ_19 11).1 10) 1 σ_19 _ hu_23) (cwV 2 hts (g_gV wq_1229 wq_963 wq_964 wq_10 wq_965) rfl rfl rfl (by decide +kernel) ⟨Nat.le_of_ble_eq_true rfl, Nat.le_of_ble_eq_true rfl⟩) (g_preV g_bl0 hK hPc hDc hS hE hFc g_to0 (q0 := 0) (ci := 6) rfl rfl) rfl rfl hl.1 rfl (lv_room (Nat.le_of_ble_eq_true rfl)) dX8_take_69 ⟨Nat.le_of_ble_eq_true rfl, Nat.le_of_ble_eq_true rfl⟩) (fun u9 H locs hw9 hP' hD' hS => ?_)
        clear hPc hDc hFc
        obtain ⟨σ_25, eσ_25, hF_26⟩ := bnd_e hF_24
        clear hF_24
        have hP : va_P (dC, dI) vwCl (b_e cB cC cI cJ cZ oA rA σ_25 ++ b_k cB cC cI cJ cZ oA rA σ_25 ++ b_p cB cC cI cJ cZ oA rA σ_25 ++ b_o cB cC cI cJ cZ oA rA σ_25 ++ b_s cB cC cI cJ cZ oA rA σ_25 ++ b_c cB cC cI cJ cZ oA rA σ_25 ++ b_t cB cC cI cJ cZ oA rA σ_25 ++ b_d cB cC cI cJ cZ oA rA σ_25) H := by rw [eσ_25]; exact bx_P (bs := [b_e cB cC cI cJ cZ oA rA σ_19, b_k cB cC cI cJ cZ oA rA σ_19, b_o cB cC cI cJ cZ oA rA σ_19, b_s cB cC cI cJ cZ oA rA σ_19, b_c cB cC cI cJ cZ oA rA σ_19, b_t cB cC cI cJ cZ oA rA σ_19, b_d cB cC cI cJ cZ oA rA σ_19] ++ [b_p cB cC cI cJ cZ oA rA u_23.2]) (bs' := [b_e cB cC cI cJ cZ oA rA (mrg (fun j => j == 9) σ_19 u_23.2), b_k cB cC cI cJ cZ oA rA (mrg (fun j => j == 9) σ_19 u_23.2), b_p cB cC cI cJ cZ oA rA (mrg (fun j => j == 9) σ_19 u_23.2), b_o cB cC cI cJ cZ oA rA (mrg (fun j => j == 9) σ_19 u_23.2), b_s cB cC cI cJ cZ oA rA (mrg (fun j => j == 9) σ_19 u_23.2), b_c cB cC cI cJ cZ oA rA (mrg (fun j => j == 9) σ_19 u_23.2), b_t cB cC cI cJ cZ oA rA (mrg (fun j => j == 9) σ_19 u_23.2), b_d cB cC cI cJ cZ oA rA (mrg (fun j => j == 9) σ_19 u_23.2)]) hP' (fl_a fl_7 fl_1) fl_8 [0, 1, 7, 2, 3, 4, 5, 6] rfl
        clear hP' hD'
        refine lv_aload_n hx hb dX8_take_72 rfl (lv_at hl 0 rfl) ?_
        refine va_get (D := (dC, dI)) (ci := 8) (v := .ref (oA 8)) (C := RX8) (T := TX8) (N := 16) hx hb hts ii_X8 hown hK hP 0 rfl rfl 1 (by decide) (hts (.fieldLink RX8 26 "StoryHouse$Teller" "told" "LStoryHouse$Out;") wq_287) (fun _ h9 => h9) rfl dX8_take_73 ?_
        obtain ⟨q_27, vq_27, hRq_27, hSq_27⟩ := hE.2.2.2.2 _ (List.mem_of_getElem? (i := 54) rfl)
        refine g_ldcwS (own := RX8) (tx := "Taken.") hx hb hown hRq_27 dX8_take_76 ?_
        obtain ⟨u_28, hu_28, hF_29⟩ := Option.bind_eq_some_iff.mp hF_26
        clear hF_26
        have hPc := bx_P (bs := [b_e cB cC cI cJ cZ oA rA σ_25, b_k cB cC cI cJ cZ oA rA σ_25, b_p cB cC cI cJ cZ oA rA σ_25, b_o cB cC cI cJ cZ oA rA σ_25, b_s cB cC cI cJ cZ oA rA σ_25, b_c cB cC cI cJ cZ oA rA σ_25, b_t cB cC cI cJ cZ oA rA σ_25, b_d cB cC cI cJ cZ oA rA σ_25]) (bs' := [b_o cB cC cI cJ cZ oA rA σ_25]) (ws' := (b_o cB cC cI cJ cZ oA rA σ_25)) hP fl_8 fl_1 [3] rfl
        have hDc := bx_D (bs := [b_e cB cC cI cJ cZ oA rA σ_25, b_k cB cC cI cJ cZ oA rA σ_25, b_p cB cC cI cJ cZ oA rA σ_25, b_o cB cC cI cJ cZ oA rA σ_25, b_s cB cC cI cJ cZ oA rA σ_25, b_c cB cC cI cJ cZ oA rA σ_25, b_t cB cC cI cJ cZ oA rA σ_25, b_d cB cC cI cJ cZ oA rA σ_25]) (bs' := [b_o cB cC cI cJ cZ oA rA σ_25]) (ws' := (b_o cB cC cI cJ cZ oA rA σ_25)) (hDD σ_25) fl_8 fl_1 [3] (by decide +kernel) rfl
        have hFc := bx_F (bs := [b_e cB cC cI cJ cZ oA rA σ_25, b_k cB cC cI cJ cZ oA rA σ_25, b_p cB cC cI cJ cZ oA rA σ_25, b_o cB cC cI cJ cZ oA rA σ_25, b_s cB cC cI cJ cZ oA rA σ_25, b_c cB cC cI cJ cZ oA rA σ_25, b_t cB cC cI cJ cZ oA rA σ_25, b_d cB cC cI cJ cZ oA rA σ_25]) (bs' := [b_o cB cC cI cJ cZ oA rA σ_25]) (wc := (b_o cB cC cI cJ cZ oA rA σ_25)) (hDD σ_25) hS hA fl_8 fl_1 [3] rfl
        refine g_ofv (wc := (b_o cB cC cI cJ cZ oA rA σ_25)) (wr := (b_e cB cC cI cJ cZ oA rA σ_25 ++ b_k cB cC cI cJ cZ oA rA σ_25 ++ b_p cB cC cI cJ cZ oA rA σ_25 ++ b_s cB cC cI cJ cZ oA rA σ_25 ++ b_c cB cC cI cJ cZ oA rA σ_25 ++ b_t cB cC cI cJ cZ oA rA σ_25 ++ b_d cB cC cI cJ cZ oA rA σ_25)) hP (hDD σ_25) hS hFc (bx_ix [b_e cB cC cI cJ cZ oA rA σ_25, b_k cB cC cI cJ cZ oA rA σ_25, b_p cB cC cI cJ cZ oA rA σ_25, b_o cB cC cI cJ cZ oA rA σ_25, b_s cB cC cI cJ cZ oA rA σ_25, b_c cB cC cI cJ cZ oA rA σ_25, b_t cB cC cI cJ cZ oA rA σ_25, b_d cB cC cI cJ cZ oA rA σ_25] [3]) (bx_ix [b_e cB cC cI cJ cZ oA rA σ_25, b_k cB cC cI cJ cZ oA rA σ_25, b_p cB cC cI cJ cZ oA rA σ_25, b_o cB cC cI cJ cZ oA rA σ_25, b_s cB cC cI cJ cZ oA rA σ_25, b_c cB cC cI cJ cZ oA rA σ_25, b_t cB cC cI cJ cZ oA rA σ_25, b_d cB cC cI cJ cZ oA rA σ_25] [0, 1, 2, 4, 5, 6, 7]) (bx_C (bs := [b_e cB cC cI cJ cZ oA rA σ_25, b_k cB cC cI cJ cZ oA rA σ_25, b_p cB cC cI cJ cZ oA rA σ_25, b_o cB cC cI cJ cZ oA rA σ_25, b_s cB cC cI cJ cZ oA rA σ_25, b_c cB cC cI cJ cZ oA rA σ_25, b_t cB cC cI cJ cZ oA rA σ_25, b_d cB cC cI cJ cZ oA rA σ_25]) (bs' := [b_o cB cC cI cJ cZ oA rA σ_25]) (is := [3]) fl_8 fl_1 rfl) (bx_C (bs := [b_e cB cC cI cJ cZ oA rA σ_25, b_k cB cC cI cJ cZ oA rA σ_25, b_p cB cC cI cJ cZ oA rA σ_25, b_o cB cC cI cJ cZ oA rA σ_25, b_s cB cC cI cJ cZ oA rA σ_25, b_c cB cC cI cJ cZ oA rA σ_25, b_t cB cC cI cJ cZ oA rA σ_25, b_d cB cC cI cJ cZ oA rA σ_25]) (bs' := [b_e cB cC cI cJ cZ oA rA σ_25, b_k cB cC cI cJ cZ oA rA σ_25, b_p cB cC cI cJ cZ oA rA σ_25, b_s cB cC cI cJ cZ oA rA σ_25, b_c cB cC cI cJ cZ oA rA σ_25, b_t cB cC cI cJ cZ oA rA σ_25, b_d cB cC cI cJ cZ oA rA σ_25]) (is := [0, 1, 2, 4, 5, 6, 7]) fl_8 fl_7 rfl) (bx_n (by decide +kernel)) (bx_d (by decide +kernel)) (va_runV (As := [.ref q_27]) (rest := []) ⟨hx, hb, hml, hown, hts⟩ (k_X5_line l dC dI cB cC cI cJ cZ cP oA rA H.size q_27 _ ([84, 97, 107, 101, 110, 46] : List Int32) σ_25 _ hu_28) (cwV 1 hts (g_gV wq_998 wq_999 wq_1000 wq_9 wq_1001) rfl rfl rfl (by decide +kernel) ⟨Nat.le_of_ble_eq_true rfl, Nat.le_of_ble_eq_true rfl⟩) (g_preV g_blS hK hPc hDc hS hE hFc (g_toS hSq_27 hS hFc) (q0 := 0) (ci := 5) rfl rfl) rfl rfl hl.1 rfl (lv_room (Nat.le_of_ble_eq_true rfl)) dX8_take_79 ⟨Nat.le_of_ble_eq_true rfl, Nat.le_of_ble_eq_true rfl⟩) (fun u9 H locs hw9 hP' hD' hS => ?_)
        clear hPc hDc hFc
        obtain ⟨σ_30, eσ_30, hF_31⟩ := bnd_e hF_29
        clear hF_29
        have hP : va_P (dC, dI) vwCl (b_e cB cC cI cJ cZ oA rA σ_30 ++ b_k cB cC cI cJ cZ oA rA σ_30 ++ b_p cB cC cI cJ cZ oA rA σ_30 ++ b_o cB cC cI cJ cZ oA rA σ_30 ++ b_s cB cC cI cJ cZ oA rA σ_30 ++ b_c cB cC cI cJ cZ oA rA σ_30 ++ b_t cB cC cI cJ cZ oA rA σ_30 ++ b_d cB cC cI cJ cZ oA rA σ_30) H := by rw [eσ_30]; exact bx_P (bs := [b_e cB cC cI cJ cZ oA rA σ_25, b_k cB cC cI cJ cZ oA rA σ_25, b_p cB cC cI cJ cZ oA rA σ_25, b_s cB cC cI cJ cZ oA rA σ_25, b_c cB cC cI cJ cZ oA rA σ_25, b_t cB cC cI cJ cZ oA rA σ_25, b_d cB cC cI cJ cZ oA rA σ_25] ++ [b_o cB cC cI cJ cZ oA rA u_28.2]) (bs' := [b_e cB cC cI cJ cZ oA rA (mrg (fun j => j == 8) σ_25 u_28.2), b_k cB cC cI cJ cZ oA rA (mrg (fun j => j == 8) σ_25 u_28.2), b_p cB cC cI cJ cZ oA rA (mrg (fun j => j == 8) σ_25 u_28.2), b_o cB cC cI cJ cZ oA rA (mrg (fun j => j == 8) σ_25 u_28.2), b_s cB cC cI cJ cZ oA rA (mrg (fun j => j == 8) σ_25 u_28.2), b_c cB cC cI cJ cZ oA rA (mrg (fun j => j == 8) σ_25 u_28.2), b_t cB cC cI cJ cZ oA rA (mrg (fun j => j == 8) σ_25 u_28.2), b_d cB cC cI cJ cZ oA rA (mrg (fun j => j == 8) σ_25 u_28.2)]) hP' (fl_a fl_7 fl_1) fl_8 [0, 1, 2, 7, 3, 4, 5, 6] rfl
        clear hP' hD'
        have h9 := Option.some.inj hF_31
        subst h9
        exact W.vret hx hb hr (fun t ht hW => ⟨⟨(), rfl, trivial, m_end ht hP, hDD _⟩, hS.F ht⟩) hS.2.2 dX8_take_82
      · have hF_32 := ineg c_21 hF_20
        clear hF_20
        refine lv_aload_n hx hb dX8_take_47 rfl (lv_at hl 0 rfl) ?_
        refine va_get (D := (dC, dI)) (ci := 8) (v := .ref (oA 8)) (C := RX8) (T := TX8) (N := 16) hx hb hts ii_X8 hown hK hP 0 rfl rfl 1 (by decide) (hts (.fieldLink RX8 26 "StoryHouse$Teller" "told" "LStoryHouse$Out;") wq_287) (fun _ h9 => h9) rfl dX8_take_48 ?_
        obtain ⟨q_33, vq_33, hRq_33, hSq_33⟩ := hE.2.2.2.2 _ (List.mem_of_getElem? (i := 53) rfl)
        refine g_ldcwS (own := RX8) (tx := "That is fixed.") hx hb hown hRq_33 dX8_take_51 ?_
        obtain ⟨u_34, hu_34, hF_35⟩ := Option.bind_eq_some_iff.mp hF_32
        clear hF_32
        have hPc := bx_P (bs := [b_e cB cC cI cJ cZ oA rA σ_19, b_k cB cC cI cJ cZ oA rA σ_19, b_p cB cC cI cJ cZ oA rA σ_19, b_o cB cC cI cJ cZ oA rA σ_19, b_s cB cC cI cJ cZ oA rA σ_19, b_c cB cC cI cJ cZ oA rA σ_19, b_t cB cC cI cJ cZ oA rA σ_19, b_d cB cC cI cJ cZ oA rA σ_19]) (bs' := [b_o cB cC cI cJ cZ oA rA σ_19]) (ws' := (b_o cB cC cI cJ cZ oA rA σ_19)) hP fl_8 fl_1 [3] rfl
        have hDc := bx_D (bs := [b_e cB cC cI cJ cZ oA rA σ_19, b_k cB cC cI cJ cZ oA rA σ_19, b_p cB cC cI cJ cZ oA rA σ_19, b_o cB cC cI cJ cZ oA rA σ_19, b_s cB cC cI cJ cZ oA rA σ_19, b_c cB cC cI cJ cZ oA rA σ_19, b_t cB cC cI cJ cZ oA rA σ_19, b_d cB cC cI cJ cZ oA rA σ_19]) (bs' := [b_o cB cC cI cJ cZ oA rA σ_19]) (ws' := (b_o cB cC cI cJ cZ oA rA σ_19)) (hDD σ_19) fl_8 fl_1 [3] (by decide +kernel) rfl
        have hFc := bx_F (bs := [b_e cB cC cI cJ cZ oA rA σ_19, b_k cB cC cI cJ cZ oA rA σ_19, b_p cB cC cI cJ cZ oA rA σ_19, b_o cB cC cI cJ cZ oA rA σ_19, b_s cB cC cI cJ cZ oA rA σ_19, b_c cB cC cI cJ cZ oA rA σ_19, b_t cB cC cI cJ cZ oA rA σ_19, b_d cB cC cI cJ cZ oA rA σ_19]) (bs' := [b_o cB cC cI cJ cZ oA rA σ_19]) (wc := (b_o cB cC cI cJ cZ oA rA σ_19)) (hDD σ_19) hS hA fl_8 fl_1 [3] rfl
        refine g_ofv (wc := (b_o cB cC cI cJ cZ oA rA σ_19)) (wr := (b_e cB cC cI cJ cZ oA rA σ_19 ++ b_k cB cC cI cJ cZ oA rA σ_19 ++ b_p cB cC cI cJ cZ oA rA σ_19 ++ b_s cB cC cI cJ cZ oA rA σ_19 ++ b_c cB cC cI cJ cZ oA rA σ_19 ++ b_t cB cC cI cJ cZ oA rA σ_19 ++ b_d cB cC cI cJ cZ oA rA σ_19)) hP (hDD σ_19) hS hFc (bx_ix [b_e cB cC cI cJ cZ oA rA σ_19, b_k cB cC cI cJ cZ oA rA σ_19, b_p cB cC cI cJ cZ oA rA σ_19, b_o cB cC cI cJ cZ oA rA σ_19, b_s cB cC cI cJ cZ oA rA σ_19, b_c cB cC cI cJ cZ oA rA σ_19, b_t cB cC cI cJ cZ oA rA σ_19, b_d cB cC cI cJ cZ oA rA σ_19] [3]) (bx_ix [b_e cB cC cI cJ cZ oA rA σ_19, b_k cB cC cI cJ cZ oA rA σ_19, b_p cB cC cI cJ cZ oA rA σ_19, b_o cB cC cI cJ cZ oA rA σ_19, b_s cB cC cI cJ cZ oA rA σ_19, b_c cB cC cI cJ cZ oA rA σ_19, b_t cB cC cI cJ cZ oA rA σ_19, b_d cB cC cI cJ cZ oA rA σ_19] [0, 1, 2, 4, 5, 6, 7]) (bx_C (bs := [b_e cB cC cI cJ cZ oA rA σ_19, b_k cB cC cI cJ cZ oA rA σ_19, b_p cB cC cI cJ cZ oA rA σ_19, b_o cB cC cI cJ cZ oA rA σ_19, b_s cB cC cI cJ cZ oA rA σ_19, b_c cB cC cI cJ cZ oA rA σ_19, b_t cB cC cI cJ cZ oA rA σ_19, b_d cB cC cI cJ cZ oA rA σ_19]) (bs' := [b_o cB cC cI cJ cZ oA rA σ_19]) (is := [3]) fl_8 fl_1 rfl) (bx_C (bs := [b_e cB cC cI cJ cZ oA rA σ_19, b_k cB cC cI cJ cZ oA rA σ_19, b_p cB cC cI cJ cZ oA rA σ_19, b_o cB cC cI cJ cZ oA rA σ_19, b_s cB cC cI cJ cZ oA rA σ_19, b_c cB cC cI cJ cZ oA rA σ_19, b_t cB cC cI cJ cZ oA rA σ_19, b_d cB cC cI cJ cZ oA rA σ_19]) (bs' := [b_e cB cC cI cJ cZ oA rA σ_19, b_k cB cC cI cJ cZ oA rA σ_19, b_p cB cC cI cJ cZ oA rA σ_19, b_s cB cC cI cJ cZ oA rA σ_19, b_c cB cC cI cJ cZ oA rA σ_19, b_t cB cC cI cJ cZ oA rA σ_19, b_d cB cC cI cJ cZ oA rA σ_19]) (is := [0, 1, 2, 4, 5, 6, 7]) fl_8 fl_7 rfl) (bx_n (by decide +kernel)) (bx_d (by decide +kernel)) (va_runV (As := [.ref q_33]) (rest := []) ⟨hx, hb, hml, hown, hts⟩ (k_X5_line l dC dI cB cC cI cJ cZ cP oA rA H.size q_33 _ ([84, 104, 97, 116, 32, 105, 115, 32, 102, 105, 120, 101, 100, 46] : List Int32) σ_19 _ hu_34) (cwV 1 hts (g_gV wq_998 wq_999 wq_1000 wq_9 wq_1001) rfl rfl rfl (by decide +kernel) ⟨Nat.le_of_ble_eq_true rfl, Nat.le_of_ble_eq_true rfl⟩) (g_preV g_blS hK hPc hDc hS hE hFc (g_toS hSq_33 hS hFc) (q0 := 0) (ci := 5) rfl rfl) rfl rfl hl.1 rfl (lv_room (Nat.le_of_ble_eq_true rfl)) dX8_take_54 ⟨Nat.le_of_ble_eq_true rfl, Nat.le_of_ble_eq_true rfl⟩) (fun u9 H locs hw9 hP' hD' hS => ?_)
        clear hPc hDc hFc
        obtain ⟨σ_36, eσ_36, hF_37⟩ := bnd_e hF_35
        clear hF_35
        have hP : va_P (dC, dI) vwCl (b_e cB cC cI cJ cZ oA rA σ_36 ++ b_k cB cC cI cJ cZ oA rA σ_36 ++ b_p cB cC cI cJ cZ oA rA σ_36 ++ b_o cB cC cI cJ cZ oA rA σ_36 ++ b_s cB cC cI cJ cZ oA rA σ_36 ++ b_c cB cC cI cJ cZ oA rA σ_36 ++ b_t cB cC cI cJ cZ oA rA σ_36 ++ b_d cB cC cI cJ cZ oA rA σ_36) H := by rw [eσ_36]; exact bx_P (bs := [b_e cB cC cI cJ cZ oA rA σ_19, b_k cB cC cI cJ cZ oA rA σ_19, b_p cB cC cI cJ cZ oA rA σ_19, b_s cB cC cI cJ cZ oA rA σ_19, b_c cB cC cI cJ cZ oA rA σ_19, b_t cB cC cI cJ cZ oA rA σ_19, b_d cB cC cI cJ cZ oA rA σ_19] ++ [b_o cB cC cI cJ cZ oA rA u_34.2]) (bs' := [b_e cB cC cI cJ cZ oA rA (mrg (fun j => j == 8) σ_19 u_34.2), b_k cB cC cI cJ cZ oA rA (mrg (fun j => j == 8) σ_19 u_34.2), b_p cB cC cI cJ cZ oA rA (mrg (fun j => j == 8) σ_19 u_34.2), b_o cB cC cI cJ cZ oA rA (mrg (fun j => j == 8) σ_19 u_34.2), b_s cB cC cI cJ cZ oA rA (mrg (fun j => j == 8) σ_19 u_34.2), b_c cB cC cI cJ cZ oA rA (mrg (fun j => j == 8) σ_19 u_34.2), b_t cB cC cI cJ cZ oA rA (mrg (fun j => j == 8) σ_19 u_34.2), b_d cB cC cI cJ cZ oA rA (mrg (fun j => j == 8) σ_19 u_34.2)]) hP' (fl_a fl_7 fl_1) fl_8 [0, 1, 2, 7, 3, 4, 5, 6] rfl
        clear hP' hD'
        refine lv_goto (tgt := 82) hx hb dX8_take_57 (by decide) ?_
        have h9 := Option.some.inj hF_37
        subst h9
        exact W.vret hx hb hr (fun t ht hW => ⟨⟨(), rfl, trivial, m_end ht hP, hDD _⟩, hS.F ht⟩) hS.2.2 dX8_take_82
    · have hF_38 := ineg c_15 hF_14
      clear hF_14
      exact Jj_2  u_13.2 hF_38 _ _ hP hS ls (lv_sub hl [0] rfl)
