/-! methods of the class: what each does is its function -/
theorem dX10_cut_0 : decode cX10_cut 0 = .ok (.aload_n 0, 1) := by decide +kernel
theorem dX10_cut_1 : decode cX10_cut 1 = .ok (.iconst 0, 1) := by decide +kernel
theorem dX10_cut_2 : decode cX10_cut 2 = .ok (.iload_n 2, 1) := by decide +kernel
theorem dX10_cut_3 : decode cX10_cut 3 = .ok (.aload_n 1, 1) := by decide +kernel
theorem dX10_cut_4 : decode cX10_cut 4 = .ok (.arraylength, 1) := by decide +kernel
theorem dX10_cut_5 : decode cX10_cut 5 = .ok (.aload_n 0, 1) := by decide +kernel
theorem dX10_cut_6 : decode cX10_cut 6 = .ok (.getfield 9, 3) := by decide +kernel
theorem dX10_cut_9 : decode cX10_cut 9 = .ok (.arraylength, 1) := by decide +kernel
theorem dX10_cut_10 : decode cX10_cut 10 = .ok (.invokestatic 38, 3) := by decide +kernel
theorem dX10_cut_13 : decode cX10_cut 13 = .ok (.invokestatic 38, 3) := by decide +kernel
theorem dX10_cut_16 : decode cX10_cut 16 = .ok (.invokestatic 44, 3) := by decide +kernel
theorem dX10_cut_19 : decode cX10_cut 19 = .ok (.putfield 47, 3) := by decide +kernel
theorem dX10_cut_22 : decode cX10_cut 22 = .ok (.aload_n 1, 1) := by decide +kernel
theorem dX10_cut_23 : decode cX10_cut 23 = .ok (.iconst 0, 1) := by decide +kernel
theorem dX10_cut_24 : decode cX10_cut 24 = .ok (.aload_n 0, 1) := by decide +kernel
theorem dX10_cut_25 : decode cX10_cut 25 = .ok (.getfield 9, 3) := by decide +kernel
theorem dX10_cut_28 : decode cX10_cut 28 = .ok (.iconst 0, 1) := by decide +kernel
theorem dX10_cut_29 : decode cX10_cut 29 = .ok (.aload_n 0, 1) := by decide +kernel
theorem dX10_cut_30 : decode cX10_cut 30 = .ok (.getfield 47, 3) := by decide +kernel
theorem dX10_cut_33 : decode cX10_cut 33 = .ok (.invokestatic 51, 3) := by decide +kernel
theorem dX10_cut_36 : decode cX10_cut 36 = .ok (.aload_n 0, 1) := by decide +kernel
theorem dX10_cut_37 : decode cX10_cut 37 = .ok (.iconst 0, 1) := by decide +kernel
theorem dX10_cut_38 : decode cX10_cut 38 = .ok (.putfield 57, 3) := by decide +kernel
theorem dX10_cut_41 : decode cX10_cut 41 = .ok (.aload_n 0, 1) := by decide +kernel
theorem dX10_cut_42 : decode cX10_cut 42 = .ok (.iconst 0, 1) := by decide +kernel
theorem dX10_cut_43 : decode cX10_cut 43 = .ok (.putfield 60, 3) := by decide +kernel
theorem dX10_cut_46 : decode cX10_cut 46 = .ok (.aload_n 0, 1) := by decide +kernel
theorem dX10_cut_47 : decode cX10_cut 47 = .ok (.iconst 0, 1) := by decide +kernel
theorem dX10_cut_48 : decode cX10_cut 48 = .ok (.putfield 63, 3) := by decide +kernel
theorem dX10_cut_51 : decode cX10_cut 51 = .ok (.aload_n 0, 1) := by decide +kernel
theorem dX10_cut_52 : decode cX10_cut 52 = .ok (.getfield 35, 3) := by decide +kernel
theorem dX10_cut_55 : decode cX10_cut 55 = .ok (.iconst 0, 1) := by decide +kernel
theorem dX10_cut_56 : decode cX10_cut 56 = .ok (.invokestatic 66, 3) := by decide +kernel
theorem dX10_cut_59 : decode cX10_cut 59 = .ok (.aload_n 0, 1) := by decide +kernel
theorem dX10_cut_60 : decode cX10_cut 60 = .ok (.ldc 72, 2) := by decide +kernel
theorem dX10_cut_62 : decode cX10_cut 62 = .ok (.invokevirtual 74, 3) := by decide +kernel
theorem dX10_cut_65 : decode cX10_cut 65 = .ok (.aload_n 0, 1) := by decide +kernel
theorem dX10_cut_66 : decode cX10_cut 66 = .ok (.ldc 78, 2) := by decide +kernel
theorem dX10_cut_68 : decode cX10_cut 68 = .ok (.invokevirtual 74, 3) := by decide +kernel
theorem dX10_cut_71 : decode cX10_cut 71 = .ok (.aload_n 0, 1) := by decide +kernel
theorem dX10_cut_72 : decode cX10_cut 72 = .ok (.ldc 80, 2) := by decide +kernel
theorem dX10_cut_74 : decode cX10_cut 74 = .ok (.invokevirtual 74, 3) := by decide +kernel
theorem dX10_cut_77 : decode cX10_cut 77 = .ok (.aload_n 0, 1) := by decide +kernel
theorem dX10_cut_78 : decode cX10_cut 78 = .ok (.ldc 82, 2) := by decide +kernel
theorem dX10_cut_80 : decode cX10_cut 80 = .ok (.invokevirtual 74, 3) := by decide +kernel
theorem dX10_cut_83 : decode cX10_cut 83 = .ok (.aload_n 0, 1) := by decide +kernel
theorem dX10_cut_84 : decode cX10_cut 84 = .ok (.ldc 84, 2) := by decide +kernel
theorem dX10_cut_86 : decode cX10_cut 86 = .ok (.invokevirtual 74, 3) := by decide +kernel
theorem dX10_cut_89 : decode cX10_cut 89 = .ok (.aload_n 0, 1) := by decide +kernel
theorem dX10_cut_90 : decode cX10_cut 90 = .ok (.iconst 0, 1) := by decide +kernel
theorem dX10_cut_91 : decode cX10_cut 91 = .ok (.invokevirtual 86, 3) := by decide +kernel
theorem dX10_cut_94 : decode cX10_cut 94 = .ok (.istore_n 3, 1) := by decide +kernel
theorem dX10_cut_95 : decode cX10_cut 95 = .ok (.iconst 0, 1) := by decide +kernel
theorem dX10_cut_96 : decode cX10_cut 96 = .ok (.istore 4, 2) := by decide +kernel
theorem dX10_cut_98 : decode cX10_cut 98 = .ok (.iload 4, 2) := by decide +kernel
theorem dX10_cut_100 : decode cX10_cut 100 = .ok (.aload_n 0, 1) := by decide +kernel
theorem dX10_cut_101 : decode cX10_cut 101 = .ok (.getfield 47, 3) := by decide +kernel
theorem dX10_cut_104 : decode cX10_cut 104 = .ok (.if_icmp .ge 27, 3) := by decide +kernel
theorem dX10_cut_107 : decode cX10_cut 107 = .ok (.iload_n 3, 1) := by decide +kernel
theorem dX10_cut_108 : decode cX10_cut 108 = .ok (.aload_n 0, 1) := by decide +kernel
theorem dX10_cut_109 : decode cX10_cut 109 = .ok (.getfield 47, 3) := by decide +kernel
theorem dX10_cut_112 : decode cX10_cut 112 = .ok (.if_icmp .ge 19, 3) := by decide +kernel
theorem dX10_cut_115 : decode cX10_cut 115 = .ok (.aload_n 0, 1) := by decide +kernel
theorem dX10_cut_116 : decode cX10_cut 116 = .ok (.aload_n 0, 1) := by decide +kernel
theorem dX10_cut_117 : decode cX10_cut 117 = .ok (.iload_n 3, 1) := by decide +kernel
theorem dX10_cut_118 : decode cX10_cut 118 = .ok (.invokevirtual 90, 3) := by decide +kernel
theorem dX10_cut_121 : decode cX10_cut 121 = .ok (.invokevirtual 86, 3) := by decide +kernel
theorem dX10_cut_124 : decode cX10_cut 124 = .ok (.istore_n 3, 1) := by decide +kernel
theorem dX10_cut_125 : decode cX10_cut 125 = .ok (.iinc 4 1, 3) := by decide +kernel
theorem dX10_cut_128 : decode cX10_cut 128 = .ok (.goto (-30), 3) := by decide +kernel
theorem dX10_cut_131 : decode cX10_cut 131 = .ok (.aload_n 0, 1) := by decide +kernel
theorem dX10_cut_132 : decode cX10_cut 132 = .ok (.iconst 0, 1) := by decide +kernel
theorem dX10_cut_133 : decode cX10_cut 133 = .ok (.aload_n 0, 1) := by decide +kernel
theorem dX10_cut_134 : decode cX10_cut 134 = .ok (.getfield 47, 3) := by decide +kernel
theorem dX10_cut_137 : decode cX10_cut 137 = .ok (.iconst 0, 1) := by decide +kernel
theorem dX10_cut_138 : decode cX10_cut 138 = .ok (.invokevirtual 93, 3) := by decide +kernel
theorem dX10_cut_141 : decode cX10_cut 141 = .ok (.pop, 1) := by decide +kernel
theorem dX10_cut_142 : decode cX10_cut 142 = .ok (.return_, 1) := by decide +kernel
def F_X10_cut (p1 : Int32) (Γ : HS) : HR :=
  bnd ((if 16000 < 16000 then 16000 else 16000)) fun (x_1 : Int32) =>
  bnd ((if x_1 < p1 then x_1 else p1)) fun (x_3 : Int32) =>
  bnd ((if 0 < x_3 then x_3 else 0)) fun (x_5 : Int32) =>
  bnd (cI' Γ 1 1 x_5) fun σ_7 =>
  bnd (((σ_7 1).1 1)) fun (x_9 : Int32) =>
  if 0 < 0 ∨ 0 < 0 ∨ x_9 < 0 ∨ 16000 < (0 : Int32).toNatClampNeg + x_9.toNatClampNeg ∨ 16000 < (0 : Int32).toNatClampNeg + x_9.toNatClampNeg ∨ ¬ (∀ z, z < x_9.toNatClampNeg → vp_nar .byte (((σ_7 13).2.1 0) ((0 : Int32).toNatClampNeg + z)) = ((σ_7 13).2.1 0) ((0 : Int32).toNatClampNeg + z)) then none else
  bnd (cA' σ_7 1 0 (va_cpy ((σ_7 13).2.1 0) ((σ_7 1).2.1 0) (0 : Int32).toNatClampNeg (0 : Int32).toNatClampNeg x_9.toNatClampNeg)) fun σ_13 =>
  bnd (cI' σ_13 1 2 0) fun σ_15 =>
  bnd (cI' σ_15 1 11 0) fun σ_17 =>
  bnd (cI' σ_17 1 10 0) fun σ_19 =>
  bnd (cA' σ_19 1 9 (g_fill 8192 ((σ_19 1).2.1 9) 0)) fun σ_21 =>
  (F_X10_learn ([110, 111, 114, 116, 104, 32, 115, 111, 117, 116, 104, 32, 101, 97, 115, 116, 32, 119, 101, 115, 116, 32, 117, 112, 32, 100, 111, 119, 110, 32, 99, 111, 110, 116, 97, 105, 110, 101, 114, 32, 102, 105, 120, 101, 100, 32, 104, 105, 100, 100, 101, 110, 32, 108, 105, 103, 104, 116, 32, 111, 112, 101, 110, 32, 115, 117, 112, 112, 111, 114, 116, 101, 114, 32, 100, 97, 114, 107, 32, 97, 108, 111, 110, 101, 32, 111, 110, 101, 32, 116, 119, 111, 32] : List Int32) σ_21).bind fun u_24 =>
  bnd (mrg (fun j => j == 1) σ_21 u_24.2) fun σ_26 =>
  (F_X10_learn ([97, 110, 100, 32, 111, 114, 32, 110, 111, 116, 32, 105, 110, 32, 104, 97, 115, 32, 104, 111, 108, 100, 101, 114, 32, 102, 105, 114, 115, 116, 32, 110, 101, 120, 116, 32, 114, 97, 110, 100, 111, 109, 32, 104, 101, 114, 101, 32, 110, 111, 117, 110, 32, 115, 101, 99, 111, 110, 100, 32, 112, 108, 97, 121, 101, 114, 32, 110, 97, 109, 101, 32] : List Int32) σ_26).bind fun u_29 =>
  bnd (mrg (fun j => j == 1) σ_26 u_29.2) fun σ_31 =>
  (F_X10_learn ([114, 111, 111, 109, 32, 116, 104, 105, 110, 103, 32, 118, 101, 114, 98, 32, 118, 97, 114, 32, 97, 114, 114, 97, 121, 32, 100, 101, 102, 32, 111, 110, 32, 101, 97, 99, 104, 32, 116, 101, 120, 116, 32, 101, 120, 105, 116, 32, 119, 111, 114, 100, 32] : List Int32) σ_31).bind fun u_34 =>
  bnd (mrg (fun j => j == 1) σ_31 u_34.2) fun σ_36 =>
  (F_X10_learn ([115, 97, 121, 32, 108, 101, 116, 32, 109, 111, 118, 101, 32, 116, 111, 32, 114, 101, 109, 111, 118, 101, 32, 115, 101, 116, 32, 99, 108, 101, 97, 114, 32, 105, 102, 32, 101, 108, 115, 101, 32, 119, 104, 105, 108, 101, 32, 114, 101, 116, 117, 114, 110, 32, 100, 111, 110, 101, 32, 119, 105, 110, 32, 108, 111, 115, 101, 32, 97, 110, 121, 32, 97, 108, 108, 32] : List Int32) σ_36).bind fun u_39 =>
  bnd (mrg (fun j => j == 1) σ_36 u_39.2) fun σ_41 =>
  (F_X10_learn ([108, 111, 111, 107, 32, 105, 110, 118, 101, 110, 116, 111, 114, 121, 32, 119, 97, 105, 116, 32, 116, 97, 107, 101, 32, 100, 114, 111, 112, 32, 101, 120, 97, 109, 105, 110, 101, 32, 111, 112, 101, 110, 32, 99, 108, 111, 115, 101, 32, 112, 117, 116, 105, 110, 32, 112, 117, 116, 111, 110, 32, 103, 111, 32] : List Int32) σ_41).bind fun u_44 =>
  bnd (mrg (fun j => j == 1) σ_41 u_44.2) fun σ_46 =>
  (F_X10_skip 0 σ_46).bind fun u_48 =>
  bnd (mrg (fun j => j == 1) σ_46 u_48.2) fun σ_50 =>
  loopF (fun (again_53 : (Int32 × Int32 × HS) → HR) (s_52 : Int32 × Int32 × HS) => (
    bnd (fun  (σ_56 : HS) => (
      (F_X10_add 0 ((σ_56 1).1 1) 0 σ_56).bind fun u_60 =>
      bnd (mrg (fun j => j == 1) σ_56 u_60.2) fun σ_62 =>
      some (0, σ_62)
    ) : HS → HR) fun j_57 =>
    if ((s_52.2.2 1).1 1) ≤ s_52.2.1 then (
      j_57  s_52.2.2
    ) else (
      if ((s_52.2.2 1).1 1) ≤ s_52.1 then (
        j_57  s_52.2.2
      ) else (
        (F_X10_word s_52.1 s_52.2.2).bind fun u_70 =>
        bnd (mrg (fun j => j == 1) s_52.2.2 u_70.2) fun σ_72 =>
        (F_X10_skip u_70.1 σ_72).bind fun u_74 =>
        bnd (mrg (fun j => j == 1) σ_72 u_74.2) fun σ_76 =>
        bnd (s_52.2.1 + 1) fun (x_78 : Int32) =>
        again_53 (u_74.1, x_78, σ_76)
      )
    )
  )) FU (u_48.1, 0, σ_50)
set_option maxHeartbeats 4000000 in
set_option maxRecDepth 100000 in
theorem k_X10_cut (l : Launch) (dC : Nat → ClassId) (dI : Nat → Nat → Nat) (cB cC cI cJ cZ cP : ClassId) (oA : Nat → Nat) (rA : Nat → Nat → Nat) (sz : Nat)  (p1 : Int32) (Γ : HS) (res : Int32 × HS) (hF : F_X10_cut p1 Γ = some res) : Met l yX10_cut (g_ws yX10_cut cX10_cut 5 none) ({ frames := 7, cells := 0, slots := 0, locals := 178 }) (va_Pc [.ref (oA 1), .ref (rA 13 0), .int p1] (g_B (dC, dI) [(cB, .byte), (cC, .char), (cI, .int), (cJ, .long), (cZ, .boolean), (cP, .object "StoryHouse$Play")] sz (b_b cB cC cI cJ cZ oA rA Γ ++ b_w cB cC cI cJ cZ oA rA Γ) g_0)) (va_Qv (fun (_ : Unit) => True) (g_Bo (dC, dI) (va_A (b_b cB cC cI cJ cZ oA rA Γ ++ b_w cB cC cI cJ cZ oA rA Γ) sz) (fun (_ : Unit) => (b_b cB cC cI cJ cZ oA rA res.2 ++ b_w cB cC cI cJ cZ oA rA res.2))) (va_A (b_b cB cC cI cJ cZ oA rA Γ ++ b_w cB cC cI cJ cZ oA rA Γ) sz)) 0 0 (va_A (b_b cB cC cI cJ cZ oA rA Γ ++ b_w cB cC cI cJ cZ oA rA Γ) sz) := by
  refine Met.ofW (cc := cX10_cut) (maxL := 5) (ret := none) (by decide) rfl ?_
  intro p e s m args below meth c s₁ B hml hv
  obtain ⟨rfl, hsz, hP, hK, hD0, hE, hX⟩ := hv
  have hx := B.exec
  have hb := B.bytes
  have hr := B.returns
  have hts0 := atoms_spec (ws := g_ws yX10_cut cX10_cut 5 none) B.pre
  have hts : ∀ w ∈ lw_good, w.before ([.ref (oA 1), .ref (rA 13 0), .int p1] : List Value).toArray s = true := fun w z => hts0 w (List.mem_cons_of_mem _ z)
  have hown : s.vm.findClass RX10 = some m.cls := findClass_of_methodNamed B.named
  have hlocks := B.notSynchronized
  subst hsz
  have hD1 := hD0.self (sz := s.heap.size)
  generalize hAe : va_A (b_b cB cC cI cJ cZ oA rA Γ ++ b_w cB cC cI cJ cZ oA rA Γ) s.heap.size = A at hD1 hE hX ⊢
  have hA : ∀ q : Nat, s.heap.size ≤ q → A q := fun q z => by rw [← hAe]; exact Or.inr z
  have hDD : ∀ Γ : HS, va_D A (b_b cB cC cI cJ cZ oA rA Γ ++ b_w cB cC cI cJ cZ oA rA Γ) := fun Γ9 => va_D_fst (ws := (b_b cB cC cI cJ cZ oA rA Γ ++ b_w cB cC cI cJ cZ oA rA Γ)) (ws' := (b_b cB cC cI cJ cZ oA rA Γ9 ++ b_w cB cC cI cJ cZ oA rA Γ9)) rfl hD1
  have hN := hE.1
  have hS : va_S A s.heap s.heap [] := va_S.rf
  have hl := lv_entry ([.ref (oA 1), .ref (rA 13 0), .int p1]) (n := 5) (Nat.le_of_ble_eq_true rfl)
  rw [lg_entry_eq]
  generalize (lg_sl ([.ref (oA 1), .ref (rA 13 0), .int p1]) ++ List.replicate (5 - (lg_sl ([.ref (oA 1), .ref (rA 13 0), .int p1])).length) Slot.unset).toArray = ls at hl ⊢
  have hl : lv_has ls 5 [(0, .ref (oA 1)), (1, .ref (rA 13 0)), (2, .int p1)] := hl
  unfold F_X10_cut at hF
  refine lv_aload_n hx hb dX10_cut_0 rfl (lv_at hl 0 rfl) ?_
  refine lv_iconst (v := 0) hx hb dX10_cut_1 (by decide +kernel) ?_
  refine lv_iload_n hx hb dX10_cut_2 rfl (lv_at hl 2 rfl) ?_
  refine lv_aload_n hx hb dX10_cut_3 rfl (lv_at hl 1 rfl) ?_
  refine va_alen (v := 16000) hx hb hK hP 0 0 rfl rfl (by first | rfl | decide +kernel) dX10_cut_4 ?_
  refine lv_aload_n hx hb dX10_cut_5 rfl (lv_at hl 0 rfl) ?_
  refine va_get (D := (dC, dI)) (ci := 10) (v := .ref (rA 1 0)) (C := RX10) (T := TX10) (N := 12) hx hb hts ii_X10 hown hK hP 1 rfl rfl 0 (by decide) (hts (.fieldLink RX10 9 "StoryHouse$Words" "source" "[B") wq_41) (fun _ h9 => h9) rfl dX10_cut_6 ?_
  refine va_alen (v := 16000) hx hb hK hP 2 0 rfl rfl (by first | rfl | decide +kernel) dX10_cut_9 ?_
  refine va_mmin hx hb (hml.trans hl.1.symm) hown (hts (.methodLink RX10 38 yJ9_min_7cf53) wq_330) (hts (.static yJ9_min_7cf53) wq_331) (hts (.initialized RJ9) wq_19) (hts (.code yJ9_min_7cf53 cJ9_min_7cf53 2 (some .int)) wq_332) (Nat.le_of_ble_eq_true rfl) (Nat.le_of_ble_eq_true rfl) (Nat.le_of_ble_eq_true rfl) (Nat.le_of_ble_eq_true rfl) dX10_cut_10 ?_
  obtain ⟨x_1, ex_1, hF_2⟩ := bnd_e hF
  clear hF
  refine m_top ex_1 ?_
  refine va_mmin hx hb (hml.trans hl.1.symm) hown (hts (.methodLink RX10 38 yJ9_min_7cf53) wq_330) (hts (.static yJ9_min_7cf53) wq_331) (hts (.initialized RJ9) wq_19) (hts (.code yJ9_min_7cf53 cJ9_min_7cf53 2 (some .int)) wq_332) (Nat.le_of_ble_eq_true rfl) (Nat.le_of_ble_eq_true rfl) (Nat.le_of_ble_eq_true rfl) (Nat.le_of_ble_eq_true rfl) dX10_cut_13 ?_
  obtain ⟨x_3, ex_3, hF_4⟩ := bnd_e hF_2
  clear hF_2
  refine m_top ex_3 ?_
  refine va_mmax hx hb (hml.trans hl.1.symm) hown (hts (.methodLink RX10 44 yJ9_max_7cf53) wq_333) (hts (.static yJ9_max_7cf53) wq_334) (hts (.initialized RJ9) wq_19) (hts (.code yJ9_max_7cf53 cJ9_max_7cf53 2 (some .int)) wq_335) (Nat.le_of_ble_eq_true rfl) (Nat.le_of_ble_eq_true rfl) (Nat.le_of_ble_eq_true rfl) (Nat.le_of_ble_eq_true rfl) dX10_cut_16 ?_
  obtain ⟨x_5, ex_5, hF_6⟩ := bnd_e hF_4
  clear hF_4
  refine m_top ex_5 ?_
  obtain ⟨σ_7, eσ_7, hF_8⟩ := bnd_e hF_6
  clear hF_6
  refine va_put (D := (dC, dI)) (ci := 10) (v := .int x_5) (ty := .int) (C := RX10) (T := TX10) (N := 12) hx hb hts ii_X10 tyX10 tyX10_ok nmX10 hown hK hP (hDD _) hS 1 rfl rfl 1 (by decide) (hts (.fieldLink RX10 47 "StoryHouse$Words" "length" "I") wq_43) (fun _ h9 => h9) rfl (by decide +kernel) rfl rfl (Nat.le_of_ble_eq_true rfl) dX10_cut_19 (fun H locs hP' _ hS => ?_)
  have hP : va_P (dC, dI) vwCl (b_b cB cC cI cJ cZ oA rA σ_7 ++ b_w cB cC cI cJ cZ oA rA σ_7) H := by rw [eσ_7]; exact cs_bw_w_1 ▸ hP'
  clear hP'
  refine lv_aload_n hx hb dX10_cut_22 rfl (lv_at hl 1 rfl) ?_
  refine lv_iconst (v := 0) hx hb dX10_cut_23 (by decide +kernel) ?_
  refine lv_aload_n hx hb dX10_cut_24 rfl (lv_at hl 0 rfl) ?_
  refine va_get (D := (dC, dI)) (ci := 10) (v := .ref (rA 1 0)) (C := RX10) (T := TX10) (N := 12) hx hb hts ii_X10 hown hK hP 1 rfl rfl 0 (by decide) (hts (.fieldLink RX10 9 "StoryHouse$Words" "source" "[B") wq_41) (fun _ h9 => h9) rfl dX10_cut_25 ?_
  refine lv_iconst (v := 0) hx hb dX10_cut_28 (by decide +kernel) ?_
  refine lv_aload_n hx hb dX10_cut_29 rfl (lv_at hl 0 rfl) ?_
  refine va_get (D := (dC, dI)) (ci := 10) (v := .int ((σ_7 1).1 1)) (C := RX10) (T := TX10) (N := 12) hx hb hts ii_X10 hown hK hP 1 rfl rfl 1 (by decide) (hts (.fieldLink RX10 47 "StoryHouse$Words" "length" "I") wq_43) (fun _ h9 => h9) rfl dX10_cut_30 ?_
  obtain ⟨x_9, ex_9, hF_10⟩ := bnd_e hF_8
  clear hF_8
  refine m_top ex_9 ?_
  obtain ⟨g_11, hF_12⟩ := nif_e hF_10
  clear hF_10
  obtain ⟨σ_13, eσ_13, hF_14⟩ := bnd_e hF_12
  clear hF_12
  refine va_copyi (f := (σ_7 13).2.1 0) (g := (σ_7 1).2.1 0) hx hb (hml.trans hl.1.symm) hown (hts (.methodLink RX10 51 arraycopyName) wq_336) (hts (.native arraycopyName) wq_338) (hts (.static arraycopyName) wq_337) (hts (.initialized RJ10) wq_20) hK hP (hDD _) hS 0 2 0 0 rfl rfl rfl rfl rfl (by decide) (by decide) (fun z => g_11 (Or.inr (Or.inr (Or.inl z)))) (Nat.not_lt.mp (fun z => g_11 (Or.inr (Or.inr (Or.inr (Or.inl z)))))) (Nat.not_lt.mp (fun z => g_11 (Or.inr (Or.inr (Or.inr (Or.inr (Or.inl z))))))) (fun i hi => nar_fit (Classical.not_not.mp (fun z => g_11 (Or.inr (Or.inr (Or.inr (Or.inr (Or.inr z)))))) i hi)) (by decide +kernel) (by decide +kernel) dX10_cut_33 (fun H locs hP' _ hS => ?_)
  have hP : va_P (dC, dI) vwCl (b_b cB cC cI cJ cZ oA rA σ_13 ++ b_w cB cC cI cJ cZ oA rA σ_13) H := by rw [eσ_13]; exact cs_bw_w_0 ▸ hP'
  clear hP'
  refine lv_aload_n hx hb dX10_cut_36 rfl (lv_at hl 0 rfl) ?_
  refine lv_iconst (v := 0) hx hb dX10_cut_37 (by decide +kernel) ?_
  obtain ⟨σ_15, eσ_15, hF_16⟩ := bnd_e hF_14
  clear hF_14
  refine va_put (D := (dC, dI)) (ci := 10) (v := .int 0) (ty := .int) (C := RX10) (T := TX10) (N := 12) hx hb hts ii_X10 tyX10 tyX10_ok nmX10 hown hK hP (hDD _) hS 1 rfl rfl 2 (by decide) (hts (.fieldLink RX10 57 "StoryHouse$Words" "count" "I") wq_46) (fun _ h9 => h9) rfl (by decide +kernel) rfl rfl (Nat.le_of_ble_eq_true rfl) dX10_cut_38 (fun H locs hP' _ hS => ?_)
  have hP : va_P (dC, dI) vwCl (b_b cB cC cI cJ cZ oA rA σ_15 ++ b_w cB cC cI cJ cZ oA rA σ_15) H := by rw [eσ_15]; exact cs_bw_w_2 ▸ hP'
  clear hP'
  refine lv_aload_n hx hb dX10_cut_41 rfl (lv_at hl 0 rfl) ?_
  refine lv_iconst (v := 0) hx hb dX10_cut_42 (by decide +kernel) ?_
  obtain ⟨σ_17, eσ_17, hF_18⟩ := bnd_e hF_16
  clear hF_16
  refine va_put (D := (dC, dI)) (ci := 10) (v := .int 0) (ty := .int) (C := RX10) (T := TX10) (N := 12) hx hb hts ii_X10 tyX10 tyX10_ok nmX10 hown hK hP (hDD _) hS 1 rfl rfl 11 (by decide) (hts (.fieldLink RX10 60 "StoryHouse$Words" "strings" "I") wq_61) (fun _ h9 => h9) rfl (by decide +kernel) rfl rfl (Nat.le_of_ble_eq_true rfl) dX10_cut_43 (fun H locs hP' _ hS => ?_)
  have hP : va_P (dC, dI) vwCl (b_b cB cC cI cJ cZ oA rA σ_17 ++ b_w cB cC cI cJ cZ oA rA σ_17) H := by rw [eσ_17]; exact cs_bw_w_11 ▸ hP'
  clear hP'
  refine lv_aload_n hx hb dX10_cut_46 rfl (lv_at hl 0 rfl) ?_
  refine lv_iconst (v := 0) hx hb dX10_cut_47 (by decide +kernel) ?_
  obtain ⟨σ_19, eσ_19, hF_20⟩ := bnd_e hF_18
  clear hF_18
  refine va_put (D := (dC, dI)) (ci := 10) (v := .int 0) (ty := .int) (C := RX10) (T := TX10) (N := 12) hx hb hts ii_X10 tyX10 tyX10_ok nmX10 hown hK hP (hDD _) hS 1 rfl rfl 10 (by decide) (hts (.fieldLink RX10 63 "StoryHouse$Words" "named" "I") wq_60) (fun _ h9 => h9) rfl (by decide +kernel) rfl rfl (Nat.le_of_ble_eq_true rfl) dX10_cut_48 (fun H locs hP' _ hS => ?_)
  have hP : va_P (dC, dI) vwCl (b_b cB cC cI cJ cZ oA rA σ_19 ++ b_w cB cC cI cJ cZ oA rA σ_19) H := by rw [eσ_19]; exact cs_bw_w_10 ▸ hP'
  clear hP'
  refine lv_aload_n hx hb dX10_cut_51 rfl (lv_at hl 0 rfl) ?_
  refine va_get (D := (dC, dI)) (ci := 10) (v := .ref (rA 1 9)) (C := RX10) (T := TX10) (N := 12) hx hb hts ii_X10 hown hK hP 1 rfl rfl 9 (by decide) (hts (.fieldLink RX10 35 "StoryHouse$Words" "slots" "[I") wq_59) (fun _ h9 => h9) rfl dX10_cut_52 ?_
  refine lv_iconst (v := 0) hx hb dX10_cut_55 (by decide +kernel) ?_
  have hq9 : ((b_b cB cC cI cJ cZ oA rA σ_19 ++ b_w cB cC cI cJ cZ oA rA σ_19))[9]? = some (rA 1 9, .inl (cI, 8192, .inl ((σ_19 1).2.1 9))) := rfl
  have hPc := hP.sub (ws' := [(rA 1 9, .inl (cI, 8192, .inl ((σ_19 1).2.1 9)))]) [9] (pk_fm (er_C hq9))
  have hDc := (hDD σ_19).sub (ws' := [(rA 1 9, .inl (cI, 8192, .inl ((σ_19 1).2.1 9)))]) [9] (by decide +kernel) (er_C hq9)
  have hFc := va_free (wc := [(rA 1 9, .inl (cI, 8192, .inl ((σ_19 1).2.1 9)))]) (hDD σ_19) hS hA [9] (er_C hq9)
  refine g_ofv (wc := [(rA 1 9, .inl (cI, 8192, .inl ((σ_19 1).2.1 9)))]) (wr := (((b_b cB cC cI cJ cZ oA rA σ_19 ++ b_w cB cC cI cJ cZ oA rA σ_19)).eraseIdx 9)) hP (hDD σ_19) hS hFc [9] ((List.range ((b_b cB cC cI cJ cZ oA rA σ_19 ++ b_w cB cC cI cJ cZ oA rA σ_19)).length).eraseIdx 9) (er_C hq9) er_R er_n er_d (va_runS (As := [.ref (rA 1 9), .int 0]) (rest := []) ⟨hx, hb, hml, hown, hts⟩ (c_fill l dC dI cB cC cI cJ cZ cP H.size (rA 1 9) 0 8192 ((σ_19 1).2.1 9) (by decide)) (va_cwS 2 hts (g_gS wq_339 wq_340 wq_21 wq_341) rfl rfl rfl (by decide +kernel) ⟨Nat.le_of_ble_eq_true rfl, Nat.le_of_ble_eq_true rfl⟩) (g_preS g_bl0 hK hPc hDc hS hE hFc g_to0) rfl rfl hl.1 rfl (lv_room (Nat.le_of_ble_eq_true rfl)) dX10_cut_56 ⟨Nat.le_of_ble_eq_true rfl, Nat.le_of_ble_eq_true rfl⟩) (fun g9 H locs hw9 hP' hD' hS => ?_)
  clear hPc hDc hFc hD'
  obtain ⟨σ_21, eσ_21, hF_22⟩ := bnd_e hF_20
  clear hF_20
  subst hw9
  have hP : va_P (dC, dI) vwCl (b_b cB cC cI cJ cZ oA rA σ_21 ++ b_w cB cC cI cJ cZ oA rA σ_21) H := by rw [eσ_21]; exact cs_bw_w_9 ▸ er_P hP' (er_lt hq9)
  clear hP' hq9
  refine lv_aload_n hx hb dX10_cut_59 rfl (lv_at hl 0 rfl) ?_
  obtain ⟨q_23, vq_23, hRq_23, hSq_23⟩ := hE.2.2.2.2 _ (List.mem_of_getElem? (i := 0) rfl)
  refine va_ldcS (own := RX10) (tx := "north south east west up down container fixed hidden light open supporter dark alone one two ") hx hb hown hRq_23 dX10_cut_60 ?_
  obtain ⟨u_24, hu_24, hF_25⟩ := Option.bind_eq_some_iff.mp hF_22
  clear hF_22
  have hPc := bx_P (bs := [b_b cB cC cI cJ cZ oA rA σ_21, b_w cB cC cI cJ cZ oA rA σ_21]) (bs' := [b_w cB cC cI cJ cZ oA rA σ_21]) (ws' := (b_w cB cC cI cJ cZ oA rA σ_21)) hP fl_2 fl_1 [1] rfl
  have hDc := bx_D (bs := [b_b cB cC cI cJ cZ oA rA σ_21, b_w cB cC cI cJ cZ oA rA σ_21]) (bs' := [b_w cB cC cI cJ cZ oA rA σ_21]) (ws' := (b_w cB cC cI cJ cZ oA rA σ_21)) (hDD σ_21) fl_2 fl_1 [1] (by decide +kernel) rfl
  have hFc := bx_F (bs := [b_b cB cC cI cJ cZ oA rA σ_21, b_w cB cC cI cJ cZ oA rA σ_21]) (bs' := [b_w cB cC cI cJ cZ oA rA σ_21]) (wc := (b_w cB cC cI cJ cZ oA rA σ_21)) (hDD σ_21) hS hA fl_2 fl_1 [1] rfl
  refine g_ofv (wc := (b_w cB cC cI cJ cZ oA rA σ_21)) (wr := (b_b cB cC cI cJ cZ oA rA σ_21)) hP (hDD σ_21) hS hFc (bx_ix [b_b cB cC cI cJ cZ oA rA σ_21, b_w cB cC cI cJ cZ oA rA σ_21] [1]) (bx_ix [b_b cB cC cI cJ cZ oA rA σ_21, b_w cB cC cI cJ cZ oA rA σ_21] [0]) (bx_C (bs := [b_b cB cC cI cJ cZ oA rA σ_21, b_w cB cC cI cJ cZ oA rA σ_21]) (bs' := [b_w cB cC cI cJ cZ oA rA σ_21]) (is := [1]) fl_2 fl_1 rfl) (bx_C (bs := [b_b cB cC cI cJ cZ oA rA σ_21, b_w cB cC cI cJ cZ oA rA σ_21]) (bs' := [b_b cB cC cI cJ cZ oA rA σ_21]) (is := [0]) fl_2 fl_1 rfl) (bx_n (by decide +kernel)) (bx_d (by decide +kernel)) (va_runV (As := [.ref q_23]) (rest := []) ⟨hx, hb, hml, hown, hts⟩ (k_X10_learn l dC dI cB cC cI cJ cZ cP oA rA H.size q_23 _ ([110, 111, 114, 116, 104, 32, 115, 111, 117, 116, 104, 32, 101, 97, 115, 116, 32, 119, 101, 115, 116, 32, 117, 112, 32, 100, 111, 119, 110, 32, 99, 111, 110, 116, 97, 105, 110, 101, 114, 32, 102, 105, 120, 101, 100, 32, 104, 105, 100, 100, 101, 110, 32, 108, 105, 103, 104, 116, 32, 111, 112, 101, 110, 32, 115, 117, 112, 112, 111, 114, 116, 101, 114, 32, 100, 97, 114, 107, 32, 97, 108, 111, 110, 101, 32, 111, 110, 101, 32, 116, 119, 111, 32] : List Int32) σ_21 _ hu_24) (cwV 1 hts (g_gV wq_342 wq_343 wq_1979 wq_2 wq_344) rfl rfl rfl (by decide +kernel) ⟨Nat.le_of_ble_eq_true rfl, Nat.le_of_ble_eq_true rfl⟩) (g_preV g_blS hK hPc hDc hS hE hFc (g_toS hSq_23 hS hFc) (q0 := 0) (ci := 10) rfl rfl) rfl rfl hl.1 rfl (lv_room (Nat.le_of_ble_eq_true rfl)) dX10_cut_62 ⟨Nat.le_of_ble_eq_true rfl, Nat.le_of_ble_eq_true rfl⟩) (fun u9 H locs hw9 hP' hD' hS => ?_)
  clear hPc hDc hFc
  obtain ⟨σ_26, eσ_26, hF_27⟩ := bnd_e hF_25
  clear hF_25
  have hP : va_P (dC, dI) vwCl (b_b cB cC cI cJ cZ oA rA σ_26 ++ b_w cB cC cI cJ cZ oA rA σ_26) H := by rw [eσ_26]; exact bx_P (bs := [b_b cB cC cI cJ cZ oA rA σ_21] ++ [b_w cB cC cI cJ cZ oA rA u_24.2]) (bs' := [b_b cB cC cI cJ cZ oA rA (mrg (fun j => j == 1) σ_21 u_24.2), b_w cB cC cI cJ cZ oA rA (mrg (fun j => j == 1) σ_21 u_24.2)]) hP' (fl_a fl_1 fl_1) fl_2 [0, 1] rfl
  clear hP' hD'
  refine lv_aload_n hx hb dX10_cut_65 rfl (lv_at hl 0 rfl) ?_
  obtain ⟨q_28, vq_28, hRq_28, hSq_28⟩ := hE.2.2.2.2 _ (List.mem_of_getElem? (i := 1) rfl)
  refine va_ldcS (own := RX10) (tx := "and or not in has holder first next random here noun second player name ") hx hb hown hRq_28 dX10_cut_66 ?_
  obtain ⟨u_29, hu_29, hF_30⟩ := Option.bind_eq_some_iff.mp hF_27
  clear hF_27
  have hPc := bx_P (bs := [b_b cB cC cI cJ cZ oA rA σ_26, b_w cB cC cI cJ cZ oA rA σ_26]) (bs' := [b_w cB cC cI cJ cZ oA rA σ_26]) (ws' := (b_w cB cC cI cJ cZ oA rA σ_26)) hP fl_2 fl_1 [1] rfl
  have hDc := bx_D (bs := [b_b cB cC cI cJ cZ oA rA σ_26, b_w cB cC cI cJ cZ oA rA σ_26]) (bs' := [b_w cB cC cI cJ cZ oA rA σ_26]) (ws' := (b_w cB cC cI cJ cZ oA rA σ_26)) (hDD σ_26) fl_2 fl_1 [1] (by decide +kernel) rfl
  have hFc := bx_F (bs := [b_b cB cC cI cJ cZ oA rA σ_26, b_w cB cC cI cJ cZ oA rA σ_26]) (bs' := [b_w cB cC cI cJ cZ oA rA σ_26]) (wc := (b_w cB cC cI cJ cZ oA rA σ_26)) (hDD σ_26) hS hA fl_2 fl_1 [1] rfl
  refine g_ofv (wc := (b_w cB cC cI cJ cZ oA rA σ_26)) (wr := (b_b cB cC cI cJ cZ oA rA σ_26)) hP (hDD σ_26) hS hFc (bx_ix [b_b cB cC cI cJ cZ oA rA σ_26, b_w cB cC cI cJ cZ oA rA σ_26] [1]) (bx_ix [b_b cB cC cI cJ cZ oA rA σ_26, b_w cB cC cI cJ cZ oA rA σ_26] [0]) (bx_C (bs := [b_b cB cC cI cJ cZ oA rA σ_26, b_w cB cC cI cJ cZ oA rA σ_26]) (bs' := [b_w cB cC cI cJ cZ oA rA σ_26]) (is := [1]) fl_2 fl_1 rfl) (bx_C (bs := [b_b cB cC cI cJ cZ oA rA σ_26, b_w cB cC cI cJ cZ oA rA σ_26]) (bs' := [b_b cB cC cI cJ cZ oA rA σ_26]) (is := [0]) fl_2 fl_1 rfl) (bx_n (by decide +kernel)) (bx_d (by decide +kernel)) (va_runV (As := [.ref q_28]) (rest := []) ⟨hx, hb, hml, hown, hts⟩ (k_X10_learn l dC dI cB cC cI cJ cZ cP oA rA H.size q_28 _ ([97, 110, 100, 32, 111, 114, 32, 110, 111, 116, 32, 105, 110, 32, 104, 97, 115, 32, 104, 111, 108, 100, 101, 114, 32, 102, 105, 114, 115, 116, 32, 110, 101, 120, 116, 32, 114, 97, 110, 100, 111, 109, 32, 104, 101, 114, 101, 32, 110, 111, 117, 110, 32, 115, 101, 99, 111, 110, 100, 32, 112, 108, 97, 121, 101, 114, 32, 110, 97, 109, 101, 32] : List Int32) σ_26 _ hu_29) (cwV 1 hts (g_gV wq_342 wq_343 wq_1979 wq_2 wq_344) rfl rfl rfl (by decide +kernel) ⟨Nat.le_of_ble_eq_true rfl, Nat.le_of_ble_eq_true rfl⟩) (g_preV g_blS hK hPc hDc hS hE hFc (g_toS hSq_28 hS hFc) (q0 := 0) (ci := 10) rfl rfl) rfl rfl hl.1 rfl (lv_room (Nat.le_of_ble_eq_true rfl)) dX10_cut_68 ⟨Nat.le_of_ble_eq_true rfl, Nat.le_of_ble_eq_true rfl⟩) (fun u9 H locs hw9 hP' hD' hS => ?_)
  clear hPc hDc hFc
  obtain ⟨σ_31, eσ_31, hF_32⟩ := bnd_e hF_30
  clear hF_30
  have hP : va_P (dC, dI) vwCl (b_b cB cC cI cJ cZ oA rA σ_31 ++ b_w cB cC cI cJ cZ oA rA σ_31) H := by rw [eσ_31]; exact bx_P (bs := [b_b cB cC cI cJ cZ oA rA σ_26] ++ [b_w cB cC cI cJ cZ oA rA u_29.2]) (bs' := [b_b cB cC cI cJ cZ oA rA (mrg (fun j => j == 1) σ_26 u_29.2), b_w cB cC cI cJ cZ oA rA (mrg (fun j => j == 1) σ_26 u_29.2)]) hP' (fl_a fl_1 fl_1) fl_2 [0, 1] rfl
  clear hP' hD'
  refine lv_aload_n hx hb dX10_cut_71 rfl (lv_at hl 0 rfl) ?_
  obtain ⟨q_33, vq_33, hRq_33, hSq_33⟩ := hE.2.2.2.2 _ (List.mem_of_getElem? (i := 2) rfl)
  refine va_ldcS (own := RX10) (tx := "room thing verb var array def on each text exit word ") hx hb hown hRq_33 dX10_cut_72 ?_
  obtain ⟨u_34, hu_34, hF_35⟩ := Option.bind_eq_some_iff.mp hF_32
  clear hF_32
  have hPc := bx_P (bs := [b_b cB cC cI cJ cZ oA rA σ_31, b_w cB cC cI cJ cZ oA rA σ_31]) (bs' := [b_w cB cC cI cJ cZ oA rA σ_31]) (ws' := (b_w cB cC cI cJ cZ oA rA σ_31)) hP fl_2 fl_1 [1] rfl
  have hDc := bx_D (bs := [b_b cB cC cI cJ cZ oA rA σ_31, b_w cB cC cI cJ cZ oA rA σ_31]) (bs' := [b_w cB cC cI cJ cZ oA rA σ_31]) (ws' := (b_w cB cC cI cJ cZ oA rA σ_31)) (hDD σ_31) fl_2 fl_1 [1] (by decide +kernel) rfl
  have hFc := bx_F (bs := [b_b cB cC cI cJ cZ oA rA σ_31, b_w cB cC cI cJ cZ oA rA σ_31]) (bs' := [b_w cB cC cI cJ cZ oA rA σ_31]) (wc := (b_w cB cC cI cJ cZ oA rA σ_31)) (hDD σ_31) hS hA fl_2 fl_1 [1] rfl
  refine g_ofv (wc := (b_w cB cC cI cJ cZ oA rA σ_31)) (wr := (b_b cB cC cI cJ cZ oA rA σ_31)) hP (hDD σ_31) hS hFc (bx_ix [b_b cB cC cI cJ cZ oA rA σ_31, b_w cB cC cI cJ cZ oA rA σ_31] [1]) (bx_ix [b_b cB cC cI cJ cZ oA rA σ_31, b_w cB cC cI cJ cZ oA rA σ_31] [0]) (bx_C (bs := [b_b cB cC cI cJ cZ oA rA σ_31, b_w cB cC cI cJ cZ oA rA σ_31]) (bs' := [b_w cB cC cI cJ cZ oA rA σ_31]) (is := [1]) fl_2 fl_1 rfl) (bx_C (bs := [b_b cB cC cI cJ cZ oA rA σ_31, b_w cB cC cI cJ cZ oA rA σ_31]) (bs' := [b_b cB cC cI cJ cZ oA rA σ_31]) (is := [0]) fl_2 fl_1 rfl) (bx_n (by decide +kernel)) (bx_d (by decide +kernel)) (va_runV (As := [.ref q_33]) (rest := []) ⟨hx, hb, hml, hown, hts⟩ (k_X10_learn l dC dI cB cC cI cJ cZ cP oA rA H.size q_33 _ ([114, 111, 111, 109, 32, 116, 104, 105, 110, 103, 32, 118, 101, 114, 98, 32, 118, 97, 114, 32, 97, 114, 114, 97, 121, 32, 100, 101, 102, 32, 111, 110, 32, 101, 97, 99, 104, 32, 116, 101, 120, 116, 32, 101, 120, 105, 116, 32, 119, 111, 114, 100, 32] : List Int32) σ_31 _ hu_34) (cwV 1 hts (g_gV wq_342 wq_343 wq_1979 wq_2 wq_344) rfl rfl rfl (by decide +kernel) ⟨Nat.le_of_ble_eq_true rfl, Nat.le_of_ble_eq_true rfl⟩) (g_preV g_blS hK hPc hDc hS hE hFc (g_toS hSq_33 hS hFc) (q0 := 0) (ci := 10) rfl rfl) rfl rfl hl.1 rfl (lv_room (Nat.le_of_ble_eq_true rfl)) dX10_cut_74 ⟨Nat.le_of_ble_eq_true rfl, Nat.le_of_ble_eq_true rfl⟩) (fun u9 H locs hw9 hP' hD' hS => ?_)
  clear hPc hDc hFc
  obtain ⟨σ_36, eσ_36, hF_37⟩ := bnd_e hF_35
  clear hF_35
  have hP : va_P (dC, dI) vwCl (b_b cB cC cI cJ cZ oA rA σ_36 ++ b_w cB cC cI cJ cZ oA rA σ_36) H := by rw [eσ_36]; exact bx_P (bs := [b_b cB cC cI cJ cZ oA rA σ_31] ++ [b_w cB cC cI cJ cZ oA rA u_34.2]) (bs' := [b_b cB cC cI cJ cZ oA rA (mrg (fun j => j == 1) σ_31 u_34.2), b_w cB cC cI cJ cZ oA rA (mrg (fun j => j == 1) σ_31 u_34.2)]) hP' (fl_a fl_1 fl_1) fl_2 [0, 1] rfl
  clear hP' hD'
  refine lv_aload_n hx hb dX10_cut_77 rfl (lv_at hl 0 rfl) ?_
  obtain ⟨q_38, vq_38, hRq_38, hSq_38⟩ := hE.2.2.2.2 _ (List.mem_of_getElem? (i := 3) rfl)
  refine va_ldcS (own := RX10) (tx := "say let move to remove set clear if else while return done win lose any all ") hx hb hown hRq_38 dX10_cut_78 ?_
  obtain ⟨u_39, hu_39, hF_40⟩ := Option.bind_eq_some_iff.mp hF_37
  clear hF_37
  have hPc := bx_P (bs := [b_b cB cC cI cJ cZ oA rA σ_36, b_w cB cC cI cJ cZ oA rA σ_36]) (bs' := [b_w cB cC cI cJ cZ oA rA σ_36]) (ws' := (b_w cB cC cI cJ cZ oA rA σ_36)) hP fl_2 fl_1 [1] rfl
  have hDc := bx_D (bs := [b_b cB cC cI cJ cZ oA rA σ_36, b_w cB cC cI cJ cZ oA rA σ_36]) (bs' := [b_w cB cC cI cJ cZ oA rA σ_36]) (ws' := (b_w cB cC cI cJ cZ oA rA σ_36)) (hDD σ_36) fl_2 fl_1 [1] (by decide +kernel) rfl
  have hFc := bx_F (bs := [b_b cB cC cI cJ cZ oA rA σ_36, b_w cB cC cI cJ cZ oA rA σ_36]) (bs' := [b_w cB cC cI cJ cZ oA rA σ_36]) (wc := (b_w cB cC cI cJ cZ oA rA σ_36)) (hDD σ_36) hS hA fl_2 fl_1 [1] rfl
  refine g_ofv (wc := (b_w cB cC cI cJ cZ oA rA σ_36)) (wr := (b_b cB cC cI cJ cZ oA rA σ_36)) hP (hDD σ_36) hS hFc (bx_ix [b_b cB cC cI cJ cZ oA rA σ_36, b_w cB cC cI cJ cZ oA rA σ_36] [1]) (bx_ix [b_b cB cC cI cJ cZ oA rA σ_36, b_w cB cC cI cJ cZ oA rA σ_36] [0]) (bx_C (bs := [b_b cB cC cI cJ cZ oA rA σ_36, b_w cB cC cI cJ cZ oA rA σ_36]) (bs' := [b_w cB cC cI cJ cZ oA rA σ_36]) (is := [1]) fl_2 fl_1 rfl) (bx_C (bs := [b_b cB cC cI cJ cZ oA rA σ_36, b_w cB cC cI cJ cZ oA rA σ_36]) (bs' := [b_b cB cC cI cJ cZ oA rA σ_36]) (is := [0]) fl_2 fl_1 rfl) (bx_n (by decide +kernel)) (bx_d (by decide +kernel)) (va_runV (As := [.ref q_38]) (rest := []) ⟨hx, hb, hml, hown, hts⟩ (k_X10_learn l dC dI cB cC cI cJ cZ cP oA rA H.size q_38 _ ([115, 97, 121, 32, 108, 101, 116, 32, 109, 111, 118, 101, 32, 116, 111, 32, 114, 101, 109, 111, 118, 101, 32, 115, 101, 116, 32, 99, 108, 101, 97, 114, 32, 105, 102, 32, 101, 108, 115, 101, 32, 119, 104, 105, 108, 101, 32, 114, 101, 116, 117, 114, 110, 32, 100, 111, 110, 101, 32, 119, 105, 110, 32, 108, 111, 115, 101, 32, 97, 110, 121, 32, 97, 108, 108, 32] : List Int32) σ_36 _ hu_39) (cwV 1 hts (g_gV wq_342 wq_343 wq_1979 wq_2 wq_344) rfl rfl rfl (by decide +kernel) ⟨Nat.le_of_ble_eq_true rfl, Nat.le_of_ble_eq_true rfl⟩) (g_preV g_blS hK hPc hDc hS hE hFc (g_toS hSq_38 hS hFc) (q0 := 0) (ci := 10) rfl rfl) rfl rfl hl.1 rfl (lv_room (Nat.le_of_ble_eq_true rfl)) dX10_cut_80 ⟨Nat.le_of_ble_eq_true rfl, Nat.le_of_ble_eq_true rfl⟩) (fun u9 H locs hw9 hP' hD' hS => ?_)
  clear hPc hDc hFc
  obtain ⟨σ_41, eσ_41, hF_42⟩ := bnd_e hF_40
  clear hF_40
  have hP : va_P (dC, dI) vwCl (b_b cB cC cI cJ cZ oA rA σ_41 ++ b_w cB cC cI cJ cZ oA rA σ_41) H := by rw [eσ_41]; exact bx_P (bs := [b_b cB cC cI cJ cZ oA rA σ_36] ++ [b_w cB cC cI cJ cZ oA rA u_39.2]) (bs' := [b_b cB cC cI cJ cZ oA rA (mrg (fun j => j == 1) σ_36 u_39.2), b_w cB cC cI cJ cZ oA rA (mrg (fun j => j == 1) σ_36 u_39.2)]) hP' (fl_a fl_1 fl_1) fl_2 [0, 1] rfl
  clear hP' hD'
  refine lv_aload_n hx hb dX10_cut_83 rfl (lv_at hl 0 rfl) ?_
  obtain ⟨q_43, vq_43, hRq_43, hSq_43⟩ := hE.2.2.2.2 _ (List.mem_of_getElem? (i := 4) rfl)
  refine va_ldcS (own := RX10) (tx := "look inventory wait take drop examine open close putin puton go ") hx hb hown hRq_43 dX10_cut_84 ?_
  obtain ⟨u_44, hu_44, hF_45⟩ := Option.bind_eq_some_iff.mp hF_42
  clear hF_42
  have hPc := bx_P (bs := [b_b cB cC cI cJ cZ oA rA σ_41, b_w cB cC cI cJ cZ oA rA σ_41]) (bs' := [b_w cB cC cI cJ cZ oA rA σ_41]) (ws' := (b_w cB cC cI cJ cZ oA rA σ_41)) hP fl_2 fl_1 [1] rfl
  have hDc := bx_D (bs := [b_b cB cC cI cJ cZ oA rA σ_41, b_w cB cC cI cJ cZ oA rA σ_41]) (bs' := [b_w cB cC cI cJ cZ oA rA σ_41]) (ws' := (b_w cB cC cI cJ cZ oA rA σ_41)) (hDD σ_41) fl_2 fl_1 [1] (by decide +kernel) rfl
  have hFc := bx_F (bs := [b_b cB cC cI cJ cZ oA rA σ_41, b_w cB cC cI cJ cZ oA rA σ_41]) (bs' := [b_w cB cC cI cJ cZ oA rA σ_41]) (wc := (b_w cB cC cI cJ cZ oA rA σ_41)) (hDD σ_41) hS hA fl_2 fl_1 [1] rfl
  refine g_ofv (wc := (b_w cB cC cI cJ cZ oA rA σ_41)) (wr := (b_b cB cC cI cJ cZ oA rA σ_41)) hP (hDD σ_41) hS hFc (bx_ix [b_b cB cC cI cJ cZ oA rA σ_41, b_w cB cC cI cJ cZ oA rA σ_41] [1]) (bx_ix [b_b cB cC cI cJ cZ oA rA σ_41, b_w cB cC cI cJ cZ oA rA σ_41] [0]) (bx_C (bs := [b_b cB cC cI cJ cZ oA rA σ_41, b_w cB cC cI cJ cZ oA rA σ_41]) (bs' := [b_w cB cC cI cJ cZ oA rA σ_41]) (is := [1]) fl_2 fl_1 rfl) (bx_C (bs := [b_b cB cC cI cJ cZ oA rA σ_41, b_w cB cC cI cJ cZ oA rA σ_41]) (bs' := [b_b cB cC cI cJ cZ oA rA σ_41]) (is := [0]) fl_2 fl_1 rfl) (bx_n (by decide +kernel)) (bx_d (by decide +kernel)) (va_runV (As := [.ref q_43]) (rest := []) ⟨hx, hb, hml, hown, hts⟩ (k_X10_learn l dC dI cB cC cI cJ cZ cP oA rA H.size q_43 _ ([108, 111, 111, 107, 32, 105, 110, 118, 101, 110, 116, 111, 114, 121, 32, 119, 97, 105, 116, 32, 116, 97, 107, 101, 32, 100, 114, 111, 112, 32, 101, 120, 97, 109, 105, 110, 101, 32, 111, 112, 101, 110, 32, 99, 108, 111, 115, 101, 32, 112, 117, 116, 105, 110, 32, 112, 117, 116, 111, 110, 32, 103, 111, 32] : List Int32) σ_41 _ hu_44) (cwV 1 hts (g_gV wq_342 wq_343 wq_1979 wq_2 wq_344) rfl rfl rfl (by decide +kernel) ⟨Nat.le_of_ble_eq_true rfl, Nat.le_of_ble_eq_true rfl⟩) (g_preV g_blS hK hPc hDc hS hE hFc (g_toS hSq_43 hS hFc) (q0 := 0) (ci := 10) rfl rfl) rfl rfl hl.1 rfl (lv_room (Nat.le_of_ble_eq_true rfl)) dX10_cut_86 ⟨Nat.le_of_ble_eq_true rfl, Nat.le_of_ble_eq_true rfl⟩) (fun u9 H locs hw9 hP' hD' hS => ?_)
  clear hPc hDc hFc
  obtain ⟨σ_46, eσ_46, hF_47⟩ := bnd_e hF_45
  clear hF_45
  have hP : va_P (dC, dI) vwCl (b_b cB cC cI cJ cZ oA rA σ_46 ++ b_w cB cC cI cJ cZ oA rA σ_46) H := by rw [eσ_46]; exact bx_P (bs := [b_b cB cC cI cJ cZ oA rA σ_41] ++ [b_w cB cC cI cJ cZ oA rA u_44.2]) (bs' := [b_b cB cC cI cJ cZ oA rA (mrg (fun j => j == 1) σ_41 u_44.2), b_w cB cC cI cJ cZ oA rA (mrg (fun j => j == 1) σ_41 u_44.2)]) hP' (fl_a fl_1 fl_1) fl_2 [0, 1] rfl
  clear hP' hD'
  refine lv_aload_n hx hb dX10_cut_89 rfl (lv_at hl 0 rfl) ?_
  refine lv_iconst (v := 0) hx hb dX10_cut_90 (by decide +kernel) ?_
  obtain ⟨u_48, hu_48, hF_49⟩ := Option.bind_eq_some_iff.mp hF_47
  clear hF_47
  have hPc := bx_P (bs := [b_b cB cC cI cJ cZ oA rA σ_46, b_w cB cC cI cJ cZ oA rA σ_46]) (bs' := [b_w cB cC cI cJ cZ oA rA σ_46]) (ws' := (b_w cB cC cI cJ cZ oA rA σ_46)) hP fl_2 fl_1 [1] rfl
  have hDc := bx_D (bs := [b_b cB cC cI cJ cZ oA rA σ_46, b_w cB cC cI cJ cZ oA rA σ_46]) (bs' := [b_w cB cC cI cJ cZ oA rA σ_46]) (ws' := (b_w cB cC cI cJ cZ oA rA σ_46)) (hDD σ_46) fl_2 fl_1 [1] (by decide +kernel) rfl
  have hFc := bx_F (bs := [b_b cB cC cI cJ cZ oA rA σ_46, b_w cB cC cI cJ cZ oA rA σ_46]) (bs' := [b_w cB cC cI cJ cZ oA rA σ_46]) (wc := (b_w cB cC cI cJ cZ oA rA σ_46)) (hDD σ_46) hS hA fl_2 fl_1 [1] rfl
  refine g_ofi (wc := (b_w cB cC cI cJ cZ oA rA σ_46)) (wr := (b_b cB cC cI cJ cZ oA rA σ_46)) hP (hDD σ_46) hS hFc (bx_ix [b_b cB cC cI cJ cZ oA rA σ_46, b_w cB cC cI cJ cZ oA rA σ_46] [1]) (bx_ix [b_b cB cC cI cJ cZ oA rA σ_46, b_w cB cC cI cJ cZ oA rA σ_46] [0]) (bx_C (bs := [b_b cB cC cI cJ cZ oA rA σ_46, b_w cB cC cI cJ cZ oA rA σ_46]) (bs' := [b_w cB cC cI cJ cZ oA rA σ_46]) (is := [1]) fl_2 fl_1 rfl) (bx_C (bs := [b_b cB cC cI cJ cZ oA rA σ_46, b_w cB cC cI cJ cZ oA rA σ_46]) (bs' := [b_b cB cC cI cJ cZ oA rA σ_46]) (is := [0]) fl_2 fl_1 rfl) (bx_n (by decide +kernel)) (bx_d (by decide +kernel)) (va_runV (As := [.int 0]) (rest := []) ⟨hx, hb, hml, hown, hts⟩ (k_X10_skip l dC dI cB cC cI cJ cZ cP oA rA H.size  0 σ_46 _ hu_48) (cwV 1 hts (g_gV wq_413 wq_414 wq_1981 wq_2 wq_415) rfl rfl rfl (by decide +kernel) ⟨Nat.le_of_ble_eq_true rfl, Nat.le_of_ble_eq_true rfl⟩) (g_preV g_bl0 hK hPc hDc hS hE hFc g_to0 (q0 := 0) (ci := 10) rfl rfl) rfl rfl hl.1 rfl (lv_room (Nat.le_of_ble_eq_true rfl)) dX10_cut_91 ⟨Nat.le_of_ble_eq_true rfl, Nat.le_of_ble_eq_true rfl⟩) (fun r9 u9 H locs hw9 hP' hD' hS => ?_)
  clear hPc hDc hFc
  subst hw9
  obtain ⟨σ_50, eσ_50, hF_51⟩ := bnd_e hF_49
  clear hF_49
  have hP : va_P (dC, dI) vwCl (b_b cB cC cI cJ cZ oA rA σ_50 ++ b_w cB cC cI cJ cZ oA rA σ_50) H := by rw [eσ_50]; exact bx_P (bs := [b_b cB cC cI cJ cZ oA rA σ_46] ++ [b_w cB cC cI cJ cZ oA rA u_48.2]) (bs' := [b_b cB cC cI cJ cZ oA rA (mrg (fun j => j == 1) σ_46 u_48.2), b_w cB cC cI cJ cZ oA rA (mrg (fun j => j == 1) σ_46 u_48.2)]) hP' (fl_a fl_1 fl_1) fl_2 [0, 1] rfl
  clear hP' hD'
  refine lv_istore_n (lv' := [(3, .int u_48.1), (0, .ref (oA 1)), (1, .ref (rA 13 0)), (2, .int p1)]) hx hb dX10_cut_94 rfl hl (by decide) rfl (fun ls hl => ?_)
  refine lv_iconst (v := 0) hx hb dX10_cut_95 (by decide +kernel) ?_
  refine lv_istore (lv' := [(4, .int 0), (3, .int u_48.1), (0, .ref (oA 1)), (1, .ref (rA 13 0)), (2, .int p1)]) hx hb dX10_cut_96 hl (by decide) rfl (fun ls hl => ?_)
  refine loopF_ind (P := fun (s_52 : Int32 × Int32 × HS) => ∀ (H : Heap) (locs : List Loc), va_P (dC, dI) vwCl (b_b cB cC cI cJ cZ oA rA s_52.2.2 ++ b_w cB cC cI cJ cZ oA rA s_52.2.2) H → va_S A s.heap H locs → ∀ ls : Array Slot, lv_has ls 5 [(0, .ref (oA 1)), (3, .int s_52.1), (4, .int s_52.2.1)] → W p l e (headSpec (g_ws yX10_cut cX10_cut 5 none) { frames := 7, cells := 0, slots := 0, locals := 178 }).room s m ([.ref (oA 1), .ref (rA 13 0), .int p1] : List Value).toArray below meth c H locs 0 0 (MQ below (va_Qv (fun (_ : Unit) => True) (g_Bo (dC, dI) A (fun (_ : Unit) => (b_b cB cC cI cJ cZ oA rA res.2 ++ b_w cB cC cI cJ cZ oA rA res.2))) A) ([.ref (oA 1), .ref (rA 13 0), .int p1] : List Value).toArray s 0 0 A) (F0 m 98 ls [])) ?_ _ _ hF_51 _ _ hP hS ls (lv_sub hl [2, 1, 0] rfl)
  intro again_53 s_52 ih_54 hF_55
  intro H locs hP hS ls hl
  refine lv_iload hx hb dX10_cut_98 (lv_at hl 2 rfl) ?_
  refine lv_aload_n hx hb dX10_cut_100 rfl (lv_at hl 0 rfl) ?_
  refine va_get (D := (dC, dI)) (ci := 10) (v := .int ((s_52.2.2 1).1 1)) (C := RX10) (T := TX10) (N := 12) hx hb hts ii_X10 hown hK hP 1 rfl rfl 1 (by decide) (hts (.fieldLink RX10 47 "StoryHouse$Words" "length" "I") wq_43) (fun _ h9 => h9) rfl dX10_cut_101 ?_
  obtain ⟨j_57, ej_57, hF_58⟩ := bnd_e hF_55
  clear hF_55
  have Jj_57 : ∀  (σ_56 : HS), j_57  σ_56 = some res → ∀ (H : Heap) (locs : List Loc), va_P (dC, dI) vwCl (b_b cB cC cI cJ cZ oA rA σ_56 ++ b_w cB cC cI cJ cZ oA rA σ_56) H → va_S A s.heap H locs → ∀ ls : Array Slot, lv_has ls 5 [(0, .ref (oA 1))] → W p l e (headSpec (g_ws yX10_cut cX10_cut 5 none) { frames := 7, cells := 0, slots := 0, locals := 178 }).room s m ([.ref (oA 1), .ref (rA 13 0), .int p1] : List Value).toArray below meth c H locs 0 0 (MQ below (va_Qv (fun (_ : Unit) => True) (g_Bo (dC, dI) A (fun (_ : Unit) => (b_b cB cC cI cJ cZ oA rA res.2 ++ b_w cB cC cI cJ cZ oA rA res.2))) A) ([.ref (oA 1), .ref (rA 13 0), .int p1] : List Value).toArray s 0 0 A) (F0 m 131 ls []) := by
    intro  σ_56 hF0 H locs hP hS ls hl
    subst ej_57
    have hF_59 := hF0
    clear hF0
    refine lv_aload_n hx hb dX10_cut_131 rfl (lv_at hl 0 rfl) ?_
    refine lv_iconst (v := 0) hx hb dX10_cut_132 (by decide +kernel) ?_
    refine lv_aload_n hx hb dX10_cut_133 rfl (lv_at hl 0 rfl) ?_
    refine va_get (D := (dC, dI)) (ci := 10) (v := .int ((σ_56 1).1 1)) (C := RX10) (T := TX10) (N := 12) hx hb hts ii_X10 hown hK hP 1 rfl rfl 1 (by decide) (hts (.fieldLink RX10 47 "StoryHouse$Words" "length" "I") wq_43) (fun _ h9 => h9) rfl dX10_cut_134 ?_
    refine lv_iconst (v := 0) hx hb dX10_cut_137 (by decide +kernel) ?_
    obtain ⟨u_60, hu_60, hF_61⟩ := Option.bind_eq_some_iff.mp hF_59
    clear hF_59
    have hPc := bx_P (bs := [b_b cB cC cI cJ cZ oA rA σ_56, b_w cB cC cI cJ cZ oA rA σ_56]) (bs' := [b_w cB cC cI cJ cZ oA rA σ_56]) (ws' := (b_w cB cC cI cJ cZ oA rA σ_56)) hP fl_2 fl_1 [1] rfl
    have hDc := bx_D (bs := [b_b cB cC cI cJ cZ oA rA σ_56, b_w cB cC cI cJ cZ oA rA σ_56]) (bs' := [b_w cB cC cI cJ cZ oA rA σ_56]) (ws' := (b_w cB cC cI cJ cZ oA rA σ_56)) (hDD σ_56) fl_2 fl_1 [1] (by decide +kernel) rfl
    have hFc := bx_F (bs := [b_b cB cC cI cJ cZ oA rA σ_56, b_w cB cC cI cJ cZ oA rA σ_56]) (bs' := [b_w cB cC cI cJ cZ oA rA σ_56]) (wc := (b_w cB cC cI cJ cZ oA rA σ_56)) (hDD σ_56) hS hA fl_2 fl_1 [1] rfl
    refine g_ofi (wc := (b_w cB cC cI cJ cZ oA rA σ_56)) (wr := (b_b cB cC cI cJ cZ oA rA σ_56)) hP (hDD σ_56) hS hFc (bx_ix [b_b cB cC cI cJ cZ oA rA σ_56, b_w cB cC cI cJ cZ oA rA σ_56] [1]) (bx_ix [b_b cB cC cI cJ cZ oA rA σ_56, b_w cB cC cI cJ cZ oA rA σ_56] [0]) (bx_C (bs := [b_b cB cC cI cJ cZ oA rA σ_56, b_w cB cC cI cJ cZ oA rA σ_56]) (bs' := [b_w cB cC cI cJ cZ oA rA σ_56]) (is := [1]) fl_2 fl_1 rfl) (bx_C (bs := [b_b cB cC cI cJ cZ oA rA σ_56, b_w cB cC cI cJ cZ oA rA σ_56]) (bs' := [b_b cB cC cI cJ cZ oA rA σ_56]) (is := [0]) fl_2 fl_1 rfl) (bx_n (by decide +kernel)) (bx_d (by decide +kernel)) (va_runV (As := [.int 0, .int ((σ_56 1).1 1), .int 0]) (rest := []) ⟨hx, hb, hml, hown, hts⟩ (k_X10_add l dC dI cB cC cI cJ cZ cP oA rA H.size  0 ((σ_56 1).1 1) 0 σ_56 _ hu_60) (cwV 3 hts (g_gV wq_431 wq_432 wq_1986 wq_2 wq_433) rfl rfl rfl (by decide +kernel) ⟨Nat.le_of_ble_eq_true rfl, Nat.le_of_ble_eq_true rfl⟩) (g_preV g_bl0 hK hPc hDc hS hE hFc g_to0 (q0 := 0) (ci := 10) rfl rfl) rfl rfl hl.1 rfl (lv_room (Nat.le_of_ble_eq_true rfl)) dX10_cut_138 ⟨Nat.le_of_ble_eq_true rfl, Nat.le_of_ble_eq_true rfl⟩) (fun r9 u9 H locs hw9 hP' hD' hS => ?_)
    clear hPc hDc hFc
    subst hw9
    obtain ⟨σ_62, eσ_62, hF_63⟩ := bnd_e hF_61
    clear hF_61
    have hP : va_P (dC, dI) vwCl (b_b cB cC cI cJ cZ oA rA σ_62 ++ b_w cB cC cI cJ cZ oA rA σ_62) H := by rw [eσ_62]; exact bx_P (bs := [b_b cB cC cI cJ cZ oA rA σ_56] ++ [b_w cB cC cI cJ cZ oA rA u_60.2]) (bs' := [b_b cB cC cI cJ cZ oA rA (mrg (fun j => j == 1) σ_56 u_60.2), b_w cB cC cI cJ cZ oA rA (mrg (fun j => j == 1) σ_56 u_60.2)]) hP' (fl_a fl_1 fl_1) fl_2 [0, 1] rfl
    clear hP' hD'
    refine lv_pop hx hb dX10_cut_141 rfl ?_
    have h9 := Option.some.inj hF_63
    subst h9
    exact W.vret hx hb hr (fun t ht hW => ⟨⟨(), rfl, trivial, m_end ht hP, hDD _⟩, hS.F ht⟩) hS.2.2 dX10_cut_142
  refine lv_icmp_ge (tgt := 131) hx hb dX10_cut_104 (by decide) (fun c_64 => ?_) (fun c_64 => ?_)
  · have hF_65 := ipos c_64 hF_58
    clear hF_58
    exact Jj_57  s_52.2.2 hF_65 _ _ hP hS ls (lv_sub hl [0] rfl)
  · have hF_66 := ineg c_64 hF_58
    clear hF_58
    refine lv_iload_n hx hb dX10_cut_107 rfl (lv_at hl 1 rfl) ?_
    refine lv_aload_n hx hb dX10_cut_108 rfl (lv_at hl 0 rfl) ?_
    refine va_get (D := (dC, dI)) (ci := 10) (v := .int ((s_52.2.2 1).1 1)) (C := RX10) (T := TX10) (N := 12) hx hb hts ii_X10 hown hK hP 1 rfl rfl 1 (by decide) (hts (.fieldLink RX10 47 "StoryHouse$Words" "length" "I") wq_43) (fun _ h9 => h9) rfl dX10_cut_109 ?_
    refine lv_icmp_ge (tgt := 131) hx hb dX10_cut_112 (by decide) (fun c_67 => ?_) (fun c_67 => ?_)
    · have hF_68 := ipos c_67 hF_66
      clear hF_66
      exact Jj_57  s_52.2.2 hF_68 _ _ hP hS ls (lv_sub hl [0] rfl)
    · have hF_69 := ineg c_67 hF_66
      clear hF_66
      refine lv_aload_n hx hb dX10_cut_115 rfl (lv_at hl 0 rfl) ?_
      refine lv_aload_n hx hb dX10_cut_116 rfl (lv_at hl 0 rfl) ?_
      refine lv_iload_n hx hb dX10_cut_117 rfl (lv_at hl 1 rfl) ?_
      obtain ⟨u_70, hu_70, hF_71⟩ := Option.bind_eq_some_iff.mp hF_69
      clear hF_69
      have hPc := bx_P (bs := [b_b cB cC cI cJ cZ oA rA s_52.2.2, b_w cB cC cI cJ cZ oA rA s_52.2.2]) (bs' := [b_w cB cC cI cJ cZ oA rA s_52.2.2]) (ws' := (b_w cB cC cI cJ cZ oA rA s_52.2.2)) hP fl_2 fl_1 [1] rfl
      have hDc := bx_D (bs := [b_b cB cC cI cJ cZ oA rA s_52.2.2, b_w cB cC cI cJ cZ oA rA s_52.2.2]) (bs' := [b_w cB cC cI cJ cZ oA rA s_52.2.2]) (ws' := (b_w cB cC cI cJ cZ oA rA s_52.2.2)) (hDD s_52.2.2) fl_2 fl_1 [1] (by decide +kernel) rfl
      have hFc := bx_F (bs := [b_b cB cC cI cJ cZ oA rA s_52.2.2, b_w cB cC cI cJ cZ oA rA s_52.2.2]) (bs' := [b_w cB cC cI cJ cZ oA rA s_52.2.2]) (wc := (b_w cB cC cI cJ cZ oA rA s_52.2.2)) (hDD s_52.2.2) hS hA fl_2 fl_1 [1] rfl
      refine g_ofi (wc := (b_w cB cC cI cJ cZ oA rA s_52.2.2)) (wr := (b_b cB cC cI cJ cZ oA rA s_52.2.2)) hP (hDD s_52.2.2) hS hFc (bx_ix [b_b cB cC cI cJ cZ oA rA s_52.2.2, b_w cB cC cI cJ cZ oA rA s_52.2.2] [1]) (bx_ix [b_b cB cC cI cJ cZ oA rA s_52.2.2, b_w cB cC cI cJ cZ oA rA s_52.2.2] [0]) (bx_C (bs := [b_b cB cC cI cJ cZ oA rA s_52.2.2, b_w cB cC cI cJ cZ oA rA s_52.2.2]) (bs' := [b_w cB cC cI cJ cZ oA rA s_52.2.2]) (is := [1]) fl_2 fl_1 rfl) (bx_C (bs := [b_b cB cC cI cJ cZ oA rA s_52.2.2, b_w cB cC cI cJ cZ oA rA s_52.2.2]) (bs' := [b_b cB cC cI cJ cZ oA rA s_52.2.2]) (is := [0]) fl_2 fl_1 rfl) (bx_n (by decide +kernel)) (bx_d (by decide +kernel)) (va_runV (As := [.int s_52.1]) (rest := [.ref (oA 1)]) ⟨hx, hb, hml, hown, hts⟩ (k_X10_word l dC dI cB cC cI cJ cZ cP oA rA H.size  s_52.1 s_52.2.2 _ hu_70) (cwV 1 hts (g_gV wq_416 wq_417 wq_1982 wq_2 wq_418) rfl rfl rfl (by decide +kernel) ⟨Nat.le_of_ble_eq_true rfl, Nat.le_of_ble_eq_true rfl⟩) (g_preV g_bl0 hK hPc hDc hS hE hFc g_to0 (q0 := 0) (ci := 10) rfl rfl) rfl rfl hl.1 rfl (lv_room (Nat.le_of_ble_eq_true rfl)) dX10_cut_118 ⟨Nat.le_of_ble_eq_true rfl, Nat.le_of_ble_eq_true rfl⟩) (fun r9 u9 H locs hw9 hP' hD' hS => ?_)
      clear hPc hDc hFc
      subst hw9
      obtain ⟨σ_72, eσ_72, hF_73⟩ := bnd_e hF_71
      clear hF_71
      have hP : va_P (dC, dI) vwCl (b_b cB cC cI cJ cZ oA rA σ_72 ++ b_w cB cC cI cJ cZ oA rA σ_72) H := by rw [eσ_72]; exact bx_P (bs := [b_b cB cC cI cJ cZ oA rA s_52.2.2] ++ [b_w cB cC cI cJ cZ oA rA u_70.2]) (bs' := [b_b cB cC cI cJ cZ oA rA (mrg (fun j => j == 1) s_52.2.2 u_70.2), b_w cB cC cI cJ cZ oA rA (mrg (fun j => j == 1) s_52.2.2 u_70.2)]) hP' (fl_a fl_1 fl_1) fl_2 [0, 1] rfl
      clear hP' hD'
      obtain ⟨u_74, hu_74, hF_75⟩ := Option.bind_eq_some_iff.mp hF_73
      clear hF_73
      have hPc := bx_P (bs := [b_b cB cC cI cJ cZ oA rA σ_72, b_w cB cC cI cJ cZ oA rA σ_72]) (bs' := [b_w cB cC cI cJ cZ oA rA σ_72]) (ws' := (b_w cB cC cI cJ cZ oA rA σ_72)) hP fl_2 fl_1 [1] rfl
      have hDc := bx_D (bs := [b_b cB cC cI cJ cZ oA rA σ_72, b_w cB cC cI cJ cZ oA rA σ_72]) (bs' := [b_w cB cC cI cJ cZ oA rA σ_72]) (ws' := (b_w cB cC cI cJ cZ oA rA σ_72)) (hDD σ_72) fl_2 fl_1 [1] (by decide +kernel) rfl
      have hFc := bx_F (bs := [b_b cB cC cI cJ cZ oA rA σ_72, b_w cB cC cI cJ cZ oA rA σ_72]) (bs' := [b_w cB cC cI cJ cZ oA rA σ_72]) (wc := (b_w cB cC cI cJ cZ oA rA σ_72)) (hDD σ_72) hS hA fl_2 fl_1 [1] rfl
      refine g_ofi (wc := (b_w cB cC cI cJ cZ oA rA σ_72)) (wr := (b_b cB cC cI cJ cZ oA rA σ_72)) hP (hDD σ_72) hS hFc (bx_ix [b_b cB cC cI cJ cZ oA rA σ_72, b_w cB cC cI cJ cZ oA rA σ_72] [1]) (bx_ix [b_b cB cC cI cJ cZ oA rA σ_72, b_w cB cC cI cJ cZ oA rA σ_72] [0]) (bx_C (bs := [b_b cB cC cI cJ cZ oA rA σ_72, b_w cB cC cI cJ cZ oA rA σ_72]) (bs' := [b_w cB cC cI cJ cZ oA rA σ_72]) (is := [1]) fl_2 fl_1 rfl) (bx_C (bs := [b_b cB cC cI cJ cZ oA rA σ_72, b_w cB cC cI cJ cZ oA rA σ_72]) (bs' := [b_b cB cC cI cJ cZ oA rA σ_72]) (is := [0]) fl_2 fl_1 rfl) (bx_n (by decide +kernel)) (bx_d (by decide +kernel)) (va_runV (As := [.int u_70.1]) (rest := []) ⟨hx, hb, hml, hown, hts⟩ (k_X10_skip l dC dI cB cC cI cJ cZ cP oA rA H.size  u_70.1 σ_72 _ hu_74) (cwV 1 hts (g_gV wq_413 wq_414 wq_1981 wq_2 wq_415) rfl rfl rfl (by decide +kernel) ⟨Nat.le_of_ble_eq_true rfl, Nat.le_of_ble_eq_true rfl⟩) (g_preV g_bl0 hK hPc hDc hS hE hFc g_to0 (q0 := 0) (ci := 10) rfl rfl) rfl rfl hl.1 rfl (lv_room (Nat.le_of_ble_eq_true rfl)) dX10_cut_121 ⟨Nat.le_of_ble_eq_true rfl, Nat.le_of_ble_eq_true rfl⟩) (fun r9 u9 H locs hw9 hP' hD' hS => ?_)
      clear hPc hDc hFc
      subst hw9
      obtain ⟨σ_76, eσ_76, hF_77⟩ := bnd_e hF_75
      clear hF_75
      have hP : va_P (dC, dI) vwCl (b_b cB cC cI cJ cZ oA rA σ_76 ++ b_w cB cC cI cJ cZ oA rA σ_76) H := by rw [eσ_76]; exact bx_P (bs := [b_b cB cC cI cJ cZ oA rA σ_72] ++ [b_w cB cC cI cJ cZ oA rA u_74.2]) (bs' := [b_b cB cC cI cJ cZ oA rA (mrg (fun j => j == 1) σ_72 u_74.2), b_w cB cC cI cJ cZ oA rA (mrg (fun j => j == 1) σ_72 u_74.2)]) hP' (fl_a fl_1 fl_1) fl_2 [0, 1] rfl
      clear hP' hD'
      refine lv_istore_n (lv' := [(3, .int u_74.1), (0, .ref (oA 1)), (4, .int s_52.2.1)]) hx hb dX10_cut_124 rfl hl (by decide) rfl (fun ls hl => ?_)
      obtain ⟨x_78, ex_78, hF_79⟩ := bnd_e hF_77
      clear hF_77
      refine lv_iinc (v := x_78) (lv' := [(4, .int x_78), (3, .int u_74.1), (0, .ref (oA 1))]) hx hb dX10_cut_125 hl (k := 2) rfl (by rw [ex_78]; rfl) (by decide) rfl (fun ls hl => ?_)
      refine lv_goto (tgt := 98) hx hb dX10_cut_128 (by decide) ?_
      exact ih_54 (u_74.1, x_78, σ_76) hF_79 _ _ hP hS ls (lv_sub hl [2, 1, 0] rfl)
