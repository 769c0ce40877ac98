/-! methods of the class: what each does is its function -/
theorem dX6_copy_0 : decode cX6_copy 0 = .ok (.aload_n 1, 1) := by decide +kernel
theorem dX6_copy_1 : decode cX6_copy 1 = .ok (.getfield 9, 3) := by decide +kernel
theorem dX6_copy_4 : decode cX6_copy 4 = .ok (.iconst 0, 1) := by decide +kernel
theorem dX6_copy_5 : decode cX6_copy 5 = .ok (.aload_n 0, 1) := by decide +kernel
theorem dX6_copy_6 : decode cX6_copy 6 = .ok (.getfield 9, 3) := by decide +kernel
theorem dX6_copy_9 : decode cX6_copy 9 = .ok (.iconst 0, 1) := by decide +kernel
theorem dX6_copy_10 : decode cX6_copy 10 = .ok (.aload_n 0, 1) := by decide +kernel
theorem dX6_copy_11 : decode cX6_copy 11 = .ok (.getfield 9, 3) := by decide +kernel
theorem dX6_copy_14 : decode cX6_copy 14 = .ok (.arraylength, 1) := by decide +kernel
theorem dX6_copy_15 : decode cX6_copy 15 = .ok (.invokestatic 34, 3) := by decide +kernel
theorem dX6_copy_18 : decode cX6_copy 18 = .ok (.aload_n 1, 1) := by decide +kernel
theorem dX6_copy_19 : decode cX6_copy 19 = .ok (.getfield 15, 3) := by decide +kernel
theorem dX6_copy_22 : decode cX6_copy 22 = .ok (.iconst 0, 1) := by decide +kernel
theorem dX6_copy_23 : decode cX6_copy 23 = .ok (.aload_n 0, 1) := by decide +kernel
theorem dX6_copy_24 : decode cX6_copy 24 = .ok (.getfield 15, 3) := by decide +kernel
theorem dX6_copy_27 : decode cX6_copy 27 = .ok (.iconst 0, 1) := by decide +kernel
theorem dX6_copy_28 : decode cX6_copy 28 = .ok (.aload_n 0, 1) := by decide +kernel
theorem dX6_copy_29 : decode cX6_copy 29 = .ok (.getfield 15, 3) := by decide +kernel
theorem dX6_copy_32 : decode cX6_copy 32 = .ok (.arraylength, 1) := by decide +kernel
theorem dX6_copy_33 : decode cX6_copy 33 = .ok (.invokestatic 34, 3) := by decide +kernel
theorem dX6_copy_36 : decode cX6_copy 36 = .ok (.aload_n 1, 1) := by decide +kernel
theorem dX6_copy_37 : decode cX6_copy 37 = .ok (.getfield 18, 3) := by decide +kernel
theorem dX6_copy_40 : decode cX6_copy 40 = .ok (.iconst 0, 1) := by decide +kernel
theorem dX6_copy_41 : decode cX6_copy 41 = .ok (.aload_n 0, 1) := by decide +kernel
theorem dX6_copy_42 : decode cX6_copy 42 = .ok (.getfield 18, 3) := by decide +kernel
theorem dX6_copy_45 : decode cX6_copy 45 = .ok (.iconst 0, 1) := by decide +kernel
theorem dX6_copy_46 : decode cX6_copy 46 = .ok (.aload_n 0, 1) := by decide +kernel
theorem dX6_copy_47 : decode cX6_copy 47 = .ok (.getfield 18, 3) := by decide +kernel
theorem dX6_copy_50 : decode cX6_copy 50 = .ok (.arraylength, 1) := by decide +kernel
theorem dX6_copy_51 : decode cX6_copy 51 = .ok (.invokestatic 34, 3) := by decide +kernel
theorem dX6_copy_54 : decode cX6_copy 54 = .ok (.aload_n 1, 1) := by decide +kernel
theorem dX6_copy_55 : decode cX6_copy 55 = .ok (.getfield 21, 3) := by decide +kernel
theorem dX6_copy_58 : decode cX6_copy 58 = .ok (.iconst 0, 1) := by decide +kernel
theorem dX6_copy_59 : decode cX6_copy 59 = .ok (.aload_n 0, 1) := by decide +kernel
theorem dX6_copy_60 : decode cX6_copy 60 = .ok (.getfield 21, 3) := by decide +kernel
theorem dX6_copy_63 : decode cX6_copy 63 = .ok (.iconst 0, 1) := by decide +kernel
theorem dX6_copy_64 : decode cX6_copy 64 = .ok (.aload_n 0, 1) := by decide +kernel
theorem dX6_copy_65 : decode cX6_copy 65 = .ok (.getfield 21, 3) := by decide +kernel
theorem dX6_copy_68 : decode cX6_copy 68 = .ok (.arraylength, 1) := by decide +kernel
theorem dX6_copy_69 : decode cX6_copy 69 = .ok (.invokestatic 34, 3) := by decide +kernel
theorem dX6_copy_72 : decode cX6_copy 72 = .ok (.aload_n 1, 1) := by decide +kernel
theorem dX6_copy_73 : decode cX6_copy 73 = .ok (.getfield 24, 3) := by decide +kernel
theorem dX6_copy_76 : decode cX6_copy 76 = .ok (.iconst 0, 1) := by decide +kernel
theorem dX6_copy_77 : decode cX6_copy 77 = .ok (.aload_n 0, 1) := by decide +kernel
theorem dX6_copy_78 : decode cX6_copy 78 = .ok (.getfield 24, 3) := by decide +kernel
theorem dX6_copy_81 : decode cX6_copy 81 = .ok (.iconst 0, 1) := by decide +kernel
theorem dX6_copy_82 : decode cX6_copy 82 = .ok (.aload_n 0, 1) := by decide +kernel
theorem dX6_copy_83 : decode cX6_copy 83 = .ok (.getfield 24, 3) := by decide +kernel
theorem dX6_copy_86 : decode cX6_copy 86 = .ok (.arraylength, 1) := by decide +kernel
theorem dX6_copy_87 : decode cX6_copy 87 = .ok (.invokestatic 34, 3) := by decide +kernel
theorem dX6_copy_90 : decode cX6_copy 90 = .ok (.aload_n 1, 1) := by decide +kernel
theorem dX6_copy_91 : decode cX6_copy 91 = .ok (.getfield 27, 3) := by decide +kernel
theorem dX6_copy_94 : decode cX6_copy 94 = .ok (.iconst 0, 1) := by decide +kernel
theorem dX6_copy_95 : decode cX6_copy 95 = .ok (.aload_n 0, 1) := by decide +kernel
theorem dX6_copy_96 : decode cX6_copy 96 = .ok (.getfield 27, 3) := by decide +kernel
theorem dX6_copy_99 : decode cX6_copy 99 = .ok (.iconst 0, 1) := by decide +kernel
theorem dX6_copy_100 : decode cX6_copy 100 = .ok (.aload_n 0, 1) := by decide +kernel
theorem dX6_copy_101 : decode cX6_copy 101 = .ok (.getfield 27, 3) := by decide +kernel
theorem dX6_copy_104 : decode cX6_copy 104 = .ok (.arraylength, 1) := by decide +kernel
theorem dX6_copy_105 : decode cX6_copy 105 = .ok (.invokestatic 34, 3) := by decide +kernel
theorem dX6_copy_108 : decode cX6_copy 108 = .ok (.aload_n 1, 1) := by decide +kernel
theorem dX6_copy_109 : decode cX6_copy 109 = .ok (.getfield 30, 3) := by decide +kernel
theorem dX6_copy_112 : decode cX6_copy 112 = .ok (.iconst 0, 1) := by decide +kernel
theorem dX6_copy_113 : decode cX6_copy 113 = .ok (.aload_n 0, 1) := by decide +kernel
theorem dX6_copy_114 : decode cX6_copy 114 = .ok (.getfield 30, 3) := by decide +kernel
theorem dX6_copy_117 : decode cX6_copy 117 = .ok (.iconst 0, 1) := by decide +kernel
theorem dX6_copy_118 : decode cX6_copy 118 = .ok (.aload_n 0, 1) := by decide +kernel
theorem dX6_copy_119 : decode cX6_copy 119 = .ok (.getfield 30, 3) := by decide +kernel
theorem dX6_copy_122 : decode cX6_copy 122 = .ok (.arraylength, 1) := by decide +kernel
theorem dX6_copy_123 : decode cX6_copy 123 = .ok (.invokestatic 34, 3) := by decide +kernel
theorem dX6_copy_126 : decode cX6_copy 126 = .ok (.aload_n 0, 1) := by decide +kernel
theorem dX6_copy_127 : decode cX6_copy 127 = .ok (.aload_n 1, 1) := by decide +kernel
theorem dX6_copy_128 : decode cX6_copy 128 = .ok (.getfield 40, 3) := by decide +kernel
theorem dX6_copy_131 : decode cX6_copy 131 = .ok (.putfield 40, 3) := by decide +kernel
theorem dX6_copy_134 : decode cX6_copy 134 = .ok (.aload_n 0, 1) := by decide +kernel
theorem dX6_copy_135 : decode cX6_copy 135 = .ok (.aload_n 1, 1) := by decide +kernel
theorem dX6_copy_136 : decode cX6_copy 136 = .ok (.getfield 44, 3) := by decide +kernel
theorem dX6_copy_139 : decode cX6_copy 139 = .ok (.putfield 44, 3) := by decide +kernel
theorem dX6_copy_142 : decode cX6_copy 142 = .ok (.aload_n 0, 1) := by decide +kernel
theorem dX6_copy_143 : decode cX6_copy 143 = .ok (.aload_n 1, 1) := by decide +kernel
theorem dX6_copy_144 : decode cX6_copy 144 = .ok (.getfield 47, 3) := by decide +kernel
theorem dX6_copy_147 : decode cX6_copy 147 = .ok (.putfield 47, 3) := by decide +kernel
theorem dX6_copy_150 : decode cX6_copy 150 = .ok (.aload_n 0, 1) := by decide +kernel
theorem dX6_copy_151 : decode cX6_copy 151 = .ok (.aload_n 1, 1) := by decide +kernel
theorem dX6_copy_152 : decode cX6_copy 152 = .ok (.getfield 50, 3) := by decide +kernel
theorem dX6_copy_155 : decode cX6_copy 155 = .ok (.putfield 50, 3) := by decide +kernel
theorem dX6_copy_158 : decode cX6_copy 158 = .ok (.aload_n 0, 1) := by decide +kernel
theorem dX6_copy_159 : decode cX6_copy 159 = .ok (.aload_n 1, 1) := by decide +kernel
theorem dX6_copy_160 : decode cX6_copy 160 = .ok (.getfield 53, 3) := by decide +kernel
theorem dX6_copy_163 : decode cX6_copy 163 = .ok (.putfield 53, 3) := by decide +kernel
theorem dX6_copy_166 : decode cX6_copy 166 = .ok (.return_, 1) := by decide +kernel
def F_X6_copy  (Γ : HS) : HR :=
  if 0 < 0 ∨ 0 < 0 ∨ 121 < 0 ∨ 121 < (0 : Int32).toNatClampNeg + (121 : Int32).toNatClampNeg ∨ 121 < (0 : Int32).toNatClampNeg + (121 : Int32).toNatClampNeg then none else
  bnd (cA' Γ 9 0 (va_cpy ((Γ 12).2.1 0) ((Γ 9).2.1 0) (0 : Int32).toNatClampNeg (0 : Int32).toNatClampNeg (121 : Int32).toNatClampNeg)) fun σ_3 =>
  if 0 < 0 ∨ 0 < 0 ∨ 121 < 0 ∨ 121 < (0 : Int32).toNatClampNeg + (121 : Int32).toNatClampNeg ∨ 121 < (0 : Int32).toNatClampNeg + (121 : Int32).toNatClampNeg then none else
  bnd (cA' σ_3 9 1 (va_cpy ((σ_3 12).2.1 1) ((σ_3 9).2.1 1) (0 : Int32).toNatClampNeg (0 : Int32).toNatClampNeg (121 : Int32).toNatClampNeg)) fun σ_7 =>
  if 0 < 0 ∨ 0 < 0 ∨ 121 < 0 ∨ 121 < (0 : Int32).toNatClampNeg + (121 : Int32).toNatClampNeg ∨ 121 < (0 : Int32).toNatClampNeg + (121 : Int32).toNatClampNeg then none else
  bnd (cA' σ_7 9 2 (va_cpy ((σ_7 12).2.1 2) ((σ_7 9).2.1 2) (0 : Int32).toNatClampNeg (0 : Int32).toNatClampNeg (121 : Int32).toNatClampNeg)) fun σ_11 =>
  if 0 < 0 ∨ 0 < 0 ∨ 121 < 0 ∨ 121 < (0 : Int32).toNatClampNeg + (121 : Int32).toNatClampNeg ∨ 121 < (0 : Int32).toNatClampNeg + (121 : Int32).toNatClampNeg then none else
  bnd (cA' σ_11 9 3 (va_cpy ((σ_11 12).2.1 3) ((σ_11 9).2.1 3) (0 : Int32).toNatClampNeg (0 : Int32).toNatClampNeg (121 : Int32).toNatClampNeg)) fun σ_15 =>
  if 0 < 0 ∨ 0 < 0 ∨ 100 < 0 ∨ 100 < (0 : Int32).toNatClampNeg + (100 : Int32).toNatClampNeg ∨ 100 < (0 : Int32).toNatClampNeg + (100 : Int32).toNatClampNeg then none else
  bnd (cA' σ_15 9 4 (va_cpy ((σ_15 12).2.1 4) ((σ_15 9).2.1 4) (0 : Int32).toNatClampNeg (0 : Int32).toNatClampNeg (100 : Int32).toNatClampNeg)) fun σ_19 =>
  if 0 < 0 ∨ 0 < 0 ∨ 1000 < 0 ∨ 1000 < (0 : Int32).toNatClampNeg + (1000 : Int32).toNatClampNeg ∨ 1000 < (0 : Int32).toNatClampNeg + (1000 : Int32).toNatClampNeg then none else
  bnd (cA' σ_19 9 5 (va_cpy ((σ_19 12).2.1 5) ((σ_19 9).2.1 5) (0 : Int32).toNatClampNeg (0 : Int32).toNatClampNeg (1000 : Int32).toNatClampNeg)) fun σ_23 =>
  if 0 < 0 ∨ 0 < 0 ∨ 120 < 0 ∨ 120 < (0 : Int32).toNatClampNeg + (120 : Int32).toNatClampNeg ∨ 120 < (0 : Int32).toNatClampNeg + (120 : Int32).toNatClampNeg then none else
  bnd (cA' σ_23 9 6 (va_cpy ((σ_23 12).2.1 6) ((σ_23 9).2.1 6) (0 : Int32).toNatClampNeg (0 : Int32).toNatClampNeg (120 : Int32).toNatClampNeg)) fun σ_27 =>
  bnd (cI' σ_27 9 7 ((σ_27 12).1 7)) fun σ_29 =>
  bnd (cI' σ_29 9 8 ((σ_29 12).1 8)) fun σ_31 =>
  bnd (cI' σ_31 9 9 ((σ_31 12).1 9)) fun σ_33 =>
  bnd (cI' σ_33 9 10 ((σ_33 12).1 10)) fun σ_35 =>
  bnd (cI' σ_35 9 11 ((σ_35 12).1 11)) fun σ_37 =>
  some (0, σ_37)
set_option maxHeartbeats 4000000 in
set_option maxRecDepth 100000 in
theorem k_X6_copy (l : Launch) (dC : Nat → ClassId) (dI : Nat → Nat → Nat) (cB cC cI cJ cZ cP : ClassId) (oA : Nat → Nat) (rA : Nat → Nat → Nat) (sz : Nat)   (Γ : HS) (res : Int32 × HS) (hF : F_X6_copy  Γ = some res) : Met l yX6_copy (g_ws yX6_copy cX6_copy 2 none) ({ frames := 2, cells := 0, slots := 0, locals := 60 }) (va_Pc [.ref (oA 9), .ref (oA 12)] (g_B (dC, dI) [(cB, .byte), (cC, .char), (cI, .int), (cJ, .long), (cZ, .boolean), (cP, .object "StoryHouse$Play")] sz (b_p cB cC cI cJ cZ oA rA Γ ++ b_r cB cC cI cJ cZ oA rA Γ) g_0)) (va_Qv (fun (_ : Unit) => True) (g_Bo (dC, dI) (va_A (b_p cB cC cI cJ cZ oA rA Γ ++ b_r cB cC cI cJ cZ oA rA Γ) sz) (fun (_ : Unit) => (b_p cB cC cI cJ cZ oA rA res.2 ++ b_r cB cC cI cJ cZ oA rA res.2))) (va_A (b_p cB cC cI cJ cZ oA rA Γ ++ b_r cB cC cI cJ cZ oA rA Γ) sz)) 0 0 (va_A (b_p cB cC cI cJ cZ oA rA Γ ++ b_r cB cC cI cJ cZ oA rA Γ) sz) := by
  refine Met.ofW (cc := cX6_copy) (maxL := 2) (ret := none) (by decide) rfl ?_
  intro p e s m args below meth c s₁ B hml hv
  obtain ⟨rfl, hsz, hP, hK, hD0, hE, hX⟩ := hv
  have hx := B.exec
  have hb := B.bytes
  have hr := B.returns
  have hts0 := atoms_spec (ws := g_ws yX6_copy cX6_copy 2 none) B.pre
  have hts : ∀ w ∈ lw_good, w.before ([.ref (oA 9), .ref (oA 12)] : List Value).toArray s = true := fun w z => hts0 w (List.mem_cons_of_mem _ z)
  have hown : s.vm.findClass RX6 = some m.cls := findClass_of_methodNamed B.named
  have hlocks := B.notSynchronized
  subst hsz
  have hD1 := hD0.self (sz := s.heap.size)
  generalize hAe : va_A (b_p cB cC cI cJ cZ oA rA Γ ++ b_r cB cC cI cJ cZ oA rA Γ) s.heap.size = A at hD1 hE hX ⊢
  have hA : ∀ q : Nat, s.heap.size ≤ q → A q := fun q z => by rw [← hAe]; exact Or.inr z
  have hDD : ∀ Γ : HS, va_D A (b_p cB cC cI cJ cZ oA rA Γ ++ b_r cB cC cI cJ cZ oA rA Γ) := fun Γ9 => va_D_fst (ws := (b_p cB cC cI cJ cZ oA rA Γ ++ b_r cB cC cI cJ cZ oA rA Γ)) (ws' := (b_p cB cC cI cJ cZ oA rA Γ9 ++ b_r cB cC cI cJ cZ oA rA Γ9)) rfl hD1
  have hN := hE.1
  have hS : va_S A s.heap s.heap [] := va_S.rf
  have hl := lv_entry ([.ref (oA 9), .ref (oA 12)]) (n := 2) (Nat.le_of_ble_eq_true rfl)
  rw [lg_entry_eq]
  generalize (lg_sl ([.ref (oA 9), .ref (oA 12)]) ++ List.replicate (2 - (lg_sl ([.ref (oA 9), .ref (oA 12)])).length) Slot.unset).toArray = ls at hl ⊢
  have hl : lv_has ls 2 [(0, .ref (oA 9)), (1, .ref (oA 12))] := hl
  unfold F_X6_copy at hF
  refine lv_aload_n hx hb dX6_copy_0 rfl (lv_at hl 1 rfl) ?_
  refine va_get (D := (dC, dI)) (ci := 6) (v := .ref (rA 12 0)) (C := RX6) (T := TX6) (N := 12) hx hb hts ii_X6 hown hK hP 8 rfl rfl 0 (by decide) (hts (.fieldLink RX6 9 "StoryHouse$Play" "parents" "[I") wq_217) (fun _ h9 => h9) rfl dX6_copy_1 ?_
  refine lv_iconst (v := 0) hx hb dX6_copy_4 (by decide +kernel) ?_
  refine lv_aload_n hx hb dX6_copy_5 rfl (lv_at hl 0 rfl) ?_
  refine va_get (D := (dC, dI)) (ci := 6) (v := .ref (rA 9 0)) (C := RX6) (T := TX6) (N := 12) hx hb hts ii_X6 hown hK hP 0 rfl rfl 0 (by decide) (hts (.fieldLink RX6 9 "StoryHouse$Play" "parents" "[I") wq_217) (fun _ h9 => h9) rfl dX6_copy_6 ?_
  refine lv_iconst (v := 0) hx hb dX6_copy_9 (by decide +kernel) ?_
  refine lv_aload_n hx hb dX6_copy_10 rfl (lv_at hl 0 rfl) ?_
  refine va_get (D := (dC, dI)) (ci := 6) (v := .ref (rA 9 0)) (C := RX6) (T := TX6) (N := 12) hx hb hts ii_X6 hown hK hP 0 rfl rfl 0 (by decide) (hts (.fieldLink RX6 9 "StoryHouse$Play" "parents" "[I") wq_217) (fun _ h9 => h9) rfl dX6_copy_11 ?_
  refine va_alen (v := 121) hx hb hK hP 1 2 rfl rfl (by first | rfl | decide +kernel) dX6_copy_14 ?_
  obtain ⟨g_1, hF_2⟩ := nif_e hF
  clear hF
  obtain ⟨σ_3, eσ_3, hF_4⟩ := bnd_e hF_2
  clear hF_2
  refine va_copyi (f := (Γ 12).2.1 0) (g := (Γ 9).2.1 0) hx hb (hml.trans hl.1.symm) hown (hts (.methodLink RX6 34 arraycopyName) wq_960) (hts (.native arraycopyName) wq_338) (hts (.static arraycopyName) wq_337) (hts (.initialized RJ10) wq_20) hK hP (hDD _) hS 9 1 2 2 rfl rfl rfl rfl rfl (by decide) (by decide) (by decide) (Nat.not_lt.mp (fun z => g_1 (Or.inr (Or.inr (Or.inr (Or.inl z)))))) (Nat.not_lt.mp (fun z => g_1 (Or.inr (Or.inr (Or.inr (Or.inr z)))))) (fun _ _ => rfl) (by decide +kernel) (by decide +kernel) dX6_copy_15 (fun H locs hP' _ hS => ?_)
  have hP : va_P (dC, dI) vwCl (b_p cB cC cI cJ cZ oA rA σ_3 ++ b_r cB cC cI cJ cZ oA rA σ_3) H := by rw [eσ_3]; exact cs_pr_p_0 ▸ hP'
  clear hP'
  refine lv_aload_n hx hb dX6_copy_18 rfl (lv_at hl 1 rfl) ?_
  refine va_get (D := (dC, dI)) (ci := 6) (v := .ref (rA 12 1)) (C := RX6) (T := TX6) (N := 12) hx hb hts ii_X6 hown hK hP 8 rfl rfl 1 (by decide) (hts (.fieldLink RX6 15 "StoryHouse$Play" "firsts" "[I") wq_221) (fun _ h9 => h9) rfl dX6_copy_19 ?_
  refine lv_iconst (v := 0) hx hb dX6_copy_22 (by decide +kernel) ?_
  refine lv_aload_n hx hb dX6_copy_23 rfl (lv_at hl 0 rfl) ?_
  refine va_get (D := (dC, dI)) (ci := 6) (v := .ref (rA 9 1)) (C := RX6) (T := TX6) (N := 12) hx hb hts ii_X6 hown hK hP 0 rfl rfl 1 (by decide) (hts (.fieldLink RX6 15 "StoryHouse$Play" "firsts" "[I") wq_221) (fun _ h9 => h9) rfl dX6_copy_24 ?_
  refine lv_iconst (v := 0) hx hb dX6_copy_27 (by decide +kernel) ?_
  refine lv_aload_n hx hb dX6_copy_28 rfl (lv_at hl 0 rfl) ?_
  refine va_get (D := (dC, dI)) (ci := 6) (v := .ref (rA 9 1)) (C := RX6) (T := TX6) (N := 12) hx hb hts ii_X6 hown hK hP 0 rfl rfl 1 (by decide) (hts (.fieldLink RX6 15 "StoryHouse$Play" "firsts" "[I") wq_221) (fun _ h9 => h9) rfl dX6_copy_29 ?_
  refine va_alen (v := 121) hx hb hK hP 2 2 rfl rfl (by first | rfl | decide +kernel) dX6_copy_32 ?_
  obtain ⟨g_5, hF_6⟩ := nif_e hF_4
  clear hF_4
  obtain ⟨σ_7, eσ_7, hF_8⟩ := bnd_e hF_6
  clear hF_6
  refine va_copyi (f := (σ_3 12).2.1 1) (g := (σ_3 9).2.1 1) hx hb (hml.trans hl.1.symm) hown (hts (.methodLink RX6 34 arraycopyName) wq_960) (hts (.native arraycopyName) wq_338) (hts (.static arraycopyName) wq_337) (hts (.initialized RJ10) wq_20) hK hP (hDD _) hS 10 2 2 2 rfl rfl rfl rfl rfl (by decide) (by decide) (by decide) (Nat.not_lt.mp (fun z => g_5 (Or.inr (Or.inr (Or.inr (Or.inl z)))))) (Nat.not_lt.mp (fun z => g_5 (Or.inr (Or.inr (Or.inr (Or.inr z)))))) (fun _ _ => rfl) (by decide +kernel) (by decide +kernel) dX6_copy_33 (fun H locs hP' _ hS => ?_)
  have hP : va_P (dC, dI) vwCl (b_p cB cC cI cJ cZ oA rA σ_7 ++ b_r cB cC cI cJ cZ oA rA σ_7) H := by rw [eσ_7]; exact cs_pr_p_1 ▸ hP'
  clear hP'
  refine lv_aload_n hx hb dX6_copy_36 rfl (lv_at hl 1 rfl) ?_
  refine va_get (D := (dC, dI)) (ci := 6) (v := .ref (rA 12 2)) (C := RX6) (T := TX6) (N := 12) hx hb hts ii_X6 hown hK hP 8 rfl rfl 2 (by decide) (hts (.fieldLink RX6 18 "StoryHouse$Play" "nexts" "[I") wq_225) (fun _ h9 => h9) rfl dX6_copy_37 ?_
  refine lv_iconst (v := 0) hx hb dX6_copy_40 (by decide +kernel) ?_
  refine lv_aload_n hx hb dX6_copy_41 rfl (lv_at hl 0 rfl) ?_
  refine va_get (D := (dC, dI)) (ci := 6) (v := .ref (rA 9 2)) (C := RX6) (T := TX6) (N := 12) hx hb hts ii_X6 hown hK hP 0 rfl rfl 2 (by decide) (hts (.fieldLink RX6 18 "StoryHouse$Play" "nexts" "[I") wq_225) (fun _ h9 => h9) rfl dX6_copy_42 ?_
  refine lv_iconst (v := 0) hx hb dX6_copy_45 (by decide +kernel) ?_
  refine lv_aload_n hx hb dX6_copy_46 rfl (lv_at hl 0 rfl) ?_
  refine va_get (D := (dC, dI)) (ci := 6) (v := .ref (rA 9 2)) (C := RX6) (T := TX6) (N := 12) hx hb hts ii_X6 hown hK hP 0 rfl rfl 2 (by decide) (hts (.fieldLink RX6 18 "StoryHouse$Play" "nexts" "[I") wq_225) (fun _ h9 => h9) rfl dX6_copy_47 ?_
  refine va_alen (v := 121) hx hb hK hP 3 2 rfl rfl (by first | rfl | decide +kernel) dX6_copy_50 ?_
  obtain ⟨g_9, hF_10⟩ := nif_e hF_8
  clear hF_8
  obtain ⟨σ_11, eσ_11, hF_12⟩ := bnd_e hF_10
  clear hF_10
  refine va_copyi (f := (σ_7 12).2.1 2) (g := (σ_7 9).2.1 2) hx hb (hml.trans hl.1.symm) hown (hts (.methodLink RX6 34 arraycopyName) wq_960) (hts (.native arraycopyName) wq_338) (hts (.static arraycopyName) wq_337) (hts (.initialized RJ10) wq_20) hK hP (hDD _) hS 11 3 2 2 rfl rfl rfl rfl rfl (by decide) (by decide) (by decide) (Nat.not_lt.mp (fun z => g_9 (Or.inr (Or.inr (Or.inr (Or.inl z)))))) (Nat.not_lt.mp (fun z => g_9 (Or.inr (Or.inr (Or.inr (Or.inr z)))))) (fun _ _ => rfl) (by decide +kernel) (by decide +kernel) dX6_copy_51 (fun H locs hP' _ hS => ?_)
  have hP : va_P (dC, dI) vwCl (b_p cB cC cI cJ cZ oA rA σ_11 ++ b_r cB cC cI cJ cZ oA rA σ_11) H := by rw [eσ_11]; exact cs_pr_p_2 ▸ hP'
  clear hP'
  refine lv_aload_n hx hb dX6_copy_54 rfl (lv_at hl 1 rfl) ?_
  refine va_get (D := (dC, dI)) (ci := 6) (v := .ref (rA 12 3)) (C := RX6) (T := TX6) (N := 12) hx hb hts ii_X6 hown hK hP 8 rfl rfl 3 (by decide) (hts (.fieldLink RX6 21 "StoryHouse$Play" "traits" "[I") wq_229) (fun _ h9 => h9) rfl dX6_copy_55 ?_
  refine lv_iconst (v := 0) hx hb dX6_copy_58 (by decide +kernel) ?_
  refine lv_aload_n hx hb dX6_copy_59 rfl (lv_at hl 0 rfl) ?_
  refine va_get (D := (dC, dI)) (ci := 6) (v := .ref (rA 9 3)) (C := RX6) (T := TX6) (N := 12) hx hb hts ii_X6 hown hK hP 0 rfl rfl 3 (by decide) (hts (.fieldLink RX6 21 "StoryHouse$Play" "traits" "[I") wq_229) (fun _ h9 => h9) rfl dX6_copy_60 ?_
  refine lv_iconst (v := 0) hx hb dX6_copy_63 (by decide +kernel) ?_
  refine lv_aload_n hx hb dX6_copy_64 rfl (lv_at hl 0 rfl) ?_
  refine va_get (D := (dC, dI)) (ci := 6) (v := .ref (rA 9 3)) (C := RX6) (T := TX6) (N := 12) hx hb hts ii_X6 hown hK hP 0 rfl rfl 3 (by decide) (hts (.fieldLink RX6 21 "StoryHouse$Play" "traits" "[I") wq_229) (fun _ h9 => h9) rfl dX6_copy_65 ?_
  refine va_alen (v := 121) hx hb hK hP 4 2 rfl rfl (by first | rfl | decide +kernel) dX6_copy_68 ?_
  obtain ⟨g_13, hF_14⟩ := nif_e hF_12
  clear hF_12
  obtain ⟨σ_15, eσ_15, hF_16⟩ := bnd_e hF_14
  clear hF_14
  refine va_copyi (f := (σ_11 12).2.1 3) (g := (σ_11 9).2.1 3) hx hb (hml.trans hl.1.symm) hown (hts (.methodLink RX6 34 arraycopyName) wq_960) (hts (.native arraycopyName) wq_338) (hts (.static arraycopyName) wq_337) (hts (.initialized RJ10) wq_20) hK hP (hDD _) hS 12 4 2 2 rfl rfl rfl rfl rfl (by decide) (by decide) (by decide) (Nat.not_lt.mp (fun z => g_13 (Or.inr (Or.inr (Or.inr (Or.inl z)))))) (Nat.not_lt.mp (fun z => g_13 (Or.inr (Or.inr (Or.inr (Or.inr z)))))) (fun _ _ => rfl) (by decide +kernel) (by decide +kernel) dX6_copy_69 (fun H locs hP' _ hS => ?_)
  have hP : va_P (dC, dI) vwCl (b_p cB cC cI cJ cZ oA rA σ_15 ++ b_r cB cC cI cJ cZ oA rA σ_15) H := by rw [eσ_15]; exact cs_pr_p_3 ▸ hP'
  clear hP'
  refine lv_aload_n hx hb dX6_copy_72 rfl (lv_at hl 1 rfl) ?_
  refine va_get (D := (dC, dI)) (ci := 6) (v := .ref (rA 12 4)) (C := RX6) (T := TX6) (N := 12) hx hb hts ii_X6 hown hK hP 8 rfl rfl 4 (by decide) (hts (.fieldLink RX6 24 "StoryHouse$Play" "vars" "[I") wq_230) (fun _ h9 => h9) rfl dX6_copy_73 ?_
  refine lv_iconst (v := 0) hx hb dX6_copy_76 (by decide +kernel) ?_
  refine lv_aload_n hx hb dX6_copy_77 rfl (lv_at hl 0 rfl) ?_
  refine va_get (D := (dC, dI)) (ci := 6) (v := .ref (rA 9 4)) (C := RX6) (T := TX6) (N := 12) hx hb hts ii_X6 hown hK hP 0 rfl rfl 4 (by decide) (hts (.fieldLink RX6 24 "StoryHouse$Play" "vars" "[I") wq_230) (fun _ h9 => h9) rfl dX6_copy_78 ?_
  refine lv_iconst (v := 0) hx hb dX6_copy_81 (by decide +kernel) ?_
  refine lv_aload_n hx hb dX6_copy_82 rfl (lv_at hl 0 rfl) ?_
  refine va_get (D := (dC, dI)) (ci := 6) (v := .ref (rA 9 4)) (C := RX6) (T := TX6) (N := 12) hx hb hts ii_X6 hown hK hP 0 rfl rfl 4 (by decide) (hts (.fieldLink RX6 24 "StoryHouse$Play" "vars" "[I") wq_230) (fun _ h9 => h9) rfl dX6_copy_83 ?_
  refine va_alen (v := 100) hx hb hK hP 5 2 rfl rfl (by first | rfl | decide +kernel) dX6_copy_86 ?_
  obtain ⟨g_17, hF_18⟩ := nif_e hF_16
  clear hF_16
  obtain ⟨σ_19, eσ_19, hF_20⟩ := bnd_e hF_18
  clear hF_18
  refine va_copyi (f := (σ_15 12).2.1 4) (g := (σ_15 9).2.1 4) hx hb (hml.trans hl.1.symm) hown (hts (.methodLink RX6 34 arraycopyName) wq_960) (hts (.native arraycopyName) wq_338) (hts (.static arraycopyName) wq_337) (hts (.initialized RJ10) wq_20) hK hP (hDD _) hS 13 5 2 2 rfl rfl rfl rfl rfl (by decide) (by decide) (by decide) (Nat.not_lt.mp (fun z => g_17 (Or.inr (Or.inr (Or.inr (Or.inl z)))))) (Nat.not_lt.mp (fun z => g_17 (Or.inr (Or.inr (Or.inr (Or.inr z)))))) (fun _ _ => rfl) (by decide +kernel) (by decide +kernel) dX6_copy_87 (fun H locs hP' _ hS => ?_)
  have hP : va_P (dC, dI) vwCl (b_p cB cC cI cJ cZ oA rA σ_19 ++ b_r cB cC cI cJ cZ oA rA σ_19) H := by rw [eσ_19]; exact cs_pr_p_4 ▸ hP'
  clear hP'
  refine lv_aload_n hx hb dX6_copy_90 rfl (lv_at hl 1 rfl) ?_
  refine va_get (D := (dC, dI)) (ci := 6) (v := .ref (rA 12 5)) (C := RX6) (T := TX6) (N := 12) hx hb hts ii_X6 hown hK hP 8 rfl rfl 5 (by decide) (hts (.fieldLink RX6 27 "StoryHouse$Play" "cells" "[I") wq_233) (fun _ h9 => h9) rfl dX6_copy_91 ?_
  refine lv_iconst (v := 0) hx hb dX6_copy_94 (by decide +kernel) ?_
  refine lv_aload_n hx hb dX6_copy_95 rfl (lv_at hl 0 rfl) ?_
  refine va_get (D := (dC, dI)) (ci := 6) (v := .ref (rA 9 5)) (C := RX6) (T := TX6) (N := 12) hx hb hts ii_X6 hown hK hP 0 rfl rfl 5 (by decide) (hts (.fieldLink RX6 27 "StoryHouse$Play" "cells" "[I") wq_233) (fun _ h9 => h9) rfl dX6_copy_96 ?_
  refine lv_iconst (v := 0) hx hb dX6_copy_99 (by decide +kernel) ?_
  refine lv_aload_n hx hb dX6_copy_100 rfl (lv_at hl 0 rfl) ?_
  refine va_get (D := (dC, dI)) (ci := 6) (v := .ref (rA 9 5)) (C := RX6) (T := TX6) (N := 12) hx hb hts ii_X6 hown hK hP 0 rfl rfl 5 (by decide) (hts (.fieldLink RX6 27 "StoryHouse$Play" "cells" "[I") wq_233) (fun _ h9 => h9) rfl dX6_copy_101 ?_
  refine va_alen (v := 1000) hx hb hK hP 6 2 rfl rfl (by first | rfl | decide +kernel) dX6_copy_104 ?_
  obtain ⟨g_21, hF_22⟩ := nif_e hF_20
  clear hF_20
  obtain ⟨σ_23, eσ_23, hF_24⟩ := bnd_e hF_22
  clear hF_22
  refine va_copyi (f := (σ_19 12).2.1 5) (g := (σ_19 9).2.1 5) hx hb (hml.trans hl.1.symm) hown (hts (.methodLink RX6 34 arraycopyName) wq_960) (hts (.native arraycopyName) wq_338) (hts (.static arraycopyName) wq_337) (hts (.initialized RJ10) wq_20) hK hP (hDD _) hS 14 6 2 2 rfl rfl rfl rfl rfl (by decide) (by decide) (by decide) (Nat.not_lt.mp (fun z => g_21 (Or.inr (Or.inr (Or.inr (Or.inl z)))))) (Nat.not_lt.mp (fun z => g_21 (Or.inr (Or.inr (Or.inr (Or.inr z)))))) (fun _ _ => rfl) (by decide +kernel) (by decide +kernel) dX6_copy_105 (fun H locs hP' _ hS => ?_)
  have hP : va_P (dC, dI) vwCl (b_p cB cC cI cJ cZ oA rA σ_23 ++ b_r cB cC cI cJ cZ oA rA σ_23) H := by rw [eσ_23]; exact cs_pr_p_5 ▸ hP'
  clear hP'
  refine lv_aload_n hx hb dX6_copy_108 rfl (lv_at hl 1 rfl) ?_
  refine va_get (D := (dC, dI)) (ci := 6) (v := .ref (rA 12 6)) (C := RX6) (T := TX6) (N := 12) hx hb hts ii_X6 hown hK hP 8 rfl rfl 6 (by decide) (hts (.fieldLink RX6 30 "StoryHouse$Play" "line" "[B") wq_236) (fun _ h9 => h9) rfl dX6_copy_109 ?_
  refine lv_iconst (v := 0) hx hb dX6_copy_112 (by decide +kernel) ?_
  refine lv_aload_n hx hb dX6_copy_113 rfl (lv_at hl 0 rfl) ?_
  refine va_get (D := (dC, dI)) (ci := 6) (v := .ref (rA 9 6)) (C := RX6) (T := TX6) (N := 12) hx hb hts ii_X6 hown hK hP 0 rfl rfl 6 (by decide) (hts (.fieldLink RX6 30 "StoryHouse$Play" "line" "[B") wq_236) (fun _ h9 => h9) rfl dX6_copy_114 ?_
  refine lv_iconst (v := 0) hx hb dX6_copy_117 (by decide +kernel) ?_
  refine lv_aload_n hx hb dX6_copy_118 rfl (lv_at hl 0 rfl) ?_
  refine va_get (D := (dC, dI)) (ci := 6) (v := .ref (rA 9 6)) (C := RX6) (T := TX6) (N := 12) hx hb hts ii_X6 hown hK hP 0 rfl rfl 6 (by decide) (hts (.fieldLink RX6 30 "StoryHouse$Play" "line" "[B") wq_236) (fun _ h9 => h9) rfl dX6_copy_119 ?_
  refine va_alen (v := 120) hx hb hK hP 7 0 rfl rfl (by first | rfl | decide +kernel) dX6_copy_122 ?_
  obtain ⟨g_25, hF_26⟩ := nif_e hF_24
  clear hF_24
  obtain ⟨σ_27, eσ_27, hF_28⟩ := bnd_e hF_26
  clear hF_26
  refine va_copyi (f := (nrB ((σ_23 12).2.1 6))) (g := (nrB ((σ_23 9).2.1 6))) hx hb (hml.trans hl.1.symm) hown (hts (.methodLink RX6 34 arraycopyName) wq_960) (hts (.native arraycopyName) wq_338) (hts (.static arraycopyName) wq_337) (hts (.initialized RJ10) wq_20) hK hP (hDD _) hS 15 7 0 0 rfl rfl rfl rfl rfl (by decide) (by decide) (by decide) (Nat.not_lt.mp (fun z => g_25 (Or.inr (Or.inr (Or.inr (Or.inl z)))))) (Nat.not_lt.mp (fun z => g_25 (Or.inr (Or.inr (Or.inr (Or.inr z)))))) (fun i _ => nrB_fit _ _) (by decide +kernel) (by decide +kernel) dX6_copy_123 (fun H locs hP' _ hS => ?_)
  rw [nrB_cpy] at hP'
  have hP : va_P (dC, dI) vwCl (b_p cB cC cI cJ cZ oA rA σ_27 ++ b_r cB cC cI cJ cZ oA rA σ_27) H := by rw [eσ_27]; exact cs_pr_p_6 ▸ hP'
  clear hP'
  refine lv_aload_n hx hb dX6_copy_126 rfl (lv_at hl 0 rfl) ?_
  refine lv_aload_n hx hb dX6_copy_127 rfl (lv_at hl 1 rfl) ?_
  refine va_get (D := (dC, dI)) (ci := 6) (v := .int ((σ_27 12).1 7)) (C := RX6) (T := TX6) (N := 12) hx hb hts ii_X6 hown hK hP 8 rfl rfl 7 (by decide) (hts (.fieldLink RX6 40 "StoryHouse$Play" "lineLength" "I") wq_239) (fun _ h9 => h9) rfl dX6_copy_128 ?_
  obtain ⟨σ_29, eσ_29, hF_30⟩ := bnd_e hF_28
  clear hF_28
  refine va_put (D := (dC, dI)) (ci := 6) (v := .int ((σ_27 12).1 7)) (ty := .int) (C := RX6) (T := TX6) (N := 12) hx hb hts ii_X6 tyX6 tyX6_ok nmX6 hown hK hP (hDD _) hS 0 rfl rfl 7 (by decide) (hts (.fieldLink RX6 40 "StoryHouse$Play" "lineLength" "I") wq_239) (fun _ h9 => h9) rfl (by decide +kernel) rfl rfl (Nat.le_of_ble_eq_true rfl) dX6_copy_131 (fun H locs hP' _ hS => ?_)
  have hP : va_P (dC, dI) vwCl (b_p cB cC cI cJ cZ oA rA σ_29 ++ b_r cB cC cI cJ cZ oA rA σ_29) H := by rw [eσ_29]; exact cs_pr_p_7 ▸ hP'
  clear hP'
  refine lv_aload_n hx hb dX6_copy_134 rfl (lv_at hl 0 rfl) ?_
  refine lv_aload_n hx hb dX6_copy_135 rfl (lv_at hl 1 rfl) ?_
  refine va_get (D := (dC, dI)) (ci := 6) (v := .int ((σ_29 12).1 8)) (C := RX6) (T := TX6) (N := 12) hx hb hts ii_X6 hown hK hP 8 rfl rfl 8 (by decide) (hts (.fieldLink RX6 44 "StoryHouse$Play" "seed" "I") wq_240) (fun _ h9 => h9) rfl dX6_copy_136 ?_
  obtain ⟨σ_31, eσ_31, hF_32⟩ := bnd_e hF_30
  clear hF_30
  refine va_put (D := (dC, dI)) (ci := 6) (v := .int ((σ_29 12).1 8)) (ty := .int) (C := RX6) (T := TX6) (N := 12) hx hb hts ii_X6 tyX6 tyX6_ok nmX6 hown hK hP (hDD _) hS 0 rfl rfl 8 (by decide) (hts (.fieldLink RX6 44 "StoryHouse$Play" "seed" "I") wq_240) (fun _ h9 => h9) rfl (by decide +kernel) rfl rfl (Nat.le_of_ble_eq_true rfl) dX6_copy_139 (fun H locs hP' _ hS => ?_)
  have hP : va_P (dC, dI) vwCl (b_p cB cC cI cJ cZ oA rA σ_31 ++ b_r cB cC cI cJ cZ oA rA σ_31) H := by rw [eσ_31]; exact cs_pr_p_8 ▸ hP'
  clear hP'
  refine lv_aload_n hx hb dX6_copy_142 rfl (lv_at hl 0 rfl) ?_
  refine lv_aload_n hx hb dX6_copy_143 rfl (lv_at hl 1 rfl) ?_
  refine va_get (D := (dC, dI)) (ci := 6) (v := .int ((σ_31 12).1 9)) (C := RX6) (T := TX6) (N := 12) hx hb hts ii_X6 hown hK hP 8 rfl rfl 9 (by decide) (hts (.fieldLink RX6 47 "StoryHouse$Play" "turns" "I") wq_243) (fun _ h9 => h9) rfl dX6_copy_144 ?_
  obtain ⟨σ_33, eσ_33, hF_34⟩ := bnd_e hF_32
  clear hF_32
  refine va_put (D := (dC, dI)) (ci := 6) (v := .int ((σ_31 12).1 9)) (ty := .int) (C := RX6) (T := TX6) (N := 12) hx hb hts ii_X6 tyX6 tyX6_ok nmX6 hown hK hP (hDD _) hS 0 rfl rfl 9 (by decide) (hts (.fieldLink RX6 47 "StoryHouse$Play" "turns" "I") wq_243) (fun _ h9 => h9) rfl (by decide +kernel) rfl rfl (Nat.le_of_ble_eq_true rfl) dX6_copy_147 (fun H locs hP' _ hS => ?_)
  have hP : va_P (dC, dI) vwCl (b_p cB cC cI cJ cZ oA rA σ_33 ++ b_r cB cC cI cJ cZ oA rA σ_33) H := by rw [eσ_33]; exact cs_pr_p_9 ▸ hP'
  clear hP'
  refine lv_aload_n hx hb dX6_copy_150 rfl (lv_at hl 0 rfl) ?_
  refine lv_aload_n hx hb dX6_copy_151 rfl (lv_at hl 1 rfl) ?_
  refine va_get (D := (dC, dI)) (ci := 6) (v := .int ((σ_33 12).1 10)) (C := RX6) (T := TX6) (N := 12) hx hb hts ii_X6 hown hK hP 8 rfl rfl 10 (by decide) (hts (.fieldLink RX6 50 "StoryHouse$Play" "ended" "I") wq_247) (fun _ h9 => h9) rfl dX6_copy_152 ?_
  obtain ⟨σ_35, eσ_35, hF_36⟩ := bnd_e hF_34
  clear hF_34
  refine va_put (D := (dC, dI)) (ci := 6) (v := .int ((σ_33 12).1 10)) (ty := .int) (C := RX6) (T := TX6) (N := 12) hx hb hts ii_X6 tyX6 tyX6_ok nmX6 hown hK hP (hDD _) hS 0 rfl rfl 10 (by decide) (hts (.fieldLink RX6 50 "StoryHouse$Play" "ended" "I") wq_247) (fun _ h9 => h9) rfl (by decide +kernel) rfl rfl (Nat.le_of_ble_eq_true rfl) dX6_copy_155 (fun H locs hP' _ hS => ?_)
  have hP : va_P (dC, dI) vwCl (b_p cB cC cI cJ cZ oA rA σ_35 ++ b_r cB cC cI cJ cZ oA rA σ_35) H := by rw [eσ_35]; exact cs_pr_p_10 ▸ hP'
  clear hP'
  refine lv_aload_n hx hb dX6_copy_158 rfl (lv_at hl 0 rfl) ?_
  refine lv_aload_n hx hb dX6_copy_159 rfl (lv_at hl 1 rfl) ?_
  refine va_get (D := (dC, dI)) (ci := 6) (v := .int ((σ_35 12).1 11)) (C := RX6) (T := TX6) (N := 12) hx hb hts ii_X6 hown hK hP 8 rfl rfl 11 (by decide) (hts (.fieldLink RX6 53 "StoryHouse$Play" "it" "I") wq_250) (fun _ h9 => h9) rfl dX6_copy_160 ?_
  obtain ⟨σ_37, eσ_37, hF_38⟩ := bnd_e hF_36
  clear hF_36
  refine va_put (D := (dC, dI)) (ci := 6) (v := .int ((σ_35 12).1 11)) (ty := .int) (C := RX6) (T := TX6) (N := 12) hx hb hts ii_X6 tyX6 tyX6_ok nmX6 hown hK hP (hDD _) hS 0 rfl rfl 11 (by decide) (hts (.fieldLink RX6 53 "StoryHouse$Play" "it" "I") wq_250) (fun _ h9 => h9) rfl (by decide +kernel) rfl rfl (Nat.le_of_ble_eq_true rfl) dX6_copy_163 (fun H locs hP' _ hS => ?_)
  have hP : va_P (dC, dI) vwCl (b_p cB cC cI cJ cZ oA rA σ_37 ++ b_r cB cC cI cJ cZ oA rA σ_37) H := by rw [eσ_37]; exact cs_pr_p_11 ▸ hP'
  clear hP'
  have h9 := Option.some.inj hF_38
  subst h9
  exact W.vret hx hb hr (fun t ht hW => ⟨⟨(), rfl, trivial, m_end ht hP, hDD _⟩, hS.F ht⟩) hS.2.2 dX6_copy_166
theorem dX6_start_0 : decode cX6_start 0 = .ok (.aload_n 0, 1) := by decide +kernel
theorem dX6_start_1 : decode cX6_start 1 = .ok (.getfield 9, 3) := by decide +kernel
theorem dX6_start_4 : decode cX6_start 4 = .ok (.iconst 0, 1) := by decide +kernel
theorem dX6_start_5 : decode cX6_start 5 = .ok (.invokestatic 56, 3) := by decide +kernel
theorem dX6_start_8 : decode cX6_start 8 = .ok (.aload_n 0, 1) := by decide +kernel
theorem dX6_start_9 : decode cX6_start 9 = .ok (.getfield 15, 3) := by decide +kernel
theorem dX6_start_12 : decode cX6_start 12 = .ok (.iconst 0, 1) := by decide +kernel
theorem dX6_start_13 : decode cX6_start 13 = .ok (.invokestatic 56, 3) := by decide +kernel
theorem dX6_start_16 : decode cX6_start 16 = .ok (.aload_n 0, 1) := by decide +kernel
theorem dX6_start_17 : decode cX6_start 17 = .ok (.getfield 18, 3) := by decide +kernel
theorem dX6_start_20 : decode cX6_start 20 = .ok (.iconst 0, 1) := by decide +kernel
theorem dX6_start_21 : decode cX6_start 21 = .ok (.invokestatic 56, 3) := by decide +kernel
theorem dX6_start_24 : decode cX6_start 24 = .ok (.aload_n 1, 1) := by decide +kernel
theorem dX6_start_25 : decode cX6_start 25 = .ok (.getfield 62, 3) := by decide +kernel
theorem dX6_start_28 : decode cX6_start 28 = .ok (.iconst 0, 1) := by decide +kernel
theorem dX6_start_29 : decode cX6_start 29 = .ok (.aload_n 0, 1) := by decide +kernel
theorem dX6_start_30 : decode cX6_start 30 = .ok (.getfield 21, 3) := by decide +kernel
theorem dX6_start_33 : decode cX6_start 33 = .ok (.iconst 0, 1) := by decide +kernel
theorem dX6_start_34 : decode cX6_start 34 = .ok (.aload_n 0, 1) := by decide +kernel
theorem dX6_start_35 : decode cX6_start 35 = .ok (.getfield 21, 3) := by decide +kernel
theorem dX6_start_38 : decode cX6_start 38 = .ok (.arraylength, 1) := by decide +kernel
theorem dX6_start_39 : decode cX6_start 39 = .ok (.invokestatic 34, 3) := by decide +kernel
theorem dX6_start_42 : decode cX6_start 42 = .ok (.aload_n 1, 1) := by decide +kernel
theorem dX6_start_43 : decode cX6_start 43 = .ok (.getfield 65, 3) := by decide +kernel
theorem dX6_start_46 : decode cX6_start 46 = .ok (.iconst 0, 1) := by decide +kernel
theorem dX6_start_47 : decode cX6_start 47 = .ok (.aload_n 0, 1) := by decide +kernel
theorem dX6_start_48 : decode cX6_start 48 = .ok (.getfield 24, 3) := by decide +kernel
theorem dX6_start_51 : decode cX6_start 51 = .ok (.iconst 0, 1) := by decide +kernel
theorem dX6_start_52 : decode cX6_start 52 = .ok (.aload_n 0, 1) := by decide +kernel
theorem dX6_start_53 : decode cX6_start 53 = .ok (.getfield 24, 3) := by decide +kernel
theorem dX6_start_56 : decode cX6_start 56 = .ok (.arraylength, 1) := by decide +kernel
theorem dX6_start_57 : decode cX6_start 57 = .ok (.invokestatic 34, 3) := by decide +kernel
theorem dX6_start_60 : decode cX6_start 60 = .ok (.aload_n 0, 1) := by decide +kernel
theorem dX6_start_61 : decode cX6_start 61 = .ok (.getfield 27, 3) := by decide +kernel
theorem dX6_start_64 : decode cX6_start 64 = .ok (.iconst 0, 1) := by decide +kernel
theorem dX6_start_65 : decode cX6_start 65 = .ok (.invokestatic 56, 3) := by decide +kernel
theorem dX6_start_68 : decode cX6_start 68 = .ok (.aload_n 0, 1) := by decide +kernel
theorem dX6_start_69 : decode cX6_start 69 = .ok (.iconst 0, 1) := by decide +kernel
theorem dX6_start_70 : decode cX6_start 70 = .ok (.putfield 40, 3) := by decide +kernel
theorem dX6_start_73 : decode cX6_start 73 = .ok (.aload_n 0, 1) := by decide +kernel
theorem dX6_start_74 : decode cX6_start 74 = .ok (.iload_n 2, 1) := by decide +kernel
theorem dX6_start_75 : decode cX6_start 75 = .ok (.putfield 44, 3) := by decide +kernel
theorem dX6_start_78 : decode cX6_start 78 = .ok (.aload_n 0, 1) := by decide +kernel
theorem dX6_start_79 : decode cX6_start 79 = .ok (.iconst 0, 1) := by decide +kernel
theorem dX6_start_80 : decode cX6_start 80 = .ok (.putfield 47, 3) := by decide +kernel
theorem dX6_start_83 : decode cX6_start 83 = .ok (.aload_n 0, 1) := by decide +kernel
theorem dX6_start_84 : decode cX6_start 84 = .ok (.iconst 0, 1) := by decide +kernel
theorem dX6_start_85 : decode cX6_start 85 = .ok (.putfield 50, 3) := by decide +kernel
theorem dX6_start_88 : decode cX6_start 88 = .ok (.aload_n 0, 1) := by decide +kernel
theorem dX6_start_89 : decode cX6_start 89 = .ok (.iconst 0, 1) := by decide +kernel
theorem dX6_start_90 : decode cX6_start 90 = .ok (.putfield 53, 3) := by decide +kernel
theorem dX6_start_93 : decode cX6_start 93 = .ok (.aload_n 0, 1) := by decide +kernel
theorem dX6_start_94 : decode cX6_start 94 = .ok (.iconst 1, 1) := by decide +kernel
theorem dX6_start_95 : decode cX6_start 95 = .ok (.aload_n 1, 1) := by decide +kernel
theorem dX6_start_96 : decode cX6_start 96 = .ok (.invokevirtual 68, 3) := by decide +kernel
theorem dX6_start_99 : decode cX6_start 99 = .ok (.invokevirtual 72, 3) := by decide +kernel
theorem dX6_start_102 : decode cX6_start 102 = .ok (.iconst 2, 1) := by decide +kernel
theorem dX6_start_103 : decode cX6_start 103 = .ok (.istore_n 3, 1) := by decide +kernel
theorem dX6_start_104 : decode cX6_start 104 = .ok (.iload_n 3, 1) := by decide +kernel
theorem dX6_start_105 : decode cX6_start 105 = .ok (.bipush 120, 2) := by decide +kernel
theorem dX6_start_107 : decode cX6_start 107 = .ok (.if_icmp .gt 41, 3) := by decide +kernel
theorem dX6_start_110 : decode cX6_start 110 = .ok (.aload_n 1, 1) := by decide +kernel
theorem dX6_start_111 : decode cX6_start 111 = .ok (.iload_n 3, 1) := by decide +kernel
theorem dX6_start_112 : decode cX6_start 112 = .ok (.invokevirtual 76, 3) := by decide +kernel
theorem dX6_start_115 : decode cX6_start 115 = .ok (.ifCond .eq 33, 3) := by decide +kernel
theorem dX6_start_118 : decode cX6_start 118 = .ok (.aload_n 1, 1) := by decide +kernel
theorem dX6_start_119 : decode cX6_start 119 = .ok (.getfield 80, 3) := by decide +kernel
theorem dX6_start_122 : decode cX6_start 122 = .ok (.iload_n 3, 1) := by decide +kernel
theorem dX6_start_123 : decode cX6_start 123 = .ok (.invokestatic 83, 3) := by decide +kernel
theorem dX6_start_126 : decode cX6_start 126 = .ok (.ifCond .eq 16, 3) := by decide +kernel
theorem dX6_start_129 : decode cX6_start 129 = .ok (.aload_n 0, 1) := by decide +kernel
theorem dX6_start_130 : decode cX6_start 130 = .ok (.iload_n 3, 1) := by decide +kernel
theorem dX6_start_131 : decode cX6_start 131 = .ok (.aload_n 1, 1) := by decide +kernel
theorem dX6_start_132 : decode cX6_start 132 = .ok (.getfield 80, 3) := by decide +kernel
theorem dX6_start_135 : decode cX6_start 135 = .ok (.iload_n 3, 1) := by decide +kernel
theorem dX6_start_136 : decode cX6_start 136 = .ok (.invokestatic 83, 3) := by decide +kernel
theorem dX6_start_139 : decode cX6_start 139 = .ok (.invokevirtual 72, 3) := by decide +kernel
theorem dX6_start_142 : decode cX6_start 142 = .ok (.iinc 3 1, 3) := by decide +kernel
theorem dX6_start_145 : decode cX6_start 145 = .ok (.goto (-41), 3) := by decide +kernel
theorem dX6_start_148 : decode cX6_start 148 = .ok (.return_, 1) := by decide +kernel
def F_X6_start (p1 : Int32) (Γ : HS) : HR :=
  bnd (cA' Γ 9 0 (g_fill 121 ((Γ 9).2.1 0) 0)) fun σ_1 =>
  bnd (cA' σ_1 9 1 (g_fill 121 ((σ_1 9).2.1 1) 0)) fun σ_3 =>
  bnd (cA' σ_3 9 2 (g_fill 121 ((σ_3 9).2.1 2) 0)) fun σ_5 =>
  if 0 < 0 ∨ 0 < 0 ∨ 121 < 0 ∨ 121 < (0 : Int32).toNatClampNeg + (121 : Int32).toNatClampNeg ∨ 121 < (0 : Int32).toNatClampNeg + (121 : Int32).toNatClampNeg then none else
  bnd (cA' σ_5 9 3 (va_cpy ((σ_5 4).2.1 5) ((σ_5 9).2.1 3) (0 : Int32).toNatClampNeg (0 : Int32).toNatClampNeg (121 : Int32).toNatClampNeg)) fun σ_9 =>
  if 0 < 0 ∨ 0 < 0 ∨ 100 < 0 ∨ 100 < (0 : Int32).toNatClampNeg + (100 : Int32).toNatClampNeg ∨ 100 < (0 : Int32).toNatClampNeg + (100 : Int32).toNatClampNeg then none else
  bnd (cA' σ_9 9 4 (va_cpy ((σ_9 4).2.1 11) ((σ_9 9).2.1 4) (0 : Int32).toNatClampNeg (0 : Int32).toNatClampNeg (100 : Int32).toNatClampNeg)) fun σ_13 =>
  bnd (cA' σ_13 9 5 (g_fill 1000 ((σ_13 9).2.1 5) 0)) fun σ_15 =>
  bnd (cI' σ_15 9 7 0) fun σ_17 =>
  bnd (cI' σ_17 9 8 p1) fun σ_19 =>
  bnd (cI' σ_19 9 9 0) fun σ_21 =>
  bnd (cI' σ_21 9 10 0) fun σ_23 =>
  bnd (cI' σ_23 9 11 0) fun σ_25 =>
  (F_X7_firstRoom σ_25).bind fun u_27 =>
  bnd (mrg (fun j => j == 4 || j == 5 || j == 6 || j == 7) σ_25 u_27.2) fun σ_29 =>
  (F_X6_moveInto 1 u_27.1 σ_29).bind fun u_31 =>
  bnd (mrg (fun j => j == 9) σ_29 u_31.2) fun σ_33 =>
  loopF (fun (again_36 : (Int32 × HS) → HR) (s_35 : Int32 × HS) => (
    if 120 < s_35.1 then (
      some (0, s_35.2)
    ) else (
      (F_X7_isObject s_35.1 s_35.2).bind fun u_42 =>
      bnd (mrg (fun j => j == 4 || j == 5 || j == 6 || j == 7) s_35.2 u_42.2) fun σ_44 =>
      if u_42.1 = 0 then (
        some (0, σ_44)
      ) else (
        bnd ((g_at 121 ((σ_44 4).2.1 4) s_35.1)) fun (x_49 : Int32) =>
        bnd (fun  (σ_51 : HS) => (
          bnd (s_35.1 + 1) fun (x_55 : Int32) =>
          again_36 (x_55, σ_51)
        ) : HS → HR) fun j_52 =>
        if x_49 = 0 then (
          j_52  σ_44
        ) else (
          bnd ((g_at 121 ((σ_44 4).2.1 4) s_35.1)) fun (x_60 : Int32) =>
          (F_X6_moveInto s_35.1 x_60 σ_44).bind fun u_62 =>
          bnd (mrg (fun j => j == 9) σ_44 u_62.2) fun σ_64 =>
          j_52  σ_64
        )
      )
    )
  )) FU (2, σ_33)
set_option maxHeartbeats 4000000 in
set_option maxRecDepth 100000 in
theorem k_X6_start (l : Launch) (dC : Nat → ClassId) (dI : Nat → Nat → Nat) (cB cC cI cJ cZ cP : ClassId) (oA : Nat → Nat) (rA : Nat → Nat → Nat) (sz : Nat)  (p1 : Int32) (Γ : HS) (res : Int32 × HS) (hF : F_X6_start p1 Γ = some res) : Met l yX6_start (g_ws yX6_start cX6_start 4 none) ({ frames := 5, cells := 0, slots := 0, locals := 128 }) (va_Pc [.ref (oA 9), .ref (oA 4), .int p1] (g_B (dC, dI) [(cB, .byte), (cC, .char), (cI, .int), (cJ, .long), (cZ, .boolean), (cP, .object "StoryHouse$Play")] sz (b_p cB cC cI cJ cZ oA rA Γ ++ b_s cB cC cI cJ cZ oA rA Γ ++ b_c cB cC cI cJ cZ oA rA Γ ++ b_t cB cC cI cJ cZ oA rA Γ ++ b_d cB cC cI cJ cZ oA rA Γ) g_0)) (va_Qv (fun (_ : Unit) => True) (g_Bo (dC, dI) (va_A (b_p cB cC cI cJ cZ oA rA Γ ++ b_s cB cC cI cJ cZ oA rA Γ ++ b_c cB cC cI cJ cZ oA rA Γ ++ b_t cB cC cI cJ cZ oA rA Γ ++ b_d cB cC cI cJ cZ oA rA Γ) sz) (fun (_ : Unit) => (b_p cB cC cI cJ cZ oA rA res.2 ++ b_s cB cC cI cJ cZ oA rA res.2 ++ b_c cB cC cI cJ cZ oA rA res.2 ++ b_t cB cC cI cJ cZ oA rA res.2 ++ b_d cB cC cI cJ cZ oA rA res.2))) (va_A (b_p cB cC cI cJ cZ oA rA Γ ++ b_s cB cC cI cJ cZ oA rA Γ ++ b_c cB cC cI cJ cZ oA rA Γ ++ b_t cB cC cI cJ cZ oA rA Γ ++ b_d cB cC cI cJ cZ oA rA Γ) sz)) 0 0 (va_A (b_p cB cC cI cJ cZ oA rA Γ ++ b_s cB cC cI cJ cZ oA rA Γ ++ b_c cB cC cI cJ cZ oA rA Γ ++ b_t cB cC cI cJ cZ oA rA Γ ++ b_d cB cC cI cJ cZ oA rA Γ) sz) := by
  refine Met.ofW (cc := cX6_start) (maxL := 4) (ret := none) (by decide) rfl ?_
  intro p e s m args below meth c s₁ B hml hv
  obtain ⟨rfl, hsz, hP, hK, hD0, hE, hX⟩ := hv
  have hx := B.exec
  have hb := B.bytes
  have hr := B.returns
  have hts0 := atoms_spec (ws := g_ws yX6_start cX6_start 4 none) B.pre
  have hts : ∀ w ∈ lw_good, w.before ([.ref (oA 9), .ref (oA 4), .int p1] : List Value).toArray s = true := fun w z => hts0 w (List.mem_cons_of_mem _ z)
  have hown : s.vm.findClass RX6 = some m.cls := findClass_of_methodNamed B.named
  have hlocks := B.notSynchronized
  subst hsz
  have hD1 := hD0.self (sz := s.heap.size)
  generalize hAe : va_A (b_p cB cC cI cJ cZ oA rA Γ ++ b_s cB cC cI cJ cZ oA rA Γ ++ b_c cB cC cI cJ cZ oA rA Γ ++ b_t cB cC cI cJ cZ oA rA Γ ++ b_d cB cC cI cJ cZ oA rA Γ) s.heap.size = A at hD1 hE hX ⊢
  have hA : ∀ q : Nat, s.heap.size ≤ q → A q := fun q z => by rw [← hAe]; exact Or.inr z
  have hDD : ∀ Γ : HS, va_D A (b_p cB cC cI cJ cZ oA rA Γ ++ b_s cB cC cI cJ cZ oA rA Γ ++ b_c cB cC cI cJ cZ oA rA Γ ++ b_t cB cC cI cJ cZ oA rA Γ ++ b_d cB cC cI cJ cZ oA rA Γ) := fun Γ9 => va_D_fst (ws := (b_p cB cC cI cJ cZ oA rA Γ ++ b_s cB cC cI cJ cZ oA rA Γ ++ b_c cB cC cI cJ cZ oA rA Γ ++ b_t cB cC cI cJ cZ oA rA Γ ++ b_d cB cC cI cJ cZ oA rA Γ)) (ws' := (b_p cB cC cI cJ cZ oA rA Γ9 ++ b_s cB cC cI cJ cZ oA rA Γ9 ++ b_c cB cC cI cJ cZ oA rA Γ9 ++ b_t cB cC cI cJ cZ oA rA Γ9 ++ b_d cB cC cI cJ cZ oA rA Γ9)) rfl hD1
  have hN := hE.1
  have hS : va_S A s.heap s.heap [] := va_S.rf
  have hl := lv_entry ([.ref (oA 9), .ref (oA 4), .int p1]) (n := 4) (Nat.le_of_ble_eq_true rfl)
  rw [lg_entry_eq]
  generalize (lg_sl ([.ref (oA 9), .ref (oA 4), .int p1]) ++ List.replicate (4 - (lg_sl ([.ref (oA 9), .ref (oA 4), .int p1])).length) Slot.unset).toArray = ls at hl ⊢
  have hl : lv_has ls 4 [(0, .ref (oA 9)), (1, .ref (oA 4)), (2, .int p1)] := hl
  unfold F_X6_start at hF
  refine lv_aload_n hx hb dX6_start_0 rfl (lv_at hl 0 rfl) ?_
  refine va_get (D := (dC, dI)) (ci := 6) (v := .ref (rA 9 0)) (C := RX6) (T := TX6) (N := 12) hx hb hts ii_X6 hown hK hP 0 rfl rfl 0 (by decide) (hts (.fieldLink RX6 9 "StoryHouse$Play" "parents" "[I") wq_217) (fun _ h9 => h9) rfl dX6_start_1 ?_
  refine lv_iconst (v := 0) hx hb dX6_start_4 (by decide +kernel) ?_
  have hq9 : ((b_p cB cC cI cJ cZ oA rA Γ ++ b_s cB cC cI cJ cZ oA rA Γ ++ b_c cB cC cI cJ cZ oA rA Γ ++ b_t cB cC cI cJ cZ oA rA Γ ++ b_d cB cC cI cJ cZ oA rA Γ))[1]? = some (rA 9 0, .inl (cI, 121, .inl ((Γ 9).2.1 0))) := rfl
  have hPc := hP.sub (ws' := [(rA 9 0, .inl (cI, 121, .inl ((Γ 9).2.1 0)))]) [1] (pk_fm (er_C hq9))
  have hDc := (hDD Γ).sub (ws' := [(rA 9 0, .inl (cI, 121, .inl ((Γ 9).2.1 0)))]) [1] (by decide +kernel) (er_C hq9)
  have hFc := va_free (wc := [(rA 9 0, .inl (cI, 121, .inl ((Γ 9).2.1 0)))]) (hDD Γ) hS hA [1] (er_C hq9)
  refine g_ofv (wc := [(rA 9 0, .inl (cI, 121, .inl ((Γ 9).2.1 0)))]) (wr := (((b_p cB cC cI cJ cZ oA rA Γ ++ b_s cB cC cI cJ cZ oA rA Γ ++ b_c cB cC cI cJ cZ oA rA Γ ++ b_t cB cC cI cJ cZ oA rA Γ ++ b_d cB cC cI cJ cZ oA rA Γ)).eraseIdx 1)) hP (hDD Γ) hS hFc [1] ((List.range ((b_p cB cC cI cJ cZ oA rA Γ ++ b_s cB cC cI cJ cZ oA rA Γ ++ b_c cB cC cI cJ cZ oA rA Γ ++ b_t cB cC cI cJ cZ oA rA Γ ++ b_d cB cC cI cJ cZ oA rA Γ)).length).eraseIdx 1) (er_C hq9) er_R er_n er_d (va_runS (As := [.ref (rA 9 0), .int 0]) (rest := []) ⟨hx, hb, hml, hown, hts⟩ (c_fill l dC dI cB cC cI cJ cZ cP s.heap.size (rA 9 0) 0 121 ((Γ 9).2.1 0) (by decide)) (va_cwS 2 hts (g_gS wq_959 wq_340 wq_21 wq_341) rfl rfl rfl (by decide +kernel) ⟨Nat.le_of_ble_eq_true rfl, Nat.le_of_ble_eq_true rfl⟩) (g_preS g_bl0 hK hPc hDc hS hE hFc g_to0) rfl rfl hl.1 rfl (lv_room (Nat.le_of_ble_eq_true rfl)) dX6_start_5 ⟨Nat.le_of_ble_eq_true rfl, Nat.le_of_ble_eq_true rfl⟩) (fun g9 H locs hw9 hP' hD' hS => ?_)
  clear hPc hDc hFc hD'
  obtain ⟨σ_1, eσ_1, hF_2⟩ := bnd_e hF
  clear hF
  subst hw9
  have hP : va_P (dC, dI) vwCl (b_p cB cC cI cJ cZ oA rA σ_1 ++ b_s cB cC cI cJ cZ oA rA σ_1 ++ b_c cB cC cI cJ cZ oA rA σ_1 ++ b_t cB cC cI cJ cZ oA rA σ_1 ++ b_d cB cC cI cJ cZ oA rA σ_1) H := by rw [eσ_1]; exact cs_psctd_p_0 ▸ er_P hP' (er_lt hq9)
  clear hP' hq9
  refine lv_aload_n hx hb dX6_start_8 rfl (lv_at hl 0 rfl) ?_
  refine va_get (D := (dC, dI)) (ci := 6) (v := .ref (rA 9 1)) (C := RX6) (T := TX6) (N := 12) hx hb hts ii_X6 hown hK hP 0 rfl rfl 1 (by decide) (hts (.fieldLink RX6 15 "StoryHouse$Play" "firsts" "[I") wq_221) (fun _ h9 => h9) rfl dX6_start_9 ?_
  refine lv_iconst (v := 0) hx hb dX6_start_12 (by decide +kernel) ?_
  have hq9 : ((b_p cB cC cI cJ cZ oA rA σ_1 ++ b_s cB cC cI cJ cZ oA rA σ_1 ++ b_c cB cC cI cJ cZ oA rA σ_1 ++ b_t cB cC cI cJ cZ oA rA σ_1 ++ b_d cB cC cI cJ cZ oA rA σ_1))[2]? = some (rA 9 1, .inl (cI, 121, .inl ((σ_1 9).2.1 1))) := rfl
  have hPc := hP.sub (ws' := [(rA 9 1, .inl (cI, 121, .inl ((σ_1 9).2.1 1)))]) [2] (pk_fm (er_C hq9))
  have hDc := (hDD σ_1).sub (ws' := [(rA 9 1, .inl (cI, 121, .inl ((σ_1 9).2.1 1)))]) [2] (by decide +kernel) (er_C hq9)
  have hFc := va_free (wc := [(rA 9 1, .inl (cI, 121, .inl ((σ_1 9).2.1 1)))]) (hDD σ_1) hS hA [2] (er_C hq9)
  refine g_ofv (wc := [(rA 9 1, .inl (cI, 121, .inl ((σ_1 9).2.1 1)))]) (wr := (((b_p cB cC cI cJ cZ oA rA σ_1 ++ b_s cB cC cI cJ cZ oA rA σ_1 ++ b_c cB cC cI cJ cZ oA rA σ_1 ++ b_t cB cC cI cJ cZ oA rA σ_1 ++ b_d cB cC cI cJ cZ oA rA σ_1)).eraseIdx 2)) hP (hDD σ_1) hS hFc [2] ((List.range ((b_p cB cC cI cJ cZ oA rA σ_1 ++ b_s cB cC cI cJ cZ oA rA σ_1 ++ b_c cB cC cI cJ cZ oA rA σ_1 ++ b_t cB cC cI cJ cZ oA rA σ_1 ++ b_d cB cC cI cJ cZ oA rA σ_1)).length).eraseIdx 2) (er_C hq9) er_R er_n er_d (va_runS (As := [.ref (rA 9 1), .int 0]) (rest := []) ⟨hx, hb, hml, hown, hts⟩ (c_fill l dC dI cB cC cI cJ cZ cP H.size (rA 9 1) 0 121 ((σ_1 9).2.1 1) (by decide)) (va_cwS 2 hts (g_gS wq_959 wq_340 wq_21 wq_341) rfl rfl rfl (by decide +kernel) ⟨Nat.le_of_ble_eq_true rfl, Nat.le_of_ble_eq_true rfl⟩) (g_preS g_bl0 hK hPc hDc hS hE hFc g_to0) rfl rfl hl.1 rfl (lv_room (Nat.le_of_ble_eq_true rfl)) dX6_start_13 ⟨Nat.le_of_ble_eq_true rfl, Nat.le_of_ble_eq_true rfl⟩) (fun g9 H locs hw9 hP' hD' hS => ?_)
  clear hPc hDc hFc hD'
  obtain ⟨σ_3, eσ_3, hF_4⟩ := bnd_e hF_2
  clear hF_2
  subst hw9
  have hP : va_P (dC, dI) vwCl (b_p cB cC cI cJ cZ oA rA σ_3 ++ b_s cB cC cI cJ cZ oA rA σ_3 ++ b_c cB cC cI cJ cZ oA rA σ_3 ++ b_t cB cC cI cJ cZ oA rA σ_3 ++ b_d cB cC cI cJ cZ oA rA σ_3) H := by rw [eσ_3]; exact cs_psctd_p_1 ▸ er_P hP' (er_lt hq9)
  clear hP' hq9
  refine lv_aload_n hx hb dX6_start_16 rfl (lv_at hl 0 rfl) ?_
  refine va_get (D := (dC, dI)) (ci := 6) (v := .ref (rA 9 2)) (C := RX6) (T := TX6) (N := 12) hx hb hts ii_X6 hown hK hP 0 rfl rfl 2 (by decide) (hts (.fieldLink RX6 18 "StoryHouse$Play" "nexts" "[I") wq_225) (fun _ h9 => h9) rfl dX6_start_17 ?_
  refine lv_iconst (v := 0) hx hb dX6_start_20 (by decide +kernel) ?_
  have hq9 : ((b_p cB cC cI cJ cZ oA rA σ_3 ++ b_s cB cC cI cJ cZ oA rA σ_3 ++ b_c cB cC cI cJ cZ oA rA σ_3 ++ b_t cB cC cI cJ cZ oA rA σ_3 ++ b_d cB cC cI cJ cZ oA rA σ_3))[3]? = some (rA 9 2, .inl (cI, 121, .inl ((σ_3 9).2.1 2))) := rfl
  have hPc := hP.sub (ws' := [(rA 9 2, .inl (cI, 121, .inl ((σ_3 9).2.1 2)))]) [3] (pk_fm (er_C hq9))
  have hDc := (hDD σ_3).sub (ws' := [(rA 9 2, .inl (cI, 121, .inl ((σ_3 9).2.1 2)))]) [3] (by decide +kernel) (er_C hq9)
  have hFc := va_free (wc := [(rA 9 2, .inl (cI, 121, .inl ((σ_3 9).2.1 2)))]) (hDD σ_3) hS hA [3] (er_C hq9)
  refine g_ofv (wc := [(rA 9 2, .inl (cI, 121, .inl ((σ_3 9).2.1 2)))]) (wr := (((b_p cB cC cI cJ cZ oA rA σ_3 ++ b_s cB cC cI cJ cZ oA rA σ_3 ++ b_c cB cC cI cJ cZ oA rA σ_3 ++ b_t cB cC cI cJ cZ oA rA σ_3 ++ b_d cB cC cI cJ cZ oA rA σ_3)).eraseIdx 3)) hP (hDD σ_3) hS hFc [3] ((List.range ((b_p cB cC cI cJ cZ oA rA σ_3 ++ b_s cB cC cI cJ cZ oA rA σ_3 ++ b_c cB cC cI cJ cZ oA rA σ_3 ++ b_t cB cC cI cJ cZ oA rA σ_3 ++ b_d cB cC cI cJ cZ oA rA σ_3)).length).eraseIdx 3) (er_C hq9) er_R er_n er_d (va_runS (As := [.ref (rA 9 2), .int 0]) (rest := []) ⟨hx, hb, hml, hown, hts⟩ (c_fill l dC dI cB cC cI cJ cZ cP H.size (rA 9 2) 0 121 ((σ_3 9).2.1 2) (by decide)) (va_cwS 2 hts (g_gS wq_959 wq_340 wq_21 wq_341) rfl rfl rfl (by decide +kernel) ⟨Nat.le_of_ble_eq_true rfl, Nat.le_of_ble_eq_true rfl⟩) (g_preS g_bl0 hK hPc hDc hS hE hFc g_to0) rfl rfl hl.1 rfl (lv_room (Nat.le_of_ble_eq_true rfl)) dX6_start_21 ⟨Nat.le_of_ble_eq_true rfl, Nat.le_of_ble_eq_true rfl⟩) (fun g9 H locs hw9 hP' hD' hS => ?_)
  clear hPc hDc hFc hD'
  obtain ⟨σ_5, eσ_5, hF_6⟩ := bnd_e hF_4
  clear hF_4
  subst hw9
  have hP : va_P (dC, dI) vwCl (b_p cB cC cI cJ cZ oA rA σ_5 ++ b_s cB cC cI cJ cZ oA rA σ_5 ++ b_c cB cC cI cJ cZ oA rA σ_5 ++ b_t cB cC cI cJ cZ oA rA σ_5 ++ b_d cB cC cI cJ cZ oA rA σ_5) H := by rw [eσ_5]; exact cs_psctd_p_2 ▸ er_P hP' (er_lt hq9)
  clear hP' hq9
  refine lv_aload_n hx hb dX6_start_24 rfl (lv_at hl 1 rfl) ?_
  refine va_get (D := (dC, dI)) (ci := 7) (v := .ref (rA 4 5)) (C := RX7) (T := TX7) (N := 19) hx hb hts ii_X7 hown hK hP 8 rfl rfl 5 (by decide) (hts (.fieldLink RX6 62 "StoryHouse$Story" "traits" "[I") wq_166) (fun _ h9 => h9) rfl dX6_start_25 ?_
  refine lv_iconst (v := 0) hx hb dX6_start_28 (by decide +kernel) ?_
  refine lv_aload_n hx hb dX6_start_29 rfl (lv_at hl 0 rfl) ?_
  refine va_get (D := (dC, dI)) (ci := 6) (v := .ref (rA 9 3)) (C := RX6) (T := TX6) (N := 12) hx hb hts ii_X6 hown hK hP 0 rfl rfl 3 (by decide) (hts (.fieldLink RX6 21 "StoryHouse$Play" "traits" "[I") wq_229) (fun _ h9 => h9) rfl dX6_start_30 ?_
  refine lv_iconst (v := 0) hx hb dX6_start_33 (by decide +kernel) ?_
  refine lv_aload_n hx hb dX6_start_34 rfl (lv_at hl 0 rfl) ?_
  refine va_get (D := (dC, dI)) (ci := 6) (v := .ref (rA 9 3)) (C := RX6) (T := TX6) (N := 12) hx hb hts ii_X6 hown hK hP 0 rfl rfl 3 (by decide) (hts (.fieldLink RX6 21 "StoryHouse$Play" "traits" "[I") wq_229) (fun _ h9 => h9) rfl dX6_start_35 ?_
  refine va_alen (v := 121) hx hb hK hP 4 2 rfl rfl (by first | rfl | decide +kernel) dX6_start_38 ?_
  obtain ⟨g_7, hF_8⟩ := nif_e hF_6
  clear hF_6
  obtain ⟨σ_9, eσ_9, hF_10⟩ := bnd_e hF_8
  clear hF_8
  refine va_copyi (f := (σ_5 4).2.1 5) (g := (σ_5 9).2.1 3) hx hb (hml.trans hl.1.symm) hown (hts (.methodLink RX6 34 arraycopyName) wq_960) (hts (.native arraycopyName) wq_338) (hts (.static arraycopyName) wq_337) (hts (.initialized RJ10) wq_20) hK hP (hDD _) hS 14 4 2 2 rfl rfl rfl rfl rfl (by decide) (by decide) (by decide) (Nat.not_lt.mp (fun z => g_7 (Or.inr (Or.inr (Or.inr (Or.inl z)))))) (Nat.not_lt.mp (fun z => g_7 (Or.inr (Or.inr (Or.inr (Or.inr z)))))) (fun _ _ => rfl) (by decide +kernel) (by decide +kernel) dX6_start_39 (fun H locs hP' _ hS => ?_)
  have hP : va_P (dC, dI) vwCl (b_p cB cC cI cJ cZ oA rA σ_9 ++ b_s cB cC cI cJ cZ oA rA σ_9 ++ b_c cB cC cI cJ cZ oA rA σ_9 ++ b_t cB cC cI cJ cZ oA rA σ_9 ++ b_d cB cC cI cJ cZ oA rA σ_9) H := by rw [eσ_9]; exact cs_psctd_p_3 ▸ hP'
  clear hP'
  refine lv_aload_n hx hb dX6_start_42 rfl (lv_at hl 1 rfl) ?_
  refine va_get (D := (dC, dI)) (ci := 7) (v := .ref (rA 4 11)) (C := RX7) (T := TX7) (N := 19) hx hb hts ii_X7 hown hK hP 8 rfl rfl 11 (by decide) (hts (.fieldLink RX6 65 "StoryHouse$Story" "initials" "[I") wq_179) (fun _ h9 => h9) rfl dX6_start_43 ?_
  refine lv_iconst (v := 0) hx hb dX6_start_46 (by decide +kernel) ?_
  refine lv_aload_n hx hb dX6_start_47 rfl (lv_at hl 0 rfl) ?_
  refine va_get (D := (dC, dI)) (ci := 6) (v := .ref (rA 9 4)) (C := RX6) (T := TX6) (N := 12) hx hb hts ii_X6 hown hK hP 0 rfl rfl 4 (by decide) (hts (.fieldLink RX6 24 "StoryHouse$Play" "vars" "[I") wq_230) (fun _ h9 => h9) rfl dX6_start_48 ?_
  refine lv_iconst (v := 0) hx hb dX6_start_51 (by decide +kernel) ?_
  refine lv_aload_n hx hb dX6_start_52 rfl (lv_at hl 0 rfl) ?_
  refine va_get (D := (dC, dI)) (ci := 6) (v := .ref (rA 9 4)) (C := RX6) (T := TX6) (N := 12) hx hb hts ii_X6 hown hK hP 0 rfl rfl 4 (by decide) (hts (.fieldLink RX6 24 "StoryHouse$Play" "vars" "[I") wq_230) (fun _ h9 => h9) rfl dX6_start_53 ?_
  refine va_alen (v := 100) hx hb hK hP 5 2 rfl rfl (by first | rfl | decide +kernel) dX6_start_56 ?_
  obtain ⟨g_11, hF_12⟩ := nif_e hF_10
  clear hF_10
  obtain ⟨σ_13, eσ_13, hF_14⟩ := bnd_e hF_12
  clear hF_12
  refine va_copyi (f := (σ_9 4).2.1 11) (g := (σ_9 9).2.1 4) hx hb (hml.trans hl.1.symm) hown (hts (.methodLink RX6 34 arraycopyName) wq_960) (hts (.native arraycopyName) wq_338) (hts (.static arraycopyName) wq_337) (hts (.initialized RJ10) wq_20) hK hP (hDD _) hS 20 5 2 2 rfl rfl rfl rfl rfl (by decide) (by decide) (by decide) (Nat.not_lt.mp (fun z => g_11 (Or.inr (Or.inr (Or.inr (Or.inl z)))))) (Nat.not_lt.mp (fun z => g_11 (Or.inr (Or.inr (Or.inr (Or.inr z)))))) (fun _ _ => rfl) (by decide +kernel) (by decide +kernel) dX6_start_57 (fun H locs hP' _ hS => ?_)
  have hP : va_P (dC, dI) vwCl (b_p cB cC cI cJ cZ oA rA σ_13 ++ b_s cB cC cI cJ cZ oA rA σ_13 ++ b_c cB cC cI cJ cZ oA rA σ_13 ++ b_t cB cC cI cJ cZ oA rA σ_13 ++ b_d cB cC cI cJ cZ oA rA σ_13) H := by rw [eσ_13]; exact cs_psctd_p_4 ▸ hP'
  clear hP'
  refine lv_aload_n hx hb dX6_start_60 rfl (lv_at hl 0 rfl) ?_
  refine va_get (D := (dC, dI)) (ci := 6) (v := .ref (rA 9 5)) (C := RX6) (T := TX6) (N := 12) hx hb hts ii_X6 hown hK hP 0 rfl rfl 5 (by decide) (hts (.fieldLink RX6 27 "StoryHouse$Play" "cells" "[I") wq_233) (fun _ h9 => h9) rfl dX6_start_61 ?_
  refine lv_iconst (v := 0) hx hb dX6_start_64 (by decide +kernel) ?_
  have hq9 : ((b_p cB cC cI cJ cZ oA rA σ_13 ++ b_s cB cC cI cJ cZ oA rA σ_13 ++ b_c cB cC cI cJ cZ oA rA σ_13 ++ b_t cB cC cI cJ cZ oA rA σ_13 ++ b_d cB cC cI cJ cZ oA rA σ_13))[6]? = some (rA 9 5, .inl (cI, 1000, .inl ((σ_13 9).2.1 5))) := rfl
  have hPc := hP.sub (ws' := [(rA 9 5, .inl (cI, 1000, .inl ((σ_13 9).2.1 5)))]) [6] (pk_fm (er_C hq9))
  have hDc := (hDD σ_13).sub (ws' := [(rA 9 5, .inl (cI, 1000, .inl ((σ_13 9).2.1 5)))]) [6] (by decide +kernel) (er_C hq9)
  have hFc := va_free (wc := [(rA 9 5, .inl (cI, 1000, .inl ((σ_13 9).2.1 5)))]) (hDD σ_13) hS hA [6] (er_C hq9)
  refine g_ofv (wc := [(rA 9 5, .inl (cI, 1000, .inl ((σ_13 9).2.1 5)))]) (wr := (((b_p cB cC cI cJ cZ oA rA σ_13 ++ b_s cB cC cI cJ cZ oA rA σ_13 ++ b_c cB cC cI cJ cZ oA rA σ_13 ++ b_t cB cC cI cJ cZ oA rA σ_13 ++ b_d cB cC cI cJ cZ oA rA σ_13)).eraseIdx 6)) hP (hDD σ_13) hS hFc [6] ((List.range ((b_p cB cC cI cJ cZ oA rA σ_13 ++ b_s cB cC cI cJ cZ oA rA σ_13 ++ b_c cB cC cI cJ cZ oA rA σ_13 ++ b_t cB cC cI cJ cZ oA rA σ_13 ++ b_d cB cC cI cJ cZ oA rA σ_13)).length).eraseIdx 6) (er_C hq9) er_R er_n er_d (va_runS (As := [.ref (rA 9 5), .int 0]) (rest := []) ⟨hx, hb, hml, hown, hts⟩ (c_fill l dC dI cB cC cI cJ cZ cP H.size (rA 9 5) 0 1000 ((σ_13 9).2.1 5) (by decide)) (va_cwS 2 hts (g_gS wq_959 wq_340 wq_21 wq_341) rfl rfl rfl (by decide +kernel) ⟨Nat.le_of_ble_eq_true rfl, Nat.le_of_ble_eq_true rfl⟩) (g_preS g_bl0 hK hPc hDc hS hE hFc g_to0) rfl rfl hl.1 rfl (lv_room (Nat.le_of_ble_eq_true rfl)) dX6_start_65 ⟨Nat.le_of_ble_eq_true rfl, Nat.le_of_ble_eq_true rfl⟩) (fun g9 H locs hw9 hP' hD' hS => ?_)
  clear hPc hDc hFc hD'
  obtain ⟨σ_15, eσ_15, hF_16⟩ := bnd_e hF_14
  clear hF_14
  subst hw9
  have hP : va_P (dC, dI) vwCl (b_p cB cC cI cJ cZ oA rA σ_15 ++ b_s cB cC cI cJ cZ oA rA σ_15 ++ b_c cB cC cI cJ cZ oA rA σ_15 ++ b_t cB cC cI cJ cZ oA rA σ_15 ++ b_d cB cC cI cJ cZ oA rA σ_15) H := by rw [eσ_15]; exact cs_psctd_p_5 ▸ er_P hP' (er_lt hq9)
  clear hP' hq9
  refine lv_aload_n hx hb dX6_start_68 rfl (lv_at hl 0 rfl) ?_
  refine lv_iconst (v := 0) hx hb dX6_start_69 (by decide +kernel) ?_
  obtain ⟨σ_17, eσ_17, hF_18⟩ := bnd_e hF_16
  clear hF_16
  refine va_put (D := (dC, dI)) (ci := 6) (v := .int 0) (ty := .int) (C := RX6) (T := TX6) (N := 12) hx hb hts ii_X6 tyX6 tyX6_ok nmX6 hown hK hP (hDD _) hS 0 rfl rfl 7 (by decide) (hts (.fieldLink RX6 40 "StoryHouse$Play" "lineLength" "I") wq_239) (fun _ h9 => h9) rfl (by decide +kernel) rfl rfl (Nat.le_of_ble_eq_true rfl) dX6_start_70 (fun H locs hP' _ hS => ?_)
  have hP : va_P (dC, dI) vwCl (b_p cB cC cI cJ cZ oA rA σ_17 ++ b_s cB cC cI cJ cZ oA rA σ_17 ++ b_c cB cC cI cJ cZ oA rA σ_17 ++ b_t cB cC cI cJ cZ oA rA σ_17 ++ b_d cB cC cI cJ cZ oA rA σ_17) H := by rw [eσ_17]; exact cs_psctd_p_7 ▸ hP'
  clear hP'
  refine lv_aload_n hx hb dX6_start_73 rfl (lv_at hl 0 rfl) ?_
  refine lv_iload_n hx hb dX6_start_74 rfl (lv_at hl 2 rfl) ?_
  obtain ⟨σ_19, eσ_19, hF_20⟩ := bnd_e hF_18
  clear hF_18
  refine va_put (D := (dC, dI)) (ci := 6) (v := .int p1) (ty := .int) (C := RX6) (T := TX6) (N := 12) hx hb hts ii_X6 tyX6 tyX6_ok nmX6 hown hK hP (hDD _) hS 0 rfl rfl 8 (by decide) (hts (.fieldLink RX6 44 "StoryHouse$Play" "seed" "I") wq_240) (fun _ h9 => h9) rfl (by decide +kernel) rfl rfl (Nat.le_of_ble_eq_true rfl) dX6_start_75 (fun H locs hP' _ hS => ?_)
  have hP : va_P (dC, dI) vwCl (b_p cB cC cI cJ cZ oA rA σ_19 ++ b_s cB cC cI cJ cZ oA rA σ_19 ++ b_c cB cC cI cJ cZ oA rA σ_19 ++ b_t cB cC cI cJ cZ oA rA σ_19 ++ b_d cB cC cI cJ cZ oA rA σ_19) H := by rw [eσ_19]; exact cs_psctd_p_8 ▸ hP'
  clear hP'
  refine lv_aload_n hx hb dX6_start_78 rfl (lv_at hl 0 rfl) ?_
  refine lv_iconst (v := 0) hx hb dX6_start_79 (by decide +kernel) ?_
  obtain ⟨σ_21, eσ_21, hF_22⟩ := bnd_e hF_20
  clear hF_20
  refine va_put (D := (dC, dI)) (ci := 6) (v := .int 0) (ty := .int) (C := RX6) (T := TX6) (N := 12) hx hb hts ii_X6 tyX6 tyX6_ok nmX6 hown hK hP (hDD _) hS 0 rfl rfl 9 (by decide) (hts (.fieldLink RX6 47 "StoryHouse$Play" "turns" "I") wq_243) (fun _ h9 => h9) rfl (by decide +kernel) rfl rfl (Nat.le_of_ble_eq_true rfl) dX6_start_80 (fun H locs hP' _ hS => ?_)
  have hP : va_P (dC, dI) vwCl (b_p cB cC cI cJ cZ oA rA σ_21 ++ b_s cB cC cI cJ cZ oA rA σ_21 ++ b_c cB cC cI cJ cZ oA rA σ_21 ++ b_t cB cC cI cJ cZ oA rA σ_21 ++ b_d cB cC cI cJ cZ oA rA σ_21) H := by rw [eσ_21]; exact cs_psctd_p_9 ▸ hP'
  clear hP'
  refine lv_aload_n hx hb dX6_start_83 rfl (lv_at hl 0 rfl) ?_
  refine lv_iconst (v := 0) hx hb dX6_start_84 (by decide +kernel) ?_
  obtain ⟨σ_23, eσ_23, hF_24⟩ := bnd_e hF_22
  clear hF_22
  refine va_put (D := (dC, dI)) (ci := 6) (v := .int 0) (ty := .int) (C := RX6) (T := TX6) (N := 12) hx hb hts ii_X6 tyX6 tyX6_ok nmX6 hown hK hP (hDD _) hS 0 rfl rfl 10 (by decide) (hts (.fieldLink RX6 50 "StoryHouse$Play" "ended" "I") wq_247) (fun _ h9 => h9) rfl (by decide +kernel) rfl rfl (Nat.le_of_ble_eq_true rfl) dX6_start_85 (fun H locs hP' _ hS => ?_)
  have hP : va_P (dC, dI) vwCl (b_p cB cC cI cJ cZ oA rA σ_23 ++ b_s cB cC cI cJ cZ oA rA σ_23 ++ b_c cB cC cI cJ cZ oA rA σ_23 ++ b_t cB cC cI cJ cZ oA rA σ_23 ++ b_d cB cC cI cJ cZ oA rA σ_23) H := by rw [eσ_23]; exact cs_psctd_p_10 ▸ hP'
  clear hP'
  refine lv_aload_n hx hb dX6_start_88 rfl (lv_at hl 0 rfl) ?_
  refine lv_iconst (v := 0) hx hb dX6_start_89 (by decide +kernel) ?_
  obtain ⟨σ_25, eσ_25, hF_26⟩ := bnd_e hF_24
  clear hF_24
  refine va_put (D := (dC, dI)) (ci := 6) (v := .int 0) (ty := .int) (C := RX6) (T := TX6) (N := 12) hx hb hts ii_X6 tyX6 tyX6_ok nmX6 hown hK hP (hDD _) hS 0 rfl rfl 11 (by decide) (hts (.fieldLink RX6 53 "StoryHouse$Play" "it" "I") wq_250) (fun _ h9 => h9) rfl (by decide +kernel) rfl rfl (Nat.le_of_ble_eq_true rfl) dX6_start_90 (fun H locs hP' _ hS => ?_)
  have hP : va_P (dC, dI) vwCl (b_p cB cC cI cJ cZ oA rA σ_25 ++ b_s cB cC cI cJ cZ oA rA σ_25 ++ b_c cB cC cI cJ cZ oA rA σ_25 ++ b_t cB cC cI cJ cZ oA rA σ_25 ++ b_d cB cC cI cJ cZ oA rA σ_25) H := by rw [eσ_25]; exact cs_psctd_p_11 ▸ hP'
  clear hP'
  refine lv_aload_n hx hb dX6_start_93 rfl (lv_at hl 0 rfl) ?_
  refine lv_iconst (v := 1) hx hb dX6_start_94 (by decide +kernel) ?_
  refine lv_aload_n hx hb dX6_start_95 rfl (lv_at hl 1 rfl) ?_
  obtain ⟨u_27, hu_27, hF_28⟩ := Option.bind_eq_some_iff.mp hF_26
  clear hF_26
  have hPc := bx_P (bs := [b_p cB cC cI cJ cZ oA rA σ_25, b_s cB cC cI cJ cZ oA rA σ_25, b_c cB cC cI cJ cZ oA rA σ_25, b_t cB cC cI cJ cZ oA rA σ_25, b_d cB cC cI cJ cZ oA rA σ_25]) (bs' := [b_s cB cC cI cJ cZ oA rA σ_25, b_c cB cC cI cJ cZ oA rA σ_25, b_t cB cC cI cJ cZ oA rA σ_25, b_d cB cC cI cJ cZ oA rA σ_25]) (ws' := (b_s cB cC cI cJ cZ oA rA σ_25 ++ b_c cB cC cI cJ cZ oA rA σ_25 ++ b_t cB cC cI cJ cZ oA rA σ_25 ++ b_d cB cC cI cJ cZ oA rA σ_25)) hP fl_5 fl_4 [1, 2, 3, 4] rfl
  have hDc := bx_D (bs := [b_p cB cC cI cJ cZ oA rA σ_25, b_s cB cC cI cJ cZ oA rA σ_25, b_c cB cC cI cJ cZ oA rA σ_25, b_t cB cC cI cJ cZ oA rA σ_25, b_d cB cC cI cJ cZ oA rA σ_25]) (bs' := [b_s cB cC cI cJ cZ oA rA σ_25, b_c cB cC cI cJ cZ oA rA σ_25, b_t cB cC cI cJ cZ oA rA σ_25, b_d cB cC cI cJ cZ oA rA σ_25]) (ws' := (b_s cB cC cI cJ cZ oA rA σ_25 ++ b_c cB cC cI cJ cZ oA rA σ_25 ++ b_t cB cC cI cJ cZ oA rA σ_25 ++ b_d cB cC cI cJ cZ oA rA σ_25)) (hDD σ_25) fl_5 fl_4 [1, 2, 3, 4] (by decide +kernel) rfl
  have hFc := bx_F (bs := [b_p cB cC cI cJ cZ oA rA σ_25, b_s cB cC cI cJ cZ oA rA σ_25, b_c cB cC cI cJ cZ oA rA σ_25, b_t cB cC cI cJ cZ oA rA σ_25, b_d cB cC cI cJ cZ oA rA σ_25]) (bs' := [b_s cB cC cI cJ cZ oA rA σ_25, b_c cB cC cI cJ cZ oA rA σ_25, b_t cB cC cI cJ cZ oA rA σ_25, b_d cB cC cI cJ cZ oA rA σ_25]) (wc := (b_s cB cC cI cJ cZ oA rA σ_25 ++ b_c cB cC cI cJ cZ oA rA σ_25 ++ b_t cB cC cI cJ cZ oA rA σ_25 ++ b_d cB cC cI cJ cZ oA rA σ_25)) (hDD σ_25) hS hA fl_5 fl_4 [1, 2, 3, 4] rfl
  refine g_ofi (wc := (b_s cB cC cI cJ cZ oA rA σ_25 ++ b_c cB cC cI cJ cZ oA rA σ_25 ++ b_t cB cC cI cJ cZ oA rA σ_25 ++ b_d cB cC cI cJ cZ oA rA σ_25)) (wr := (b_p cB cC cI cJ cZ oA rA σ_25)) hP (hDD σ_25) hS hFc (bx_ix [b_p cB cC cI cJ cZ oA rA σ_25, b_s cB cC cI cJ cZ oA rA σ_25, b_c cB cC cI cJ cZ oA rA σ_25, b_t cB cC cI cJ cZ oA rA σ_25, b_d cB cC cI cJ cZ oA rA σ_25] [1, 2, 3, 4]) (bx_ix [b_p cB cC cI cJ cZ oA rA σ_25, b_s cB cC cI cJ cZ oA rA σ_25, b_c cB cC cI cJ cZ oA rA σ_25, b_t cB cC cI cJ cZ oA rA σ_25, b_d cB cC cI cJ cZ oA rA σ_25] [0]) (bx_C (bs := [b_p cB cC cI cJ cZ oA rA σ_25, b_s cB cC cI cJ cZ oA rA σ_25, b_c cB cC cI cJ cZ oA rA σ_25, b_t cB cC cI cJ cZ oA rA σ_25, b_d cB cC cI cJ cZ oA rA σ_25]) (bs' := [b_s cB cC cI cJ cZ oA rA σ_25, b_c cB cC cI cJ cZ oA rA σ_25, b_t cB cC cI cJ cZ oA rA σ_25, b_d cB cC cI cJ cZ oA rA σ_25]) (is := [1, 2, 3, 4]) fl_5 fl_4 rfl) (bx_C (bs := [b_p cB cC cI cJ cZ oA rA σ_25, b_s cB cC cI cJ cZ oA rA σ_25, b_c cB cC cI cJ cZ oA rA σ_25, b_t cB cC cI cJ cZ oA rA σ_25, b_d cB cC cI cJ cZ oA rA σ_25]) (bs' := [b_p cB cC cI cJ cZ oA rA σ_25]) (is := [0]) fl_5 fl_1 rfl) (bx_n (by decide +kernel)) (bx_d (by decide +kernel)) (va_runV (As := []) (rest := [.int 1, .ref (oA 9)]) ⟨hx, hb, hml, hown, hts⟩ (k_X7_firstRoom l dC dI cB cC cI cJ cZ cP oA rA H.size  σ_25 _ hu_27) (cwV 0 hts (g_gV wq_961 wq_812 wq_813 wq_5 wq_814) rfl rfl rfl (by decide +kernel) ⟨Nat.le_of_ble_eq_true rfl, Nat.le_of_ble_eq_true rfl⟩) (g_preV g_bl0 hK hPc hDc hS hE hFc g_to0 (q0 := 0) (ci := 7) rfl rfl) rfl rfl hl.1 rfl (lv_room (Nat.le_of_ble_eq_true rfl)) dX6_start_96 ⟨Nat.le_of_ble_eq_true rfl, Nat.le_of_ble_eq_true rfl⟩) (fun r9 u9 H locs hw9 hP' hD' hS => ?_)
  clear hPc hDc hFc
  subst hw9
  obtain ⟨σ_29, eσ_29, hF_30⟩ := bnd_e hF_28
  clear hF_28
  have hP : va_P (dC, dI) vwCl (b_p cB cC cI cJ cZ oA rA σ_29 ++ b_s cB cC cI cJ cZ oA rA σ_29 ++ b_c cB cC cI cJ cZ oA rA σ_29 ++ b_t cB cC cI cJ cZ oA rA σ_29 ++ b_d cB cC cI cJ cZ oA rA σ_29) H := by rw [eσ_29]; exact bx_P (bs := [b_p cB cC cI cJ cZ oA rA σ_25] ++ [b_s cB cC cI cJ cZ oA rA u_27.2, b_c cB cC cI cJ cZ oA rA u_27.2, b_t cB cC cI cJ cZ oA rA u_27.2, b_d cB cC cI cJ cZ oA rA u_27.2]) (bs' := [b_p cB cC cI cJ cZ oA rA (mrg (fun j => j == 4 || j == 5 || j == 6 || j == 7) σ_25 u_27.2), b_s cB cC cI cJ cZ oA rA (mrg (fun j => j == 4 || j == 5 || j == 6 || j == 7) σ_25 u_27.2), b_c cB cC cI cJ cZ oA rA (mrg (fun j => j == 4 || j == 5 || j == 6 || j == 7) σ_25 u_27.2), b_t cB cC cI cJ cZ oA rA (mrg (fun j => j == 4 || j == 5 || j == 6 || j == 7) σ_25 u_27.2), b_d cB cC cI cJ cZ oA rA (mrg (fun j => j == 4 || j == 5 || j == 6 || j == 7) σ_25 u_27.2)]) hP' (fl_a fl_1 fl_4) fl_5 [0, 1, 2, 3, 4] rfl
  clear hP' hD'
  obtain ⟨u_31, hu_31, hF_32⟩ := Option.bind_eq_some_iff.mp hF_30
  clear hF_30
  have hPc := bx_P (bs := [b_p cB cC cI cJ cZ oA rA σ_29, b_s cB cC cI cJ cZ oA rA σ_29, b_c cB cC cI cJ cZ oA rA σ_29, b_t cB cC cI cJ cZ oA rA σ_29, b_d cB cC cI cJ cZ oA rA σ_29]) (bs' := [b_p cB cC cI cJ cZ oA rA σ_29]) (ws' := (b_p cB cC cI cJ cZ oA rA σ_29)) hP fl_5 fl_1 [0] rfl
  have hDc := bx_D (bs := [b_p cB cC cI cJ cZ oA rA σ_29, b_s cB cC cI cJ cZ oA rA σ_29, b_c cB cC cI cJ cZ oA rA σ_29, b_t cB cC cI cJ cZ oA rA σ_29, b_d cB cC cI cJ cZ oA rA σ_29]) (bs' := [b_p cB cC cI cJ cZ oA rA σ_29]) (ws' := (b_p cB cC cI cJ cZ oA rA σ_29)) (hDD σ_29) fl_5 fl_1 [0] (by decide +kernel) rfl
  have hFc := bx_F (bs := [b_p cB cC cI cJ cZ oA rA σ_29, b_s cB cC cI cJ cZ oA rA σ_29, b_c cB cC cI cJ cZ oA rA σ_29, b_t cB cC cI cJ cZ oA rA σ_29, b_d cB cC cI cJ cZ oA rA σ_29]) (bs' := [b_p cB cC cI cJ cZ oA rA σ_29]) (wc := (b_p cB cC cI cJ cZ oA rA σ_29)) (hDD σ_29) hS hA fl_5 fl_1 [0] rfl
  refine g_ofv (wc := (b_p cB cC cI cJ cZ oA rA σ_29)) (wr := (b_s cB cC cI cJ cZ oA rA σ_29 ++ b_c cB cC cI cJ cZ oA rA σ_29 ++ b_t cB cC cI cJ cZ oA rA σ_29 ++ b_d cB cC cI cJ cZ oA rA σ_29)) hP (hDD σ_29) hS hFc (bx_ix [b_p cB cC cI cJ cZ oA rA σ_29, b_s cB cC cI cJ cZ oA rA σ_29, b_c cB cC cI cJ cZ oA rA σ_29, b_t cB cC cI cJ cZ oA rA σ_29, b_d cB cC cI cJ cZ oA rA σ_29] [0]) (bx_ix [b_p cB cC cI cJ cZ oA rA σ_29, b_s cB cC cI cJ cZ oA rA σ_29, b_c cB cC cI cJ cZ oA rA σ_29, b_t cB cC cI cJ cZ oA rA σ_29, b_d cB cC cI cJ cZ oA rA σ_29] [1, 2, 3, 4]) (bx_C (bs := [b_p cB cC cI cJ cZ oA rA σ_29, b_s cB cC cI cJ cZ oA rA σ_29, b_c cB cC cI cJ cZ oA rA σ_29, b_t cB cC cI cJ cZ oA rA σ_29, b_d cB cC cI cJ cZ oA rA σ_29]) (bs' := [b_p cB cC cI cJ cZ oA rA σ_29]) (is := [0]) fl_5 fl_1 rfl) (bx_C (bs := [b_p cB cC cI cJ cZ oA rA σ_29, b_s cB cC cI cJ cZ oA rA σ_29, b_c cB cC cI cJ cZ oA rA σ_29, b_t cB cC cI cJ cZ oA rA σ_29, b_d cB cC cI cJ cZ oA rA σ_29]) (bs' := [b_s cB cC cI cJ cZ oA rA σ_29, b_c cB cC cI cJ cZ oA rA σ_29, b_t cB cC cI cJ cZ oA rA σ_29, b_d cB cC cI cJ cZ oA rA σ_29]) (is := [1, 2, 3, 4]) fl_5 fl_4 rfl) (bx_n (by decide +kernel)) (bx_d (by decide +kernel)) (va_runV (As := [.int 1, .int u_27.1]) (rest := []) ⟨hx, hb, hml, hown, hts⟩ (k_X6_moveInto l dC dI cB cC cI cJ cZ cP oA rA H.size  1 u_27.1 σ_29 _ hu_31) (cwV 2 hts (g_gV wq_962 wq_963 wq_964 wq_10 wq_965) rfl rfl rfl (by decide +kernel) ⟨Nat.le_of_ble_eq_true rfl, Nat.le_of_ble_eq_true rfl⟩) (g_preV g_bl0 hK hPc hDc hS hE hFc g_to0 (q0 := 0) (ci := 6) rfl rfl) rfl rfl hl.1 rfl (lv_room (Nat.le_of_ble_eq_true rfl)) dX6_start_99 ⟨Nat.le_of_ble_eq_true rfl, Nat.le_of_ble_eq_true rfl⟩) (fun u9 H locs hw9 hP' hD' hS => ?_)
  clear hPc hDc hFc
  obtain ⟨σ_33, eσ_33, hF_34⟩ := bnd_e hF_32
  clear hF_32
  have hP : va_P (dC, dI) vwCl (b_p cB cC cI cJ cZ oA rA σ_33 ++ b_s cB cC cI cJ cZ oA rA σ_33 ++ b_c cB cC cI cJ cZ oA rA σ_33 ++ b_t cB cC cI cJ cZ oA rA σ_33 ++ b_d cB cC cI cJ cZ oA rA σ_33) H := by rw [eσ_33]; exact bx_P (bs := [b_s cB cC cI cJ cZ oA rA σ_29, b_c cB cC cI cJ cZ oA rA σ_29, b_t cB cC cI cJ cZ oA rA σ_29, b_d cB cC cI cJ cZ oA rA σ_29] ++ [b_p cB cC cI cJ cZ oA rA u_31.2]) (bs' := [b_p cB cC cI cJ cZ oA rA (mrg (fun j => j == 9) σ_29 u_31.2), b_s cB cC cI cJ cZ oA rA (mrg (fun j => j == 9) σ_29 u_31.2), b_c cB cC cI cJ cZ oA rA (mrg (fun j => j == 9) σ_29 u_31.2), b_t cB cC cI cJ cZ oA rA (mrg (fun j => j == 9) σ_29 u_31.2), b_d cB cC cI cJ cZ oA rA (mrg (fun j => j == 9) σ_29 u_31.2)]) hP' (fl_a fl_4 fl_1) fl_5 [4, 0, 1, 2, 3] rfl
  clear hP' hD'
  refine lv_iconst (v := 2) hx hb dX6_start_102 (by decide +kernel) ?_
  refine lv_istore_n (lv' := [(3, .int 2), (0, .ref (oA 9)), (1, .ref (oA 4)), (2, .int p1)]) hx hb dX6_start_103 rfl hl (by decide) rfl (fun ls hl => ?_)
  refine loopF_ind (P := fun (s_35 : Int32 × HS) => ∀ (H : Heap) (locs : List Loc), va_P (dC, dI) vwCl (b_p cB cC cI cJ cZ oA rA s_35.2 ++ b_s cB cC cI cJ cZ oA rA s_35.2 ++ b_c cB cC cI cJ cZ oA rA s_35.2 ++ b_t cB cC cI cJ cZ oA rA s_35.2 ++ b_d cB cC cI cJ cZ oA rA s_35.2) H → va_S A s.heap H locs → ∀ ls : Array Slot, lv_has ls 4 [(0, .ref (oA 9)), (1, .ref (oA 4)), (3, .int s_35.1)] → W p l e (headSpec (g_ws yX6_start cX6_start 4 none) { frames := 5, cells := 0, slots := 0, locals := 128 }).room s m ([.ref (oA 9), .ref (oA 4), .int p1] : List Value).toArray below meth c H locs 0 0 (MQ below (va_Qv (fun (_ : Unit) => True) (g_Bo (dC, dI) A (fun (_ : Unit) => (b_p cB cC cI cJ cZ oA rA res.2 ++ b_s cB cC cI cJ cZ oA rA res.2 ++ b_c cB cC cI cJ cZ oA rA res.2 ++ b_t cB cC cI cJ cZ oA rA res.2 ++ b_d cB cC cI cJ cZ oA rA res.2))) A) ([.ref (oA 9), .ref (oA 4), .int p1] : List Value).toArray s 0 0 A) (F0 m 104 ls [])) ?_ _ _ hF_34 _ _ hP hS ls (lv_sub hl [1, 2, 0] rfl)
  intro again_36 s_35 ih_37 hF_38
  intro H locs hP hS ls hl
  refine lv_iload_n hx hb dX6_start_104 rfl (lv_at hl 2 rfl) ?_
  refine lv_bipush (v := 120) hx hb dX6_start_105 (by decide +kernel) ?_
  refine lv_icmp_gt (tgt := 148) hx hb dX6_start_107 (by decide) (fun c_39 => ?_) (fun c_39 => ?_)
  · have hF_40 := ipos c_39 hF_38
    clear hF_38
    have h9 := Option.some.inj hF_40
    subst h9
    exact W.vret hx hb hr (fun t ht hW => ⟨⟨(), rfl, trivial, m_end ht hP, hDD _⟩, hS.F ht⟩) hS.2.2 dX6_start_148
  · have hF_41 := ineg c_39 hF_38
    clear hF_38
    refine lv_aload_n hx hb dX6_start_110 rfl (lv_at hl 1 rfl) ?_
    refine lv_iload_n hx hb dX6_start_111 rfl (lv_at hl 2 rfl) ?_
    obtain ⟨u_42, hu_42, hF_43⟩ := Option.bind_eq_some_iff.mp hF_41
    clear hF_41
    have hPc := bx_P (bs := [b_p cB cC cI cJ cZ oA rA s_35.2, b_s cB cC cI cJ cZ oA rA s_35.2, b_c cB cC cI cJ cZ oA rA s_35.2, b_t cB cC cI cJ cZ oA rA s_35.2, b_d cB cC cI cJ cZ oA rA s_35.2]) (bs' := [b_s cB cC cI cJ cZ oA rA s_35.2, b_c cB cC cI cJ cZ oA rA s_35.2, b_t cB cC cI cJ cZ oA rA s_35.2, b_d cB cC cI cJ cZ oA rA s_35.2]) (ws' := (b_s cB cC cI cJ cZ oA rA s_35.2 ++ b_c cB cC cI cJ cZ oA rA s_35.2 ++ b_t cB cC cI cJ cZ oA rA s_35.2 ++ b_d cB cC cI cJ cZ oA rA s_35.2)) hP fl_5 fl_4 [1, 2, 3, 4] rfl
    have hDc := bx_D (bs := [b_p cB cC cI cJ cZ oA rA s_35.2, b_s cB cC cI cJ cZ oA rA s_35.2, b_c cB cC cI cJ cZ oA rA s_35.2, b_t cB cC cI cJ cZ oA rA s_35.2, b_d cB cC cI cJ cZ oA rA s_35.2]) (bs' := [b_s cB cC cI cJ cZ oA rA s_35.2, b_c cB cC cI cJ cZ oA rA s_35.2, b_t cB cC cI cJ cZ oA rA s_35.2, b_d cB cC cI cJ cZ oA rA s_35.2]) (ws' := (b_s cB cC cI cJ cZ oA rA s_35.2 ++ b_c cB cC cI cJ cZ oA rA s_35.2 ++ b_t cB cC cI cJ cZ oA rA s_35.2 ++ b_d cB cC cI cJ cZ oA rA s_35.2)) (hDD s_35.2) fl_5 fl_4 [1, 2, 3, 4] (by decide +kernel) rfl
    have hFc := bx_F (bs := [b_p cB cC cI cJ cZ oA rA s_35.2, b_s cB cC cI cJ cZ oA rA s_35.2, b_c cB cC cI cJ cZ oA rA s_35.2, b_t cB cC cI cJ cZ oA rA s_35.2, b_d cB cC cI cJ cZ oA rA s_35.2]) (bs' := [b_s cB cC cI cJ cZ oA rA s_35.2, b_c cB cC cI cJ cZ oA rA s_35.2, b_t cB cC cI cJ cZ oA rA s_35.2, b_d cB cC cI cJ cZ oA rA s_35.2]) (wc := (b_s cB cC cI cJ cZ oA rA s_35.2 ++ b_c cB cC cI cJ cZ oA rA s_35.2 ++ b_t cB cC cI cJ cZ oA rA s_35.2 ++ b_d cB cC cI cJ cZ oA rA s_35.2)) (hDD s_35.2) hS hA fl_5 fl_4 [1, 2, 3, 4] rfl
    refine g_ofi (wc := (b_s cB cC cI cJ cZ oA rA s_35.2 ++ b_c cB cC cI cJ cZ oA rA s_35.2 ++ b_t cB cC cI cJ cZ oA rA s_35.2 ++ b_d cB cC cI cJ cZ oA rA s_35.2)) (wr := (b_p cB cC cI cJ cZ oA rA s_35.2)) hP (hDD s_35.2) hS hFc (bx_ix [b_p cB cC cI cJ cZ oA rA s_35.2, b_s cB cC cI cJ cZ oA rA s_35.2, b_c cB cC cI cJ cZ oA rA s_35.2, b_t cB cC cI cJ cZ oA rA s_35.2, b_d cB cC cI cJ cZ oA rA s_35.2] [1, 2, 3, 4]) (bx_ix [b_p cB cC cI cJ cZ oA rA s_35.2, b_s cB cC cI cJ cZ oA rA s_35.2, b_c cB cC cI cJ cZ oA rA s_35.2, b_t cB cC cI cJ cZ oA rA s_35.2, b_d cB cC cI cJ cZ oA rA s_35.2] [0]) (bx_C (bs := [b_p cB cC cI cJ cZ oA rA s_35.2, b_s cB cC cI cJ cZ oA rA s_35.2, b_c cB cC cI cJ cZ oA rA s_35.2, b_t cB cC cI cJ cZ oA rA s_35.2, b_d cB cC cI cJ cZ oA rA s_35.2]) (bs' := [b_s cB cC cI cJ cZ oA rA s_35.2, b_c cB cC cI cJ cZ oA rA s_35.2, b_t cB cC cI cJ cZ oA rA s_35.2, b_d cB cC cI cJ cZ oA rA s_35.2]) (is := [1, 2, 3, 4]) fl_5 fl_4 rfl) (bx_C (bs := [b_p cB cC cI cJ cZ oA rA s_35.2, b_s cB cC cI cJ cZ oA rA s_35.2, b_c cB cC cI cJ cZ oA rA s_35.2, b_t cB cC cI cJ cZ oA rA s_35.2, b_d cB cC cI cJ cZ oA rA s_35.2]) (bs' := [b_p cB cC cI cJ cZ oA rA s_35.2]) (is := [0]) fl_5 fl_1 rfl) (bx_n (by decide +kernel)) (bx_d (by decide +kernel)) (va_runV (As := [.int s_35.1]) (rest := []) ⟨hx, hb, hml, hown, hts⟩ (k_X7_isObject l dC dI cB cC cI cJ cZ cP oA rA H.size  s_35.1 s_35.2 _ hu_42) (cwV 1 hts (g_gV wq_970 wq_971 wq_972 wq_5 wq_973) rfl rfl rfl (by decide +kernel) ⟨Nat.le_of_ble_eq_true rfl, Nat.le_of_ble_eq_true rfl⟩) (g_preV g_bl0 hK hPc hDc hS hE hFc g_to0 (q0 := 0) (ci := 7) rfl rfl) rfl rfl hl.1 rfl (lv_room (Nat.le_of_ble_eq_true rfl)) dX6_start_112 ⟨Nat.le_of_ble_eq_true rfl, Nat.le_of_ble_eq_true rfl⟩) (fun r9 u9 H locs hw9 hP' hD' hS => ?_)
    clear hPc hDc hFc
    subst hw9
    obtain ⟨σ_44, eσ_44, hF_45⟩ := bnd_e hF_43
    clear hF_43
    have hP : va_P (dC, dI) vwCl (b_p cB cC cI cJ cZ oA rA σ_44 ++ b_s cB cC cI cJ cZ oA rA σ_44 ++ b_c cB cC cI cJ cZ oA rA σ_44 ++ b_t cB cC cI cJ cZ oA rA σ_44 ++ b_d cB cC cI cJ cZ oA rA σ_44) H := by rw [eσ_44]; exact bx_P (bs := [b_p cB cC cI cJ cZ oA rA s_35.2] ++ [b_s cB cC cI cJ cZ oA rA u_42.2, b_c cB cC cI cJ cZ oA rA u_42.2, b_t cB cC cI cJ cZ oA rA u_42.2, b_d cB cC cI cJ cZ oA rA u_42.2]) (bs' := [b_p cB cC cI cJ cZ oA rA (mrg (fun j => j == 4 || j == 5 || j == 6 || j == 7) s_35.2 u_42.2), b_s cB cC cI cJ cZ oA rA (mrg (fun j => j == 4 || j == 5 || j == 6 || j == 7) s_35.2 u_42.2), b_c cB cC cI cJ cZ oA rA (mrg (fun j => j == 4 || j == 5 || j == 6 || j == 7) s_35.2 u_42.2), b_t cB cC cI cJ cZ oA rA (mrg (fun j => j == 4 || j == 5 || j == 6 || j == 7) s_35.2 u_42.2), b_d cB cC cI cJ cZ oA rA (mrg (fun j => j == 4 || j == 5 || j == 6 || j == 7) s_35.2 u_42.2)]) hP' (fl_a fl_1 fl_4) fl_5 [0, 1, 2, 3, 4] rfl
    clear hP' hD'
    refine lv_if_eq (tgt := 148) hx hb dX6_start_115 (by decide) (fun c_46 => ?_) (fun c_46 => ?_)
    · have hF_47 := ipos c_46 hF_45
      clear hF_45
      have h9 := Option.some.inj hF_47
      subst h9
      exact W.vret hx hb hr (fun t ht hW => ⟨⟨(), rfl, trivial, m_end ht hP, hDD _⟩, hS.F ht⟩) hS.2.2 dX6_start_148
    · have hF_48 := ineg c_46 hF_45
      clear hF_45
      refine lv_aload_n hx hb dX6_start_118 rfl (lv_at hl 1 rfl) ?_
      refine va_get (D := (dC, dI)) (ci := 7) (v := .ref (rA 4 4)) (C := RX7) (T := TX7) (N := 19) hx hb hts ii_X7 hown hK hP 8 rfl rfl 4 (by decide) (hts (.fieldLink RX6 80 "StoryHouse$Story" "starts" "[I") wq_163) (fun _ h9 => h9) rfl dX6_start_119 ?_
      refine lv_iload_n hx hb dX6_start_122 rfl (lv_at hl 2 rfl) ?_
      have hq9 : ((b_p cB cC cI cJ cZ oA rA σ_44 ++ b_s cB cC cI cJ cZ oA rA σ_44 ++ b_c cB cC cI cJ cZ oA rA σ_44 ++ b_t cB cC cI cJ cZ oA rA σ_44 ++ b_d cB cC cI cJ cZ oA rA σ_44))[13]? = some (rA 4 4, .inl (cI, 121, .inl ((σ_44 4).2.1 4))) := rfl
      have hPc := hP.sub (ws' := [(rA 4 4, .inl (cI, 121, .inl ((σ_44 4).2.1 4)))]) [13] (pk_fm (er_C hq9))
      have hDc := (hDD σ_44).sub (ws' := [(rA 4 4, .inl (cI, 121, .inl ((σ_44 4).2.1 4)))]) [13] (by decide +kernel) (er_C hq9)
      have hFc := va_free (wc := [(rA 4 4, .inl (cI, 121, .inl ((σ_44 4).2.1 4)))]) (hDD σ_44) hS hA [13] (er_C hq9)
      refine g_ofi (wc := [(rA 4 4, .inl (cI, 121, .inl ((σ_44 4).2.1 4)))]) (wr := (((b_p cB cC cI cJ cZ oA rA σ_44 ++ b_s cB cC cI cJ cZ oA rA σ_44 ++ b_c cB cC cI cJ cZ oA rA σ_44 ++ b_t cB cC cI cJ cZ oA rA σ_44 ++ b_d cB cC cI cJ cZ oA rA σ_44)).eraseIdx 13)) hP (hDD σ_44) hS hFc [13] ((List.range ((b_p cB cC cI cJ cZ oA rA σ_44 ++ b_s cB cC cI cJ cZ oA rA σ_44 ++ b_c cB cC cI cJ cZ oA rA σ_44 ++ b_t cB cC cI cJ cZ oA rA σ_44 ++ b_d cB cC cI cJ cZ oA rA σ_44)).length).eraseIdx 13) (er_C hq9) er_R er_n er_d (va_runSN (As := [.ref (rA 4 4), .int s_35.1]) (rest := []) ⟨hx, hb, hml, hown, hts⟩ (c_X11_at l dC dI cB cC cI cJ cZ cP H.size (rA 4 4) s_35.1 121 ((σ_44 4).2.1 4) (by decide)) ⟨va_cnB 2 hts (g_gA wq_407) rfl rfl rfl (nw_28 hN) (hts (.initialized RX11) wq_1) (by decide +kernel) ⟨Nat.le_of_ble_eq_true rfl, Nat.le_of_ble_eq_true rfl⟩, (hts (.static yX11_at) wq_406), trivial⟩ (g_preS g_bl0 hK hPc hDc hS hE hFc g_to0) rfl rfl hl.1 rfl (lv_room (Nat.le_of_ble_eq_true rfl)) dX6_start_123 ⟨Nat.le_of_ble_eq_true rfl, Nat.le_of_ble_eq_true rfl⟩) (fun r9 u9 H locs hw9 hP' hD' hS => ?_)
      clear hPc hDc hFc hD'
      have hP : va_P (dC, dI) vwCl (b_p cB cC cI cJ cZ oA rA σ_44 ++ b_s cB cC cI cJ cZ oA rA σ_44 ++ b_c cB cC cI cJ cZ oA rA σ_44 ++ b_t cB cC cI cJ cZ oA rA σ_44 ++ b_d cB cC cI cJ cZ oA rA σ_44) H := er_I hP' hq9
      clear hP' hq9
      subst hw9
      obtain ⟨x_49, ex_49, hF_50⟩ := bnd_e hF_48
      clear hF_48
      refine m_top ex_49 ?_
      obtain ⟨j_52, ej_52, hF_53⟩ := bnd_e hF_50
      clear hF_50
      have Jj_52 : ∀  (σ_51 : HS), j_52  σ_51 = some res → ∀ (H : Heap) (locs : List Loc), va_P (dC, dI) vwCl (b_p cB cC cI cJ cZ oA rA σ_51 ++ b_s cB cC cI cJ cZ oA rA σ_51 ++ b_c cB cC cI cJ cZ oA rA σ_51 ++ b_t cB cC cI cJ cZ oA rA σ_51 ++ b_d cB cC cI cJ cZ oA rA σ_51) H → va_S A s.heap H locs → ∀ ls : Array Slot, lv_has ls 4 [(0, .ref (oA 9)), (1, .ref (oA 4)), (3, .int s_35.1)] → W p l e (headSpec (g_ws yX6_start cX6_start 4 none) { frames := 5, cells := 0, slots := 0, locals := 128 }).room s m ([.ref (oA 9), .ref (oA 4), .int p1] : List Value).toArray below meth c H locs 0 0 (MQ below (va_Qv (fun (_ : Unit) => True) (g_Bo (dC, dI) A (fun (_ : Unit) => (b_p cB cC cI cJ cZ oA rA res.2 ++ b_s cB cC cI cJ cZ oA rA res.2 ++ b_c cB cC cI cJ cZ oA rA res.2 ++ b_t cB cC cI cJ cZ oA rA res.2 ++ b_d cB cC cI cJ cZ oA rA res.2))) A) ([.ref (oA 9), .ref (oA 4), .int p1] : List Value).toArray s 0 0 A) (F0 m 142 ls []) := by
        intro  σ_51 hF0 H locs hP hS ls hl
        subst ej_52
        have hF_54 := hF0
        clear hF0
        obtain ⟨x_55, ex_55, hF_56⟩ := bnd_e hF_54
        clear hF_54
        refine lv_iinc (v := x_55) (lv' := [(3, .int x_55), (0, .ref (oA 9)), (1, .ref (oA 4))]) hx hb dX6_start_142 hl (k := 2) rfl (by rw [ex_55]; rfl) (by decide) rfl (fun ls hl => ?_)
        refine lv_goto (tgt := 104) hx hb dX6_start_145 (by decide) ?_
        exact ih_37 (x_55, σ_51) hF_56 _ _ hP hS ls (lv_sub hl [1, 2, 0] rfl)
      refine lv_if_eq (tgt := 142) hx hb dX6_start_126 (by decide) (fun c_57 => ?_) (fun c_57 => ?_)
      · have hF_58 := ipos c_57 hF_53
        clear hF_53
        exact Jj_52  σ_44 hF_58 _ _ hP hS ls (lv_sub hl [0, 1, 2] rfl)
      · have hF_59 := ineg c_57 hF_53
        clear hF_53
        refine lv_aload_n hx hb dX6_start_129 rfl (lv_at hl 0 rfl) ?_
        refine lv_iload_n hx hb dX6_start_130 rfl (lv_at hl 2 rfl) ?_
        refine lv_aload_n hx hb dX6_start_131 rfl (lv_at hl 1 rfl) ?_
        refine va_get (D := (dC, dI)) (ci := 7) (v := .ref (rA 4 4)) (C := RX7) (T := TX7) (N := 19) hx hb hts ii_X7 hown hK hP 8 rfl rfl 4 (by decide) (hts (.fieldLink RX6 80 "StoryHouse$Story" "starts" "[I") wq_163) (fun _ h9 => h9) rfl dX6_start_132 ?_
        refine lv_iload_n hx hb dX6_start_135 rfl (lv_at hl 2 rfl) ?_
        have hq9 : ((b_p cB cC cI cJ cZ oA rA σ_44 ++ b_s cB cC cI cJ cZ oA rA σ_44 ++ b_c cB cC cI cJ cZ oA rA σ_44 ++ b_t cB cC cI cJ cZ oA rA σ_44 ++ b_d cB cC cI cJ cZ oA rA σ_44))[13]? = some (rA 4 4, .inl (cI, 121, .inl ((σ_44 4).2.1 4))) := rfl
        have hPc := hP.sub (ws' := [(rA 4 4, .inl (cI, 121, .inl ((σ_44 4).2.1 4)))]) [13] (pk_fm (er_C hq9))
        have hDc := (hDD σ_44).sub (ws' := [(rA 4 4, .inl (cI, 121, .inl ((σ_44 4).2.1 4)))]) [13] (by decide +kernel) (er_C hq9)
        have hFc := va_free (wc := [(rA 4 4, .inl (cI, 121, .inl ((σ_44 4).2.1 4)))]) (hDD σ_44) hS hA [13] (er_C hq9)
        refine g_ofi (wc := [(rA 4 4, .inl (cI, 121, .inl ((σ_44 4).2.1 4)))]) (wr := (((b_p cB cC cI cJ cZ oA rA σ_44 ++ b_s cB cC cI cJ cZ oA rA σ_44 ++ b_c cB cC cI cJ cZ oA rA σ_44 ++ b_t cB cC cI cJ cZ oA rA σ_44 ++ b_d cB cC cI cJ cZ oA rA σ_44)).eraseIdx 13)) hP (hDD σ_44) hS hFc [13] ((List.range ((b_p cB cC cI cJ cZ oA rA σ_44 ++ b_s cB cC cI cJ cZ oA rA σ_44 ++ b_c cB cC cI cJ cZ oA rA σ_44 ++ b_t cB cC cI cJ cZ oA rA σ_44 ++ b_d cB cC cI cJ cZ oA rA σ_44)).length).eraseIdx 13) (er_C hq9) er_R er_n er_d (va_runSN (As := [.ref (rA 4 4), .int s_35.1]) (rest := [.int s_35.1, .ref (oA 9)]) ⟨hx, hb, hml, hown, hts⟩ (c_X11_at l dC dI cB cC cI cJ cZ cP H.size (rA 4 4) s_35.1 121 ((σ_44 4).2.1 4) (by decide)) ⟨va_cnB 2 hts (g_gA wq_407) rfl rfl rfl (nw_28 hN) (hts (.initialized RX11) wq_1) (by decide +kernel) ⟨Nat.le_of_ble_eq_true rfl, Nat.le_of_ble_eq_true rfl⟩, (hts (.static yX11_at) wq_406), trivial⟩ (g_preS g_bl0 hK hPc hDc hS hE hFc g_to0) rfl rfl hl.1 rfl (lv_room (Nat.le_of_ble_eq_true rfl)) dX6_start_136 ⟨Nat.le_of_ble_eq_true rfl, Nat.le_of_ble_eq_true rfl⟩) (fun r9 u9 H locs hw9 hP' hD' hS => ?_)
        clear hPc hDc hFc hD'
        have hP : va_P (dC, dI) vwCl (b_p cB cC cI cJ cZ oA rA σ_44 ++ b_s cB cC cI cJ cZ oA rA σ_44 ++ b_c cB cC cI cJ cZ oA rA σ_44 ++ b_t cB cC cI cJ cZ oA rA σ_44 ++ b_d cB cC cI cJ cZ oA rA σ_44) H := er_I hP' hq9
        clear hP' hq9
        subst hw9
        obtain ⟨x_60, ex_60, hF_61⟩ := bnd_e hF_59
        clear hF_59
        refine m_top ex_60 ?_
        obtain ⟨u_62, hu_62, hF_63⟩ := Option.bind_eq_some_iff.mp hF_61
        clear hF_61
        have hPc := bx_P (bs := [b_p cB cC cI cJ cZ oA rA σ_44, b_s cB cC cI cJ cZ oA rA σ_44, b_c cB cC cI cJ cZ oA rA σ_44, b_t cB cC cI cJ cZ oA rA σ_44, b_d cB cC cI cJ cZ oA rA σ_44]) (bs' := [b_p cB cC cI cJ cZ oA rA σ_44]) (ws' := (b_p cB cC cI cJ cZ oA rA σ_44)) hP fl_5 fl_1 [0] rfl
        have hDc := bx_D (bs := [b_p cB cC cI cJ cZ oA rA σ_44, b_s cB cC cI cJ cZ oA rA σ_44, b_c cB cC cI cJ cZ oA rA σ_44, b_t cB cC cI cJ cZ oA rA σ_44, b_d cB cC cI cJ cZ oA rA σ_44]) (bs' := [b_p cB cC cI cJ cZ oA rA σ_44]) (ws' := (b_p cB cC cI cJ cZ oA rA σ_44)) (hDD σ_44) fl_5 fl_1 [0] (by decide +kernel) rfl
        have hFc := bx_F (bs := [b_p cB cC cI cJ cZ oA rA σ_44, b_s cB cC cI cJ cZ oA rA σ_44, b_c cB cC cI cJ cZ oA rA σ_44, b_t cB cC cI cJ cZ oA rA σ_44, b_d cB cC cI cJ cZ oA rA σ_44]) (bs' := [b_p cB cC cI cJ cZ oA rA σ_44]) (wc := (b_p cB cC cI cJ cZ oA rA σ_44)) (hDD σ_44) hS hA fl_5 fl_1 [0] rfl
        refine g_ofv (wc := (b_p cB cC cI cJ cZ oA rA σ_44)) (wr := (b_s cB cC cI cJ cZ oA rA σ_44 ++ b_c cB cC cI cJ cZ oA rA σ_44 ++ b_t cB cC cI cJ cZ oA rA σ_44 ++ b_d cB cC cI cJ cZ oA rA σ_44)) hP (hDD σ_44) hS hFc (bx_ix [b_p cB cC cI cJ cZ oA rA σ_44, b_s cB cC cI cJ cZ oA rA σ_44, b_c cB cC cI cJ cZ oA rA σ_44, b_t cB cC cI cJ cZ oA rA σ_44, b_d cB cC cI cJ cZ oA rA σ_44] [0]) (bx_ix [b_p cB cC cI cJ cZ oA rA σ_44, b_s cB cC cI cJ cZ oA rA σ_44, b_c cB cC cI cJ cZ oA rA σ_44, b_t cB cC cI cJ cZ oA rA σ_44, b_d cB cC cI cJ cZ oA rA σ_44] [1, 2, 3, 4]) (bx_C (bs := [b_p cB cC cI cJ cZ oA rA σ_44, b_s cB cC cI cJ cZ oA rA σ_44, b_c cB cC cI cJ cZ oA rA σ_44, b_t cB cC cI cJ cZ oA rA σ_44, b_d cB cC cI cJ cZ oA rA σ_44]) (bs' := [b_p cB cC cI cJ cZ oA rA σ_44]) (is := [0]) fl_5 fl_1 rfl) (bx_C (bs := [b_p cB cC cI cJ cZ oA rA σ_44, b_s cB cC cI cJ cZ oA rA σ_44, b_c cB cC cI cJ cZ oA rA σ_44, b_t cB cC cI cJ cZ oA rA σ_44, b_d cB cC cI cJ cZ oA rA σ_44]) (bs' := [b_s cB cC cI cJ cZ oA rA σ_44, b_c cB cC cI cJ cZ oA rA σ_44, b_t cB cC cI cJ cZ oA rA σ_44, b_d cB cC cI cJ cZ oA rA σ_44]) (is := [1, 2, 3, 4]) fl_5 fl_4 rfl) (bx_n (by decide +kernel)) (bx_d (by decide +kernel)) (va_runV (As := [.int s_35.1, .int x_60]) (rest := []) ⟨hx, hb, hml, hown, hts⟩ (k_X6_moveInto l dC dI cB cC cI cJ cZ cP oA rA H.size  s_35.1 x_60 σ_44 _ hu_62) (cwV 2 hts (g_gV wq_962 wq_963 wq_964 wq_10 wq_965) rfl rfl rfl (by decide +kernel) ⟨Nat.le_of_ble_eq_true rfl, Nat.le_of_ble_eq_true rfl⟩) (g_preV g_bl0 hK hPc hDc hS hE hFc g_to0 (q0 := 0) (ci := 6) rfl rfl) rfl rfl hl.1 rfl (lv_room (Nat.le_of_ble_eq_true rfl)) dX6_start_139 ⟨Nat.le_of_ble_eq_true rfl, Nat.le_of_ble_eq_true rfl⟩) (fun u9 H locs hw9 hP' hD' hS => ?_)
        clear hPc hDc hFc
        obtain ⟨σ_64, eσ_64, hF_65⟩ := bnd_e hF_63
        clear hF_63
        have hP : va_P (dC, dI) vwCl (b_p cB cC cI cJ cZ oA rA σ_64 ++ b_s cB cC cI cJ cZ oA rA σ_64 ++ b_c cB cC cI cJ cZ oA rA σ_64 ++ b_t cB cC cI cJ cZ oA rA σ_64 ++ b_d cB cC cI cJ cZ oA rA σ_64) H := by rw [eσ_64]; exact bx_P (bs := [b_s cB cC cI cJ cZ oA rA σ_44, b_c cB cC cI cJ cZ oA rA σ_44, b_t cB cC cI cJ cZ oA rA σ_44, b_d cB cC cI cJ cZ oA rA σ_44] ++ [b_p cB cC cI cJ cZ oA rA u_62.2]) (bs' := [b_p cB cC cI cJ cZ oA rA (mrg (fun j => j == 9) σ_44 u_62.2), b_s cB cC cI cJ cZ oA rA (mrg (fun j => j == 9) σ_44 u_62.2), b_c cB cC cI cJ cZ oA rA (mrg (fun j => j == 9) σ_44 u_62.2), b_t cB cC cI cJ cZ oA rA (mrg (fun j => j == 9) σ_44 u_62.2), b_d cB cC cI cJ cZ oA rA (mrg (fun j => j == 9) σ_44 u_62.2)]) hP' (fl_a fl_4 fl_1) fl_5 [4, 0, 1, 2, 3] rfl
        clear hP' hD'
        exact Jj_52  σ_64 hF_65 _ _ hP hS ls (lv_sub hl [0, 1, 2] rfl)
theorem dX6_showsInside_0 : decode cX6_showsInside 0 = .ok (.bipush 17, 2) := by decide +kernel
theorem dX6_showsInside_2 : decode cX6_showsInside 2 = .ok (.istore_n 2, 1) := by decide +kernel
theorem dX6_showsInside_3 : decode cX6_showsInside 3 = .ok (.aload_n 0, 1) := by decide +kernel
theorem dX6_showsInside_4 : decode cX6_showsInside 4 = .ok (.getfield 21, 3) := by decide +kernel
theorem dX6_showsInside_7 : decode cX6_showsInside 7 = .ok (.iload_n 1, 1) := by decide +kernel
theorem dX6_showsInside_8 : decode cX6_showsInside 8 = .ok (.invokestatic 83, 3) := by decide +kernel
theorem dX6_showsInside_11 : decode cX6_showsInside 11 = .ok (.istore_n 3, 1) := by decide +kernel
theorem dX6_showsInside_12 : decode cX6_showsInside 12 = .ok (.iload_n 3, 1) := by decide +kernel
theorem dX6_showsInside_13 : decode cX6_showsInside 13 = .ok (.bipush 32, 2) := by decide +kernel
theorem dX6_showsInside_15 : decode cX6_showsInside 15 = .ok (.iand, 1) := by decide +kernel
theorem dX6_showsInside_16 : decode cX6_showsInside 16 = .ok (.ifCond .ne 10, 3) := by decide +kernel
theorem dX6_showsInside_19 : decode cX6_showsInside 19 = .ok (.iload_n 3, 1) := by decide +kernel
theorem dX6_showsInside_20 : decode cX6_showsInside 20 = .ok (.iload_n 2, 1) := by decide +kernel
theorem dX6_showsInside_21 : decode cX6_showsInside 21 = .ok (.iand, 1) := by decide +kernel
theorem dX6_showsInside_22 : decode cX6_showsInside 22 = .ok (.iload_n 2, 1) := by decide +kernel
theorem dX6_showsInside_23 : decode cX6_showsInside 23 = .ok (.if_icmp .ne 7, 3) := by decide +kernel
theorem dX6_showsInside_26 : decode cX6_showsInside 26 = .ok (.iconst 1, 1) := by decide +kernel
theorem dX6_showsInside_27 : decode cX6_showsInside 27 = .ok (.goto 4, 3) := by decide +kernel
theorem dX6_showsInside_30 : decode cX6_showsInside 30 = .ok (.iconst 0, 1) := by decide +kernel
theorem dX6_showsInside_31 : decode cX6_showsInside 31 = .ok (.ireturn, 1) := by decide +kernel
def F_X6_showsInside (p0 : Int32) (Γ : HS) : HR :=
  bnd ((g_at 121 ((Γ 9).2.1 3) p0)) fun (x_1 : Int32) =>
  if (x_1 &&& 32) = 0 then (
    if (x_1 &&& 17) = 17 then (
      some (1, Γ)
    ) else (
      some (0, Γ)
    )
  ) else (
    some (1, Γ)
  )
set_option maxHeartbeats 4000000 in
set_option maxRecDepth 100000 in
theorem k_X6_showsInside (l : Launch) (dC : Nat → ClassId) (dI : Nat → Nat → Nat) (cB cC cI cJ cZ cP : ClassId) (oA : Nat → Nat) (rA : Nat → Nat → Nat) (sz : Nat)  (p0 : Int32) (Γ : HS) (res : Int32 × HS) (hF : F_X6_showsInside p0 Γ = some res) : Met l yX6_showsInside (g_ws yX6_showsInside cX6_showsInside 4 (some .boolean)) ({ frames := 3, cells := 0, slots := 0, locals := 81 }) (va_Pc [.ref (oA 9), .int p0] (g_B (dC, dI) [(cB, .byte), (cC, .char), (cI, .int), (cJ, .long), (cZ, .boolean), (cP, .object "StoryHouse$Play")] sz (b_p cB cC cI cJ cZ oA rA Γ) g_0)) (va_Qi (fun r (_ : Unit) => r = res.1) (g_Bo (dC, dI) (va_A (b_p cB cC cI cJ cZ oA rA Γ) sz) (fun (_ : Unit) => (b_p cB cC cI cJ cZ oA rA res.2))) (va_A (b_p cB cC cI cJ cZ oA rA Γ) sz)) 0 0 (va_A (b_p cB cC cI cJ cZ oA rA Γ) sz) := by
  refine Met.ofW (cc := cX6_showsInside) (maxL := 4) (ret := (some .boolean)) (by decide) rfl ?_
  intro p e s m args below meth c s₁ B hml hv
  obtain ⟨rfl, hsz, hP, hK, hD0, hE, hX⟩ := hv
  have hx := B.exec
  have hb := B.bytes
  have hr := B.returns
  have hts0 := atoms_spec (ws := g_ws yX6_showsInside cX6_showsInside 4 (some .boolean)) B.pre
  have hts : ∀ w ∈ lw_good, w.before ([.ref (oA 9), .int p0] : List Value).toArray s = true := fun w z => hts0 w (List.mem_cons_of_mem _ z)
  have hown : s.vm.findClass RX6 = some m.cls := findClass_of_methodNamed B.named
  have hlocks := B.notSynchronized
  subst hsz
  have hD1 := hD0.self (sz := s.heap.size)
  generalize hAe : va_A (b_p cB cC cI cJ cZ oA rA Γ) s.heap.size = A at hD1 hE hX ⊢
  have hA : ∀ q : Nat, s.heap.size ≤ q → A q := fun q z => by rw [← hAe]; exact Or.inr z
  have hDD : ∀ Γ : HS, va_D A (b_p cB cC cI cJ cZ oA rA Γ) := fun Γ9 => va_D_fst (ws := (b_p cB cC cI cJ cZ oA rA Γ)) (ws' := (b_p cB cC cI cJ cZ oA rA Γ9)) rfl hD1
  have hN := hE.1
  have hS : va_S A s.heap s.heap [] := va_S.rf
  have hl := lv_entry ([.ref (oA 9), .int p0]) (n := 4) (Nat.le_of_ble_eq_true rfl)
  rw [lg_entry_eq]
  generalize (lg_sl ([.ref (oA 9), .int p0]) ++ List.replicate (4 - (lg_sl ([.ref (oA 9), .int p0])).length) Slot.unset).toArray = ls at hl ⊢
  have hl : lv_has ls 4 [(0, .ref (oA 9)), (1, .int p0)] := hl
  unfold F_X6_showsInside at hF
  refine lv_bipush (v := 17) hx hb dX6_showsInside_0 (by decide +kernel) ?_
  refine lv_istore_n (lv' := [(2, .int 17), (0, .ref (oA 9)), (1, .int p0)]) hx hb dX6_showsInside_2 rfl hl (by decide) rfl (fun ls hl => ?_)
  refine lv_aload_n hx hb dX6_showsInside_3 rfl (lv_at hl 1 rfl) ?_
  refine va_get (D := (dC, dI)) (ci := 6) (v := .ref (rA 9 3)) (C := RX6) (T := TX6) (N := 12) hx hb hts ii_X6 hown hK hP 0 rfl rfl 3 (by decide) (hts (.fieldLink RX6 21 "StoryHouse$Play" "traits" "[I") wq_229) (fun _ h9 => h9) rfl dX6_showsInside_4 ?_
  refine lv_iload_n hx hb dX6_showsInside_7 rfl (lv_at hl 2 rfl) ?_
  have hq9 : ((b_p cB cC cI cJ cZ oA rA Γ))[4]? = some (rA 9 3, .inl (cI, 121, .inl ((Γ 9).2.1 3))) := rfl
  have hPc := hP.sub (ws' := [(rA 9 3, .inl (cI, 121, .inl ((Γ 9).2.1 3)))]) [4] (pk_fm (er_C hq9))
  have hDc := (hDD Γ).sub (ws' := [(rA 9 3, .inl (cI, 121, .inl ((Γ 9).2.1 3)))]) [4] (by decide +kernel) (er_C hq9)
  have hFc := va_free (wc := [(rA 9 3, .inl (cI, 121, .inl ((Γ 9).2.1 3)))]) (hDD Γ) hS hA [4] (er_C hq9)
  refine g_ofi (wc := [(rA 9 3, .inl (cI, 121, .inl ((Γ 9).2.1 3)))]) (wr := (((b_p cB cC cI cJ cZ oA rA Γ)).eraseIdx 4)) hP (hDD Γ) hS hFc [4] ((List.range ((b_p cB cC cI cJ cZ oA rA Γ)).length).eraseIdx 4) (er_C hq9) er_R er_n er_d (va_runSN (As := [.ref (rA 9 3), .int p0]) (rest := []) ⟨hx, hb, hml, hown, hts⟩ (c_X11_at l dC dI cB cC cI cJ cZ cP s.heap.size (rA 9 3) p0 121 ((Γ 9).2.1 3) (by decide)) ⟨va_cnB 2 hts (g_gA wq_407) rfl rfl rfl (nw_28 hN) (hts (.initialized RX11) wq_1) (by decide +kernel) ⟨Nat.le_of_ble_eq_true rfl, Nat.le_of_ble_eq_true rfl⟩, (hts (.static yX11_at) wq_406), trivial⟩ (g_preS g_bl0 hK hPc hDc hS hE hFc g_to0) rfl rfl hl.1 rfl (lv_room (Nat.le_of_ble_eq_true rfl)) dX6_showsInside_8 ⟨Nat.le_of_ble_eq_true rfl, Nat.le_of_ble_eq_true rfl⟩) (fun r9 u9 H locs hw9 hP' hD' hS => ?_)
  clear hPc hDc hFc hD'
  have hP : va_P (dC, dI) vwCl (b_p cB cC cI cJ cZ oA rA Γ) H := er_I hP' hq9
  clear hP' hq9
  subst hw9
  obtain ⟨x_1, ex_1, hF_2⟩ := bnd_e hF
  clear hF
  refine m_top ex_1 ?_
  refine lv_istore_n (lv' := [(3, .int x_1), (2, .int 17), (0, .ref (oA 9)), (1, .int p0)]) hx hb dX6_showsInside_11 rfl hl (by decide) rfl (fun ls hl => ?_)
  refine lv_iload_n hx hb dX6_showsInside_12 rfl (lv_at hl 0 rfl) ?_
  refine lv_bipush (v := 32) hx hb dX6_showsInside_13 (by decide +kernel) ?_
  refine lv_iand hx hb dX6_showsInside_15 ?_
  refine lv_if_ne (tgt := 26) hx hb dX6_showsInside_16 (by decide) (fun c_3 => ?_) (fun c_3 => ?_)
  · have hF_8 := ineg c_3 hF_2
    clear hF_2
    refine lv_iconst (v := 1) hx hb dX6_showsInside_26 (by decide +kernel) ?_
    refine lv_goto (tgt := 31) hx hb dX6_showsInside_27 (by decide) ?_
    have h9 := Option.some.inj hF_8
    subst h9
    exact W.zret (v := 1) hx hb hr (by decide +kernel) (fun t ht hW => ⟨⟨1, (), rfl, rfl, m_end ht hP, hDD _⟩, hS.F ht⟩) hS.2.2 dX6_showsInside_31
  · have hF_4 := ipos c_3 hF_2
    clear hF_2
    refine lv_iload_n hx hb dX6_showsInside_19 rfl (lv_at hl 0 rfl) ?_
    refine lv_iload_n hx hb dX6_showsInside_20 rfl (lv_at hl 1 rfl) ?_
    refine lv_iand hx hb dX6_showsInside_21 ?_
    refine lv_iload_n hx hb dX6_showsInside_22 rfl (lv_at hl 1 rfl) ?_
    refine lv_icmp_ne (tgt := 30) hx hb dX6_showsInside_23 (by decide) (fun c_5 => ?_) (fun c_5 => ?_)
    · have hF_7 := ineg c_5 hF_4
      clear hF_4
      refine lv_iconst (v := 0) hx hb dX6_showsInside_30 (by decide +kernel) ?_
      have h9 := Option.some.inj hF_7
      subst h9
      exact W.zret (v := 0) hx hb hr (by decide +kernel) (fun t ht hW => ⟨⟨0, (), rfl, rfl, m_end ht hP, hDD _⟩, hS.F ht⟩) hS.2.2 dX6_showsInside_31
    · have hF_6 := ipos c_5 hF_4
      clear hF_4
      refine lv_iconst (v := 1) hx hb dX6_showsInside_26 (by decide +kernel) ?_
      refine lv_goto (tgt := 31) hx hb dX6_showsInside_27 (by decide) ?_
      have h9 := Option.some.inj hF_6
      subst h9
      exact W.zret (v := 1) hx hb hr (by decide +kernel) (fun t ht hW => ⟨⟨1, (), rfl, rfl, m_end ht hP, hDD _⟩, hS.F ht⟩) hS.2.2 dX6_showsInside_31
theorem dX6_sightOf_0 : decode cX6_sightOf 0 = .ok (.iload_n 1, 1) := by decide +kernel
theorem dX6_sightOf_1 : decode cX6_sightOf 1 = .ok (.istore_n 2, 1) := by decide +kernel
theorem dX6_sightOf_2 : decode cX6_sightOf 2 = .ok (.iconst 0, 1) := by decide +kernel
theorem dX6_sightOf_3 : decode cX6_sightOf 3 = .ok (.istore_n 3, 1) := by decide +kernel
theorem dX6_sightOf_4 : decode cX6_sightOf 4 = .ok (.iload_n 3, 1) := by decide +kernel
theorem dX6_sightOf_5 : decode cX6_sightOf 5 = .ok (.bipush 120, 2) := by decide +kernel
theorem dX6_sightOf_7 : decode cX6_sightOf 7 = .ok (.if_icmp .gt 58, 3) := by decide +kernel
theorem dX6_sightOf_10 : decode cX6_sightOf 10 = .ok (.iload_n 2, 1) := by decide +kernel
theorem dX6_sightOf_11 : decode cX6_sightOf 11 = .ok (.ifCond .eq 54, 3) := by decide +kernel
theorem dX6_sightOf_14 : decode cX6_sightOf 14 = .ok (.aload_n 0, 1) := by decide +kernel
theorem dX6_sightOf_15 : decode cX6_sightOf 15 = .ok (.iload_n 2, 1) := by decide +kernel
theorem dX6_sightOf_16 : decode cX6_sightOf 16 = .ok (.iconst 2, 1) := by decide +kernel
theorem dX6_sightOf_17 : decode cX6_sightOf 17 = .ok (.invokevirtual 95, 3) := by decide +kernel
theorem dX6_sightOf_20 : decode cX6_sightOf 20 = .ok (.ifCond .eq 5, 3) := by decide +kernel
theorem dX6_sightOf_23 : decode cX6_sightOf 23 = .ok (.iconst 0, 1) := by decide +kernel
theorem dX6_sightOf_24 : decode cX6_sightOf 24 = .ok (.ireturn, 1) := by decide +kernel
theorem dX6_sightOf_25 : decode cX6_sightOf 25 = .ok (.aload_n 0, 1) := by decide +kernel
theorem dX6_sightOf_26 : decode cX6_sightOf 26 = .ok (.getfield 9, 3) := by decide +kernel
theorem dX6_sightOf_29 : decode cX6_sightOf 29 = .ok (.iload_n 2, 1) := by decide +kernel
theorem dX6_sightOf_30 : decode cX6_sightOf 30 = .ok (.invokestatic 83, 3) := by decide +kernel
theorem dX6_sightOf_33 : decode cX6_sightOf 33 = .ok (.istore_n 2, 1) := by decide +kernel
theorem dX6_sightOf_34 : decode cX6_sightOf 34 = .ok (.iload_n 2, 1) := by decide +kernel
theorem dX6_sightOf_35 : decode cX6_sightOf 35 = .ok (.iconst 1, 1) := by decide +kernel
theorem dX6_sightOf_36 : decode cX6_sightOf 36 = .ok (.if_icmp .eq 11, 3) := by decide +kernel
theorem dX6_sightOf_39 : decode cX6_sightOf 39 = .ok (.iload_n 2, 1) := by decide +kernel
theorem dX6_sightOf_40 : decode cX6_sightOf 40 = .ok (.aload_n 0, 1) := by decide +kernel
theorem dX6_sightOf_41 : decode cX6_sightOf 41 = .ok (.invokevirtual 99, 3) := by decide +kernel
theorem dX6_sightOf_44 : decode cX6_sightOf 44 = .ok (.if_icmp .ne 5, 3) := by decide +kernel
theorem dX6_sightOf_47 : decode cX6_sightOf 47 = .ok (.iload_n 2, 1) := by decide +kernel
theorem dX6_sightOf_48 : decode cX6_sightOf 48 = .ok (.ireturn, 1) := by decide +kernel
theorem dX6_sightOf_49 : decode cX6_sightOf 49 = .ok (.aload_n 0, 1) := by decide +kernel
theorem dX6_sightOf_50 : decode cX6_sightOf 50 = .ok (.iload_n 2, 1) := by decide +kernel
theorem dX6_sightOf_51 : decode cX6_sightOf 51 = .ok (.invokevirtual 102, 3) := by decide +kernel
theorem dX6_sightOf_54 : decode cX6_sightOf 54 = .ok (.ifCond .ne 5, 3) := by decide +kernel
theorem dX6_sightOf_57 : decode cX6_sightOf 57 = .ok (.iconst 0, 1) := by decide +kernel
theorem dX6_sightOf_58 : decode cX6_sightOf 58 = .ok (.ireturn, 1) := by decide +kernel
theorem dX6_sightOf_59 : decode cX6_sightOf 59 = .ok (.iinc 3 1, 3) := by decide +kernel
theorem dX6_sightOf_62 : decode cX6_sightOf 62 = .ok (.goto (-58), 3) := by decide +kernel
theorem dX6_sightOf_65 : decode cX6_sightOf 65 = .ok (.iconst 0, 1) := by decide +kernel
theorem dX6_sightOf_66 : decode cX6_sightOf 66 = .ok (.ireturn, 1) := by decide +kernel
def F_X6_sightOf (p0 : Int32) (Γ : HS) : HR :=
  loopF (fun (again_2 : (Int32 × Int32 × HS) → HR) (s_1 : Int32 × Int32 × HS) => (
    if 120 < s_1.2.1 then (
      some (0, s_1.2.2)
    ) else (
      if s_1.1 = 0 then (
        some (0, s_1.2.2)
      ) else (
        (F_X6_bears s_1.1 2 s_1.2.2).bind fun u_11 =>
        if u_11.1 = 0 then (
          bnd ((g_at 121 ((u_11.2 9).2.1 0) s_1.1)) fun (x_15 : Int32) =>
          if x_15 = 1 then (
            some (x_15, u_11.2)
          ) else (
            (F_X6_here u_11.2).bind fun u_20 =>
            if x_15 = u_20.1 then (
              some (x_15, u_20.2)
            ) else (
              (F_X6_showsInside x_15 u_20.2).bind fun u_25 =>
              if u_25.1 = 0 then (
                some (0, u_25.2)
              ) else (
                bnd (s_1.2.1 + 1) fun (x_30 : Int32) =>
                again_2 (x_15, x_30, u_25.2)
              )
            )
          )
        ) else (
          some (0, u_11.2)
        )
      )
    )
  )) FU (p0, 0, Γ)
set_option maxHeartbeats 4000000 in
set_option maxRecDepth 100000 in
theorem k_X6_sightOf (l : Launch) (dC : Nat → ClassId) (dI : Nat → Nat → Nat) (cB cC cI cJ cZ cP : ClassId) (oA : Nat → Nat) (rA : Nat → Nat → Nat) (sz : Nat)  (p0 : Int32) (Γ : HS) (res : Int32 × HS) (hF : F_X6_sightOf p0 Γ = some res) : Met l yX6_sightOf (g_ws yX6_sightOf cX6_sightOf 4 (some .int)) ({ frames := 4, cells := 0, slots := 0, locals := 104 }) (va_Pc [.ref (oA 9), .int p0] (g_B (dC, dI) [(cB, .byte), (cC, .char), (cI, .int), (cJ, .long), (cZ, .boolean), (cP, .object "StoryHouse$Play")] sz (b_p cB cC cI cJ cZ oA rA Γ) g_0)) (va_Qi (fun r (_ : Unit) => r = res.1) (g_Bo (dC, dI) (va_A (b_p cB cC cI cJ cZ oA rA Γ) sz) (fun (_ : Unit) => (b_p cB cC cI cJ cZ oA rA res.2))) (va_A (b_p cB cC cI cJ cZ oA rA Γ) sz)) 0 0 (va_A (b_p cB cC cI cJ cZ oA rA Γ) sz) := by
  refine Met.ofW (cc := cX6_sightOf) (maxL := 4) (ret := (some .int)) (by decide) rfl ?_
  intro p e s m args below meth c s₁ B hml hv
  obtain ⟨rfl, hsz, hP, hK, hD0, hE, hX⟩ := hv
  have hx := B.exec
  have hb := B.bytes
  have hr := B.returns
  have hts0 := atoms_spec (ws := g_ws yX6_sightOf cX6_sightOf 4 (some .int)) B.pre
  have hts : ∀ w ∈ lw_good, w.before ([.ref (oA 9), .int p0] : List Value).toArray s = true := fun w z => hts0 w (List.mem_cons_of_mem _ z)
  have hown : s.vm.findClass RX6 = some m.cls := findClass_of_methodNamed B.named
  have hlocks := B.notSynchronized
  subst hsz
  have hD1 := hD0.self (sz := s.heap.size)
  generalize hAe : va_A (b_p cB cC cI cJ cZ oA rA Γ) s.heap.size = A at hD1 hE hX ⊢
  have hA : ∀ q : Nat, s.heap.size ≤ q → A q := fun q z => by rw [← hAe]; exact Or.inr z
  have hDD : ∀ Γ : HS, va_D A (b_p cB cC cI cJ cZ oA rA Γ) := fun Γ9 => va_D_fst (ws := (b_p cB cC cI cJ cZ oA rA Γ)) (ws' := (b_p cB cC cI cJ cZ oA rA Γ9)) rfl hD1
  have hN := hE.1
  have hS : va_S A s.heap s.heap [] := va_S.rf
  have hl := lv_entry ([.ref (oA 9), .int p0]) (n := 4) (Nat.le_of_ble_eq_true rfl)
  rw [lg_entry_eq]
  generalize (lg_sl ([.ref (oA 9), .int p0]) ++ List.replicate (4 - (lg_sl ([.ref (oA 9), .int p0])).length) Slot.unset).toArray = ls at hl ⊢
  have hl : lv_has ls 4 [(0, .ref (oA 9)), (1, .int p0)] := hl
  unfold F_X6_sightOf at hF
  refine lv_iload_n hx hb dX6_sightOf_0 rfl (lv_at hl 1 rfl) ?_
  refine lv_istore_n (lv' := [(2, .int p0), (0, .ref (oA 9)), (1, .int p0)]) hx hb dX6_sightOf_1 rfl hl (by decide) rfl (fun ls hl => ?_)
  refine lv_iconst (v := 0) hx hb dX6_sightOf_2 (by decide +kernel) ?_
  refine lv_istore_n (lv' := [(3, .int 0), (2, .int p0), (0, .ref (oA 9)), (1, .int p0)]) hx hb dX6_sightOf_3 rfl hl (by decide) rfl (fun ls hl => ?_)
  refine loopF_ind (P := fun (s_1 : Int32 × Int32 × HS) => ∀ (H : Heap) (locs : List Loc), va_P (dC, dI) vwCl (b_p cB cC cI cJ cZ oA rA s_1.2.2) H → va_S A s.heap H locs → ∀ ls : Array Slot, lv_has ls 4 [(0, .ref (oA 9)), (2, .int s_1.1), (3, .int s_1.2.1)] → W p l e (headSpec (g_ws yX6_sightOf cX6_sightOf 4 (some .int)) { frames := 4, cells := 0, slots := 0, locals := 104 }).room s m ([.ref (oA 9), .int p0] : List Value).toArray below meth c H locs 0 0 (MQ below (va_Qi (fun r (_ : Unit) => r = res.1) (g_Bo (dC, dI) A (fun (_ : Unit) => (b_p cB cC cI cJ cZ oA rA res.2))) A) ([.ref (oA 9), .int p0] : List Value).toArray s 0 0 A) (F0 m 4 ls [])) ?_ _ _ hF _ _ hP hS ls (lv_sub hl [2, 1, 0] rfl)
  intro again_2 s_1 ih_3 hF_4
  intro H locs hP hS ls hl
  refine lv_iload_n hx hb dX6_sightOf_4 rfl (lv_at hl 2 rfl) ?_
  refine lv_bipush (v := 120) hx hb dX6_sightOf_5 (by decide +kernel) ?_
  refine lv_icmp_gt (tgt := 65) hx hb dX6_sightOf_7 (by decide) (fun c_5 => ?_) (fun c_5 => ?_)
  · have hF_6 := ipos c_5 hF_4
    clear hF_4
    refine lv_iconst (v := 0) hx hb dX6_sightOf_65 (by decide +kernel) ?_
    have h9 := Option.some.inj hF_6
    subst h9
    exact W.iret (v := 0) hx hb hr (fun t ht hW => ⟨⟨0, (), rfl, rfl, m_end ht hP, hDD _⟩, hS.F ht⟩) hS.2.2 dX6_sightOf_66
  · have hF_7 := ineg c_5 hF_4
    clear hF_4
    refine lv_iload_n hx hb dX6_sightOf_10 rfl (lv_at hl 1 rfl) ?_
    refine lv_if_eq (tgt := 65) hx hb dX6_sightOf_11 (by decide) (fun c_8 => ?_) (fun c_8 => ?_)
    · have hF_9 := ipos c_8 hF_7
      clear hF_7
      refine lv_iconst (v := 0) hx hb dX6_sightOf_65 (by decide +kernel) ?_
      have h9 := Option.some.inj hF_9
      subst h9
      exact W.iret (v := 0) hx hb hr (fun t ht hW => ⟨⟨0, (), rfl, rfl, m_end ht hP, hDD _⟩, hS.F ht⟩) hS.2.2 dX6_sightOf_66
    · have hF_10 := ineg c_8 hF_7
      clear hF_7
      refine lv_aload_n hx hb dX6_sightOf_14 rfl (lv_at hl 0 rfl) ?_
      refine lv_iload_n hx hb dX6_sightOf_15 rfl (lv_at hl 1 rfl) ?_
      refine lv_iconst (v := 2) hx hb dX6_sightOf_16 (by decide +kernel) ?_
      obtain ⟨u_11, hu_11, hF_12⟩ := Option.bind_eq_some_iff.mp hF_10
      clear hF_10
      have hPc := bx_P (bs := [b_p cB cC cI cJ cZ oA rA s_1.2.2]) (bs' := [b_p cB cC cI cJ cZ oA rA s_1.2.2]) (ws' := (b_p cB cC cI cJ cZ oA rA s_1.2.2)) hP fl_1 fl_1 [0] rfl
      have hDc := bx_D (bs := [b_p cB cC cI cJ cZ oA rA s_1.2.2]) (bs' := [b_p cB cC cI cJ cZ oA rA s_1.2.2]) (ws' := (b_p cB cC cI cJ cZ oA rA s_1.2.2)) (hDD s_1.2.2) fl_1 fl_1 [0] (by decide +kernel) rfl
      have hFc := bx_F (bs := [b_p cB cC cI cJ cZ oA rA s_1.2.2]) (bs' := [b_p cB cC cI cJ cZ oA rA s_1.2.2]) (wc := (b_p cB cC cI cJ cZ oA rA s_1.2.2)) (hDD s_1.2.2) hS hA fl_1 fl_1 [0] rfl
      refine g_ofi (wc := (b_p cB cC cI cJ cZ oA rA s_1.2.2)) (wr := ([] : va_W)) hP (hDD s_1.2.2) hS hFc (bx_ix [b_p cB cC cI cJ cZ oA rA s_1.2.2] [0]) (bx_ix [b_p cB cC cI cJ cZ oA rA s_1.2.2] []) (bx_C (bs := [b_p cB cC cI cJ cZ oA rA s_1.2.2]) (bs' := [b_p cB cC cI cJ cZ oA rA s_1.2.2]) (is := [0]) fl_1 fl_1 rfl) (bx_C (bs := [b_p cB cC cI cJ cZ oA rA s_1.2.2]) (bs' := []) (is := []) fl_1 fl_0 rfl) (bx_n (by decide +kernel)) (bx_d (by decide +kernel)) (va_runV (As := [.int s_1.1, .int 2]) (rest := []) ⟨hx, hb, hml, hown, hts⟩ (k_X6_bears l dC dI cB cC cI cJ cZ cP oA rA H.size  s_1.1 2 s_1.2.2 _ hu_11) (cwV 2 hts (g_gV wq_986 wq_987 wq_988 wq_10 wq_989) rfl rfl rfl (by decide +kernel) ⟨Nat.le_of_ble_eq_true rfl, Nat.le_of_ble_eq_true rfl⟩) (g_preV g_bl0 hK hPc hDc hS hE hFc g_to0 (q0 := 0) (ci := 6) rfl rfl) rfl rfl hl.1 rfl (lv_room (Nat.le_of_ble_eq_true rfl)) dX6_sightOf_17 ⟨Nat.le_of_ble_eq_true rfl, Nat.le_of_ble_eq_true rfl⟩) (fun r9 u9 H locs hw9 hP' hD' hS => ?_)
      clear hPc hDc hFc
      subst hw9
      have hP : va_P (dC, dI) vwCl (b_p cB cC cI cJ cZ oA rA u_11.2) H := hP'
      clear hP' hD'
      refine lv_if_eq (tgt := 25) hx hb dX6_sightOf_20 (by decide) (fun c_13 => ?_) (fun c_13 => ?_)
      · have hF_14 := ipos c_13 hF_12
        clear hF_12
        refine lv_aload_n hx hb dX6_sightOf_25 rfl (lv_at hl 0 rfl) ?_
        refine va_get (D := (dC, dI)) (ci := 6) (v := .ref (rA 9 0)) (C := RX6) (T := TX6) (N := 12) hx hb hts ii_X6 hown hK hP 0 rfl rfl 0 (by decide) (hts (.fieldLink RX6 9 "StoryHouse$Play" "parents" "[I") wq_217) (fun _ h9 => h9) rfl dX6_sightOf_26 ?_
        refine lv_iload_n hx hb dX6_sightOf_29 rfl (lv_at hl 1 rfl) ?_
        have hq9 : ((b_p cB cC cI cJ cZ oA rA u_11.2))[1]? = some (rA 9 0, .inl (cI, 121, .inl ((u_11.2 9).2.1 0))) := rfl
        have hPc := hP.sub (ws' := [(rA 9 0, .inl (cI, 121, .inl ((u_11.2 9).2.1 0)))]) [1] (pk_fm (er_C hq9))
        have hDc := (hDD u_11.2).sub (ws' := [(rA 9 0, .inl (cI, 121, .inl ((u_11.2 9).2.1 0)))]) [1] (by decide +kernel) (er_C hq9)
        have hFc := va_free (wc := [(rA 9 0, .inl (cI, 121, .inl ((u_11.2 9).2.1 0)))]) (hDD u_11.2) hS hA [1] (er_C hq9)
        refine g_ofi (wc := [(rA 9 0, .inl (cI, 121, .inl ((u_11.2 9).2.1 0)))]) (wr := (((b_p cB cC cI cJ cZ oA rA u_11.2)).eraseIdx 1)) hP (hDD u_11.2) hS hFc [1] ((List.range ((b_p cB cC cI cJ cZ oA rA u_11.2)).length).eraseIdx 1) (er_C hq9) er_R er_n er_d (va_runSN (As := [.ref (rA 9 0), .int s_1.1]) (rest := []) ⟨hx, hb, hml, hown, hts⟩ (c_X11_at l dC dI cB cC cI cJ cZ cP H.size (rA 9 0) s_1.1 121 ((u_11.2 9).2.1 0) (by decide)) ⟨va_cnB 2 hts (g_gA wq_407) rfl rfl rfl (nw_28 hN) (hts (.initialized RX11) wq_1) (by decide +kernel) ⟨Nat.le_of_ble_eq_true rfl, Nat.le_of_ble_eq_true rfl⟩, (hts (.static yX11_at) wq_406), trivial⟩ (g_preS g_bl0 hK hPc hDc hS hE hFc g_to0) rfl rfl hl.1 rfl (lv_room (Nat.le_of_ble_eq_true rfl)) dX6_sightOf_30 ⟨Nat.le_of_ble_eq_true rfl, Nat.le_of_ble_eq_true rfl⟩) (fun r9 u9 H locs hw9 hP' hD' hS => ?_)
        clear hPc hDc hFc hD'
        have hP : va_P (dC, dI) vwCl (b_p cB cC cI cJ cZ oA rA u_11.2) H := er_I hP' hq9
        clear hP' hq9
        subst hw9
        obtain ⟨x_15, ex_15, hF_16⟩ := bnd_e hF_14
        clear hF_14
        refine m_top ex_15 ?_
        refine lv_istore_n (lv' := [(2, .int x_15), (0, .ref (oA 9)), (3, .int s_1.2.1)]) hx hb dX6_sightOf_33 rfl hl (by decide) rfl (fun ls hl => ?_)
        refine lv_iload_n hx hb dX6_sightOf_34 rfl (lv_at hl 0 rfl) ?_
        refine lv_iconst (v := 1) hx hb dX6_sightOf_35 (by decide +kernel) ?_
        refine lv_icmp_eq (tgt := 47) hx hb dX6_sightOf_36 (by decide) (fun c_17 => ?_) (fun c_17 => ?_)
        · have hF_18 := ipos c_17 hF_16
          clear hF_16
          refine lv_iload_n hx hb dX6_sightOf_47 rfl (lv_at hl 0 rfl) ?_
          have h9 := Option.some.inj hF_18
          subst h9
          exact W.iret (v := x_15) hx hb hr (fun t ht hW => ⟨⟨x_15, (), rfl, rfl, m_end ht hP, hDD _⟩, hS.F ht⟩) hS.2.2 dX6_sightOf_48
        · have hF_19 := ineg c_17 hF_16
          clear hF_16
          refine lv_iload_n hx hb dX6_sightOf_39 rfl (lv_at hl 0 rfl) ?_
          refine lv_aload_n hx hb dX6_sightOf_40 rfl (lv_at hl 1 rfl) ?_
          obtain ⟨u_20, hu_20, hF_21⟩ := Option.bind_eq_some_iff.mp hF_19
          clear hF_19
          have hPc := bx_P (bs := [b_p cB cC cI cJ cZ oA rA u_11.2]) (bs' := [b_p cB cC cI cJ cZ oA rA u_11.2]) (ws' := (b_p cB cC cI cJ cZ oA rA u_11.2)) hP fl_1 fl_1 [0] rfl
          have hDc := bx_D (bs := [b_p cB cC cI cJ cZ oA rA u_11.2]) (bs' := [b_p cB cC cI cJ cZ oA rA u_11.2]) (ws' := (b_p cB cC cI cJ cZ oA rA u_11.2)) (hDD u_11.2) fl_1 fl_1 [0] (by decide +kernel) rfl
          have hFc := bx_F (bs := [b_p cB cC cI cJ cZ oA rA u_11.2]) (bs' := [b_p cB cC cI cJ cZ oA rA u_11.2]) (wc := (b_p cB cC cI cJ cZ oA rA u_11.2)) (hDD u_11.2) hS hA fl_1 fl_1 [0] rfl
          refine g_ofi (wc := (b_p cB cC cI cJ cZ oA rA u_11.2)) (wr := ([] : va_W)) hP (hDD u_11.2) hS hFc (bx_ix [b_p cB cC cI cJ cZ oA rA u_11.2] [0]) (bx_ix [b_p cB cC cI cJ cZ oA rA u_11.2] []) (bx_C (bs := [b_p cB cC cI cJ cZ oA rA u_11.2]) (bs' := [b_p cB cC cI cJ cZ oA rA u_11.2]) (is := [0]) fl_1 fl_1 rfl) (bx_C (bs := [b_p cB cC cI cJ cZ oA rA u_11.2]) (bs' := []) (is := []) fl_1 fl_0 rfl) (bx_n (by decide +kernel)) (bx_d (by decide +kernel)) (va_runV (As := []) (rest := [.int x_15]) ⟨hx, hb, hml, hown, hts⟩ (k_X6_here l dC dI cB cC cI cJ cZ cP oA rA H.size  u_11.2 _ hu_20) (cwV 0 hts (g_gV wq_982 wq_983 wq_984 wq_10 wq_985) rfl rfl rfl (by decide +kernel) ⟨Nat.le_of_ble_eq_true rfl, Nat.le_of_ble_eq_true rfl⟩) (g_preV g_bl0 hK hPc hDc hS hE hFc g_to0 (q0 := 0) (ci := 6) rfl rfl) rfl rfl hl.1 rfl (lv_room (Nat.le_of_ble_eq_true rfl)) dX6_sightOf_41 ⟨Nat.le_of_ble_eq_true rfl, Nat.le_of_ble_eq_true rfl⟩) (fun r9 u9 H locs hw9 hP' hD' hS => ?_)
          clear hPc hDc hFc
          subst hw9
          have hP : va_P (dC, dI) vwCl (b_p cB cC cI cJ cZ oA rA u_20.2) H := hP'
          clear hP' hD'
          refine lv_icmp_ne (tgt := 49) hx hb dX6_sightOf_44 (by decide) (fun c_22 => ?_) (fun c_22 => ?_)
          · have hF_24 := ineg c_22 hF_21
            clear hF_21
            refine lv_aload_n hx hb dX6_sightOf_49 rfl (lv_at hl 1 rfl) ?_
            refine lv_iload_n hx hb dX6_sightOf_50 rfl (lv_at hl 0 rfl) ?_
            obtain ⟨u_25, hu_25, hF_26⟩ := Option.bind_eq_some_iff.mp hF_24
            clear hF_24
            have hPc := bx_P (bs := [b_p cB cC cI cJ cZ oA rA u_20.2]) (bs' := [b_p cB cC cI cJ cZ oA rA u_20.2]) (ws' := (b_p cB cC cI cJ cZ oA rA u_20.2)) hP fl_1 fl_1 [0] rfl
            have hDc := bx_D (bs := [b_p cB cC cI cJ cZ oA rA u_20.2]) (bs' := [b_p cB cC cI cJ cZ oA rA u_20.2]) (ws' := (b_p cB cC cI cJ cZ oA rA u_20.2)) (hDD u_20.2) fl_1 fl_1 [0] (by decide +kernel) rfl
            have hFc := bx_F (bs := [b_p cB cC cI cJ cZ oA rA u_20.2]) (bs' := [b_p cB cC cI cJ cZ oA rA u_20.2]) (wc := (b_p cB cC cI cJ cZ oA rA u_20.2)) (hDD u_20.2) hS hA fl_1 fl_1 [0] rfl
            refine g_ofi (wc := (b_p cB cC cI cJ cZ oA rA u_20.2)) (wr := ([] : va_W)) hP (hDD u_20.2) hS hFc (bx_ix [b_p cB cC cI cJ cZ oA rA u_20.2] [0]) (bx_ix [b_p cB cC cI cJ cZ oA rA u_20.2] []) (bx_C (bs := [b_p cB cC cI cJ cZ oA rA u_20.2]) (bs' := [b_p cB cC cI cJ cZ oA rA u_20.2]) (is := [0]) fl_1 fl_1 rfl) (bx_C (bs := [b_p cB cC cI cJ cZ oA rA u_20.2]) (bs' := []) (is := []) fl_1 fl_0 rfl) (bx_n (by decide +kernel)) (bx_d (by decide +kernel)) (va_runV (As := [.int x_15]) (rest := []) ⟨hx, hb, hml, hown, hts⟩ (k_X6_showsInside l dC dI cB cC cI cJ cZ cP oA rA H.size  x_15 u_20.2 _ hu_25) (cwV 1 hts (g_gV wq_994 wq_995 wq_996 wq_10 wq_997) rfl rfl rfl (by decide +kernel) ⟨Nat.le_of_ble_eq_true rfl, Nat.le_of_ble_eq_true rfl⟩) (g_preV g_bl0 hK hPc hDc hS hE hFc g_to0 (q0 := 0) (ci := 6) rfl rfl) rfl rfl hl.1 rfl (lv_room (Nat.le_of_ble_eq_true rfl)) dX6_sightOf_51 ⟨Nat.le_of_ble_eq_true rfl, Nat.le_of_ble_eq_true rfl⟩) (fun r9 u9 H locs hw9 hP' hD' hS => ?_)
            clear hPc hDc hFc
            subst hw9
            have hP : va_P (dC, dI) vwCl (b_p cB cC cI cJ cZ oA rA u_25.2) H := hP'
            clear hP' hD'
            refine lv_if_ne (tgt := 59) hx hb dX6_sightOf_54 (by decide) (fun c_27 => ?_) (fun c_27 => ?_)
            · have hF_29 := ineg c_27 hF_26
              clear hF_26
              obtain ⟨x_30, ex_30, hF_31⟩ := bnd_e hF_29
              clear hF_29
              refine lv_iinc (v := x_30) (lv' := [(3, .int x_30), (2, .int x_15), (0, .ref (oA 9))]) hx hb dX6_sightOf_59 hl (k := 2) rfl (by rw [ex_30]; rfl) (by decide) rfl (fun ls hl => ?_)
              refine lv_goto (tgt := 4) hx hb dX6_sightOf_62 (by decide) ?_
              exact ih_3 (x_15, x_30, u_25.2) hF_31 _ _ hP hS ls (lv_sub hl [2, 1, 0] rfl)
            · have hF_28 := ipos c_27 hF_26
              clear hF_26
              refine lv_iconst (v := 0) hx hb dX6_sightOf_57 (by decide +kernel) ?_
              have h9 := Option.some.inj hF_28
              subst h9
              exact W.iret (v := 0) hx hb hr (fun t ht hW => ⟨⟨0, (), rfl, rfl, m_end ht hP, hDD _⟩, hS.F ht⟩) hS.2.2 dX6_sightOf_58
          · have hF_23 := ipos c_22 hF_21
            clear hF_21
            refine lv_iload_n hx hb dX6_sightOf_47 rfl (lv_at hl 0 rfl) ?_
            have h9 := Option.some.inj hF_23
            subst h9
            exact W.iret (v := x_15) hx hb hr (fun t ht hW => ⟨⟨x_15, (), rfl, rfl, m_end ht hP, hDD _⟩, hS.F ht⟩) hS.2.2 dX6_sightOf_48
      · have hF_32 := ineg c_13 hF_12
        clear hF_12
        refine lv_iconst (v := 0) hx hb dX6_sightOf_23 (by decide +kernel) ?_
        have h9 := Option.some.inj hF_32
        subst h9
        exact W.iret (v := 0) hx hb hr (fun t ht hW => ⟨⟨0, (), rfl, rfl, m_end ht hP, hDD _⟩, hS.F ht⟩) hS.2.2 dX6_sightOf_24
