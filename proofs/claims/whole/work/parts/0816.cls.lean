/-! methods of the class: what each does is its function -/
theorem dX5_row_0 : decode cX5_row 0 = .ok (.iload_n 2, 1) := by decide +kernel
theorem dX5_row_1 : decode cX5_row 1 = .ok (.aload_n 1, 1) := by decide +kernel
theorem dX5_row_2 : decode cX5_row 2 = .ok (.arraylength, 1) := by decide +kernel
theorem dX5_row_3 : decode cX5_row 3 = .ok (.invokestatic 36, 3) := by decide +kernel
theorem dX5_row_6 : decode cX5_row 6 = .ok (.aload_n 0, 1) := by decide +kernel
theorem dX5_row_7 : decode cX5_row 7 = .ok (.getfield 9, 3) := by decide +kernel
theorem dX5_row_10 : decode cX5_row 10 = .ok (.arraylength, 1) := by decide +kernel
theorem dX5_row_11 : decode cX5_row 11 = .ok (.aload_n 0, 1) := by decide +kernel
theorem dX5_row_12 : decode cX5_row 12 = .ok (.getfield 15, 3) := by decide +kernel
theorem dX5_row_15 : decode cX5_row 15 = .ok (.isub, 1) := by decide +kernel
theorem dX5_row_16 : decode cX5_row 16 = .ok (.invokestatic 36, 3) := by decide +kernel
theorem dX5_row_19 : decode cX5_row 19 = .ok (.istore_n 3, 1) := by decide +kernel
theorem dX5_row_20 : decode cX5_row 20 = .ok (.iload_n 3, 1) := by decide +kernel
theorem dX5_row_21 : decode cX5_row 21 = .ok (.ifCond .le 34, 3) := by decide +kernel
theorem dX5_row_24 : decode cX5_row 24 = .ok (.aload_n 0, 1) := by decide +kernel
theorem dX5_row_25 : decode cX5_row 25 = .ok (.getfield 15, 3) := by decide +kernel
theorem dX5_row_28 : decode cX5_row 28 = .ok (.ifCond .lt 27, 3) := by decide +kernel
theorem dX5_row_31 : decode cX5_row 31 = .ok (.aload_n 1, 1) := by decide +kernel
theorem dX5_row_32 : decode cX5_row 32 = .ok (.iconst 0, 1) := by decide +kernel
theorem dX5_row_33 : decode cX5_row 33 = .ok (.aload_n 0, 1) := by decide +kernel
theorem dX5_row_34 : decode cX5_row 34 = .ok (.getfield 9, 3) := by decide +kernel
theorem dX5_row_37 : decode cX5_row 37 = .ok (.aload_n 0, 1) := by decide +kernel
theorem dX5_row_38 : decode cX5_row 38 = .ok (.getfield 15, 3) := by decide +kernel
theorem dX5_row_41 : decode cX5_row 41 = .ok (.iload_n 3, 1) := by decide +kernel
theorem dX5_row_42 : decode cX5_row 42 = .ok (.invokestatic 42, 3) := by decide +kernel
theorem dX5_row_45 : decode cX5_row 45 = .ok (.aload_n 0, 1) := by decide +kernel
theorem dX5_row_46 : decode cX5_row 46 = .ok (.dup, 1) := by decide +kernel
theorem dX5_row_47 : decode cX5_row 47 = .ok (.getfield 15, 3) := by decide +kernel
theorem dX5_row_50 : decode cX5_row 50 = .ok (.iload_n 3, 1) := by decide +kernel
theorem dX5_row_51 : decode cX5_row 51 = .ok (.iadd, 1) := by decide +kernel
theorem dX5_row_52 : decode cX5_row 52 = .ok (.putfield 15, 3) := by decide +kernel
theorem dX5_row_55 : decode cX5_row 55 = .ok (.return_, 1) := by decide +kernel
def F_X5_row (p1 : Int32) (Γ : HS) : HR :=
  bnd ((if 200 < p1 then 200 else p1)) fun (x_1 : Int32) =>
  bnd ((if (3000 - ((Γ 8).1 1)) < x_1 then (3000 - ((Γ 8).1 1)) else x_1)) fun (x_3 : Int32) =>
  if x_3 ≤ 0 then (
    some (0, Γ)
  ) else (
    if ((Γ 8).1 1) < 0 then (
      some (0, Γ)
    ) else (
      if 0 < 0 ∨ ((Γ 8).1 1) < 0 ∨ x_3 < 0 ∨ 200 < (0 : Int32).toNatClampNeg + x_3.toNatClampNeg ∨ 3000 < ((Γ 8).1 1).toNatClampNeg + x_3.toNatClampNeg ∨ ¬ (∀ z, z < x_3.toNatClampNeg → vp_nar .byte (((Γ 10).2.1 15) ((0 : Int32).toNatClampNeg + z)) = ((Γ 10).2.1 15) ((0 : Int32).toNatClampNeg + z)) then none else
      bnd (cA' Γ 8 0 (va_cpy ((Γ 10).2.1 15) ((Γ 8).2.1 0) (0 : Int32).toNatClampNeg ((Γ 8).1 1).toNatClampNeg x_3.toNatClampNeg)) fun σ_13 =>
      bnd (cI' σ_13 8 1 (((σ_13 8).1 1) + x_3)) fun σ_15 =>
      some (0, σ_15)
    )
  )
set_option maxHeartbeats 4000000 in
set_option maxRecDepth 100000 in
theorem k_X5_row (l : Launch) (dC : Nat → ClassId) (dI : Nat → Nat → Nat) (cB cC cI cJ cZ cP : ClassId) (oA : Nat → Nat) (rA : Nat → Nat → Nat) (sz : Nat)  (p1 : Int32) (Γ : HS) (res : Int32 × HS) (hF : F_X5_row p1 Γ = some res) : Met l yX5_row (g_ws yX5_row cX5_row 4 none) ({ frames := 2, cells := 0, slots := 0, locals := 60 }) (va_Pc [.ref (oA 8), .ref (rA 10 15), .int p1] (g_B (dC, dI) [(cB, .byte), (cC, .char), (cI, .int), (cJ, .long), (cZ, .boolean), (cP, .object "StoryHouse$Play")] sz (b_k cB cC cI cJ cZ oA rA Γ ++ b_o cB cC cI cJ cZ oA rA Γ) g_0)) (va_Qv (fun (_ : Unit) => True) (g_Bo (dC, dI) (va_A (b_k cB cC cI cJ cZ oA rA Γ ++ b_o cB cC cI cJ cZ oA rA Γ) sz) (fun (_ : Unit) => (b_k cB cC cI cJ cZ oA rA res.2 ++ b_o cB cC cI cJ cZ oA rA res.2))) (va_A (b_k cB cC cI cJ cZ oA rA Γ ++ b_o cB cC cI cJ cZ oA rA Γ) sz)) 0 0 (va_A (b_k cB cC cI cJ cZ oA rA Γ ++ b_o cB cC cI cJ cZ oA rA Γ) sz) := by
  refine Met.ofW (cc := cX5_row) (maxL := 4) (ret := none) (by decide) rfl ?_
  intro p e s m args below meth c s₁ B hml hv
  obtain ⟨rfl, hsz, hP, hK, hD0, hE, hX⟩ := hv
  have hx := B.exec
  have hb := B.bytes
  have hr := B.returns
  have hts0 := atoms_spec (ws := g_ws yX5_row cX5_row 4 none) B.pre
  have hts : ∀ w ∈ lw_good, w.before ([.ref (oA 8), .ref (rA 10 15), .int p1] : List Value).toArray s = true := fun w z => hts0 w (List.mem_cons_of_mem _ z)
  have hown : s.vm.findClass RX5 = some m.cls := findClass_of_methodNamed B.named
  have hlocks := B.notSynchronized
  subst hsz
  have hD1 := hD0.self (sz := s.heap.size)
  generalize hAe : va_A (b_k cB cC cI cJ cZ oA rA Γ ++ b_o cB cC cI cJ cZ oA rA Γ) s.heap.size = A at hD1 hE hX ⊢
  have hA : ∀ q : Nat, s.heap.size ≤ q → A q := fun q z => by rw [← hAe]; exact Or.inr z
  have hDD : ∀ Γ : HS, va_D A (b_k cB cC cI cJ cZ oA rA Γ ++ b_o cB cC cI cJ cZ oA rA Γ) := fun Γ9 => va_D_fst (ws := (b_k cB cC cI cJ cZ oA rA Γ ++ b_o cB cC cI cJ cZ oA rA Γ)) (ws' := (b_k cB cC cI cJ cZ oA rA Γ9 ++ b_o cB cC cI cJ cZ oA rA Γ9)) rfl hD1
  have hN := hE.1
  have hS : va_S A s.heap s.heap [] := va_S.rf
  have hl := lv_entry ([.ref (oA 8), .ref (rA 10 15), .int p1]) (n := 4) (Nat.le_of_ble_eq_true rfl)
  rw [lg_entry_eq]
  generalize (lg_sl ([.ref (oA 8), .ref (rA 10 15), .int p1]) ++ List.replicate (4 - (lg_sl ([.ref (oA 8), .ref (rA 10 15), .int p1])).length) Slot.unset).toArray = ls at hl ⊢
  have hl : lv_has ls 4 [(0, .ref (oA 8)), (1, .ref (rA 10 15)), (2, .int p1)] := hl
  unfold F_X5_row at hF
  refine lv_iload_n hx hb dX5_row_0 rfl (lv_at hl 2 rfl) ?_
  refine lv_aload_n hx hb dX5_row_1 rfl (lv_at hl 1 rfl) ?_
  refine va_alen (v := 200) hx hb hK hP 4 0 rfl rfl (by first | rfl | decide +kernel) dX5_row_2 ?_
  refine va_mmin hx hb (hml.trans hl.1.symm) hown (hts (.methodLink RX5 36 yJ9_min_7cf53) wq_1027) (hts (.static yJ9_min_7cf53) wq_331) (hts (.initialized RJ9) wq_19) (hts (.code yJ9_min_7cf53 cJ9_min_7cf53 2 (some .int)) wq_332) (Nat.le_of_ble_eq_true rfl) (Nat.le_of_ble_eq_true rfl) (Nat.le_of_ble_eq_true rfl) (Nat.le_of_ble_eq_true rfl) dX5_row_3 ?_
  obtain ⟨x_1, ex_1, hF_2⟩ := bnd_e hF
  clear hF
  refine m_top ex_1 ?_
  refine lv_aload_n hx hb dX5_row_6 rfl (lv_at hl 0 rfl) ?_
  refine va_get (D := (dC, dI)) (ci := 5) (v := .ref (rA 8 0)) (C := RX5) (T := TX5) (N := 2) hx hb hts ii_X5 hown hK hP 5 rfl rfl 0 (by decide) (hts (.fieldLink RX5 9 "StoryHouse$Out" "bytes" "[B") wq_208) (fun _ h9 => h9) rfl dX5_row_7 ?_
  refine va_alen (v := 3000) hx hb hK hP 6 0 rfl rfl (by first | rfl | decide +kernel) dX5_row_10 ?_
  refine lv_aload_n hx hb dX5_row_11 rfl (lv_at hl 0 rfl) ?_
  refine va_get (D := (dC, dI)) (ci := 5) (v := .int ((Γ 8).1 1)) (C := RX5) (T := TX5) (N := 2) hx hb hts ii_X5 hown hK hP 5 rfl rfl 1 (by decide) (hts (.fieldLink RX5 15 "StoryHouse$Out" "length" "I") wq_210) (fun _ h9 => h9) rfl dX5_row_12 ?_
  refine lv_isub hx hb dX5_row_15 ?_
  refine va_mmin hx hb (hml.trans hl.1.symm) hown (hts (.methodLink RX5 36 yJ9_min_7cf53) wq_1027) (hts (.static yJ9_min_7cf53) wq_331) (hts (.initialized RJ9) wq_19) (hts (.code yJ9_min_7cf53 cJ9_min_7cf53 2 (some .int)) wq_332) (Nat.le_of_ble_eq_true rfl) (Nat.le_of_ble_eq_true rfl) (Nat.le_of_ble_eq_true rfl) (Nat.le_of_ble_eq_true rfl) dX5_row_16 ?_
  obtain ⟨x_3, ex_3, hF_4⟩ := bnd_e hF_2
  clear hF_2
  refine m_top ex_3 ?_
  refine lv_istore_n (lv' := [(3, .int x_3), (0, .ref (oA 8)), (1, .ref (rA 10 15)), (2, .int p1)]) hx hb dX5_row_19 rfl hl (by decide) rfl (fun ls hl => ?_)
  refine lv_iload_n hx hb dX5_row_20 rfl (lv_at hl 0 rfl) ?_
  refine lv_if_le (tgt := 55) hx hb dX5_row_21 (by decide) (fun c_5 => ?_) (fun c_5 => ?_)
  · have hF_6 := ipos c_5 hF_4
    clear hF_4
    have h9 := Option.some.inj hF_6
    subst h9
    exact W.vret hx hb hr (fun t ht hW => ⟨⟨(), rfl, trivial, m_end ht hP, hDD _⟩, hS.F ht⟩) hS.2.2 dX5_row_55
  · have hF_7 := ineg c_5 hF_4
    clear hF_4
    refine lv_aload_n hx hb dX5_row_24 rfl (lv_at hl 1 rfl) ?_
    refine va_get (D := (dC, dI)) (ci := 5) (v := .int ((Γ 8).1 1)) (C := RX5) (T := TX5) (N := 2) hx hb hts ii_X5 hown hK hP 5 rfl rfl 1 (by decide) (hts (.fieldLink RX5 15 "StoryHouse$Out" "length" "I") wq_210) (fun _ h9 => h9) rfl dX5_row_25 ?_
    refine lv_if_lt (tgt := 55) hx hb dX5_row_28 (by decide) (fun c_8 => ?_) (fun c_8 => ?_)
    · have hF_9 := ipos c_8 hF_7
      clear hF_7
      have h9 := Option.some.inj hF_9
      subst h9
      exact W.vret hx hb hr (fun t ht hW => ⟨⟨(), rfl, trivial, m_end ht hP, hDD _⟩, hS.F ht⟩) hS.2.2 dX5_row_55
    · have hF_10 := ineg c_8 hF_7
      clear hF_7
      refine lv_aload_n hx hb dX5_row_31 rfl (lv_at hl 2 rfl) ?_
      refine lv_iconst (v := 0) hx hb dX5_row_32 (by decide +kernel) ?_
      refine lv_aload_n hx hb dX5_row_33 rfl (lv_at hl 1 rfl) ?_
      refine va_get (D := (dC, dI)) (ci := 5) (v := .ref (rA 8 0)) (C := RX5) (T := TX5) (N := 2) hx hb hts ii_X5 hown hK hP 5 rfl rfl 0 (by decide) (hts (.fieldLink RX5 9 "StoryHouse$Out" "bytes" "[B") wq_208) (fun _ h9 => h9) rfl dX5_row_34 ?_
      refine lv_aload_n hx hb dX5_row_37 rfl (lv_at hl 1 rfl) ?_
      refine va_get (D := (dC, dI)) (ci := 5) (v := .int ((Γ 8).1 1)) (C := RX5) (T := TX5) (N := 2) hx hb hts ii_X5 hown hK hP 5 rfl rfl 1 (by decide) (hts (.fieldLink RX5 15 "StoryHouse$Out" "length" "I") wq_210) (fun _ h9 => h9) rfl dX5_row_38 ?_
      refine lv_iload_n hx hb dX5_row_41 rfl (lv_at hl 0 rfl) ?_
      obtain ⟨g_11, hF_12⟩ := nif_e hF_10
      clear hF_10
      obtain ⟨σ_13, eσ_13, hF_14⟩ := bnd_e hF_12
      clear hF_12
      refine va_copyi (f := (Γ 10).2.1 15) (g := (Γ 8).2.1 0) hx hb (hml.trans hl.1.symm) hown (hts (.methodLink RX5 42 arraycopyName) wq_1028) (hts (.native arraycopyName) wq_338) (hts (.static arraycopyName) wq_337) (hts (.initialized RJ10) wq_20) hK hP (hDD _) hS 4 6 0 0 rfl rfl rfl rfl rfl (by decide) (fun z => g_11 (Or.inr (Or.inl z))) (fun z => g_11 (Or.inr (Or.inr (Or.inl z)))) (Nat.not_lt.mp (fun z => g_11 (Or.inr (Or.inr (Or.inr (Or.inl z)))))) (Nat.not_lt.mp (fun z => g_11 (Or.inr (Or.inr (Or.inr (Or.inr (Or.inl z))))))) (fun i hi => nar_fit (Classical.not_not.mp (fun z => g_11 (Or.inr (Or.inr (Or.inr (Or.inr (Or.inr z)))))) i hi)) (by decide +kernel) (by decide +kernel) dX5_row_42 (fun H locs hP' _ hS => ?_)
      have hP : va_P (dC, dI) vwCl (b_k cB cC cI cJ cZ oA rA σ_13 ++ b_o cB cC cI cJ cZ oA rA σ_13) H := by rw [eσ_13]; exact cs_ko_o_0 ▸ hP'
      clear hP'
      refine lv_aload_n hx hb dX5_row_45 rfl (lv_at hl 1 rfl) ?_
      refine lv_dup hx hb dX5_row_46 rfl ?_
      refine va_get (D := (dC, dI)) (ci := 5) (v := .int ((σ_13 8).1 1)) (C := RX5) (T := TX5) (N := 2) hx hb hts ii_X5 hown hK hP 5 rfl rfl 1 (by decide) (hts (.fieldLink RX5 15 "StoryHouse$Out" "length" "I") wq_210) (fun _ h9 => h9) rfl dX5_row_47 ?_
      refine lv_iload_n hx hb dX5_row_50 rfl (lv_at hl 0 rfl) ?_
      refine lv_iadd hx hb dX5_row_51 ?_
      obtain ⟨σ_15, eσ_15, hF_16⟩ := bnd_e hF_14
      clear hF_14
      refine va_put (D := (dC, dI)) (ci := 5) (v := .int (((σ_13 8).1 1) + x_3)) (ty := .int) (C := RX5) (T := TX5) (N := 2) hx hb hts ii_X5 tyX5 tyX5_ok nmX5 hown hK hP (hDD _) hS 5 rfl rfl 1 (by decide) (hts (.fieldLink RX5 15 "StoryHouse$Out" "length" "I") wq_210) (fun _ h9 => h9) rfl (by decide +kernel) rfl rfl (Nat.le_of_ble_eq_true rfl) dX5_row_52 (fun H locs hP' _ hS => ?_)
      have hP : va_P (dC, dI) vwCl (b_k cB cC cI cJ cZ oA rA σ_15 ++ b_o cB cC cI cJ cZ oA rA σ_15) H := by rw [eσ_15]; exact cs_ko_o_1 ▸ hP'
      clear hP'
      have h9 := Option.some.inj hF_16
      subst h9
      exact W.vret hx hb hr (fun t ht hW => ⟨⟨(), rfl, trivial, m_end ht hP, hDD _⟩, hS.F ht⟩) hS.2.2 dX5_row_55
theorem dX9_unpack_0 : decode cX9_unpack 0 = .ok (.iload_n 1, 1) := by decide +kernel
theorem dX9_unpack_1 : decode cX9_unpack 1 = .ok (.ifCond .lt 29, 3) := by decide +kernel
theorem dX9_unpack_4 : decode cX9_unpack 4 = .ok (.iload_n 1, 1) := by decide +kernel
theorem dX9_unpack_5 : decode cX9_unpack 5 = .ok (.aload_n 0, 1) := by decide +kernel
theorem dX9_unpack_6 : decode cX9_unpack 6 = .ok (.getfield 33, 3) := by decide +kernel
theorem dX9_unpack_9 : decode cX9_unpack 9 = .ok (.if_icmp .ge 21, 3) := by decide +kernel
theorem dX9_unpack_12 : decode cX9_unpack 12 = .ok (.iload_n 1, 1) := by decide +kernel
theorem dX9_unpack_13 : decode cX9_unpack 13 = .ok (.aload_n 0, 1) := by decide +kernel
theorem dX9_unpack_14 : decode cX9_unpack 14 = .ok (.getfield 15, 3) := by decide +kernel
theorem dX9_unpack_17 : decode cX9_unpack 17 = .ok (.arraylength, 1) := by decide +kernel
theorem dX9_unpack_18 : decode cX9_unpack 18 = .ok (.if_icmp .ge 12, 3) := by decide +kernel
theorem dX9_unpack_21 : decode cX9_unpack 21 = .ok (.aload_n 0, 1) := by decide +kernel
theorem dX9_unpack_22 : decode cX9_unpack 22 = .ok (.getfield 15, 3) := by decide +kernel
theorem dX9_unpack_25 : decode cX9_unpack 25 = .ok (.iload_n 1, 1) := by decide +kernel
theorem dX9_unpack_26 : decode cX9_unpack 26 = .ok (.iaload, 1) := by decide +kernel
theorem dX9_unpack_27 : decode cX9_unpack 27 = .ok (.goto 7, 3) := by decide +kernel
theorem dX9_unpack_30 : decode cX9_unpack 30 = .ok (.aload_n 0, 1) := by decide +kernel
theorem dX9_unpack_31 : decode cX9_unpack 31 = .ok (.getfield 29, 3) := by decide +kernel
theorem dX9_unpack_34 : decode cX9_unpack 34 = .ok (.istore_n 3, 1) := by decide +kernel
theorem dX9_unpack_35 : decode cX9_unpack 35 = .ok (.iconst 0, 1) := by decide +kernel
theorem dX9_unpack_36 : decode cX9_unpack 36 = .ok (.istore 4, 2) := by decide +kernel
theorem dX9_unpack_38 : decode cX9_unpack 38 = .ok (.iconst (-1), 1) := by decide +kernel
theorem dX9_unpack_39 : decode cX9_unpack 39 = .ok (.istore 5, 2) := by decide +kernel
theorem dX9_unpack_41 : decode cX9_unpack 41 = .ok (.iload_n 3, 1) := by decide +kernel
theorem dX9_unpack_42 : decode cX9_unpack 42 = .ok (.istore 6, 2) := by decide +kernel
theorem dX9_unpack_44 : decode cX9_unpack 44 = .ok (.iload 6, 2) := by decide +kernel
theorem dX9_unpack_46 : decode cX9_unpack 46 = .ok (.aload_n 0, 1) := by decide +kernel
theorem dX9_unpack_47 : decode cX9_unpack 47 = .ok (.getfield 29, 3) := by decide +kernel
theorem dX9_unpack_50 : decode cX9_unpack 50 = .ok (.if_icmp .ge 147, 3) := by decide +kernel
theorem dX9_unpack_53 : decode cX9_unpack 53 = .ok (.iload 6, 2) := by decide +kernel
theorem dX9_unpack_55 : decode cX9_unpack 55 = .ok (.aload_n 0, 1) := by decide +kernel
theorem dX9_unpack_56 : decode cX9_unpack 56 = .ok (.getfield 11, 3) := by decide +kernel
theorem dX9_unpack_59 : decode cX9_unpack 59 = .ok (.arraylength, 1) := by decide +kernel
theorem dX9_unpack_60 : decode cX9_unpack 60 = .ok (.if_icmp .ge 137, 3) := by decide +kernel
theorem dX9_unpack_63 : decode cX9_unpack 63 = .ok (.bipush 10, 2) := by decide +kernel
theorem dX9_unpack_65 : decode cX9_unpack 65 = .ok (.istore 7, 2) := by decide +kernel
theorem dX9_unpack_67 : decode cX9_unpack 67 = .ok (.iload 7, 2) := by decide +kernel
theorem dX9_unpack_69 : decode cX9_unpack 69 = .ok (.ifCond .lt 106, 3) := by decide +kernel
theorem dX9_unpack_72 : decode cX9_unpack 72 = .ok (.aload_n 0, 1) := by decide +kernel
theorem dX9_unpack_73 : decode cX9_unpack 73 = .ok (.getfield 11, 3) := by decide +kernel
theorem dX9_unpack_76 : decode cX9_unpack 76 = .ok (.iload 6, 2) := by decide +kernel
theorem dX9_unpack_78 : decode cX9_unpack 78 = .ok (.caload, 1) := by decide +kernel
theorem dX9_unpack_79 : decode cX9_unpack 79 = .ok (.iload 7, 2) := by decide +kernel
theorem dX9_unpack_81 : decode cX9_unpack 81 = .ok (.ishr, 1) := by decide +kernel
theorem dX9_unpack_82 : decode cX9_unpack 82 = .ok (.bipush 31, 2) := by decide +kernel
theorem dX9_unpack_84 : decode cX9_unpack 84 = .ok (.iand, 1) := by decide +kernel
theorem dX9_unpack_85 : decode cX9_unpack 85 = .ok (.istore 8, 2) := by decide +kernel
theorem dX9_unpack_87 : decode cX9_unpack 87 = .ok (.iload 5, 2) := by decide +kernel
theorem dX9_unpack_89 : decode cX9_unpack 89 = .ok (.iconst (-1), 1) := by decide +kernel
theorem dX9_unpack_90 : decode cX9_unpack 90 = .ok (.if_icmp .ne 20, 3) := by decide +kernel
theorem dX9_unpack_93 : decode cX9_unpack 93 = .ok (.iload 8, 2) := by decide +kernel
theorem dX9_unpack_95 : decode cX9_unpack 95 = .ok (.bipush 29, 2) := by decide +kernel
theorem dX9_unpack_97 : decode cX9_unpack 97 = .ok (.if_icmp .lt 13, 3) := by decide +kernel
theorem dX9_unpack_100 : decode cX9_unpack 100 = .ok (.iload 8, 2) := by decide +kernel
theorem dX9_unpack_102 : decode cX9_unpack 102 = .ok (.bipush 29, 2) := by decide +kernel
theorem dX9_unpack_104 : decode cX9_unpack 104 = .ok (.isub, 1) := by decide +kernel
theorem dX9_unpack_105 : decode cX9_unpack 105 = .ok (.istore 5, 2) := by decide +kernel
theorem dX9_unpack_107 : decode cX9_unpack 107 = .ok (.goto 62, 3) := by decide +kernel
theorem dX9_unpack_110 : decode cX9_unpack 110 = .ok (.iload 5, 2) := by decide +kernel
theorem dX9_unpack_112 : decode cX9_unpack 112 = .ok (.iconst (-1), 1) := by decide +kernel
theorem dX9_unpack_113 : decode cX9_unpack 113 = .ok (.if_icmp .ne 8, 3) := by decide +kernel
theorem dX9_unpack_116 : decode cX9_unpack 116 = .ok (.iload 8, 2) := by decide +kernel
theorem dX9_unpack_118 : decode cX9_unpack 118 = .ok (.goto 14, 3) := by decide +kernel
theorem dX9_unpack_121 : decode cX9_unpack 121 = .ok (.bipush 29, 2) := by decide +kernel
theorem dX9_unpack_123 : decode cX9_unpack 123 = .ok (.iload 5, 2) := by decide +kernel
theorem dX9_unpack_125 : decode cX9_unpack 125 = .ok (.bipush 32, 2) := by decide +kernel
theorem dX9_unpack_127 : decode cX9_unpack 127 = .ok (.imul, 1) := by decide +kernel
theorem dX9_unpack_128 : decode cX9_unpack 128 = .ok (.iadd, 1) := by decide +kernel
theorem dX9_unpack_129 : decode cX9_unpack 129 = .ok (.iload 8, 2) := by decide +kernel
theorem dX9_unpack_131 : decode cX9_unpack 131 = .ok (.iadd, 1) := by decide +kernel
theorem dX9_unpack_132 : decode cX9_unpack 132 = .ok (.istore 9, 2) := by decide +kernel
theorem dX9_unpack_134 : decode cX9_unpack 134 = .ok (.iconst (-1), 1) := by decide +kernel
theorem dX9_unpack_135 : decode cX9_unpack 135 = .ok (.istore 5, 2) := by decide +kernel
theorem dX9_unpack_137 : decode cX9_unpack 137 = .ok (.iload 9, 2) := by decide +kernel
theorem dX9_unpack_139 : decode cX9_unpack 139 = .ok (.ldc 76, 2) := by decide +kernel
theorem dX9_unpack_141 : decode cX9_unpack 141 = .ok (.invokevirtual 96, 3) := by decide +kernel
theorem dX9_unpack_144 : decode cX9_unpack 144 = .ok (.if_icmp .ge 25, 3) := by decide +kernel
theorem dX9_unpack_147 : decode cX9_unpack 147 = .ok (.iload 4, 2) := by decide +kernel
theorem dX9_unpack_149 : decode cX9_unpack 149 = .ok (.aload_n 2, 1) := by decide +kernel
theorem dX9_unpack_150 : decode cX9_unpack 150 = .ok (.arraylength, 1) := by decide +kernel
theorem dX9_unpack_151 : decode cX9_unpack 151 = .ok (.if_icmp .ge 18, 3) := by decide +kernel
theorem dX9_unpack_154 : decode cX9_unpack 154 = .ok (.aload_n 2, 1) := by decide +kernel
theorem dX9_unpack_155 : decode cX9_unpack 155 = .ok (.iload 4, 2) := by decide +kernel
theorem dX9_unpack_157 : decode cX9_unpack 157 = .ok (.ldc 76, 2) := by decide +kernel
theorem dX9_unpack_159 : decode cX9_unpack 159 = .ok (.iload 9, 2) := by decide +kernel
theorem dX9_unpack_161 : decode cX9_unpack 161 = .ok (.invokevirtual 99, 3) := by decide +kernel
theorem dX9_unpack_164 : decode cX9_unpack 164 = .ok (.i2b, 1) := by decide +kernel
theorem dX9_unpack_165 : decode cX9_unpack 165 = .ok (.bastore, 1) := by decide +kernel
theorem dX9_unpack_166 : decode cX9_unpack 166 = .ok (.iinc 4 1, 3) := by decide +kernel
theorem dX9_unpack_169 : decode cX9_unpack 169 = .ok (.iinc 7 (-5), 3) := by decide +kernel
theorem dX9_unpack_172 : decode cX9_unpack 172 = .ok (.goto (-105), 3) := by decide +kernel
theorem dX9_unpack_175 : decode cX9_unpack 175 = .ok (.aload_n 0, 1) := by decide +kernel
theorem dX9_unpack_176 : decode cX9_unpack 176 = .ok (.getfield 11, 3) := by decide +kernel
theorem dX9_unpack_179 : decode cX9_unpack 179 = .ok (.iload 6, 2) := by decide +kernel
theorem dX9_unpack_181 : decode cX9_unpack 181 = .ok (.caload, 1) := by decide +kernel
theorem dX9_unpack_182 : decode cX9_unpack 182 = .ok (.ldc 95, 2) := by decide +kernel
theorem dX9_unpack_184 : decode cX9_unpack 184 = .ok (.iand, 1) := by decide +kernel
theorem dX9_unpack_185 : decode cX9_unpack 185 = .ok (.ifCond .eq 6, 3) := by decide +kernel
theorem dX9_unpack_188 : decode cX9_unpack 188 = .ok (.iload 4, 2) := by decide +kernel
theorem dX9_unpack_190 : decode cX9_unpack 190 = .ok (.ireturn, 1) := by decide +kernel
theorem dX9_unpack_191 : decode cX9_unpack 191 = .ok (.iinc 6 1, 3) := by decide +kernel
theorem dX9_unpack_194 : decode cX9_unpack 194 = .ok (.goto (-150), 3) := by decide +kernel
theorem dX9_unpack_197 : decode cX9_unpack 197 = .ok (.iload 4, 2) := by decide +kernel
theorem dX9_unpack_199 : decode cX9_unpack 199 = .ok (.ireturn, 1) := by decide +kernel
def F_X9_unpack_k (p0 : Int32) (Γ : HS) : HR :=
  bnd (fun (t_1 : Int32) (σ_2 : HS) => (
    loopF (fun (again_7 : (Int32 × Int32 × Int32 × HS) → HR) (s_6 : Int32 × Int32 × Int32 × HS) => (
      if ((s_6.2.2.2 6).1 1) ≤ s_6.2.2.1 then (
        some (s_6.1, s_6.2.2.2)
      ) else (
        if 16000 ≤ s_6.2.2.1 then (
          some (s_6.1, s_6.2.2.2)
        ) else (
          loopF (fun (again_17 : (Int32 × Int32 × Int32 × HS) → HR) (s_16 : Int32 × Int32 × Int32 × HS) => (
            if s_16.2.2.1 < 0 then (
              if s_6.2.2.1 < 0 ∨ 16000 ≤ s_6.2.2.1.toNatClampNeg then none else
              bnd ((((s_16.2.2.2 6).2.1 0 s_6.2.2.1.toNatClampNeg) &&& 32768)) fun (x_24 : Int32) =>
              if x_24 = 0 then (
                bnd (s_6.2.2.1 + 1) fun (x_28 : Int32) =>
                again_7 (s_16.1, s_16.2.1, x_28, s_16.2.2.2)
              ) else (
                some (s_16.1, s_16.2.2.2)
              )
            ) else (
              if s_6.2.2.1 < 0 ∨ 16000 ≤ s_6.2.2.1.toNatClampNeg then none else
              bnd (((((s_16.2.2.2 6).2.1 0 s_6.2.2.1.toNatClampNeg) >>> (s_16.2.2.1 &&& 31)) &&& 31)) fun (x_34 : Int32) =>
              bnd (fun (v4_36 : Int32) (v5_37 : Int32) (σ_38 : HS) => (
                bnd (s_16.2.2.1 + (-5)) fun (x_42 : Int32) =>
                again_17 (v4_36, v5_37, x_42, σ_38)
              ) : Int32 → Int32 → HS → HR) fun j_39 =>
              bnd (fun  (σ_44 : HS) => (
                bnd (fun (t_48 : Int32) (σ_49 : HS) => (
                  bnd ((Int32.ofNat (([32, 10, 97, 98, 99, 100, 101, 102, 103, 104, 105, 106, 107, 108, 109, 110, 111, 112, 113, 114, 115, 116, 117, 118, 119, 120, 121, 122, 46, 33, 35, 36, 37, 38, 39, 40, 41, 42, 43, 44, 45, 47, 48, 49, 50, 51, 52, 53, 54, 55, 56, 57, 58, 59, 60, 61, 62, 63, 64, 65, 66, 67, 68, 69, 70, 71, 72, 73, 74, 75, 76, 77, 78, 79, 80, 81, 82, 83, 84, 85, 86, 87, 88, 89, 90, 91, 92, 93, 95, 96, 123, 124, 125, 126] : List Int32)).length)) fun (x_54 : Int32) =>
                  if x_54 ≤ t_48 then (
                    j_39 s_16.1 (-1) σ_49
                  ) else (
                    if 200 ≤ s_16.1 then (
                      j_39 s_16.1 (-1) σ_49
                    ) else (
                      if t_48 < 0 ∨ Int32.ofNat (([32, 10, 97, 98, 99, 100, 101, 102, 103, 104, 105, 106, 107, 108, 109, 110, 111, 112, 113, 114, 115, 116, 117, 118, 119, 120, 121, 122, 46, 33, 35, 36, 37, 38, 39, 40, 41, 42, 43, 44, 45, 47, 48, 49, 50, 51, 52, 53, 54, 55, 56, 57, 58, 59, 60, 61, 62, 63, 64, 65, 66, 67, 68, 69, 70, 71, 72, 73, 74, 75, 76, 77, 78, 79, 80, 81, 82, 83, 84, 85, 86, 87, 88, 89, 90, 91, 92, 93, 95, 96, 123, 124, 125, 126] : List Int32)).length ≤ t_48 then none else
                      bnd ((g_chr ((([32, 10, 97, 98, 99, 100, 101, 102, 103, 104, 105, 106, 107, 108, 109, 110, 111, 112, 113, 114, 115, 116, 117, 118, 119, 120, 121, 122, 46, 33, 35, 36, 37, 38, 39, 40, 41, 42, 43, 44, 45, 47, 48, 49, 50, 51, 52, 53, 54, 55, 56, 57, 58, 59, 60, 61, 62, 63, 64, 65, 66, 67, 68, 69, 70, 71, 72, 73, 74, 75, 76, 77, 78, 79, 80, 81, 82, 83, 84, 85, 86, 87, 88, 89, 90, 91, 92, 93, 95, 96, 123, 124, 125, 126] : List Int32)).getD t_48.toNatClampNeg 0))) fun (x_65 : Int32) =>
                      bnd (x_65.toInt8.toInt32) fun (x_67 : Int32) =>
                      if s_16.1 < 0 ∨ 200 ≤ s_16.1.toNatClampNeg then none else
                      bnd (cA' σ_49 10 15 (upd ((σ_49 10).2.1 15) s_16.1.toNatClampNeg (vp_nar .byte x_67))) fun σ_71 =>
                      bnd (s_16.1 + 1) fun (x_73 : Int32) =>
                      j_39 x_73 (-1) σ_71
                    )
                  )
                ) : Int32 → HS → HR) fun j_50 =>
                if s_16.2.1 = (-1) then (
                  j_50 x_34 σ_44
                ) else (
                  j_50 ((29 + (s_16.2.1 * 32)) + x_34) σ_44
                )
              ) : HS → HR) fun j_45 =>
              if s_16.2.1 = (-1) then (
                if x_34 < 29 then (
                  j_45  s_16.2.2.2
                ) else (
                  bnd ((x_34 - 29)) fun (x_83 : Int32) =>
                  j_39 s_16.1 x_83 s_16.2.2.2
                )
              ) else (
                j_45  s_16.2.2.2
              )
            )
          )) FU (s_6.1, s_6.2.1, 10, s_6.2.2.2)
        )
      )
    )) FU (0, (-1), t_1, σ_2)
  ) : Int32 → HS → HR) fun j_3 =>
  bnd (fun  (σ_86 : HS) => (
    j_3 ((σ_86 6).1 1) σ_86
  ) : HS → HR) fun j_87 =>
  if p0 < 0 then (
    j_87  Γ
  ) else (
    if ((Γ 6).1 6) ≤ p0 then (
      j_87  Γ
    ) else (
      if 8000 ≤ p0 then (
        j_87  Γ
      ) else (
        if p0 < 0 ∨ 8000 ≤ p0.toNatClampNeg then none else
        j_3 ((Γ 6).2.1 4 p0.toNatClampNeg) Γ
      )
    )
  )
set_option maxHeartbeats 4000000 in
set_option maxRecDepth 100000 in
theorem k_X9_unpack_k (l : Launch) (dC : Nat → ClassId) (dI : Nat → Nat → Nat) (cB cC cI cJ cZ cP : ClassId) (oA : Nat → Nat) (rA : Nat → Nat → Nat) (sz : Nat)  (p0 : Int32) (Γ : HS) (res : Int32 × HS) (hF : F_X9_unpack_k p0 Γ = some res) : Met l yX9_unpack (g_ws yX9_unpack cX9_unpack 10 (some .int)) ({ frames := 5, cells := 0, slots := 0, locals := 125 }) (va_Pc [.ref (oA 6), .int p0, .ref (rA 10 15)] (g_B (dC, dI) [(cB, .byte), (cC, .char), (cI, .int), (cJ, .long), (cZ, .boolean), (cP, .object "StoryHouse$Play")] sz (b_k cB cC cI cJ cZ oA rA Γ ++ b_t cB cC cI cJ cZ oA rA Γ) g_0)) (va_Qi (fun r (_ : Unit) => r = res.1) (g_Bo (dC, dI) (va_A (b_k cB cC cI cJ cZ oA rA Γ ++ b_t cB cC cI cJ cZ oA rA Γ) sz) (fun (_ : Unit) => (b_k cB cC cI cJ cZ oA rA res.2 ++ b_t cB cC cI cJ cZ oA rA res.2))) (va_A (b_k cB cC cI cJ cZ oA rA Γ ++ b_t cB cC cI cJ cZ oA rA Γ) sz)) 0 0 (va_A (b_k cB cC cI cJ cZ oA rA Γ ++ b_t cB cC cI cJ cZ oA rA Γ) sz) := by
  refine Met.ofW (cc := cX9_unpack) (maxL := 10) (ret := (some .int)) (by decide) rfl ?_
  intro p e s m args below meth c s₁ B hml hv
  obtain ⟨rfl, hsz, hP, hK, hD0, hE, hX⟩ := hv
  have hx := B.exec
  have hb := B.bytes
  have hr := B.returns
  have hts0 := atoms_spec (ws := g_ws yX9_unpack cX9_unpack 10 (some .int)) B.pre
  have hts : ∀ w ∈ lw_good, w.before ([.ref (oA 6), .int p0, .ref (rA 10 15)] : List Value).toArray s = true := fun w z => hts0 w (List.mem_cons_of_mem _ z)
  have hown : s.vm.findClass RX9 = some m.cls := findClass_of_methodNamed B.named
  have hlocks := B.notSynchronized
  subst hsz
  have hD1 := hD0.self (sz := s.heap.size)
  generalize hAe : va_A (b_k cB cC cI cJ cZ oA rA Γ ++ b_t cB cC cI cJ cZ oA rA Γ) s.heap.size = A at hD1 hE hX ⊢
  have hA : ∀ q : Nat, s.heap.size ≤ q → A q := fun q z => by rw [← hAe]; exact Or.inr z
  have hDD : ∀ Γ : HS, va_D A (b_k cB cC cI cJ cZ oA rA Γ ++ b_t cB cC cI cJ cZ oA rA Γ) := fun Γ9 => va_D_fst (ws := (b_k cB cC cI cJ cZ oA rA Γ ++ b_t cB cC cI cJ cZ oA rA Γ)) (ws' := (b_k cB cC cI cJ cZ oA rA Γ9 ++ b_t cB cC cI cJ cZ oA rA Γ9)) rfl hD1
  have hN := hE.1
  have hS : va_S A s.heap s.heap [] := va_S.rf
  have hl := lv_entry ([.ref (oA 6), .int p0, .ref (rA 10 15)]) (n := 10) (Nat.le_of_ble_eq_true rfl)
  rw [lg_entry_eq]
  generalize (lg_sl ([.ref (oA 6), .int p0, .ref (rA 10 15)]) ++ List.replicate (10 - (lg_sl ([.ref (oA 6), .int p0, .ref (rA 10 15)])).length) Slot.unset).toArray = ls at hl ⊢
  have hl : lv_has ls 10 [(0, .ref (oA 6)), (1, .int p0), (2, .ref (rA 10 15))] := hl
  unfold F_X9_unpack_k at hF
  refine lv_iload_n hx hb dX9_unpack_0 rfl (lv_at hl 1 rfl) ?_
  obtain ⟨j_3, ej_3, hF_4⟩ := bnd_e hF
  clear hF
  have Jj_3 : ∀ (t_1 : Int32) (σ_2 : HS), j_3 t_1 σ_2 = some res → ∀ (H : Heap) (locs : List Loc), va_P (dC, dI) vwCl (b_k cB cC cI cJ cZ oA rA σ_2 ++ b_t cB cC cI cJ cZ oA rA σ_2) H → va_S A s.heap H locs → ∀ ls : Array Slot, lv_has ls 10 [(0, .ref (oA 6)), (2, .ref (rA 10 15))] → W p l e (headSpec (g_ws yX9_unpack cX9_unpack 10 (some .int)) { frames := 5, cells := 0, slots := 0, locals := 125 }).room s m ([.ref (oA 6), .int p0, .ref (rA 10 15)] : List Value).toArray below meth c H locs 0 0 (MQ below (va_Qi (fun r (_ : Unit) => r = res.1) (g_Bo (dC, dI) A (fun (_ : Unit) => (b_k cB cC cI cJ cZ oA rA res.2 ++ b_t cB cC cI cJ cZ oA rA res.2))) A) ([.ref (oA 6), .int p0, .ref (rA 10 15)] : List Value).toArray s 0 0 A) (F0 m 34 ls [.int t_1]) := by
    intro t_1 σ_2 hF0 H locs hP hS ls hl
    subst ej_3
    have hF_5 := hF0
    clear hF0
    refine lv_istore_n (lv' := [(3, .int t_1), (0, .ref (oA 6)), (2, .ref (rA 10 15))]) hx hb dX9_unpack_34 rfl hl (by decide) rfl (fun ls hl => ?_)
    refine lv_iconst (v := 0) hx hb dX9_unpack_35 (by decide +kernel) ?_
    refine lv_istore (lv' := [(4, .int 0), (3, .int t_1), (0, .ref (oA 6)), (2, .ref (rA 10 15))]) hx hb dX9_unpack_36 hl (by decide) rfl (fun ls hl => ?_)
    refine lv_iconst (v := (-1)) hx hb dX9_unpack_38 (by decide +kernel) ?_
    refine lv_istore (lv' := [(5, .int (-1)), (4, .int 0), (3, .int t_1), (0, .ref (oA 6)), (2, .ref (rA 10 15))]) hx hb dX9_unpack_39 hl (by decide) rfl (fun ls hl => ?_)
    refine lv_iload_n hx hb dX9_unpack_41 rfl (lv_at hl 2 rfl) ?_
    refine lv_istore (lv' := [(6, .int t_1), (5, .int (-1)), (4, .int 0), (3, .int t_1), (0, .ref (oA 6)), (2, .ref (rA 10 15))]) hx hb dX9_unpack_42 hl (by decide) rfl (fun ls hl => ?_)
    refine loopF_ind (P := fun (s_6 : Int32 × Int32 × Int32 × HS) => ∀ (H : Heap) (locs : List Loc), va_P (dC, dI) vwCl (b_k cB cC cI cJ cZ oA rA s_6.2.2.2 ++ b_t cB cC cI cJ cZ oA rA s_6.2.2.2) H → va_S A s.heap H locs → ∀ ls : Array Slot, lv_has ls 10 [(0, .ref (oA 6)), (2, .ref (rA 10 15)), (4, .int s_6.1), (5, .int s_6.2.1), (6, .int s_6.2.2.1)] → W p l e (headSpec (g_ws yX9_unpack cX9_unpack 10 (some .int)) { frames := 5, cells := 0, slots := 0, locals := 125 }).room s m ([.ref (oA 6), .int p0, .ref (rA 10 15)] : List Value).toArray below meth c H locs 0 0 (MQ below (va_Qi (fun r (_ : Unit) => r = res.1) (g_Bo (dC, dI) A (fun (_ : Unit) => (b_k cB cC cI cJ cZ oA rA res.2 ++ b_t cB cC cI cJ cZ oA rA res.2))) A) ([.ref (oA 6), .int p0, .ref (rA 10 15)] : List Value).toArray s 0 0 A) (F0 m 44 ls [])) ?_ _ _ hF_5 _ _ hP hS ls (lv_sub hl [4, 5, 2, 1, 0] rfl)
    intro again_7 s_6 ih_8 hF_9
    intro H locs hP hS ls hl
    refine lv_iload hx hb dX9_unpack_44 (lv_at hl 4 rfl) ?_
    refine lv_aload_n hx hb dX9_unpack_46 rfl (lv_at hl 0 rfl) ?_
    refine va_get (D := (dC, dI)) (ci := 9) (v := .int ((s_6.2.2.2 6).1 1)) (C := RX9) (T := TX9) (N := 9) hx hb hts ii_X9 hown hK hP 5 rfl rfl 1 (by decide) (hts (.fieldLink RX9 29 "StoryHouse$Texts" "unitCount" "I") wq_135) (fun _ h9 => h9) rfl dX9_unpack_47 ?_
    refine lv_icmp_ge (tgt := 197) hx hb dX9_unpack_50 (by decide) (fun c_10 => ?_) (fun c_10 => ?_)
    · have hF_11 := ipos c_10 hF_9
      clear hF_9
      refine lv_iload hx hb dX9_unpack_197 (lv_at hl 2 rfl) ?_
      have h9 := Option.some.inj hF_11
      subst h9
      exact W.iret (v := s_6.1) hx hb hr (fun t ht hW => ⟨⟨s_6.1, (), rfl, rfl, m_end ht hP, hDD _⟩, hS.F ht⟩) hS.2.2 dX9_unpack_199
    · have hF_12 := ineg c_10 hF_9
      clear hF_9
      refine lv_iload hx hb dX9_unpack_53 (lv_at hl 4 rfl) ?_
      refine lv_aload_n hx hb dX9_unpack_55 rfl (lv_at hl 0 rfl) ?_
      refine va_get (D := (dC, dI)) (ci := 9) (v := .ref (rA 6 0)) (C := RX9) (T := TX9) (N := 9) hx hb hts ii_X9 hown hK hP 5 rfl rfl 0 (by decide) (hts (.fieldLink RX9 11 "StoryHouse$Texts" "units" "[C") wq_134) (fun _ h9 => h9) rfl dX9_unpack_56 ?_
      refine va_alen (v := 16000) hx hb hK hP 6 1 rfl rfl (by first | rfl | decide +kernel) dX9_unpack_59 ?_
      refine lv_icmp_ge (tgt := 197) hx hb dX9_unpack_60 (by decide) (fun c_13 => ?_) (fun c_13 => ?_)
      · have hF_14 := ipos c_13 hF_12
        clear hF_12
        refine lv_iload hx hb dX9_unpack_197 (lv_at hl 2 rfl) ?_
        have h9 := Option.some.inj hF_14
        subst h9
        exact W.iret (v := s_6.1) hx hb hr (fun t ht hW => ⟨⟨s_6.1, (), rfl, rfl, m_end ht hP, hDD _⟩, hS.F ht⟩) hS.2.2 dX9_unpack_199
      · have hF_15 := ineg c_13 hF_12
        clear hF_12
        refine lv_bipush (v := 10) hx hb dX9_unpack_63 (by decide +kernel) ?_
        refine lv_istore (lv' := [(7, .int 10), (0, .ref (oA 6)), (2, .ref (rA 10 15)), (4, .int s_6.1), (5, .int s_6.2.1), (6, .int s_6.2.2.1)]) hx hb dX9_unpack_65 hl (by decide) rfl (fun ls hl => ?_)
        refine loopF_ind (P := fun (s_16 : Int32 × Int32 × Int32 × HS) => ∀ (H : Heap) (locs : List Loc), va_P (dC, dI) vwCl (b_k cB cC cI cJ cZ oA rA s_16.2.2.2 ++ b_t cB cC cI cJ cZ oA rA s_16.2.2.2) H → va_S A s.heap H locs → ∀ ls : Array Slot, lv_has ls 10 [(0, .ref (oA 6)), (2, .ref (rA 10 15)), (4, .int s_16.1), (5, .int s_16.2.1), (6, .int s_6.2.2.1), (7, .int s_16.2.2.1)] → W p l e (headSpec (g_ws yX9_unpack cX9_unpack 10 (some .int)) { frames := 5, cells := 0, slots := 0, locals := 125 }).room s m ([.ref (oA 6), .int p0, .ref (rA 10 15)] : List Value).toArray below meth c H locs 0 0 (MQ below (va_Qi (fun r (_ : Unit) => r = res.1) (g_Bo (dC, dI) A (fun (_ : Unit) => (b_k cB cC cI cJ cZ oA rA res.2 ++ b_t cB cC cI cJ cZ oA rA res.2))) A) ([.ref (oA 6), .int p0, .ref (rA 10 15)] : List Value).toArray s 0 0 A) (F0 m 67 ls [])) ?_ _ _ hF_15 _ _ hP hS ls (lv_sub hl [1, 2, 3, 4, 5, 0] rfl)
        intro again_17 s_16 ih_18 hF_19
        intro H locs hP hS ls hl
        refine lv_iload hx hb dX9_unpack_67 (lv_at hl 5 rfl) ?_
        refine lv_if_lt (tgt := 175) hx hb dX9_unpack_69 (by decide) (fun c_20 => ?_) (fun c_20 => ?_)
        · have hF_21 := ipos c_20 hF_19
          clear hF_19
          refine lv_aload_n hx hb dX9_unpack_175 rfl (lv_at hl 0 rfl) ?_
          refine va_get (D := (dC, dI)) (ci := 9) (v := .ref (rA 6 0)) (C := RX9) (T := TX9) (N := 9) hx hb hts ii_X9 hown hK hP 5 rfl rfl 0 (by decide) (hts (.fieldLink RX9 11 "StoryHouse$Texts" "units" "[C") wq_134) (fun _ h9 => h9) rfl dX9_unpack_176 ?_
          refine lv_iload hx hb dX9_unpack_179 (lv_at hl 4 rfl) ?_
          obtain ⟨g_22, hF_23⟩ := nif_e hF_21
          clear hF_21
          refine va_cald (f := (s_16.2.2.2 6).2.1 0) hx hb hK hP 6 1 rfl rfl g_22 dX9_unpack_181 ?_
          refine lv_ldc (v := 32768) hx hb hown (hts (.constant RX9 95 (32768)) wq_868) dX9_unpack_182 ?_
          refine lv_iand hx hb dX9_unpack_184 ?_
          obtain ⟨x_24, ex_24, hF_25⟩ := bnd_e hF_23
          clear hF_23
          refine m_top ex_24 ?_
          refine lv_if_eq (tgt := 191) hx hb dX9_unpack_185 (by decide) (fun c_26 => ?_) (fun c_26 => ?_)
          · have hF_27 := ipos c_26 hF_25
            clear hF_25
            obtain ⟨x_28, ex_28, hF_29⟩ := bnd_e hF_27
            clear hF_27
            refine lv_iinc (v := x_28) (lv' := [(6, .int x_28), (0, .ref (oA 6)), (2, .ref (rA 10 15)), (4, .int s_16.1), (5, .int s_16.2.1), (7, .int s_16.2.2.1)]) hx hb dX9_unpack_191 hl (k := 4) rfl (by rw [ex_28]; rfl) (by decide) rfl (fun ls hl => ?_)
            refine lv_goto (tgt := 44) hx hb dX9_unpack_194 (by decide) ?_
            exact ih_8 (s_16.1, s_16.2.1, x_28, s_16.2.2.2) hF_29 _ _ hP hS ls (lv_sub hl [1, 2, 3, 4, 0] rfl)
          · have hF_30 := ineg c_26 hF_25
            clear hF_25
            refine lv_iload hx hb dX9_unpack_188 (lv_at hl 2 rfl) ?_
            have h9 := Option.some.inj hF_30
            subst h9
            exact W.iret (v := s_16.1) hx hb hr (fun t ht hW => ⟨⟨s_16.1, (), rfl, rfl, m_end ht hP, hDD _⟩, hS.F ht⟩) hS.2.2 dX9_unpack_190
        · have hF_31 := ineg c_20 hF_19
          clear hF_19
          refine lv_aload_n hx hb dX9_unpack_72 rfl (lv_at hl 0 rfl) ?_
          refine va_get (D := (dC, dI)) (ci := 9) (v := .ref (rA 6 0)) (C := RX9) (T := TX9) (N := 9) hx hb hts ii_X9 hown hK hP 5 rfl rfl 0 (by decide) (hts (.fieldLink RX9 11 "StoryHouse$Texts" "units" "[C") wq_134) (fun _ h9 => h9) rfl dX9_unpack_73 ?_
          refine lv_iload hx hb dX9_unpack_76 (lv_at hl 4 rfl) ?_
          obtain ⟨g_32, hF_33⟩ := nif_e hF_31
          clear hF_31
          refine va_cald (f := (s_16.2.2.2 6).2.1 0) hx hb hK hP 6 1 rfl rfl g_32 dX9_unpack_78 ?_
          refine lv_iload hx hb dX9_unpack_79 (lv_at hl 5 rfl) ?_
          refine lv_ishr hx hb dX9_unpack_81 ?_
          refine lv_bipush (v := 31) hx hb dX9_unpack_82 (by decide +kernel) ?_
          refine lv_iand hx hb dX9_unpack_84 ?_
          obtain ⟨x_34, ex_34, hF_35⟩ := bnd_e hF_33
          clear hF_33
          refine m_top ex_34 ?_
          refine lv_istore (lv' := [(8, .int x_34), (0, .ref (oA 6)), (2, .ref (rA 10 15)), (4, .int s_16.1), (5, .int s_16.2.1), (6, .int s_6.2.2.1), (7, .int s_16.2.2.1)]) hx hb dX9_unpack_85 hl (by decide) rfl (fun ls hl => ?_)
          refine lv_iload hx hb dX9_unpack_87 (lv_at hl 4 rfl) ?_
          refine lv_iconst (v := (-1)) hx hb dX9_unpack_89 (by decide +kernel) ?_
          obtain ⟨j_39, ej_39, hF_40⟩ := bnd_e hF_35
          clear hF_35
          have Jj_39 : ∀ (v4_36 : Int32) (v5_37 : Int32) (σ_38 : HS), j_39 v4_36 v5_37 σ_38 = some res → ∀ (H : Heap) (locs : List Loc), va_P (dC, dI) vwCl (b_k cB cC cI cJ cZ oA rA σ_38 ++ b_t cB cC cI cJ cZ oA rA σ_38) H → va_S A s.heap H locs → ∀ ls : Array Slot, lv_has ls 10 [(0, .ref (oA 6)), (2, .ref (rA 10 15)), (4, .int v4_36), (5, .int v5_37), (6, .int s_6.2.2.1), (7, .int s_16.2.2.1)] → W p l e (headSpec (g_ws yX9_unpack cX9_unpack 10 (some .int)) { frames := 5, cells := 0, slots := 0, locals := 125 }).room s m ([.ref (oA 6), .int p0, .ref (rA 10 15)] : List Value).toArray below meth c H locs 0 0 (MQ below (va_Qi (fun r (_ : Unit) => r = res.1) (g_Bo (dC, dI) A (fun (_ : Unit) => (b_k cB cC cI cJ cZ oA rA res.2 ++ b_t cB cC cI cJ cZ oA rA res.2))) A) ([.ref (oA 6), .int p0, .ref (rA 10 15)] : List Value).toArray s 0 0 A) (F0 m 169 ls []) := by
            intro v4_36 v5_37 σ_38 hF0 H locs hP hS ls hl
            subst ej_39
            have hF_41 := hF0
            clear hF0
            obtain ⟨x_42, ex_42, hF_43⟩ := bnd_e hF_41
            clear hF_41
            refine lv_iinc (v := x_42) (lv' := [(7, .int x_42), (0, .ref (oA 6)), (2, .ref (rA 10 15)), (4, .int v4_36), (5, .int v5_37), (6, .int s_6.2.2.1)]) hx hb dX9_unpack_169 hl (k := 5) rfl (by rw [ex_42]; rfl) (by decide) rfl (fun ls hl => ?_)
            refine lv_goto (tgt := 67) hx hb dX9_unpack_172 (by decide) ?_
            exact ih_18 (v4_36, v5_37, x_42, σ_38) hF_43 _ _ hP hS ls (lv_sub hl [1, 2, 3, 4, 5, 0] rfl)
          obtain ⟨j_45, ej_45, hF_46⟩ := bnd_e hF_40
          clear hF_40
          have Jj_45 : ∀  (σ_44 : HS), j_45  σ_44 = some res → ∀ (H : Heap) (locs : List Loc), va_P (dC, dI) vwCl (b_k cB cC cI cJ cZ oA rA σ_44 ++ b_t cB cC cI cJ cZ oA rA σ_44) H → va_S A s.heap H locs → ∀ ls : Array Slot, lv_has ls 10 [(0, .ref (oA 6)), (2, .ref (rA 10 15)), (4, .int s_16.1), (5, .int s_16.2.1), (6, .int s_6.2.2.1), (7, .int s_16.2.2.1), (8, .int x_34)] → W p l e (headSpec (g_ws yX9_unpack cX9_unpack 10 (some .int)) { frames := 5, cells := 0, slots := 0, locals := 125 }).room s m ([.ref (oA 6), .int p0, .ref (rA 10 15)] : List Value).toArray below meth c H locs 0 0 (MQ below (va_Qi (fun r (_ : Unit) => r = res.1) (g_Bo (dC, dI) A (fun (_ : Unit) => (b_k cB cC cI cJ cZ oA rA res.2 ++ b_t cB cC cI cJ cZ oA rA res.2))) A) ([.ref (oA 6), .int p0, .ref (rA 10 15)] : List Value).toArray s 0 0 A) (F0 m 110 ls []) := by
            intro  σ_44 hF0 H locs hP hS ls hl
            subst ej_45
            have hF_47 := hF0
            clear hF0
            refine lv_iload hx hb dX9_unpack_110 (lv_at hl 3 rfl) ?_
            refine lv_iconst (v := (-1)) hx hb dX9_unpack_112 (by decide +kernel) ?_
            obtain ⟨j_50, ej_50, hF_51⟩ := bnd_e hF_47
            clear hF_47
            have Jj_50 : ∀ (t_48 : Int32) (σ_49 : HS), j_50 t_48 σ_49 = some res → ∀ (H : Heap) (locs : List Loc), va_P (dC, dI) vwCl (b_k cB cC cI cJ cZ oA rA σ_49 ++ b_t cB cC cI cJ cZ oA rA σ_49) H → va_S A s.heap H locs → ∀ ls : Array Slot, lv_has ls 10 [(0, .ref (oA 6)), (2, .ref (rA 10 15)), (4, .int s_16.1), (6, .int s_6.2.2.1), (7, .int s_16.2.2.1)] → W p l e (headSpec (g_ws yX9_unpack cX9_unpack 10 (some .int)) { frames := 5, cells := 0, slots := 0, locals := 125 }).room s m ([.ref (oA 6), .int p0, .ref (rA 10 15)] : List Value).toArray below meth c H locs 0 0 (MQ below (va_Qi (fun r (_ : Unit) => r = res.1) (g_Bo (dC, dI) A (fun (_ : Unit) => (b_k cB cC cI cJ cZ oA rA res.2 ++ b_t cB cC cI cJ cZ oA rA res.2))) A) ([.ref (oA 6), .int p0, .ref (rA 10 15)] : List Value).toArray s 0 0 A) (F0 m 132 ls [.int t_48]) := by
              intro t_48 σ_49 hF0 H locs hP hS ls hl
              subst ej_50
              have hF_52 := hF0
              clear hF0
              refine lv_istore (lv' := [(9, .int t_48), (0, .ref (oA 6)), (2, .ref (rA 10 15)), (4, .int s_16.1), (6, .int s_6.2.2.1), (7, .int s_16.2.2.1)]) hx hb dX9_unpack_132 hl (by decide) rfl (fun ls hl => ?_)
              refine lv_iconst (v := (-1)) hx hb dX9_unpack_134 (by decide +kernel) ?_
              refine lv_istore (lv' := [(5, .int (-1)), (9, .int t_48), (0, .ref (oA 6)), (2, .ref (rA 10 15)), (4, .int s_16.1), (6, .int s_6.2.2.1), (7, .int s_16.2.2.1)]) hx hb dX9_unpack_135 hl (by decide) rfl (fun ls hl => ?_)
              refine lv_iload hx hb dX9_unpack_137 (lv_at hl 1 rfl) ?_
              obtain ⟨q_53, vq_53, hRq_53, hSq_53⟩ := hE.2.2.2.2 _ (List.mem_of_getElem? (i := 21) rfl)
              refine va_ldcS (own := RX9) (tx := " \nabcdefghijklmnopqrstuvwxyz.!#$%&'()*+,-/0123456789:;<=>?@ABCDEFGHIJKLMNOPQRSTUVWXYZ[\\]_`{|}~") hx hb hown hRq_53 dX9_unpack_139 ?_
              refine c_cs (v := Int32.ofNat (([32, 10, 97, 98, 99, 100, 101, 102, 103, 104, 105, 106, 107, 108, 109, 110, 111, 112, 113, 114, 115, 116, 117, 118, 119, 120, 121, 122, 46, 33, 35, 36, 37, 38, 39, 40, 41, 42, 43, 44, 45, 47, 48, 49, 50, 51, 52, 53, 54, 55, 56, 57, 58, 59, 60, 61, 62, 63, 64, 65, 66, 67, 68, 69, 70, 71, 72, 73, 74, 75, 76, 77, 78, 79, 80, 81, 82, 83, 84, 85, 86, 87, 88, 89, 90, 91, 92, 93, 95, 96, 123, 124, 125, 126] : List Int32)).length) hA hP hS (va_runV (As := []) (rest := [.int t_48]) ⟨hx, hb, hml, hown, hts⟩ (c_J0_length_8abf5 l dC dI cB cC cI cJ cZ cP H.size q_53  _ ([32, 10, 97, 98, 99, 100, 101, 102, 103, 104, 105, 106, 107, 108, 109, 110, 111, 112, 113, 114, 115, 116, 117, 118, 119, 120, 121, 122, 46, 33, 35, 36, 37, 38, 39, 40, 41, 42, 43, 44, 45, 47, 48, 49, 50, 51, 52, 53, 54, 55, 56, 57, 58, 59, 60, 61, 62, 63, 64, 65, 66, 67, 68, 69, 70, 71, 72, 73, 74, 75, 76, 77, 78, 79, 80, 81, 82, 83, 84, 85, 86, 87, 88, 89, 90, 91, 92, 93, 95, 96, 123, 124, 125, 126] : List Int32) ) (cwV 0 hts (g_gV wq_903 wq_346 wq_347 wq_22 wq_348) rfl rfl rfl (by decide +kernel) ⟨Nat.le_of_ble_eq_true rfl, Nat.le_of_ble_eq_true rfl⟩) (g_preVs g_blS hK (wc := []) (A := A) (fun k q z => by simp at z) ⟨fun i j p q z => by simp at z, fun k q z => by simp at z⟩ hS hE (c_nil hA hS) (g_toS hSq_53 hS (c_nil hA hS)) (va_Orecv hSq_53.1 hS)) rfl rfl hl.1 rfl (lv_room (Nat.le_of_ble_eq_true rfl)) dX9_unpack_141 ⟨Nat.le_of_ble_eq_true rfl, Nat.le_of_ble_eq_true rfl⟩) (fun H locs hP hS => ?_)
              obtain ⟨x_54, ex_54, hF_55⟩ := bnd_e hF_52
              clear hF_52
              refine m_top ex_54 ?_
              refine lv_icmp_ge (tgt := 169) hx hb dX9_unpack_144 (by decide) (fun c_56 => ?_) (fun c_56 => ?_)
              · have hF_57 := ipos c_56 hF_55
                clear hF_55
                exact Jj_39 s_16.1 (-1) σ_49 hF_57 _ _ hP hS ls (lv_sub hl [2, 3, 4, 0, 5, 6] rfl)
              · have hF_58 := ineg c_56 hF_55
                clear hF_55
                refine lv_iload hx hb dX9_unpack_147 (lv_at hl 4 rfl) ?_
                refine lv_aload_n hx hb dX9_unpack_149 rfl (lv_at hl 3 rfl) ?_
                refine va_alen (v := 200) hx hb hK hP 4 0 rfl rfl (by first | rfl | decide +kernel) dX9_unpack_150 ?_
                refine lv_icmp_ge (tgt := 169) hx hb dX9_unpack_151 (by decide) (fun c_59 => ?_) (fun c_59 => ?_)
                · have hF_60 := ipos c_59 hF_58
                  clear hF_58
                  exact Jj_39 s_16.1 (-1) σ_49 hF_60 _ _ hP hS ls (lv_sub hl [2, 3, 4, 0, 5, 6] rfl)
                · have hF_61 := ineg c_59 hF_58
                  clear hF_58
                  refine lv_aload_n hx hb dX9_unpack_154 rfl (lv_at hl 3 rfl) ?_
                  refine lv_iload hx hb dX9_unpack_155 (lv_at hl 4 rfl) ?_
                  obtain ⟨q_62, vq_62, hRq_62, hSq_62⟩ := hE.2.2.2.2 _ (List.mem_of_getElem? (i := 21) rfl)
                  refine va_ldcS (own := RX9) (tx := " \nabcdefghijklmnopqrstuvwxyz.!#$%&'()*+,-/0123456789:;<=>?@ABCDEFGHIJKLMNOPQRSTUVWXYZ[\\]_`{|}~") hx hb hown hRq_62 dX9_unpack_157 ?_
                  refine lv_iload hx hb dX9_unpack_159 (lv_at hl 1 rfl) ?_
                  obtain ⟨g_63, hF_64⟩ := nif_e hF_61
                  clear hF_61
                  refine c_cs (v := g_chr ((([32, 10, 97, 98, 99, 100, 101, 102, 103, 104, 105, 106, 107, 108, 109, 110, 111, 112, 113, 114, 115, 116, 117, 118, 119, 120, 121, 122, 46, 33, 35, 36, 37, 38, 39, 40, 41, 42, 43, 44, 45, 47, 48, 49, 50, 51, 52, 53, 54, 55, 56, 57, 58, 59, 60, 61, 62, 63, 64, 65, 66, 67, 68, 69, 70, 71, 72, 73, 74, 75, 76, 77, 78, 79, 80, 81, 82, 83, 84, 85, 86, 87, 88, 89, 90, 91, 92, 93, 95, 96, 123, 124, 125, 126] : List Int32)).getD t_48.toNatClampNeg 0)) hA hP hS (va_runV (As := [.int t_48]) (rest := [.int s_16.1, .ref (rA 10 15)]) ⟨hx, hb, hml, hown, hts⟩ (c_J0_charAt_5068e l dC dI cB cC cI cJ cZ cP H.size q_62 t_48 _ ([32, 10, 97, 98, 99, 100, 101, 102, 103, 104, 105, 106, 107, 108, 109, 110, 111, 112, 113, 114, 115, 116, 117, 118, 119, 120, 121, 122, 46, 33, 35, 36, 37, 38, 39, 40, 41, 42, 43, 44, 45, 47, 48, 49, 50, 51, 52, 53, 54, 55, 56, 57, 58, 59, 60, 61, 62, 63, 64, 65, 66, 67, 68, 69, 70, 71, 72, 73, 74, 75, 76, 77, 78, 79, 80, 81, 82, 83, 84, 85, 86, 87, 88, 89, 90, 91, 92, 93, 95, 96, 123, 124, 125, 126] : List Int32) (fun z => g_63 (Or.inl z)) (Int32.not_le.mp (fun z => g_63 (Or.inr z)))) (cwV 1 hts (g_gV wq_904 wq_359 wq_360 wq_22 wq_361) rfl rfl rfl (by decide +kernel) ⟨Nat.le_of_ble_eq_true rfl, Nat.le_of_ble_eq_true rfl⟩) (g_preVs g_blS hK (wc := []) (A := A) (fun k q z => by simp at z) ⟨fun i j p q z => by simp at z, fun k q z => by simp at z⟩ hS hE (c_nil hA hS) (g_toS hSq_62 hS (c_nil hA hS)) (va_Orecv hSq_62.1 hS)) rfl rfl hl.1 rfl (lv_room (Nat.le_of_ble_eq_true rfl)) dX9_unpack_161 ⟨Nat.le_of_ble_eq_true rfl, Nat.le_of_ble_eq_true rfl⟩) (fun H locs hP hS => ?_)
                  obtain ⟨x_65, ex_65, hF_66⟩ := bnd_e hF_64
                  clear hF_64
                  refine m_top ex_65 ?_
                  refine lv_i2b hx hb dX9_unpack_164 rfl ?_
                  obtain ⟨x_67, ex_67, hF_68⟩ := bnd_e hF_66
                  clear hF_66
                  refine m_top ex_67 ?_
                  obtain ⟨g_69, hF_70⟩ := nif_e hF_68
                  clear hF_68
                  obtain ⟨σ_71, eσ_71, hF_72⟩ := bnd_e hF_70
                  clear hF_70
                  refine va_bast (f := (σ_49 10).2.1 15) hx hb hK hP (hDD _) hS 4 0 rfl rfl g_69 dX9_unpack_165 (fun H locs hP' _ hS => ?_)
                  have hP : va_P (dC, dI) vwCl (b_k cB cC cI cJ cZ oA rA σ_71 ++ b_t cB cC cI cJ cZ oA rA σ_71) H := by rw [eσ_71]; exact cs_kt_k_15 ▸ hP'
                  clear hP'
                  obtain ⟨x_73, ex_73, hF_74⟩ := bnd_e hF_72
                  clear hF_72
                  refine lv_iinc (v := x_73) (lv' := [(4, .int x_73), (5, .int (-1)), (9, .int t_48), (0, .ref (oA 6)), (2, .ref (rA 10 15)), (6, .int s_6.2.2.1), (7, .int s_16.2.2.1)]) hx hb dX9_unpack_166 hl (k := 4) rfl (by rw [ex_73]; rfl) (by decide) rfl (fun ls hl => ?_)
                  exact Jj_39 x_73 (-1) σ_71 hF_74 _ _ hP hS ls (lv_sub hl [3, 4, 0, 1, 5, 6] rfl)
            refine lv_icmp_ne (tgt := 121) hx hb dX9_unpack_113 (by decide) (fun c_75 => ?_) (fun c_75 => ?_)
            · have hF_77 := ineg c_75 hF_51
              clear hF_51
              refine lv_bipush (v := 29) hx hb dX9_unpack_121 (by decide +kernel) ?_
              refine lv_iload hx hb dX9_unpack_123 (lv_at hl 3 rfl) ?_
              refine lv_bipush (v := 32) hx hb dX9_unpack_125 (by decide +kernel) ?_
              refine lv_imul hx hb dX9_unpack_127 ?_
              refine lv_iadd hx hb dX9_unpack_128 ?_
              refine lv_iload hx hb dX9_unpack_129 (lv_at hl 6 rfl) ?_
              refine lv_iadd hx hb dX9_unpack_131 ?_
              exact Jj_50 ((29 + (s_16.2.1 * 32)) + x_34) σ_44 hF_77 _ _ hP hS ls (lv_sub hl [0, 1, 2, 4, 5] rfl)
            · have hF_76 := ipos c_75 hF_51
              clear hF_51
              refine lv_iload hx hb dX9_unpack_116 (lv_at hl 6 rfl) ?_
              refine lv_goto (tgt := 132) hx hb dX9_unpack_118 (by decide) ?_
              exact Jj_50 x_34 σ_44 hF_76 _ _ hP hS ls (lv_sub hl [0, 1, 2, 4, 5] rfl)
          refine lv_icmp_ne (tgt := 110) hx hb dX9_unpack_90 (by decide) (fun c_78 => ?_) (fun c_78 => ?_)
          · have hF_85 := ineg c_78 hF_46
            clear hF_46
            exact Jj_45  s_16.2.2.2 hF_85 _ _ hP hS ls (lv_sub hl [1, 2, 3, 4, 5, 6, 0] rfl)
          · have hF_79 := ipos c_78 hF_46
            clear hF_46
            refine lv_iload hx hb dX9_unpack_93 (lv_at hl 0 rfl) ?_
            refine lv_bipush (v := 29) hx hb dX9_unpack_95 (by decide +kernel) ?_
            refine lv_icmp_lt (tgt := 110) hx hb dX9_unpack_97 (by decide) (fun c_80 => ?_) (fun c_80 => ?_)
            · have hF_81 := ipos c_80 hF_79
              clear hF_79
              exact Jj_45  s_16.2.2.2 hF_81 _ _ hP hS ls (lv_sub hl [1, 2, 3, 4, 5, 6, 0] rfl)
            · have hF_82 := ineg c_80 hF_79
              clear hF_79
              refine lv_iload hx hb dX9_unpack_100 (lv_at hl 0 rfl) ?_
              refine lv_bipush (v := 29) hx hb dX9_unpack_102 (by decide +kernel) ?_
              refine lv_isub hx hb dX9_unpack_104 ?_
              obtain ⟨x_83, ex_83, hF_84⟩ := bnd_e hF_82
              clear hF_82
              refine m_top ex_83 ?_
              refine lv_istore (lv' := [(5, .int x_83), (8, .int x_34), (0, .ref (oA 6)), (2, .ref (rA 10 15)), (4, .int s_16.1), (6, .int s_6.2.2.1), (7, .int s_16.2.2.1)]) hx hb dX9_unpack_105 hl (by decide) rfl (fun ls hl => ?_)
              refine lv_goto (tgt := 169) hx hb dX9_unpack_107 (by decide) ?_
              exact Jj_39 s_16.1 x_83 s_16.2.2.2 hF_84 _ _ hP hS ls (lv_sub hl [2, 3, 4, 0, 5, 6] rfl)
  obtain ⟨j_87, ej_87, hF_88⟩ := bnd_e hF_4
  clear hF_4
  have Jj_87 : ∀  (σ_86 : HS), j_87  σ_86 = some res → ∀ (H : Heap) (locs : List Loc), va_P (dC, dI) vwCl (b_k cB cC cI cJ cZ oA rA σ_86 ++ b_t cB cC cI cJ cZ oA rA σ_86) H → va_S A s.heap H locs → ∀ ls : Array Slot, lv_has ls 10 [(0, .ref (oA 6)), (2, .ref (rA 10 15))] → W p l e (headSpec (g_ws yX9_unpack cX9_unpack 10 (some .int)) { frames := 5, cells := 0, slots := 0, locals := 125 }).room s m ([.ref (oA 6), .int p0, .ref (rA 10 15)] : List Value).toArray below meth c H locs 0 0 (MQ below (va_Qi (fun r (_ : Unit) => r = res.1) (g_Bo (dC, dI) A (fun (_ : Unit) => (b_k cB cC cI cJ cZ oA rA res.2 ++ b_t cB cC cI cJ cZ oA rA res.2))) A) ([.ref (oA 6), .int p0, .ref (rA 10 15)] : List Value).toArray s 0 0 A) (F0 m 30 ls []) := by
    intro  σ_86 hF0 H locs hP hS ls hl
    subst ej_87
    have hF_89 := hF0
    clear hF0
    refine lv_aload_n hx hb dX9_unpack_30 rfl (lv_at hl 0 rfl) ?_
    refine va_get (D := (dC, dI)) (ci := 9) (v := .int ((σ_86 6).1 1)) (C := RX9) (T := TX9) (N := 9) hx hb hts ii_X9 hown hK hP 5 rfl rfl 1 (by decide) (hts (.fieldLink RX9 29 "StoryHouse$Texts" "unitCount" "I") wq_135) (fun _ h9 => h9) rfl dX9_unpack_31 ?_
    exact Jj_3 ((σ_86 6).1 1) σ_86 hF_89 _ _ hP hS ls (lv_sub hl [0, 1] rfl)
  refine lv_if_lt (tgt := 30) hx hb dX9_unpack_1 (by decide) (fun c_90 => ?_) (fun c_90 => ?_)
  · have hF_91 := ipos c_90 hF_88
    clear hF_88
    exact Jj_87  Γ hF_91 _ _ hP hS ls (lv_sub hl [0, 2] rfl)
  · have hF_92 := ineg c_90 hF_88
    clear hF_88
    refine lv_iload_n hx hb dX9_unpack_4 rfl (lv_at hl 1 rfl) ?_
    refine lv_aload_n hx hb dX9_unpack_5 rfl (lv_at hl 0 rfl) ?_
    refine va_get (D := (dC, dI)) (ci := 9) (v := .int ((Γ 6).1 6)) (C := RX9) (T := TX9) (N := 9) hx hb hts ii_X9 hown hK hP 5 rfl rfl 6 (by decide) (hts (.fieldLink RX9 33 "StoryHouse$Texts" "count" "I") wq_140) (fun _ h9 => h9) rfl dX9_unpack_6 ?_
    refine lv_icmp_ge (tgt := 30) hx hb dX9_unpack_9 (by decide) (fun c_93 => ?_) (fun c_93 => ?_)
    · have hF_94 := ipos c_93 hF_92
      clear hF_92
      exact Jj_87  Γ hF_94 _ _ hP hS ls (lv_sub hl [0, 2] rfl)
    · have hF_95 := ineg c_93 hF_92
      clear hF_92
      refine lv_iload_n hx hb dX9_unpack_12 rfl (lv_at hl 1 rfl) ?_
      refine lv_aload_n hx hb dX9_unpack_13 rfl (lv_at hl 0 rfl) ?_
      refine va_get (D := (dC, dI)) (ci := 9) (v := .ref (rA 6 4)) (C := RX9) (T := TX9) (N := 9) hx hb hts ii_X9 hown hK hP 5 rfl rfl 4 (by decide) (hts (.fieldLink RX9 15 "StoryHouse$Texts" "begins" "[I") wq_138) (fun _ h9 => h9) rfl dX9_unpack_14 ?_
      refine va_alen (v := 8000) hx hb hK hP 7 2 rfl rfl (by first | rfl | decide +kernel) dX9_unpack_17 ?_
      refine lv_icmp_ge (tgt := 30) hx hb dX9_unpack_18 (by decide) (fun c_96 => ?_) (fun c_96 => ?_)
      · have hF_97 := ipos c_96 hF_95
        clear hF_95
        exact Jj_87  Γ hF_97 _ _ hP hS ls (lv_sub hl [0, 2] rfl)
      · have hF_98 := ineg c_96 hF_95
        clear hF_95
        refine lv_aload_n hx hb dX9_unpack_21 rfl (lv_at hl 0 rfl) ?_
        refine va_get (D := (dC, dI)) (ci := 9) (v := .ref (rA 6 4)) (C := RX9) (T := TX9) (N := 9) hx hb hts ii_X9 hown hK hP 5 rfl rfl 4 (by decide) (hts (.fieldLink RX9 15 "StoryHouse$Texts" "begins" "[I") wq_138) (fun _ h9 => h9) rfl dX9_unpack_22 ?_
        refine lv_iload_n hx hb dX9_unpack_25 rfl (lv_at hl 1 rfl) ?_
        obtain ⟨g_99, hF_100⟩ := nif_e hF_98
        clear hF_98
        refine va_iald (f := (Γ 6).2.1 4) hx hb hK hP 7 2 rfl rfl g_99 dX9_unpack_26 ?_
        refine lv_goto (tgt := 34) hx hb dX9_unpack_27 (by decide) ?_
        exact Jj_3 ((Γ 6).2.1 4 p0.toNatClampNeg) Γ hF_100 _ _ hP hS ls (lv_sub hl [0, 2] rfl)
def F_X9_unpack_t (p0 : Int32) (Γ : HS) : HR :=
  bnd (fun (t_1 : Int32) (σ_2 : HS) => (
    loopF (fun (again_7 : (Int32 × Int32 × Int32 × HS) → HR) (s_6 : Int32 × Int32 × Int32 × HS) => (
      if ((s_6.2.2.2 6).1 1) ≤ s_6.2.2.1 then (
        some (s_6.1, s_6.2.2.2)
      ) else (
        if 16000 ≤ s_6.2.2.1 then (
          some (s_6.1, s_6.2.2.2)
        ) else (
          loopF (fun (again_17 : (Int32 × Int32 × Int32 × HS) → HR) (s_16 : Int32 × Int32 × Int32 × HS) => (
            if s_16.2.2.1 < 0 then (
              if s_6.2.2.1 < 0 ∨ 16000 ≤ s_6.2.2.1.toNatClampNeg then none else
              bnd ((((s_16.2.2.2 6).2.1 0 s_6.2.2.1.toNatClampNeg) &&& 32768)) fun (x_24 : Int32) =>
              if x_24 = 0 then (
                bnd (s_6.2.2.1 + 1) fun (x_28 : Int32) =>
                again_7 (s_16.1, s_16.2.1, x_28, s_16.2.2.2)
              ) else (
                some (s_16.1, s_16.2.2.2)
              )
            ) else (
              if s_6.2.2.1 < 0 ∨ 16000 ≤ s_6.2.2.1.toNatClampNeg then none else
              bnd (((((s_16.2.2.2 6).2.1 0 s_6.2.2.1.toNatClampNeg) >>> (s_16.2.2.1 &&& 31)) &&& 31)) fun (x_34 : Int32) =>
              bnd (fun (v4_36 : Int32) (v5_37 : Int32) (σ_38 : HS) => (
                bnd (s_16.2.2.1 + (-5)) fun (x_42 : Int32) =>
                again_17 (v4_36, v5_37, x_42, σ_38)
              ) : Int32 → Int32 → HS → HR) fun j_39 =>
              bnd (fun  (σ_44 : HS) => (
                bnd (fun (t_48 : Int32) (σ_49 : HS) => (
                  bnd ((Int32.ofNat (([32, 10, 97, 98, 99, 100, 101, 102, 103, 104, 105, 106, 107, 108, 109, 110, 111, 112, 113, 114, 115, 116, 117, 118, 119, 120, 121, 122, 46, 33, 35, 36, 37, 38, 39, 40, 41, 42, 43, 44, 45, 47, 48, 49, 50, 51, 52, 53, 54, 55, 56, 57, 58, 59, 60, 61, 62, 63, 64, 65, 66, 67, 68, 69, 70, 71, 72, 73, 74, 75, 76, 77, 78, 79, 80, 81, 82, 83, 84, 85, 86, 87, 88, 89, 90, 91, 92, 93, 95, 96, 123, 124, 125, 126] : List Int32)).length)) fun (x_54 : Int32) =>
                  if x_54 ≤ t_48 then (
                    j_39 s_16.1 (-1) σ_49
                  ) else (
                    if 200 ≤ s_16.1 then (
                      j_39 s_16.1 (-1) σ_49
                    ) else (
                      if t_48 < 0 ∨ Int32.ofNat (([32, 10, 97, 98, 99, 100, 101, 102, 103, 104, 105, 106, 107, 108, 109, 110, 111, 112, 113, 114, 115, 116, 117, 118, 119, 120, 121, 122, 46, 33, 35, 36, 37, 38, 39, 40, 41, 42, 43, 44, 45, 47, 48, 49, 50, 51, 52, 53, 54, 55, 56, 57, 58, 59, 60, 61, 62, 63, 64, 65, 66, 67, 68, 69, 70, 71, 72, 73, 74, 75, 76, 77, 78, 79, 80, 81, 82, 83, 84, 85, 86, 87, 88, 89, 90, 91, 92, 93, 95, 96, 123, 124, 125, 126] : List Int32)).length ≤ t_48 then none else
                      bnd ((g_chr ((([32, 10, 97, 98, 99, 100, 101, 102, 103, 104, 105, 106, 107, 108, 109, 110, 111, 112, 113, 114, 115, 116, 117, 118, 119, 120, 121, 122, 46, 33, 35, 36, 37, 38, 39, 40, 41, 42, 43, 44, 45, 47, 48, 49, 50, 51, 52, 53, 54, 55, 56, 57, 58, 59, 60, 61, 62, 63, 64, 65, 66, 67, 68, 69, 70, 71, 72, 73, 74, 75, 76, 77, 78, 79, 80, 81, 82, 83, 84, 85, 86, 87, 88, 89, 90, 91, 92, 93, 95, 96, 123, 124, 125, 126] : List Int32)).getD t_48.toNatClampNeg 0))) fun (x_65 : Int32) =>
                      bnd (x_65.toInt8.toInt32) fun (x_67 : Int32) =>
                      if s_16.1 < 0 ∨ 200 ≤ s_16.1.toNatClampNeg then none else
                      bnd (cA' σ_49 6 8 (upd ((σ_49 6).2.1 8) s_16.1.toNatClampNeg (vp_nar .byte x_67))) fun σ_71 =>
                      bnd (s_16.1 + 1) fun (x_73 : Int32) =>
                      j_39 x_73 (-1) σ_71
                    )
                  )
                ) : Int32 → HS → HR) fun j_50 =>
                if s_16.2.1 = (-1) then (
                  j_50 x_34 σ_44
                ) else (
                  j_50 ((29 + (s_16.2.1 * 32)) + x_34) σ_44
                )
              ) : HS → HR) fun j_45 =>
              if s_16.2.1 = (-1) then (
                if x_34 < 29 then (
                  j_45  s_16.2.2.2
                ) else (
                  bnd ((x_34 - 29)) fun (x_83 : Int32) =>
                  j_39 s_16.1 x_83 s_16.2.2.2
                )
              ) else (
                j_45  s_16.2.2.2
              )
            )
          )) FU (s_6.1, s_6.2.1, 10, s_6.2.2.2)
        )
      )
    )) FU (0, (-1), t_1, σ_2)
  ) : Int32 → HS → HR) fun j_3 =>
  bnd (fun  (σ_86 : HS) => (
    j_3 ((σ_86 6).1 1) σ_86
  ) : HS → HR) fun j_87 =>
  if p0 < 0 then (
    j_87  Γ
  ) else (
    if ((Γ 6).1 6) ≤ p0 then (
      j_87  Γ
    ) else (
      if 8000 ≤ p0 then (
        j_87  Γ
      ) else (
        if p0 < 0 ∨ 8000 ≤ p0.toNatClampNeg then none else
        j_3 ((Γ 6).2.1 4 p0.toNatClampNeg) Γ
      )
    )
  )
set_option maxHeartbeats 4000000 in
set_option maxRecDepth 100000 in
theorem k_X9_unpack_t (l : Launch) (dC : Nat → ClassId) (dI : Nat → Nat → Nat) (cB cC cI cJ cZ cP : ClassId) (oA : Nat → Nat) (rA : Nat → Nat → Nat) (sz : Nat)  (p0 : Int32) (Γ : HS) (res : Int32 × HS) (hF : F_X9_unpack_t p0 Γ = some res) : Met l yX9_unpack (g_ws yX9_unpack cX9_unpack 10 (some .int)) ({ frames := 5, cells := 0, slots := 0, locals := 125 }) (va_Pc [.ref (oA 6), .int p0, .ref (rA 6 8)] (g_B (dC, dI) [(cB, .byte), (cC, .char), (cI, .int), (cJ, .long), (cZ, .boolean), (cP, .object "StoryHouse$Play")] sz (b_t cB cC cI cJ cZ oA rA Γ) g_0)) (va_Qi (fun r (_ : Unit) => r = res.1) (g_Bo (dC, dI) (va_A (b_t cB cC cI cJ cZ oA rA Γ) sz) (fun (_ : Unit) => (b_t cB cC cI cJ cZ oA rA res.2))) (va_A (b_t cB cC cI cJ cZ oA rA Γ) sz)) 0 0 (va_A (b_t cB cC cI cJ cZ oA rA Γ) sz) := by
  refine Met.ofW (cc := cX9_unpack) (maxL := 10) (ret := (some .int)) (by decide) rfl ?_
  intro p e s m args below meth c s₁ B hml hv
  obtain ⟨rfl, hsz, hP, hK, hD0, hE, hX⟩ := hv
  have hx := B.exec
  have hb := B.bytes
  have hr := B.returns
  have hts0 := atoms_spec (ws := g_ws yX9_unpack cX9_unpack 10 (some .int)) B.pre
  have hts : ∀ w ∈ lw_good, w.before ([.ref (oA 6), .int p0, .ref (rA 6 8)] : List Value).toArray s = true := fun w z => hts0 w (List.mem_cons_of_mem _ z)
  have hown : s.vm.findClass RX9 = some m.cls := findClass_of_methodNamed B.named
  have hlocks := B.notSynchronized
  subst hsz
  have hD1 := hD0.self (sz := s.heap.size)
  generalize hAe : va_A (b_t cB cC cI cJ cZ oA rA Γ) s.heap.size = A at hD1 hE hX ⊢
  have hA : ∀ q : Nat, s.heap.size ≤ q → A q := fun q z => by rw [← hAe]; exact Or.inr z
  have hDD : ∀ Γ : HS, va_D A (b_t cB cC cI cJ cZ oA rA Γ) := fun Γ9 => va_D_fst (ws := (b_t cB cC cI cJ cZ oA rA Γ)) (ws' := (b_t cB cC cI cJ cZ oA rA Γ9)) rfl hD1
  have hN := hE.1
  have hS : va_S A s.heap s.heap [] := va_S.rf
  have hl := lv_entry ([.ref (oA 6), .int p0, .ref (rA 6 8)]) (n := 10) (Nat.le_of_ble_eq_true rfl)
  rw [lg_entry_eq]
  generalize (lg_sl ([.ref (oA 6), .int p0, .ref (rA 6 8)]) ++ List.replicate (10 - (lg_sl ([.ref (oA 6), .int p0, .ref (rA 6 8)])).length) Slot.unset).toArray = ls at hl ⊢
  have hl : lv_has ls 10 [(0, .ref (oA 6)), (1, .int p0), (2, .ref (rA 6 8))] := hl
  unfold F_X9_unpack_t at hF
  refine lv_iload_n hx hb dX9_unpack_0 rfl (lv_at hl 1 rfl) ?_
  obtain ⟨j_3, ej_3, hF_4⟩ := bnd_e hF
  clear hF
  have Jj_3 : ∀ (t_1 : Int32) (σ_2 : HS), j_3 t_1 σ_2 = some res → ∀ (H : Heap) (locs : List Loc), va_P (dC, dI) vwCl (b_t cB cC cI cJ cZ oA rA σ_2) H → va_S A s.heap H locs → ∀ ls : Array Slot, lv_has ls 10 [(0, .ref (oA 6)), (2, .ref (rA 6 8))] → W p l e (headSpec (g_ws yX9_unpack cX9_unpack 10 (some .int)) { frames := 5, cells := 0, slots := 0, locals := 125 }).room s m ([.ref (oA 6), .int p0, .ref (rA 6 8)] : List Value).toArray below meth c H locs 0 0 (MQ below (va_Qi (fun r (_ : Unit) => r = res.1) (g_Bo (dC, dI) A (fun (_ : Unit) => (b_t cB cC cI cJ cZ oA rA res.2))) A) ([.ref (oA 6), .int p0, .ref (rA 6 8)] : List Value).toArray s 0 0 A) (F0 m 34 ls [.int t_1]) := by
    intro t_1 σ_2 hF0 H locs hP hS ls hl
    subst ej_3
    have hF_5 := hF0
    clear hF0
    refine lv_istore_n (lv' := [(3, .int t_1), (0, .ref (oA 6)), (2, .ref (rA 6 8))]) hx hb dX9_unpack_34 rfl hl (by decide) rfl (fun ls hl => ?_)
    refine lv_iconst (v := 0) hx hb dX9_unpack_35 (by decide +kernel) ?_
    refine lv_istore (lv' := [(4, .int 0), (3, .int t_1), (0, .ref (oA 6)), (2, .ref (rA 6 8))]) hx hb dX9_unpack_36 hl (by decide) rfl (fun ls hl => ?_)
    refine lv_iconst (v := (-1)) hx hb dX9_unpack_38 (by decide +kernel) ?_
    refine lv_istore (lv' := [(5, .int (-1)), (4, .int 0), (3, .int t_1), (0, .ref (oA 6)), (2, .ref (rA 6 8))]) hx hb dX9_unpack_39 hl (by decide) rfl (fun ls hl => ?_)
    refine lv_iload_n hx hb dX9_unpack_41 rfl (lv_at hl 2 rfl) ?_
    refine lv_istore (lv' := [(6, .int t_1), (5, .int (-1)), (4, .int 0), (3, .int t_1), (0, .ref (oA 6)), (2, .ref (rA 6 8))]) hx hb dX9_unpack_42 hl (by decide) rfl (fun ls hl => ?_)
    refine loopF_ind (P := fun (s_6 : Int32 × Int32 × Int32 × HS) => ∀ (H : Heap) (locs : List Loc), va_P (dC, dI) vwCl (b_t cB cC cI cJ cZ oA rA s_6.2.2.2) H → va_S A s.heap H locs → ∀ ls : Array Slot, lv_has ls 10 [(0, .ref (oA 6)), (2, .ref (rA 6 8)), (4, .int s_6.1), (5, .int s_6.2.1), (6, .int s_6.2.2.1)] → W p l e (headSpec (g_ws yX9_unpack cX9_unpack 10 (some .int)) { frames := 5, cells := 0, slots := 0, locals := 125 }).room s m ([.ref (oA 6), .int p0, .ref (rA 6 8)] : List Value).toArray below meth c H locs 0 0 (MQ below (va_Qi (fun r (_ : Unit) => r = res.1) (g_Bo (dC, dI) A (fun (_ : Unit) => (b_t cB cC cI cJ cZ oA rA res.2))) A) ([.ref (oA 6), .int p0, .ref (rA 6 8)] : List Value).toArray s 0 0 A) (F0 m 44 ls [])) ?_ _ _ hF_5 _ _ hP hS ls (lv_sub hl [4, 5, 2, 1, 0] rfl)
    intro again_7 s_6 ih_8 hF_9
    intro H locs hP hS ls hl
    refine lv_iload hx hb dX9_unpack_44 (lv_at hl 4 rfl) ?_
    refine lv_aload_n hx hb dX9_unpack_46 rfl (lv_at hl 0 rfl) ?_
    refine va_get (D := (dC, dI)) (ci := 9) (v := .int ((s_6.2.2.2 6).1 1)) (C := RX9) (T := TX9) (N := 9) hx hb hts ii_X9 hown hK hP 0 rfl rfl 1 (by decide) (hts (.fieldLink RX9 29 "StoryHouse$Texts" "unitCount" "I") wq_135) (fun _ h9 => h9) rfl dX9_unpack_47 ?_
    refine lv_icmp_ge (tgt := 197) hx hb dX9_unpack_50 (by decide) (fun c_10 => ?_) (fun c_10 => ?_)
    · have hF_11 := ipos c_10 hF_9
      clear hF_9
      refine lv_iload hx hb dX9_unpack_197 (lv_at hl 2 rfl) ?_
      have h9 := Option.some.inj hF_11
      subst h9
      exact W.iret (v := s_6.1) hx hb hr (fun t ht hW => ⟨⟨s_6.1, (), rfl, rfl, m_end ht hP, hDD _⟩, hS.F ht⟩) hS.2.2 dX9_unpack_199
    · have hF_12 := ineg c_10 hF_9
      clear hF_9
      refine lv_iload hx hb dX9_unpack_53 (lv_at hl 4 rfl) ?_
      refine lv_aload_n hx hb dX9_unpack_55 rfl (lv_at hl 0 rfl) ?_
      refine va_get (D := (dC, dI)) (ci := 9) (v := .ref (rA 6 0)) (C := RX9) (T := TX9) (N := 9) hx hb hts ii_X9 hown hK hP 0 rfl rfl 0 (by decide) (hts (.fieldLink RX9 11 "StoryHouse$Texts" "units" "[C") wq_134) (fun _ h9 => h9) rfl dX9_unpack_56 ?_
      refine va_alen (v := 16000) hx hb hK hP 1 1 rfl rfl (by first | rfl | decide +kernel) dX9_unpack_59 ?_
      refine lv_icmp_ge (tgt := 197) hx hb dX9_unpack_60 (by decide) (fun c_13 => ?_) (fun c_13 => ?_)
      · have hF_14 := ipos c_13 hF_12
        clear hF_12
        refine lv_iload hx hb dX9_unpack_197 (lv_at hl 2 rfl) ?_
        have h9 := Option.some.inj hF_14
        subst h9
        exact W.iret (v := s_6.1) hx hb hr (fun t ht hW => ⟨⟨s_6.1, (), rfl, rfl, m_end ht hP, hDD _⟩, hS.F ht⟩) hS.2.2 dX9_unpack_199
      · have hF_15 := ineg c_13 hF_12
        clear hF_12
        refine lv_bipush (v := 10) hx hb dX9_unpack_63 (by decide +kernel) ?_
        refine lv_istore (lv' := [(7, .int 10), (0, .ref (oA 6)), (2, .ref (rA 6 8)), (4, .int s_6.1), (5, .int s_6.2.1), (6, .int s_6.2.2.1)]) hx hb dX9_unpack_65 hl (by decide) rfl (fun ls hl => ?_)
        refine loopF_ind (P := fun (s_16 : Int32 × Int32 × Int32 × HS) => ∀ (H : Heap) (locs : List Loc), va_P (dC, dI) vwCl (b_t cB cC cI cJ cZ oA rA s_16.2.2.2) H → va_S A s.heap H locs → ∀ ls : Array Slot, lv_has ls 10 [(0, .ref (oA 6)), (2, .ref (rA 6 8)), (4, .int s_16.1), (5, .int s_16.2.1), (6, .int s_6.2.2.1), (7, .int s_16.2.2.1)] → W p l e (headSpec (g_ws yX9_unpack cX9_unpack 10 (some .int)) { frames := 5, cells := 0, slots := 0, locals := 125 }).room s m ([.ref (oA 6), .int p0, .ref (rA 6 8)] : List Value).toArray below meth c H locs 0 0 (MQ below (va_Qi (fun r (_ : Unit) => r = res.1) (g_Bo (dC, dI) A (fun (_ : Unit) => (b_t cB cC cI cJ cZ oA rA res.2))) A) ([.ref (oA 6), .int p0, .ref (rA 6 8)] : List Value).toArray s 0 0 A) (F0 m 67 ls [])) ?_ _ _ hF_15 _ _ hP hS ls (lv_sub hl [1, 2, 3, 4, 5, 0] rfl)
        intro again_17 s_16 ih_18 hF_19
        intro H locs hP hS ls hl
        refine lv_iload hx hb dX9_unpack_67 (lv_at hl 5 rfl) ?_
        refine lv_if_lt (tgt := 175) hx hb dX9_unpack_69 (by decide) (fun c_20 => ?_) (fun c_20 => ?_)
        · have hF_21 := ipos c_20 hF_19
          clear hF_19
          refine lv_aload_n hx hb dX9_unpack_175 rfl (lv_at hl 0 rfl) ?_
          refine va_get (D := (dC, dI)) (ci := 9) (v := .ref (rA 6 0)) (C := RX9) (T := TX9) (N := 9) hx hb hts ii_X9 hown hK hP 0 rfl rfl 0 (by decide) (hts (.fieldLink RX9 11 "StoryHouse$Texts" "units" "[C") wq_134) (fun _ h9 => h9) rfl dX9_unpack_176 ?_
          refine lv_iload hx hb dX9_unpack_179 (lv_at hl 4 rfl) ?_
          obtain ⟨g_22, hF_23⟩ := nif_e hF_21
          clear hF_21
          refine va_cald (f := (s_16.2.2.2 6).2.1 0) hx hb hK hP 1 1 rfl rfl g_22 dX9_unpack_181 ?_
          refine lv_ldc (v := 32768) hx hb hown (hts (.constant RX9 95 (32768)) wq_868) dX9_unpack_182 ?_
          refine lv_iand hx hb dX9_unpack_184 ?_
          obtain ⟨x_24, ex_24, hF_25⟩ := bnd_e hF_23
          clear hF_23
          refine m_top ex_24 ?_
          refine lv_if_eq (tgt := 191) hx hb dX9_unpack_185 (by decide) (fun c_26 => ?_) (fun c_26 => ?_)
          · have hF_27 := ipos c_26 hF_25
            clear hF_25
            obtain ⟨x_28, ex_28, hF_29⟩ := bnd_e hF_27
            clear hF_27
            refine lv_iinc (v := x_28) (lv' := [(6, .int x_28), (0, .ref (oA 6)), (2, .ref (rA 6 8)), (4, .int s_16.1), (5, .int s_16.2.1), (7, .int s_16.2.2.1)]) hx hb dX9_unpack_191 hl (k := 4) rfl (by rw [ex_28]; rfl) (by decide) rfl (fun ls hl => ?_)
            refine lv_goto (tgt := 44) hx hb dX9_unpack_194 (by decide) ?_
            exact ih_8 (s_16.1, s_16.2.1, x_28, s_16.2.2.2) hF_29 _ _ hP hS ls (lv_sub hl [1, 2, 3, 4, 0] rfl)
          · have hF_30 := ineg c_26 hF_25
            clear hF_25
            refine lv_iload hx hb dX9_unpack_188 (lv_at hl 2 rfl) ?_
            have h9 := Option.some.inj hF_30
            subst h9
            exact W.iret (v := s_16.1) hx hb hr (fun t ht hW => ⟨⟨s_16.1, (), rfl, rfl, m_end ht hP, hDD _⟩, hS.F ht⟩) hS.2.2 dX9_unpack_190
        · have hF_31 := ineg c_20 hF_19
          clear hF_19
          refine lv_aload_n hx hb dX9_unpack_72 rfl (lv_at hl 0 rfl) ?_
          refine va_get (D := (dC, dI)) (ci := 9) (v := .ref (rA 6 0)) (C := RX9) (T := TX9) (N := 9) hx hb hts ii_X9 hown hK hP 0 rfl rfl 0 (by decide) (hts (.fieldLink RX9 11 "StoryHouse$Texts" "units" "[C") wq_134) (fun _ h9 => h9) rfl dX9_unpack_73 ?_
          refine lv_iload hx hb dX9_unpack_76 (lv_at hl 4 rfl) ?_
          obtain ⟨g_32, hF_33⟩ := nif_e hF_31
          clear hF_31
          refine va_cald (f := (s_16.2.2.2 6).2.1 0) hx hb hK hP 1 1 rfl rfl g_32 dX9_unpack_78 ?_
          refine lv_iload hx hb dX9_unpack_79 (lv_at hl 5 rfl) ?_
          refine lv_ishr hx hb dX9_unpack_81 ?_
          refine lv_bipush (v := 31) hx hb dX9_unpack_82 (by decide +kernel) ?_
          refine lv_iand hx hb dX9_unpack_84 ?_
          obtain ⟨x_34, ex_34, hF_35⟩ := bnd_e hF_33
          clear hF_33
          refine m_top ex_34 ?_
          refine lv_istore (lv' := [(8, .int x_34), (0, .ref (oA 6)), (2, .ref (rA 6 8)), (4, .int s_16.1), (5, .int s_16.2.1), (6, .int s_6.2.2.1), (7, .int s_16.2.2.1)]) hx hb dX9_unpack_85 hl (by decide) rfl (fun ls hl => ?_)
          refine lv_iload hx hb dX9_unpack_87 (lv_at hl 4 rfl) ?_
          refine lv_iconst (v := (-1)) hx hb dX9_unpack_89 (by decide +kernel) ?_
          obtain ⟨j_39, ej_39, hF_40⟩ := bnd_e hF_35
          clear hF_35
          have Jj_39 : ∀ (v4_36 : Int32) (v5_37 : Int32) (σ_38 : HS), j_39 v4_36 v5_37 σ_38 = some res → ∀ (H : Heap) (locs : List Loc), va_P (dC, dI) vwCl (b_t cB cC cI cJ cZ oA rA σ_38) H → va_S A s.heap H locs → ∀ ls : Array Slot, lv_has ls 10 [(0, .ref (oA 6)), (2, .ref (rA 6 8)), (4, .int v4_36), (5, .int v5_37), (6, .int s_6.2.2.1), (7, .int s_16.2.2.1)] → W p l e (headSpec (g_ws yX9_unpack cX9_unpack 10 (some .int)) { frames := 5, cells := 0, slots := 0, locals := 125 }).room s m ([.ref (oA 6), .int p0, .ref (rA 6 8)] : List Value).toArray below meth c H locs 0 0 (MQ below (va_Qi (fun r (_ : Unit) => r = res.1) (g_Bo (dC, dI) A (fun (_ : Unit) => (b_t cB cC cI cJ cZ oA rA res.2))) A) ([.ref (oA 6), .int p0, .ref (rA 6 8)] : List Value).toArray s 0 0 A) (F0 m 169 ls []) := by
            intro v4_36 v5_37 σ_38 hF0 H locs hP hS ls hl
            subst ej_39
            have hF_41 := hF0
            clear hF0
            obtain ⟨x_42, ex_42, hF_43⟩ := bnd_e hF_41
            clear hF_41
            refine lv_iinc (v := x_42) (lv' := [(7, .int x_42), (0, .ref (oA 6)), (2, .ref (rA 6 8)), (4, .int v4_36), (5, .int v5_37), (6, .int s_6.2.2.1)]) hx hb dX9_unpack_169 hl (k := 5) rfl (by rw [ex_42]; rfl) (by decide) rfl (fun ls hl => ?_)
            refine lv_goto (tgt := 67) hx hb dX9_unpack_172 (by decide) ?_
            exact ih_18 (v4_36, v5_37, x_42, σ_38) hF_43 _ _ hP hS ls (lv_sub hl [1, 2, 3, 4, 5, 0] rfl)
          obtain ⟨j_45, ej_45, hF_46⟩ := bnd_e hF_40
          clear hF_40
          have Jj_45 : ∀  (σ_44 : HS), j_45  σ_44 = some res → ∀ (H : Heap) (locs : List Loc), va_P (dC, dI) vwCl (b_t cB cC cI cJ cZ oA rA σ_44) H → va_S A s.heap H locs → ∀ ls : Array Slot, lv_has ls 10 [(0, .ref (oA 6)), (2, .ref (rA 6 8)), (4, .int s_16.1), (5, .int s_16.2.1), (6, .int s_6.2.2.1), (7, .int s_16.2.2.1), (8, .int x_34)] → W p l e (headSpec (g_ws yX9_unpack cX9_unpack 10 (some .int)) { frames := 5, cells := 0, slots := 0, locals := 125 }).room s m ([.ref (oA 6), .int p0, .ref (rA 6 8)] : List Value).toArray below meth c H locs 0 0 (MQ below (va_Qi (fun r (_ : Unit) => r = res.1) (g_Bo (dC, dI) A (fun (_ : Unit) => (b_t cB cC cI cJ cZ oA rA res.2))) A) ([.ref (oA 6), .int p0, .ref (rA 6 8)] : List Value).toArray s 0 0 A) (F0 m 110 ls []) := by
            intro  σ_44 hF0 H locs hP hS ls hl
            subst ej_45
            have hF_47 := hF0
            clear hF0
            refine lv_iload hx hb dX9_unpack_110 (lv_at hl 3 rfl) ?_
            refine lv_iconst (v := (-1)) hx hb dX9_unpack_112 (by decide +kernel) ?_
            obtain ⟨j_50, ej_50, hF_51⟩ := bnd_e hF_47
            clear hF_47
            have Jj_50 : ∀ (t_48 : Int32) (σ_49 : HS), j_50 t_48 σ_49 = some res → ∀ (H : Heap) (locs : List Loc), va_P (dC, dI) vwCl (b_t cB cC cI cJ cZ oA rA σ_49) H → va_S A s.heap H locs → ∀ ls : Array Slot, lv_has ls 10 [(0, .ref (oA 6)), (2, .ref (rA 6 8)), (4, .int s_16.1), (6, .int s_6.2.2.1), (7, .int s_16.2.2.1)] → W p l e (headSpec (g_ws yX9_unpack cX9_unpack 10 (some .int)) { frames := 5, cells := 0, slots := 0, locals := 125 }).room s m ([.ref (oA 6), .int p0, .ref (rA 6 8)] : List Value).toArray below meth c H locs 0 0 (MQ below (va_Qi (fun r (_ : Unit) => r = res.1) (g_Bo (dC, dI) A (fun (_ : Unit) => (b_t cB cC cI cJ cZ oA rA res.2))) A) ([.ref (oA 6), .int p0, .ref (rA 6 8)] : List Value).toArray s 0 0 A) (F0 m 132 ls [.int t_48]) := by
              intro t_48 σ_49 hF0 H locs hP hS ls hl
              subst ej_50
              have hF_52 := hF0
              clear hF0
              refine lv_istore (lv' := [(9, .int t_48), (0, .ref (oA 6)), (2, .ref (rA 6 8)), (4, .int s_16.1), (6, .int s_6.2.2.1), (7, .int s_16.2.2.1)]) hx hb dX9_unpack_132 hl (by decide) rfl (fun ls hl => ?_)
              refine lv_iconst (v := (-1)) hx hb dX9_unpack_134 (by decide +kernel) ?_
              refine lv_istore (lv' := [(5, .int (-1)), (9, .int t_48), (0, .ref (oA 6)), (2, .ref (rA 6 8)), (4, .int s_16.1), (6, .int s_6.2.2.1), (7, .int s_16.2.2.1)]) hx hb dX9_unpack_135 hl (by decide) rfl (fun ls hl => ?_)
              refine lv_iload hx hb dX9_unpack_137 (lv_at hl 1 rfl) ?_
              obtain ⟨q_53, vq_53, hRq_53, hSq_53⟩ := hE.2.2.2.2 _ (List.mem_of_getElem? (i := 21) rfl)
              refine va_ldcS (own := RX9) (tx := " \nabcdefghijklmnopqrstuvwxyz.!#$%&'()*+,-/0123456789:;<=>?@ABCDEFGHIJKLMNOPQRSTUVWXYZ[\\]_`{|}~") hx hb hown hRq_53 dX9_unpack_139 ?_
              refine c_cs (v := Int32.ofNat (([32, 10, 97, 98, 99, 100, 101, 102, 103, 104, 105, 106, 107, 108, 109, 110, 111, 112, 113, 114, 115, 116, 117, 118, 119, 120, 121, 122, 46, 33, 35, 36, 37, 38, 39, 40, 41, 42, 43, 44, 45, 47, 48, 49, 50, 51, 52, 53, 54, 55, 56, 57, 58, 59, 60, 61, 62, 63, 64, 65, 66, 67, 68, 69, 70, 71, 72, 73, 74, 75, 76, 77, 78, 79, 80, 81, 82, 83, 84, 85, 86, 87, 88, 89, 90, 91, 92, 93, 95, 96, 123, 124, 125, 126] : List Int32)).length) hA hP hS (va_runV (As := []) (rest := [.int t_48]) ⟨hx, hb, hml, hown, hts⟩ (c_J0_length_8abf5 l dC dI cB cC cI cJ cZ cP H.size q_53  _ ([32, 10, 97, 98, 99, 100, 101, 102, 103, 104, 105, 106, 107, 108, 109, 110, 111, 112, 113, 114, 115, 116, 117, 118, 119, 120, 121, 122, 46, 33, 35, 36, 37, 38, 39, 40, 41, 42, 43, 44, 45, 47, 48, 49, 50, 51, 52, 53, 54, 55, 56, 57, 58, 59, 60, 61, 62, 63, 64, 65, 66, 67, 68, 69, 70, 71, 72, 73, 74, 75, 76, 77, 78, 79, 80, 81, 82, 83, 84, 85, 86, 87, 88, 89, 90, 91, 92, 93, 95, 96, 123, 124, 125, 126] : List Int32) ) (cwV 0 hts (g_gV wq_903 wq_346 wq_347 wq_22 wq_348) rfl rfl rfl (by decide +kernel) ⟨Nat.le_of_ble_eq_true rfl, Nat.le_of_ble_eq_true rfl⟩) (g_preVs g_blS hK (wc := []) (A := A) (fun k q z => by simp at z) ⟨fun i j p q z => by simp at z, fun k q z => by simp at z⟩ hS hE (c_nil hA hS) (g_toS hSq_53 hS (c_nil hA hS)) (va_Orecv hSq_53.1 hS)) rfl rfl hl.1 rfl (lv_room (Nat.le_of_ble_eq_true rfl)) dX9_unpack_141 ⟨Nat.le_of_ble_eq_true rfl, Nat.le_of_ble_eq_true rfl⟩) (fun H locs hP hS => ?_)
              obtain ⟨x_54, ex_54, hF_55⟩ := bnd_e hF_52
              clear hF_52
              refine m_top ex_54 ?_
              refine lv_icmp_ge (tgt := 169) hx hb dX9_unpack_144 (by decide) (fun c_56 => ?_) (fun c_56 => ?_)
              · have hF_57 := ipos c_56 hF_55
                clear hF_55
                exact Jj_39 s_16.1 (-1) σ_49 hF_57 _ _ hP hS ls (lv_sub hl [2, 3, 4, 0, 5, 6] rfl)
              · have hF_58 := ineg c_56 hF_55
                clear hF_55
                refine lv_iload hx hb dX9_unpack_147 (lv_at hl 4 rfl) ?_
                refine lv_aload_n hx hb dX9_unpack_149 rfl (lv_at hl 3 rfl) ?_
                refine va_alen (v := 200) hx hb hK hP 5 0 rfl rfl (by first | rfl | decide +kernel) dX9_unpack_150 ?_
                refine lv_icmp_ge (tgt := 169) hx hb dX9_unpack_151 (by decide) (fun c_59 => ?_) (fun c_59 => ?_)
                · have hF_60 := ipos c_59 hF_58
                  clear hF_58
                  exact Jj_39 s_16.1 (-1) σ_49 hF_60 _ _ hP hS ls (lv_sub hl [2, 3, 4, 0, 5, 6] rfl)
                · have hF_61 := ineg c_59 hF_58
                  clear hF_58
                  refine lv_aload_n hx hb dX9_unpack_154 rfl (lv_at hl 3 rfl) ?_
                  refine lv_iload hx hb dX9_unpack_155 (lv_at hl 4 rfl) ?_
                  obtain ⟨q_62, vq_62, hRq_62, hSq_62⟩ := hE.2.2.2.2 _ (List.mem_of_getElem? (i := 21) rfl)
                  refine va_ldcS (own := RX9) (tx := " \nabcdefghijklmnopqrstuvwxyz.!#$%&'()*+,-/0123456789:;<=>?@ABCDEFGHIJKLMNOPQRSTUVWXYZ[\\]_`{|}~") hx hb hown hRq_62 dX9_unpack_157 ?_
                  refine lv_iload hx hb dX9_unpack_159 (lv_at hl 1 rfl) ?_
                  obtain ⟨g_63, hF_64⟩ := nif_e hF_61
                  clear hF_61
                  refine c_cs (v := g_chr ((([32, 10, 97, 98, 99, 100, 101, 102, 103, 104, 105, 106, 107, 108, 109, 110, 111, 112, 113, 114, 115, 116, 117, 118, 119, 120, 121, 122, 46, 33, 35, 36, 37, 38, 39, 40, 41, 42, 43, 44, 45, 47, 48, 49, 50, 51, 52, 53, 54, 55, 56, 57, 58, 59, 60, 61, 62, 63, 64, 65, 66, 67, 68, 69, 70, 71, 72, 73, 74, 75, 76, 77, 78, 79, 80, 81, 82, 83, 84, 85, 86, 87, 88, 89, 90, 91, 92, 93, 95, 96, 123, 124, 125, 126] : List Int32)).getD t_48.toNatClampNeg 0)) hA hP hS (va_runV (As := [.int t_48]) (rest := [.int s_16.1, .ref (rA 6 8)]) ⟨hx, hb, hml, hown, hts⟩ (c_J0_charAt_5068e l dC dI cB cC cI cJ cZ cP H.size q_62 t_48 _ ([32, 10, 97, 98, 99, 100, 101, 102, 103, 104, 105, 106, 107, 108, 109, 110, 111, 112, 113, 114, 115, 116, 117, 118, 119, 120, 121, 122, 46, 33, 35, 36, 37, 38, 39, 40, 41, 42, 43, 44, 45, 47, 48, 49, 50, 51, 52, 53, 54, 55, 56, 57, 58, 59, 60, 61, 62, 63, 64, 65, 66, 67, 68, 69, 70, 71, 72, 73, 74, 75, 76, 77, 78, 79, 80, 81, 82, 83, 84, 85, 86, 87, 88, 89, 90, 91, 92, 93, 95, 96, 123, 124, 125, 126] : List Int32) (fun z => g_63 (Or.inl z)) (Int32.not_le.mp (fun z => g_63 (Or.inr z)))) (cwV 1 hts (g_gV wq_904 wq_359 wq_360 wq_22 wq_361) rfl rfl rfl (by decide +kernel) ⟨Nat.le_of_ble_eq_true rfl, Nat.le_of_ble_eq_true rfl⟩) (g_preVs g_blS hK (wc := []) (A := A) (fun k q z => by simp at z) ⟨fun i j p q z => by simp at z, fun k q z => by simp at z⟩ hS hE (c_nil hA hS) (g_toS hSq_62 hS (c_nil hA hS)) (va_Orecv hSq_62.1 hS)) rfl rfl hl.1 rfl (lv_room (Nat.le_of_ble_eq_true rfl)) dX9_unpack_161 ⟨Nat.le_of_ble_eq_true rfl, Nat.le_of_ble_eq_true rfl⟩) (fun H locs hP hS => ?_)
                  obtain ⟨x_65, ex_65, hF_66⟩ := bnd_e hF_64
                  clear hF_64
                  refine m_top ex_65 ?_
                  refine lv_i2b hx hb dX9_unpack_164 rfl ?_
                  obtain ⟨x_67, ex_67, hF_68⟩ := bnd_e hF_66
                  clear hF_66
                  refine m_top ex_67 ?_
                  obtain ⟨g_69, hF_70⟩ := nif_e hF_68
                  clear hF_68
                  obtain ⟨σ_71, eσ_71, hF_72⟩ := bnd_e hF_70
                  clear hF_70
                  refine va_bast (f := (σ_49 6).2.1 8) hx hb hK hP (hDD _) hS 5 0 rfl rfl g_69 dX9_unpack_165 (fun H locs hP' _ hS => ?_)
                  have hP : va_P (dC, dI) vwCl (b_t cB cC cI cJ cZ oA rA σ_71) H := by rw [eσ_71]; exact cs_t_t_8 ▸ hP'
                  clear hP'
                  obtain ⟨x_73, ex_73, hF_74⟩ := bnd_e hF_72
                  clear hF_72
                  refine lv_iinc (v := x_73) (lv' := [(4, .int x_73), (5, .int (-1)), (9, .int t_48), (0, .ref (oA 6)), (2, .ref (rA 6 8)), (6, .int s_6.2.2.1), (7, .int s_16.2.2.1)]) hx hb dX9_unpack_166 hl (k := 4) rfl (by rw [ex_73]; rfl) (by decide) rfl (fun ls hl => ?_)
                  exact Jj_39 x_73 (-1) σ_71 hF_74 _ _ hP hS ls (lv_sub hl [3, 4, 0, 1, 5, 6] rfl)
            refine lv_icmp_ne (tgt := 121) hx hb dX9_unpack_113 (by decide) (fun c_75 => ?_) (fun c_75 => ?_)
            · have hF_77 := ineg c_75 hF_51
              clear hF_51
              refine lv_bipush (v := 29) hx hb dX9_unpack_121 (by decide +kernel) ?_
              refine lv_iload hx hb dX9_unpack_123 (lv_at hl 3 rfl) ?_
              refine lv_bipush (v := 32) hx hb dX9_unpack_125 (by decide +kernel) ?_
              refine lv_imul hx hb dX9_unpack_127 ?_
              refine lv_iadd hx hb dX9_unpack_128 ?_
              refine lv_iload hx hb dX9_unpack_129 (lv_at hl 6 rfl) ?_
              refine lv_iadd hx hb dX9_unpack_131 ?_
              exact Jj_50 ((29 + (s_16.2.1 * 32)) + x_34) σ_44 hF_77 _ _ hP hS ls (lv_sub hl [0, 1, 2, 4, 5] rfl)
            · have hF_76 := ipos c_75 hF_51
              clear hF_51
              refine lv_iload hx hb dX9_unpack_116 (lv_at hl 6 rfl) ?_
              refine lv_goto (tgt := 132) hx hb dX9_unpack_118 (by decide) ?_
              exact Jj_50 x_34 σ_44 hF_76 _ _ hP hS ls (lv_sub hl [0, 1, 2, 4, 5] rfl)
          refine lv_icmp_ne (tgt := 110) hx hb dX9_unpack_90 (by decide) (fun c_78 => ?_) (fun c_78 => ?_)
          · have hF_85 := ineg c_78 hF_46
            clear hF_46
            exact Jj_45  s_16.2.2.2 hF_85 _ _ hP hS ls (lv_sub hl [1, 2, 3, 4, 5, 6, 0] rfl)
          · have hF_79 := ipos c_78 hF_46
            clear hF_46
            refine lv_iload hx hb dX9_unpack_93 (lv_at hl 0 rfl) ?_
            refine lv_bipush (v := 29) hx hb dX9_unpack_95 (by decide +kernel) ?_
            refine lv_icmp_lt (tgt := 110) hx hb dX9_unpack_97 (by decide) (fun c_80 => ?_) (fun c_80 => ?_)
            · have hF_81 := ipos c_80 hF_79
              clear hF_79
              exact Jj_45  s_16.2.2.2 hF_81 _ _ hP hS ls (lv_sub hl [1, 2, 3, 4, 5, 6, 0] rfl)
            · have hF_82 := ineg c_80 hF_79
              clear hF_79
              refine lv_iload hx hb dX9_unpack_100 (lv_at hl 0 rfl) ?_
              refine lv_bipush (v := 29) hx hb dX9_unpack_102 (by decide +kernel) ?_
              refine lv_isub hx hb dX9_unpack_104 ?_
              obtain ⟨x_83, ex_83, hF_84⟩ := bnd_e hF_82
              clear hF_82
              refine m_top ex_83 ?_
              refine lv_istore (lv' := [(5, .int x_83), (8, .int x_34), (0, .ref (oA 6)), (2, .ref (rA 6 8)), (4, .int s_16.1), (6, .int s_6.2.2.1), (7, .int s_16.2.2.1)]) hx hb dX9_unpack_105 hl (by decide) rfl (fun ls hl => ?_)
              refine lv_goto (tgt := 169) hx hb dX9_unpack_107 (by decide) ?_
              exact Jj_39 s_16.1 x_83 s_16.2.2.2 hF_84 _ _ hP hS ls (lv_sub hl [2, 3, 4, 0, 5, 6] rfl)
  obtain ⟨j_87, ej_87, hF_88⟩ := bnd_e hF_4
  clear hF_4
  have Jj_87 : ∀  (σ_86 : HS), j_87  σ_86 = some res → ∀ (H : Heap) (locs : List Loc), va_P (dC, dI) vwCl (b_t cB cC cI cJ cZ oA rA σ_86) H → va_S A s.heap H locs → ∀ ls : Array Slot, lv_has ls 10 [(0, .ref (oA 6)), (2, .ref (rA 6 8))] → W p l e (headSpec (g_ws yX9_unpack cX9_unpack 10 (some .int)) { frames := 5, cells := 0, slots := 0, locals := 125 }).room s m ([.ref (oA 6), .int p0, .ref (rA 6 8)] : List Value).toArray below meth c H locs 0 0 (MQ below (va_Qi (fun r (_ : Unit) => r = res.1) (g_Bo (dC, dI) A (fun (_ : Unit) => (b_t cB cC cI cJ cZ oA rA res.2))) A) ([.ref (oA 6), .int p0, .ref (rA 6 8)] : List Value).toArray s 0 0 A) (F0 m 30 ls []) := by
    intro  σ_86 hF0 H locs hP hS ls hl
    subst ej_87
    have hF_89 := hF0
    clear hF0
    refine lv_aload_n hx hb dX9_unpack_30 rfl (lv_at hl 0 rfl) ?_
    refine va_get (D := (dC, dI)) (ci := 9) (v := .int ((σ_86 6).1 1)) (C := RX9) (T := TX9) (N := 9) hx hb hts ii_X9 hown hK hP 0 rfl rfl 1 (by decide) (hts (.fieldLink RX9 29 "StoryHouse$Texts" "unitCount" "I") wq_135) (fun _ h9 => h9) rfl dX9_unpack_31 ?_
    exact Jj_3 ((σ_86 6).1 1) σ_86 hF_89 _ _ hP hS ls (lv_sub hl [0, 1] rfl)
  refine lv_if_lt (tgt := 30) hx hb dX9_unpack_1 (by decide) (fun c_90 => ?_) (fun c_90 => ?_)
  · have hF_91 := ipos c_90 hF_88
    clear hF_88
    exact Jj_87  Γ hF_91 _ _ hP hS ls (lv_sub hl [0, 2] rfl)
  · have hF_92 := ineg c_90 hF_88
    clear hF_88
    refine lv_iload_n hx hb dX9_unpack_4 rfl (lv_at hl 1 rfl) ?_
    refine lv_aload_n hx hb dX9_unpack_5 rfl (lv_at hl 0 rfl) ?_
    refine va_get (D := (dC, dI)) (ci := 9) (v := .int ((Γ 6).1 6)) (C := RX9) (T := TX9) (N := 9) hx hb hts ii_X9 hown hK hP 0 rfl rfl 6 (by decide) (hts (.fieldLink RX9 33 "StoryHouse$Texts" "count" "I") wq_140) (fun _ h9 => h9) rfl dX9_unpack_6 ?_
    refine lv_icmp_ge (tgt := 30) hx hb dX9_unpack_9 (by decide) (fun c_93 => ?_) (fun c_93 => ?_)
    · have hF_94 := ipos c_93 hF_92
      clear hF_92
      exact Jj_87  Γ hF_94 _ _ hP hS ls (lv_sub hl [0, 2] rfl)
    · have hF_95 := ineg c_93 hF_92
      clear hF_92
      refine lv_iload_n hx hb dX9_unpack_12 rfl (lv_at hl 1 rfl) ?_
      refine lv_aload_n hx hb dX9_unpack_13 rfl (lv_at hl 0 rfl) ?_
      refine va_get (D := (dC, dI)) (ci := 9) (v := .ref (rA 6 4)) (C := RX9) (T := TX9) (N := 9) hx hb hts ii_X9 hown hK hP 0 rfl rfl 4 (by decide) (hts (.fieldLink RX9 15 "StoryHouse$Texts" "begins" "[I") wq_138) (fun _ h9 => h9) rfl dX9_unpack_14 ?_
      refine va_alen (v := 8000) hx hb hK hP 2 2 rfl rfl (by first | rfl | decide +kernel) dX9_unpack_17 ?_
      refine lv_icmp_ge (tgt := 30) hx hb dX9_unpack_18 (by decide) (fun c_96 => ?_) (fun c_96 => ?_)
      · have hF_97 := ipos c_96 hF_95
        clear hF_95
        exact Jj_87  Γ hF_97 _ _ hP hS ls (lv_sub hl [0, 2] rfl)
      · have hF_98 := ineg c_96 hF_95
        clear hF_95
        refine lv_aload_n hx hb dX9_unpack_21 rfl (lv_at hl 0 rfl) ?_
        refine va_get (D := (dC, dI)) (ci := 9) (v := .ref (rA 6 4)) (C := RX9) (T := TX9) (N := 9) hx hb hts ii_X9 hown hK hP 0 rfl rfl 4 (by decide) (hts (.fieldLink RX9 15 "StoryHouse$Texts" "begins" "[I") wq_138) (fun _ h9 => h9) rfl dX9_unpack_22 ?_
        refine lv_iload_n hx hb dX9_unpack_25 rfl (lv_at hl 1 rfl) ?_
        obtain ⟨g_99, hF_100⟩ := nif_e hF_98
        clear hF_98
        refine va_iald (f := (Γ 6).2.1 4) hx hb hK hP 2 2 rfl rfl g_99 dX9_unpack_26 ?_
        refine lv_goto (tgt := 34) hx hb dX9_unpack_27 (by decide) ?_
        exact Jj_3 ((Γ 6).2.1 4 p0.toNatClampNeg) Γ hF_100 _ _ hP hS ls (lv_sub hl [0, 2] rfl)
theorem dX3_sayText_0 : decode cX3_sayText 0 = .ok (.aload_n 0, 1) := by decide +kernel
theorem dX3_sayText_1 : decode cX3_sayText 1 = .ok (.getfield 52, 3) := by decide +kernel
theorem dX3_sayText_4 : decode cX3_sayText 4 = .ok (.getfield 226, 3) := by decide +kernel
theorem dX3_sayText_7 : decode cX3_sayText 7 = .ok (.iload_n 1, 1) := by decide +kernel
theorem dX3_sayText_8 : decode cX3_sayText 8 = .ok (.aload_n 0, 1) := by decide +kernel
theorem dX3_sayText_9 : decode cX3_sayText 9 = .ok (.getfield 25, 3) := by decide +kernel
theorem dX3_sayText_12 : decode cX3_sayText 12 = .ok (.invokevirtual 230, 3) := by decide +kernel
theorem dX3_sayText_15 : decode cX3_sayText 15 = .ok (.istore_n 2, 1) := by decide +kernel
theorem dX3_sayText_16 : decode cX3_sayText 16 = .ok (.aload_n 0, 1) := by decide +kernel
theorem dX3_sayText_17 : decode cX3_sayText 17 = .ok (.getfield 33, 3) := by decide +kernel
theorem dX3_sayText_20 : decode cX3_sayText 20 = .ok (.aload_n 0, 1) := by decide +kernel
theorem dX3_sayText_21 : decode cX3_sayText 21 = .ok (.getfield 25, 3) := by decide +kernel
theorem dX3_sayText_24 : decode cX3_sayText 24 = .ok (.iload_n 2, 1) := by decide +kernel
theorem dX3_sayText_25 : decode cX3_sayText 25 = .ok (.invokevirtual 236, 3) := by decide +kernel
theorem dX3_sayText_28 : decode cX3_sayText 28 = .ok (.return_, 1) := by decide +kernel
def F_X3_sayText (p0 : Int32) (Γ : HS) : HR :=
  (F_X9_unpack_k p0 Γ).bind fun u_1 =>
  bnd (mrg (fun j => j == 10 || j == 6) Γ u_1.2) fun σ_3 =>
  (F_X5_row u_1.1 σ_3).bind fun u_5 =>
  bnd (mrg (fun j => j == 10 || j == 8) σ_3 u_5.2) fun σ_7 =>
  some (0, σ_7)
set_option maxHeartbeats 4000000 in
set_option maxRecDepth 100000 in
theorem k_X3_sayText (l : Launch) (dC : Nat → ClassId) (dI : Nat → Nat → Nat) (cB cC cI cJ cZ cP : ClassId) (oA : Nat → Nat) (rA : Nat → Nat → Nat) (sz : Nat)  (p0 : Int32) (Γ : HS) (res : Int32 × HS) (hF : F_X3_sayText p0 Γ = some res) : Met l yX3_sayText (g_ws yX3_sayText cX3_sayText 3 none) ({ frames := 6, cells := 0, slots := 0, locals := 154 }) (va_Pc [.ref (oA 10), .int p0] (g_B (dC, dI) [(cB, .byte), (cC, .char), (cI, .int), (cJ, .long), (cZ, .boolean), (cP, .object "StoryHouse$Play")] sz (b_k cB cC cI cJ cZ oA rA Γ ++ b_p cB cC cI cJ cZ oA rA Γ ++ b_o cB cC cI cJ cZ oA rA Γ ++ b_s cB cC cI cJ cZ oA rA Γ ++ b_c cB cC cI cJ cZ oA rA Γ ++ b_t cB cC cI cJ cZ oA rA Γ ++ b_d cB cC cI cJ cZ oA rA Γ) g_0)) (va_Qv (fun (_ : Unit) => True) (g_Bo (dC, dI) (va_A (b_k cB cC cI cJ cZ oA rA Γ ++ b_p cB cC cI cJ cZ oA rA Γ ++ b_o cB cC cI cJ cZ oA rA Γ ++ b_s cB cC cI cJ cZ oA rA Γ ++ b_c cB cC cI cJ cZ oA rA Γ ++ b_t cB cC cI cJ cZ oA rA Γ ++ b_d cB cC cI cJ cZ oA rA Γ) sz) (fun (_ : Unit) => (b_k cB cC cI cJ cZ oA rA res.2 ++ b_p cB cC cI cJ cZ oA rA res.2 ++ b_o cB cC cI cJ cZ oA rA res.2 ++ b_s cB cC cI cJ cZ oA rA res.2 ++ b_c cB cC cI cJ cZ oA rA res.2 ++ b_t cB cC cI cJ cZ oA rA res.2 ++ b_d cB cC cI cJ cZ oA rA res.2))) (va_A (b_k cB cC cI cJ cZ oA rA Γ ++ b_p cB cC cI cJ cZ oA rA Γ ++ b_o cB cC cI cJ cZ oA rA Γ ++ b_s cB cC cI cJ cZ oA rA Γ ++ b_c cB cC cI cJ cZ oA rA Γ ++ b_t cB cC cI cJ cZ oA rA Γ ++ b_d cB cC cI cJ cZ oA rA Γ) sz)) 0 0 (va_A (b_k cB cC cI cJ cZ oA rA Γ ++ b_p cB cC cI cJ cZ oA rA Γ ++ b_o cB cC cI cJ cZ oA rA Γ ++ b_s cB cC cI cJ cZ oA rA Γ ++ b_c cB cC cI cJ cZ oA rA Γ ++ b_t cB cC cI cJ cZ oA rA Γ ++ b_d cB cC cI cJ cZ oA rA Γ) sz) := by
  refine Met.ofW (cc := cX3_sayText) (maxL := 3) (ret := none) (by decide) rfl ?_
  intro p e s m args below meth c s₁ B hml hv
  obtain ⟨rfl, hsz, hP, hK, hD0, hE, hX⟩ := hv
  have hx := B.exec
  have hb := B.bytes
  have hr := B.returns
  have hts0 := atoms_spec (ws := g_ws yX3_sayText cX3_sayText 3 none) B.pre
  have hts : ∀ w ∈ lw_good, w.before ([.ref (oA 10), .int p0] : List Value).toArray s = true := fun w z => hts0 w (List.mem_cons_of_mem _ z)
  have hown : s.vm.findClass RX3 = some m.cls := findClass_of_methodNamed B.named
  have hlocks := B.notSynchronized
  subst hsz
  have hD1 := hD0.self (sz := s.heap.size)
  generalize hAe : va_A (b_k cB cC cI cJ cZ oA rA Γ ++ b_p cB cC cI cJ cZ oA rA Γ ++ b_o cB cC cI cJ cZ oA rA Γ ++ b_s cB cC cI cJ cZ oA rA Γ ++ b_c cB cC cI cJ cZ oA rA Γ ++ b_t cB cC cI cJ cZ oA rA Γ ++ b_d cB cC cI cJ cZ oA rA Γ) s.heap.size = A at hD1 hE hX ⊢
  have hA : ∀ q : Nat, s.heap.size ≤ q → A q := fun q z => by rw [← hAe]; exact Or.inr z
  have hDD : ∀ Γ : HS, va_D A (b_k cB cC cI cJ cZ oA rA Γ ++ b_p cB cC cI cJ cZ oA rA Γ ++ b_o cB cC cI cJ cZ oA rA Γ ++ b_s cB cC cI cJ cZ oA rA Γ ++ b_c cB cC cI cJ cZ oA rA Γ ++ b_t cB cC cI cJ cZ oA rA Γ ++ b_d cB cC cI cJ cZ oA rA Γ) := fun Γ9 => va_D_fst (ws := (b_k cB cC cI cJ cZ oA rA Γ ++ b_p cB cC cI cJ cZ oA rA Γ ++ b_o cB cC cI cJ cZ oA rA Γ ++ b_s cB cC cI cJ cZ oA rA Γ ++ b_c cB cC cI cJ cZ oA rA Γ ++ b_t cB cC cI cJ cZ oA rA Γ ++ b_d cB cC cI cJ cZ oA rA Γ)) (ws' := (b_k cB cC cI cJ cZ oA rA Γ9 ++ b_p cB cC cI cJ cZ oA rA Γ9 ++ b_o cB cC cI cJ cZ oA rA Γ9 ++ b_s cB cC cI cJ cZ oA rA Γ9 ++ b_c cB cC cI cJ cZ oA rA Γ9 ++ b_t cB cC cI cJ cZ oA rA Γ9 ++ b_d cB cC cI cJ cZ oA rA Γ9)) rfl hD1
  have hN := hE.1
  have hS : va_S A s.heap s.heap [] := va_S.rf
  have hl := lv_entry ([.ref (oA 10), .int p0]) (n := 3) (Nat.le_of_ble_eq_true rfl)
  rw [lg_entry_eq]
  generalize (lg_sl ([.ref (oA 10), .int p0]) ++ List.replicate (3 - (lg_sl ([.ref (oA 10), .int p0])).length) Slot.unset).toArray = ls at hl ⊢
  have hl : lv_has ls 3 [(0, .ref (oA 10)), (1, .int p0)] := hl
  unfold F_X3_sayText at hF
  refine lv_aload_n hx hb dX3_sayText_0 rfl (lv_at hl 0 rfl) ?_
  refine va_get (D := (dC, dI)) (ci := 3) (v := .ref (oA 4)) (C := RX3) (T := TX3) (N := 16) hx hb hts ii_X3 hown hK hP 0 rfl rfl 2 (by decide) (hts (.fieldLink RX3 52 "StoryHouse$Machine" "story" "LStoryHouse$Story;") wq_262) (fun _ h9 => h9) rfl dX3_sayText_1 ?_
  refine va_get (D := (dC, dI)) (ci := 7) (v := .ref (oA 6)) (C := RX7) (T := TX7) (N := 19) hx hb hts ii_X7 hown hK hP 15 rfl rfl 17 (by decide) (hts (.fieldLink RX3 226 "StoryHouse$Story" "texts" "LStoryHouse$Texts;") wq_198) (fun _ h9 => h9) rfl dX3_sayText_4 ?_
  refine lv_iload_n hx hb dX3_sayText_7 rfl (lv_at hl 1 rfl) ?_
  refine lv_aload_n hx hb dX3_sayText_8 rfl (lv_at hl 0 rfl) ?_
  refine va_get (D := (dC, dI)) (ci := 3) (v := .ref (rA 10 15)) (C := RX3) (T := TX3) (N := 16) hx hb hts ii_X3 hown hK hP 0 rfl rfl 15 (by decide) (hts (.fieldLink RX3 25 "StoryHouse$Machine" "row" "[B") wq_279) (fun _ h9 => h9) rfl dX3_sayText_9 ?_
  obtain ⟨u_1, hu_1, hF_2⟩ := Option.bind_eq_some_iff.mp hF
  clear hF
  have hPc := bx_P (bs := [b_k cB cC cI cJ cZ oA rA Γ, b_p cB cC cI cJ cZ oA rA Γ, b_o cB cC cI cJ cZ oA rA Γ, b_s cB cC cI cJ cZ oA rA Γ, b_c cB cC cI cJ cZ oA rA Γ, b_t cB cC cI cJ cZ oA rA Γ, b_d cB cC cI cJ cZ oA rA Γ]) (bs' := [b_k cB cC cI cJ cZ oA rA Γ, b_t cB cC cI cJ cZ oA rA Γ]) (ws' := (b_k cB cC cI cJ cZ oA rA Γ ++ b_t cB cC cI cJ cZ oA rA Γ)) hP fl_7 fl_2 [0, 5] rfl
  have hDc := bx_D (bs := [b_k cB cC cI cJ cZ oA rA Γ, b_p cB cC cI cJ cZ oA rA Γ, b_o cB cC cI cJ cZ oA rA Γ, b_s cB cC cI cJ cZ oA rA Γ, b_c cB cC cI cJ cZ oA rA Γ, b_t cB cC cI cJ cZ oA rA Γ, b_d cB cC cI cJ cZ oA rA Γ]) (bs' := [b_k cB cC cI cJ cZ oA rA Γ, b_t cB cC cI cJ cZ oA rA Γ]) (ws' := (b_k cB cC cI cJ cZ oA rA Γ ++ b_t cB cC cI cJ cZ oA rA Γ)) (hDD Γ) fl_7 fl_2 [0, 5] (by decide +kernel) rfl
  have hFc := bx_F (bs := [b_k cB cC cI cJ cZ oA rA Γ, b_p cB cC cI cJ cZ oA rA Γ, b_o cB cC cI cJ cZ oA rA Γ, b_s cB cC cI cJ cZ oA rA Γ, b_c cB cC cI cJ cZ oA rA Γ, b_t cB cC cI cJ cZ oA rA Γ, b_d cB cC cI cJ cZ oA rA Γ]) (bs' := [b_k cB cC cI cJ cZ oA rA Γ, b_t cB cC cI cJ cZ oA rA Γ]) (wc := (b_k cB cC cI cJ cZ oA rA Γ ++ b_t cB cC cI cJ cZ oA rA Γ)) (hDD Γ) hS hA fl_7 fl_2 [0, 5] rfl
  refine g_ofi (wc := (b_k cB cC cI cJ cZ oA rA Γ ++ b_t cB cC cI cJ cZ oA rA Γ)) (wr := (b_p cB cC cI cJ cZ oA rA Γ ++ b_o cB cC cI cJ cZ oA rA Γ ++ b_s cB cC cI cJ cZ oA rA Γ ++ b_c cB cC cI cJ cZ oA rA Γ ++ b_d cB cC cI cJ cZ oA rA Γ)) hP (hDD Γ) hS hFc (bx_ix [b_k cB cC cI cJ cZ oA rA Γ, b_p cB cC cI cJ cZ oA rA Γ, b_o cB cC cI cJ cZ oA rA Γ, b_s cB cC cI cJ cZ oA rA Γ, b_c cB cC cI cJ cZ oA rA Γ, b_t cB cC cI cJ cZ oA rA Γ, b_d cB cC cI cJ cZ oA rA Γ] [0, 5]) (bx_ix [b_k cB cC cI cJ cZ oA rA Γ, b_p cB cC cI cJ cZ oA rA Γ, b_o cB cC cI cJ cZ oA rA Γ, b_s cB cC cI cJ cZ oA rA Γ, b_c cB cC cI cJ cZ oA rA Γ, b_t cB cC cI cJ cZ oA rA Γ, b_d cB cC cI cJ cZ oA rA Γ] [1, 2, 3, 4, 6]) (bx_C (bs := [b_k cB cC cI cJ cZ oA rA Γ, b_p cB cC cI cJ cZ oA rA Γ, b_o cB cC cI cJ cZ oA rA Γ, b_s cB cC cI cJ cZ oA rA Γ, b_c cB cC cI cJ cZ oA rA Γ, b_t cB cC cI cJ cZ oA rA Γ, b_d cB cC cI cJ cZ oA rA Γ]) (bs' := [b_k cB cC cI cJ cZ oA rA Γ, b_t cB cC cI cJ cZ oA rA Γ]) (is := [0, 5]) fl_7 fl_2 rfl) (bx_C (bs := [b_k cB cC cI cJ cZ oA rA Γ, b_p cB cC cI cJ cZ oA rA Γ, b_o cB cC cI cJ cZ oA rA Γ, b_s cB cC cI cJ cZ oA rA Γ, b_c cB cC cI cJ cZ oA rA Γ, b_t cB cC cI cJ cZ oA rA Γ, b_d cB cC cI cJ cZ oA rA Γ]) (bs' := [b_p cB cC cI cJ cZ oA rA Γ, b_o cB cC cI cJ cZ oA rA Γ, b_s cB cC cI cJ cZ oA rA Γ, b_c cB cC cI cJ cZ oA rA Γ, b_d cB cC cI cJ cZ oA rA Γ]) (is := [1, 2, 3, 4, 6]) fl_7 fl_5 rfl) (bx_n (by decide +kernel)) (bx_d (by decide +kernel)) (va_runV (As := [.int p0, .ref (rA 10 15)]) (rest := []) ⟨hx, hb, hml, hown, hts⟩ (k_X9_unpack_k l dC dI cB cC cI cJ cZ cP oA rA s.heap.size  p0 Γ _ hu_1) (cwV 2 hts (g_gV wq_1022 wq_900 wq_901 wq_7 wq_902) rfl rfl rfl (by decide +kernel) ⟨Nat.le_of_ble_eq_true rfl, Nat.le_of_ble_eq_true rfl⟩) (g_preV g_bl0 hK hPc hDc hS hE hFc g_to0 (q0 := 5) (ci := 9) rfl rfl) rfl rfl hl.1 rfl (lv_room (Nat.le_of_ble_eq_true rfl)) dX3_sayText_12 ⟨Nat.le_of_ble_eq_true rfl, Nat.le_of_ble_eq_true rfl⟩) (fun r9 u9 H locs hw9 hP' hD' hS => ?_)
  clear hPc hDc hFc
  subst hw9
  obtain ⟨σ_3, eσ_3, hF_4⟩ := bnd_e hF_2
  clear hF_2
  have hP : va_P (dC, dI) vwCl (b_k cB cC cI cJ cZ oA rA σ_3 ++ b_p cB cC cI cJ cZ oA rA σ_3 ++ b_o cB cC cI cJ cZ oA rA σ_3 ++ b_s cB cC cI cJ cZ oA rA σ_3 ++ b_c cB cC cI cJ cZ oA rA σ_3 ++ b_t cB cC cI cJ cZ oA rA σ_3 ++ b_d cB cC cI cJ cZ oA rA σ_3) H := by rw [eσ_3]; exact bx_P (bs := [b_p cB cC cI cJ cZ oA rA Γ, b_o cB cC cI cJ cZ oA rA Γ, b_s cB cC cI cJ cZ oA rA Γ, b_c cB cC cI cJ cZ oA rA Γ, b_d cB cC cI cJ cZ oA rA Γ] ++ [b_k cB cC cI cJ cZ oA rA u_1.2, b_t cB cC cI cJ cZ oA rA u_1.2]) (bs' := [b_k cB cC cI cJ cZ oA rA (mrg (fun j => j == 10 || j == 6) Γ u_1.2), b_p cB cC cI cJ cZ oA rA (mrg (fun j => j == 10 || j == 6) Γ u_1.2), b_o cB cC cI cJ cZ oA rA (mrg (fun j => j == 10 || j == 6) Γ u_1.2), b_s cB cC cI cJ cZ oA rA (mrg (fun j => j == 10 || j == 6) Γ u_1.2), b_c cB cC cI cJ cZ oA rA (mrg (fun j => j == 10 || j == 6) Γ u_1.2), b_t cB cC cI cJ cZ oA rA (mrg (fun j => j == 10 || j == 6) Γ u_1.2), b_d cB cC cI cJ cZ oA rA (mrg (fun j => j == 10 || j == 6) Γ u_1.2)]) hP' (fl_a fl_5 fl_2) fl_7 [5, 0, 1, 2, 3, 6, 4] rfl
  clear hP' hD'
  refine lv_istore_n (lv' := [(2, .int u_1.1), (0, .ref (oA 10)), (1, .int p0)]) hx hb dX3_sayText_15 rfl hl (by decide) rfl (fun ls hl => ?_)
  refine lv_aload_n hx hb dX3_sayText_16 rfl (lv_at hl 1 rfl) ?_
  refine va_get (D := (dC, dI)) (ci := 3) (v := .ref (oA 8)) (C := RX3) (T := TX3) (N := 16) hx hb hts ii_X3 hown hK hP 0 rfl rfl 1 (by decide) (hts (.fieldLink RX3 33 "StoryHouse$Machine" "told" "LStoryHouse$Out;") wq_260) (fun _ h9 => h9) rfl dX3_sayText_17 ?_
  refine lv_aload_n hx hb dX3_sayText_20 rfl (lv_at hl 1 rfl) ?_
  refine va_get (D := (dC, dI)) (ci := 3) (v := .ref (rA 10 15)) (C := RX3) (T := TX3) (N := 16) hx hb hts ii_X3 hown hK hP 0 rfl rfl 15 (by decide) (hts (.fieldLink RX3 25 "StoryHouse$Machine" "row" "[B") wq_279) (fun _ h9 => h9) rfl dX3_sayText_21 ?_
  refine lv_iload_n hx hb dX3_sayText_24 rfl (lv_at hl 0 rfl) ?_
  obtain ⟨u_5, hu_5, hF_6⟩ := Option.bind_eq_some_iff.mp hF_4
  clear hF_4
  have hPc := bx_P (bs := [b_k cB cC cI cJ cZ oA rA σ_3, b_p cB cC cI cJ cZ oA rA σ_3, b_o cB cC cI cJ cZ oA rA σ_3, b_s cB cC cI cJ cZ oA rA σ_3, b_c cB cC cI cJ cZ oA rA σ_3, b_t cB cC cI cJ cZ oA rA σ_3, b_d cB cC cI cJ cZ oA rA σ_3]) (bs' := [b_k cB cC cI cJ cZ oA rA σ_3, b_o cB cC cI cJ cZ oA rA σ_3]) (ws' := (b_k cB cC cI cJ cZ oA rA σ_3 ++ b_o cB cC cI cJ cZ oA rA σ_3)) hP fl_7 fl_2 [0, 2] rfl
  have hDc := bx_D (bs := [b_k cB cC cI cJ cZ oA rA σ_3, b_p cB cC cI cJ cZ oA rA σ_3, b_o cB cC cI cJ cZ oA rA σ_3, b_s cB cC cI cJ cZ oA rA σ_3, b_c cB cC cI cJ cZ oA rA σ_3, b_t cB cC cI cJ cZ oA rA σ_3, b_d cB cC cI cJ cZ oA rA σ_3]) (bs' := [b_k cB cC cI cJ cZ oA rA σ_3, b_o cB cC cI cJ cZ oA rA σ_3]) (ws' := (b_k cB cC cI cJ cZ oA rA σ_3 ++ b_o cB cC cI cJ cZ oA rA σ_3)) (hDD σ_3) fl_7 fl_2 [0, 2] (by decide +kernel) rfl
  have hFc := bx_F (bs := [b_k cB cC cI cJ cZ oA rA σ_3, b_p cB cC cI cJ cZ oA rA σ_3, b_o cB cC cI cJ cZ oA rA σ_3, b_s cB cC cI cJ cZ oA rA σ_3, b_c cB cC cI cJ cZ oA rA σ_3, b_t cB cC cI cJ cZ oA rA σ_3, b_d cB cC cI cJ cZ oA rA σ_3]) (bs' := [b_k cB cC cI cJ cZ oA rA σ_3, b_o cB cC cI cJ cZ oA rA σ_3]) (wc := (b_k cB cC cI cJ cZ oA rA σ_3 ++ b_o cB cC cI cJ cZ oA rA σ_3)) (hDD σ_3) hS hA fl_7 fl_2 [0, 2] rfl
  refine g_ofv (wc := (b_k cB cC cI cJ cZ oA rA σ_3 ++ b_o cB cC cI cJ cZ oA rA σ_3)) (wr := (b_p cB cC cI cJ cZ oA rA σ_3 ++ b_s cB cC cI cJ cZ oA rA σ_3 ++ b_c cB cC cI cJ cZ oA rA σ_3 ++ b_t cB cC cI cJ cZ oA rA σ_3 ++ b_d cB cC cI cJ cZ oA rA σ_3)) hP (hDD σ_3) hS hFc (bx_ix [b_k cB cC cI cJ cZ oA rA σ_3, b_p cB cC cI cJ cZ oA rA σ_3, b_o cB cC cI cJ cZ oA rA σ_3, b_s cB cC cI cJ cZ oA rA σ_3, b_c cB cC cI cJ cZ oA rA σ_3, b_t cB cC cI cJ cZ oA rA σ_3, b_d cB cC cI cJ cZ oA rA σ_3] [0, 2]) (bx_ix [b_k cB cC cI cJ cZ oA rA σ_3, b_p cB cC cI cJ cZ oA rA σ_3, b_o cB cC cI cJ cZ oA rA σ_3, b_s cB cC cI cJ cZ oA rA σ_3, b_c cB cC cI cJ cZ oA rA σ_3, b_t cB cC cI cJ cZ oA rA σ_3, b_d cB cC cI cJ cZ oA rA σ_3] [1, 3, 4, 5, 6]) (bx_C (bs := [b_k cB cC cI cJ cZ oA rA σ_3, b_p cB cC cI cJ cZ oA rA σ_3, b_o cB cC cI cJ cZ oA rA σ_3, b_s cB cC cI cJ cZ oA rA σ_3, b_c cB cC cI cJ cZ oA rA σ_3, b_t cB cC cI cJ cZ oA rA σ_3, b_d cB cC cI cJ cZ oA rA σ_3]) (bs' := [b_k cB cC cI cJ cZ oA rA σ_3, b_o cB cC cI cJ cZ oA rA σ_3]) (is := [0, 2]) fl_7 fl_2 rfl) (bx_C (bs := [b_k cB cC cI cJ cZ oA rA σ_3, b_p cB cC cI cJ cZ oA rA σ_3, b_o cB cC cI cJ cZ oA rA σ_3, b_s cB cC cI cJ cZ oA rA σ_3, b_c cB cC cI cJ cZ oA rA σ_3, b_t cB cC cI cJ cZ oA rA σ_3, b_d cB cC cI cJ cZ oA rA σ_3]) (bs' := [b_p cB cC cI cJ cZ oA rA σ_3, b_s cB cC cI cJ cZ oA rA σ_3, b_c cB cC cI cJ cZ oA rA σ_3, b_t cB cC cI cJ cZ oA rA σ_3, b_d cB cC cI cJ cZ oA rA σ_3]) (is := [1, 3, 4, 5, 6]) fl_7 fl_5 rfl) (bx_n (by decide +kernel)) (bx_d (by decide +kernel)) (va_runV (As := [.ref (rA 10 15), .int u_1.1]) (rest := []) ⟨hx, hb, hml, hown, hts⟩ (k_X5_row l dC dI cB cC cI cJ cZ cP oA rA H.size  u_1.1 σ_3 _ hu_5) (cwV 2 hts (g_gV wq_1023 wq_1024 wq_1025 wq_9 wq_1026) rfl rfl rfl (by decide +kernel) ⟨Nat.le_of_ble_eq_true rfl, Nat.le_of_ble_eq_true rfl⟩) (g_preV g_bl0 hK hPc hDc hS hE hFc g_to0 (q0 := 5) (ci := 5) rfl rfl) rfl rfl hl.1 rfl (lv_room (Nat.le_of_ble_eq_true rfl)) dX3_sayText_25 ⟨Nat.le_of_ble_eq_true rfl, Nat.le_of_ble_eq_true rfl⟩) (fun u9 H locs hw9 hP' hD' hS => ?_)
  clear hPc hDc hFc
  obtain ⟨σ_7, eσ_7, hF_8⟩ := bnd_e hF_6
  clear hF_6
  have hP : va_P (dC, dI) vwCl (b_k cB cC cI cJ cZ oA rA σ_7 ++ b_p cB cC cI cJ cZ oA rA σ_7 ++ b_o cB cC cI cJ cZ oA rA σ_7 ++ b_s cB cC cI cJ cZ oA rA σ_7 ++ b_c cB cC cI cJ cZ oA rA σ_7 ++ b_t cB cC cI cJ cZ oA rA σ_7 ++ b_d cB cC cI cJ cZ oA rA σ_7) H := by rw [eσ_7]; exact bx_P (bs := [b_p cB cC cI cJ cZ oA rA σ_3, b_s cB cC cI cJ cZ oA rA σ_3, b_c cB cC cI cJ cZ oA rA σ_3, b_t cB cC cI cJ cZ oA rA σ_3, b_d cB cC cI cJ cZ oA rA σ_3] ++ [b_k cB cC cI cJ cZ oA rA u_5.2, b_o cB cC cI cJ cZ oA rA u_5.2]) (bs' := [b_k cB cC cI cJ cZ oA rA (mrg (fun j => j == 10 || j == 8) σ_3 u_5.2), b_p cB cC cI cJ cZ oA rA (mrg (fun j => j == 10 || j == 8) σ_3 u_5.2), b_o cB cC cI cJ cZ oA rA (mrg (fun j => j == 10 || j == 8) σ_3 u_5.2), b_s cB cC cI cJ cZ oA rA (mrg (fun j => j == 10 || j == 8) σ_3 u_5.2), b_c cB cC cI cJ cZ oA rA (mrg (fun j => j == 10 || j == 8) σ_3 u_5.2), b_t cB cC cI cJ cZ oA rA (mrg (fun j => j == 10 || j == 8) σ_3 u_5.2), b_d cB cC cI cJ cZ oA rA (mrg (fun j => j == 10 || j == 8) σ_3 u_5.2)]) hP' (fl_a fl_5 fl_2) fl_7 [5, 0, 6, 1, 2, 3, 4] rfl
  clear hP' hD'
  have h9 := Option.some.inj hF_8
  subst h9
  exact W.vret hx hb hr (fun t ht hW => ⟨⟨(), rfl, trivial, m_end ht hP, hDD _⟩, hS.F ht⟩) hS.2.2 dX3_sayText_28
theorem dX3_sayName_0 : decode cX3_sayName 0 = .ok (.iload_n 1, 1) := by decide +kernel
theorem dX3_sayName_1 : decode cX3_sayName 1 = .ok (.iconst 1, 1) := by decide +kernel
theorem dX3_sayName_2 : decode cX3_sayName 2 = .ok (.if_icmp .ne 15, 3) := by decide +kernel
theorem dX3_sayName_5 : decode cX3_sayName 5 = .ok (.aload_n 0, 1) := by decide +kernel
theorem dX3_sayName_6 : decode cX3_sayName 6 = .ok (.getfield 33, 3) := by decide +kernel
theorem dX3_sayName_9 : decode cX3_sayName 9 = .ok (.ldc 239, 2) := by decide +kernel
theorem dX3_sayName_11 : decode cX3_sayName 11 = .ok (.invokevirtual 241, 3) := by decide +kernel
theorem dX3_sayName_14 : decode cX3_sayName 14 = .ok (.goto 18, 3) := by decide +kernel
theorem dX3_sayName_17 : decode cX3_sayName 17 = .ok (.aload_n 0, 1) := by decide +kernel
theorem dX3_sayName_18 : decode cX3_sayName 18 = .ok (.aload_n 0, 1) := by decide +kernel
theorem dX3_sayName_19 : decode cX3_sayName 19 = .ok (.getfield 52, 3) := by decide +kernel
theorem dX3_sayName_22 : decode cX3_sayName 22 = .ok (.getfield 244, 3) := by decide +kernel
theorem dX3_sayName_25 : decode cX3_sayName 25 = .ok (.iload_n 1, 1) := by decide +kernel
theorem dX3_sayName_26 : decode cX3_sayName 26 = .ok (.invokestatic 98, 3) := by decide +kernel
theorem dX3_sayName_29 : decode cX3_sayName 29 = .ok (.invokevirtual 158, 3) := by decide +kernel
theorem dX3_sayName_32 : decode cX3_sayName 32 = .ok (.return_, 1) := by decide +kernel
def F_X3_sayName (p0 : Int32) (Γ : HS) : HR :=
  if p0 = 1 then (
    (F_X5_text ([121, 111, 117, 114, 115, 101, 108, 102] : List Int32) Γ).bind fun u_4 =>
    bnd (mrg (fun j => j == 8) Γ u_4.2) fun σ_6 =>
    some (0, σ_6)
  ) else (
    bnd ((g_at 121 ((Γ 4).2.1 2) p0)) fun (x_9 : Int32) =>
    (F_X3_sayText x_9 Γ).bind fun u_11 =>
    some (0, u_11.2)
  )
set_option maxHeartbeats 4000000 in
set_option maxRecDepth 100000 in
theorem k_X3_sayName (l : Launch) (dC : Nat → ClassId) (dI : Nat → Nat → Nat) (cB cC cI cJ cZ cP : ClassId) (oA : Nat → Nat) (rA : Nat → Nat → Nat) (sz : Nat)  (p0 : Int32) (Γ : HS) (res : Int32 × HS) (hF : F_X3_sayName p0 Γ = some res) : Met l yX3_sayName (g_ws yX3_sayName cX3_sayName 2 none) ({ frames := 7, cells := 0, slots := 0, locals := 176 }) (va_Pc [.ref (oA 10), .int p0] (g_B (dC, dI) [(cB, .byte), (cC, .char), (cI, .int), (cJ, .long), (cZ, .boolean), (cP, .object "StoryHouse$Play")] sz (b_k cB cC cI cJ cZ oA rA Γ ++ b_p cB cC cI cJ cZ oA rA Γ ++ b_o cB cC cI cJ cZ oA rA Γ ++ b_s cB cC cI cJ cZ oA rA Γ ++ b_c cB cC cI cJ cZ oA rA Γ ++ b_t cB cC cI cJ cZ oA rA Γ ++ b_d cB cC cI cJ cZ oA rA Γ) g_0)) (va_Qv (fun (_ : Unit) => True) (g_Bo (dC, dI) (va_A (b_k cB cC cI cJ cZ oA rA Γ ++ b_p cB cC cI cJ cZ oA rA Γ ++ b_o cB cC cI cJ cZ oA rA Γ ++ b_s cB cC cI cJ cZ oA rA Γ ++ b_c cB cC cI cJ cZ oA rA Γ ++ b_t cB cC cI cJ cZ oA rA Γ ++ b_d cB cC cI cJ cZ oA rA Γ) sz) (fun (_ : Unit) => (b_k cB cC cI cJ cZ oA rA res.2 ++ b_p cB cC cI cJ cZ oA rA res.2 ++ b_o cB cC cI cJ cZ oA rA res.2 ++ b_s cB cC cI cJ cZ oA rA res.2 ++ b_c cB cC cI cJ cZ oA rA res.2 ++ b_t cB cC cI cJ cZ oA rA res.2 ++ b_d cB cC cI cJ cZ oA rA res.2))) (va_A (b_k cB cC cI cJ cZ oA rA Γ ++ b_p cB cC cI cJ cZ oA rA Γ ++ b_o cB cC cI cJ cZ oA rA Γ ++ b_s cB cC cI cJ cZ oA rA Γ ++ b_c cB cC cI cJ cZ oA rA Γ ++ b_t cB cC cI cJ cZ oA rA Γ ++ b_d cB cC cI cJ cZ oA rA Γ) sz)) 0 0 (va_A (b_k cB cC cI cJ cZ oA rA Γ ++ b_p cB cC cI cJ cZ oA rA Γ ++ b_o cB cC cI cJ cZ oA rA Γ ++ b_s cB cC cI cJ cZ oA rA Γ ++ b_c cB cC cI cJ cZ oA rA Γ ++ b_t cB cC cI cJ cZ oA rA Γ ++ b_d cB cC cI cJ cZ oA rA Γ) sz) := by
  refine Met.ofW (cc := cX3_sayName) (maxL := 2) (ret := none) (by decide) rfl ?_
  intro p e s m args below meth c s₁ B hml hv
  obtain ⟨rfl, hsz, hP, hK, hD0, hE, hX⟩ := hv
  have hx := B.exec
  have hb := B.bytes
  have hr := B.returns
  have hts0 := atoms_spec (ws := g_ws yX3_sayName cX3_sayName 2 none) B.pre
  have hts : ∀ w ∈ lw_good, w.before ([.ref (oA 10), .int p0] : List Value).toArray s = true := fun w z => hts0 w (List.mem_cons_of_mem _ z)
  have hown : s.vm.findClass RX3 = some m.cls := findClass_of_methodNamed B.named
  have hlocks := B.notSynchronized
  subst hsz
  have hD1 := hD0.self (sz := s.heap.size)
  generalize hAe : va_A (b_k cB cC cI cJ cZ oA rA Γ ++ b_p cB cC cI cJ cZ oA rA Γ ++ b_o cB cC cI cJ cZ oA rA Γ ++ b_s cB cC cI cJ cZ oA rA Γ ++ b_c cB cC cI cJ cZ oA rA Γ ++ b_t cB cC cI cJ cZ oA rA Γ ++ b_d cB cC cI cJ cZ oA rA Γ) s.heap.size = A at hD1 hE hX ⊢
  have hA : ∀ q : Nat, s.heap.size ≤ q → A q := fun q z => by rw [← hAe]; exact Or.inr z
  have hDD : ∀ Γ : HS, va_D A (b_k cB cC cI cJ cZ oA rA Γ ++ b_p cB cC cI cJ cZ oA rA Γ ++ b_o cB cC cI cJ cZ oA rA Γ ++ b_s cB cC cI cJ cZ oA rA Γ ++ b_c cB cC cI cJ cZ oA rA Γ ++ b_t cB cC cI cJ cZ oA rA Γ ++ b_d cB cC cI cJ cZ oA rA Γ) := fun Γ9 => va_D_fst (ws := (b_k cB cC cI cJ cZ oA rA Γ ++ b_p cB cC cI cJ cZ oA rA Γ ++ b_o cB cC cI cJ cZ oA rA Γ ++ b_s cB cC cI cJ cZ oA rA Γ ++ b_c cB cC cI cJ cZ oA rA Γ ++ b_t cB cC cI cJ cZ oA rA Γ ++ b_d cB cC cI cJ cZ oA rA Γ)) (ws' := (b_k cB cC cI cJ cZ oA rA Γ9 ++ b_p cB cC cI cJ cZ oA rA Γ9 ++ b_o cB cC cI cJ cZ oA rA Γ9 ++ b_s cB cC cI cJ cZ oA rA Γ9 ++ b_c cB cC cI cJ cZ oA rA Γ9 ++ b_t cB cC cI cJ cZ oA rA Γ9 ++ b_d cB cC cI cJ cZ oA rA Γ9)) rfl hD1
  have hN := hE.1
  have hS : va_S A s.heap s.heap [] := va_S.rf
  have hl := lv_entry ([.ref (oA 10), .int p0]) (n := 2) (Nat.le_of_ble_eq_true rfl)
  rw [lg_entry_eq]
  generalize (lg_sl ([.ref (oA 10), .int p0]) ++ List.replicate (2 - (lg_sl ([.ref (oA 10), .int p0])).length) Slot.unset).toArray = ls at hl ⊢
  have hl : lv_has ls 2 [(0, .ref (oA 10)), (1, .int p0)] := hl
  unfold F_X3_sayName at hF
  refine lv_iload_n hx hb dX3_sayName_0 rfl (lv_at hl 1 rfl) ?_
  refine lv_iconst (v := 1) hx hb dX3_sayName_1 (by decide +kernel) ?_
  refine lv_icmp_ne (tgt := 17) hx hb dX3_sayName_2 (by decide) (fun c_1 => ?_) (fun c_1 => ?_)
  · have hF_8 := ineg c_1 hF
    clear hF
    refine lv_aload_n hx hb dX3_sayName_17 rfl (lv_at hl 0 rfl) ?_
    refine lv_aload_n hx hb dX3_sayName_18 rfl (lv_at hl 0 rfl) ?_
    refine va_get (D := (dC, dI)) (ci := 3) (v := .ref (oA 4)) (C := RX3) (T := TX3) (N := 16) hx hb hts ii_X3 hown hK hP 0 rfl rfl 2 (by decide) (hts (.fieldLink RX3 52 "StoryHouse$Machine" "story" "LStoryHouse$Story;") wq_262) (fun _ h9 => h9) rfl dX3_sayName_19 ?_
    refine va_get (D := (dC, dI)) (ci := 7) (v := .ref (rA 4 2)) (C := RX7) (T := TX7) (N := 19) hx hb hts ii_X7 hown hK hP 15 rfl rfl 2 (by decide) (hts (.fieldLink RX3 244 "StoryHouse$Story" "called" "[I") wq_158) (fun _ h9 => h9) rfl dX3_sayName_22 ?_
    refine lv_iload_n hx hb dX3_sayName_25 rfl (lv_at hl 1 rfl) ?_
    have hq9 : ((b_k cB cC cI cJ cZ oA rA Γ ++ b_p cB cC cI cJ cZ oA rA Γ ++ b_o cB cC cI cJ cZ oA rA Γ ++ b_s cB cC cI cJ cZ oA rA Γ ++ b_c cB cC cI cJ cZ oA rA Γ ++ b_t cB cC cI cJ cZ oA rA Γ ++ b_d cB cC cI cJ cZ oA rA Γ))[18]? = some (rA 4 2, .inl (cI, 121, .inl ((Γ 4).2.1 2))) := rfl
    have hPc := hP.sub (ws' := [(rA 4 2, .inl (cI, 121, .inl ((Γ 4).2.1 2)))]) [18] (pk_fm (er_C hq9))
    have hDc := (hDD Γ).sub (ws' := [(rA 4 2, .inl (cI, 121, .inl ((Γ 4).2.1 2)))]) [18] (by decide +kernel) (er_C hq9)
    have hFc := va_free (wc := [(rA 4 2, .inl (cI, 121, .inl ((Γ 4).2.1 2)))]) (hDD Γ) hS hA [18] (er_C hq9)
    refine g_ofi (wc := [(rA 4 2, .inl (cI, 121, .inl ((Γ 4).2.1 2)))]) (wr := (((b_k cB cC cI cJ cZ oA rA Γ ++ b_p cB cC cI cJ cZ oA rA Γ ++ b_o cB cC cI cJ cZ oA rA Γ ++ b_s cB cC cI cJ cZ oA rA Γ ++ b_c cB cC cI cJ cZ oA rA Γ ++ b_t cB cC cI cJ cZ oA rA Γ ++ b_d cB cC cI cJ cZ oA rA Γ)).eraseIdx 18)) hP (hDD Γ) hS hFc [18] ((List.range ((b_k cB cC cI cJ cZ oA rA Γ ++ b_p cB cC cI cJ cZ oA rA Γ ++ b_o cB cC cI cJ cZ oA rA Γ ++ b_s cB cC cI cJ cZ oA rA Γ ++ b_c cB cC cI cJ cZ oA rA Γ ++ b_t cB cC cI cJ cZ oA rA Γ ++ b_d cB cC cI cJ cZ oA rA Γ)).length).eraseIdx 18) (er_C hq9) er_R er_n er_d (va_runSN (As := [.ref (rA 4 2), .int p0]) (rest := [.ref (oA 10)]) ⟨hx, hb, hml, hown, hts⟩ (c_X11_at l dC dI cB cC cI cJ cZ cP s.heap.size (rA 4 2) p0 121 ((Γ 4).2.1 2) (by decide)) ⟨va_cnB 2 hts (g_gA wq_407) rfl rfl rfl (nw_30 hN) (hts (.initialized RX11) wq_1) (by decide +kernel) ⟨Nat.le_of_ble_eq_true rfl, Nat.le_of_ble_eq_true rfl⟩, (hts (.static yX11_at) wq_406), trivial⟩ (g_preS g_bl0 hK hPc hDc hS hE hFc g_to0) rfl rfl hl.1 rfl (lv_room (Nat.le_of_ble_eq_true rfl)) dX3_sayName_26 ⟨Nat.le_of_ble_eq_true rfl, Nat.le_of_ble_eq_true rfl⟩) (fun r9 u9 H locs hw9 hP' hD' hS => ?_)
    clear hPc hDc hFc hD'
    have hP : va_P (dC, dI) vwCl (b_k cB cC cI cJ cZ oA rA Γ ++ b_p cB cC cI cJ cZ oA rA Γ ++ b_o cB cC cI cJ cZ oA rA Γ ++ b_s cB cC cI cJ cZ oA rA Γ ++ b_c cB cC cI cJ cZ oA rA Γ ++ b_t cB cC cI cJ cZ oA rA Γ ++ b_d cB cC cI cJ cZ oA rA Γ) H := er_I hP' hq9
    clear hP' hq9
    subst hw9
    obtain ⟨x_9, ex_9, hF_10⟩ := bnd_e hF_8
    clear hF_8
    refine m_top ex_9 ?_
    obtain ⟨u_11, hu_11, hF_12⟩ := Option.bind_eq_some_iff.mp hF_10
    clear hF_10
    have hPc := bx_P (bs := [b_k cB cC cI cJ cZ oA rA Γ, b_p cB cC cI cJ cZ oA rA Γ, b_o cB cC cI cJ cZ oA rA Γ, b_s cB cC cI cJ cZ oA rA Γ, b_c cB cC cI cJ cZ oA rA Γ, b_t cB cC cI cJ cZ oA rA Γ, b_d cB cC cI cJ cZ oA rA Γ]) (bs' := [b_k cB cC cI cJ cZ oA rA Γ, b_p cB cC cI cJ cZ oA rA Γ, b_o cB cC cI cJ cZ oA rA Γ, b_s cB cC cI cJ cZ oA rA Γ, b_c cB cC cI cJ cZ oA rA Γ, b_t cB cC cI cJ cZ oA rA Γ, b_d cB cC cI cJ cZ oA rA Γ]) (ws' := (b_k cB cC cI cJ cZ oA rA Γ ++ b_p cB cC cI cJ cZ oA rA Γ ++ b_o cB cC cI cJ cZ oA rA Γ ++ b_s cB cC cI cJ cZ oA rA Γ ++ b_c cB cC cI cJ cZ oA rA Γ ++ b_t cB cC cI cJ cZ oA rA Γ ++ b_d cB cC cI cJ cZ oA rA Γ)) hP fl_7 fl_7 [0, 1, 2, 3, 4, 5, 6] rfl
    have hDc := bx_D (bs := [b_k cB cC cI cJ cZ oA rA Γ, b_p cB cC cI cJ cZ oA rA Γ, b_o cB cC cI cJ cZ oA rA Γ, b_s cB cC cI cJ cZ oA rA Γ, b_c cB cC cI cJ cZ oA rA Γ, b_t cB cC cI cJ cZ oA rA Γ, b_d cB cC cI cJ cZ oA rA Γ]) (bs' := [b_k cB cC cI cJ cZ oA rA Γ, b_p cB cC cI cJ cZ oA rA Γ, b_o cB cC cI cJ cZ oA rA Γ, b_s cB cC cI cJ cZ oA rA Γ, b_c cB cC cI cJ cZ oA rA Γ, b_t cB cC cI cJ cZ oA rA Γ, b_d cB cC cI cJ cZ oA rA Γ]) (ws' := (b_k cB cC cI cJ cZ oA rA Γ ++ b_p cB cC cI cJ cZ oA rA Γ ++ b_o cB cC cI cJ cZ oA rA Γ ++ b_s cB cC cI cJ cZ oA rA Γ ++ b_c cB cC cI cJ cZ oA rA Γ ++ b_t cB cC cI cJ cZ oA rA Γ ++ b_d cB cC cI cJ cZ oA rA Γ)) (hDD Γ) fl_7 fl_7 [0, 1, 2, 3, 4, 5, 6] (by decide +kernel) rfl
    have hFc := bx_F (bs := [b_k cB cC cI cJ cZ oA rA Γ, b_p cB cC cI cJ cZ oA rA Γ, b_o cB cC cI cJ cZ oA rA Γ, b_s cB cC cI cJ cZ oA rA Γ, b_c cB cC cI cJ cZ oA rA Γ, b_t cB cC cI cJ cZ oA rA Γ, b_d cB cC cI cJ cZ oA rA Γ]) (bs' := [b_k cB cC cI cJ cZ oA rA Γ, b_p cB cC cI cJ cZ oA rA Γ, b_o cB cC cI cJ cZ oA rA Γ, b_s cB cC cI cJ cZ oA rA Γ, b_c cB cC cI cJ cZ oA rA Γ, b_t cB cC cI cJ cZ oA rA Γ, b_d cB cC cI cJ cZ oA rA Γ]) (wc := (b_k cB cC cI cJ cZ oA rA Γ ++ b_p cB cC cI cJ cZ oA rA Γ ++ b_o cB cC cI cJ cZ oA rA Γ ++ b_s cB cC cI cJ cZ oA rA Γ ++ b_c cB cC cI cJ cZ oA rA Γ ++ b_t cB cC cI cJ cZ oA rA Γ ++ b_d cB cC cI cJ cZ oA rA Γ)) (hDD Γ) hS hA fl_7 fl_7 [0, 1, 2, 3, 4, 5, 6] rfl
    refine g_ofv (wc := (b_k cB cC cI cJ cZ oA rA Γ ++ b_p cB cC cI cJ cZ oA rA Γ ++ b_o cB cC cI cJ cZ oA rA Γ ++ b_s cB cC cI cJ cZ oA rA Γ ++ b_c cB cC cI cJ cZ oA rA Γ ++ b_t cB cC cI cJ cZ oA rA Γ ++ b_d cB cC cI cJ cZ oA rA Γ)) (wr := ([] : va_W)) hP (hDD Γ) hS hFc (bx_ix [b_k cB cC cI cJ cZ oA rA Γ, b_p cB cC cI cJ cZ oA rA Γ, b_o cB cC cI cJ cZ oA rA Γ, b_s cB cC cI cJ cZ oA rA Γ, b_c cB cC cI cJ cZ oA rA Γ, b_t cB cC cI cJ cZ oA rA Γ, b_d cB cC cI cJ cZ oA rA Γ] [0, 1, 2, 3, 4, 5, 6]) (bx_ix [b_k cB cC cI cJ cZ oA rA Γ, b_p cB cC cI cJ cZ oA rA Γ, b_o cB cC cI cJ cZ oA rA Γ, b_s cB cC cI cJ cZ oA rA Γ, b_c cB cC cI cJ cZ oA rA Γ, b_t cB cC cI cJ cZ oA rA Γ, b_d cB cC cI cJ cZ oA rA Γ] []) (bx_C (bs := [b_k cB cC cI cJ cZ oA rA Γ, b_p cB cC cI cJ cZ oA rA Γ, b_o cB cC cI cJ cZ oA rA Γ, b_s cB cC cI cJ cZ oA rA Γ, b_c cB cC cI cJ cZ oA rA Γ, b_t cB cC cI cJ cZ oA rA Γ, b_d cB cC cI cJ cZ oA rA Γ]) (bs' := [b_k cB cC cI cJ cZ oA rA Γ, b_p cB cC cI cJ cZ oA rA Γ, b_o cB cC cI cJ cZ oA rA Γ, b_s cB cC cI cJ cZ oA rA Γ, b_c cB cC cI cJ cZ oA rA Γ, b_t cB cC cI cJ cZ oA rA Γ, b_d cB cC cI cJ cZ oA rA Γ]) (is := [0, 1, 2, 3, 4, 5, 6]) fl_7 fl_7 rfl) (bx_C (bs := [b_k cB cC cI cJ cZ oA rA Γ, b_p cB cC cI cJ cZ oA rA Γ, b_o cB cC cI cJ cZ oA rA Γ, b_s cB cC cI cJ cZ oA rA Γ, b_c cB cC cI cJ cZ oA rA Γ, b_t cB cC cI cJ cZ oA rA Γ, b_d cB cC cI cJ cZ oA rA Γ]) (bs' := []) (is := []) fl_7 fl_0 rfl) (bx_n (by decide +kernel)) (bx_d (by decide +kernel)) (va_runV (As := [.int x_9]) (rest := []) ⟨hx, hb, hml, hown, hts⟩ (k_X3_sayText l dC dI cB cC cI cJ cZ cP oA rA H.size  x_9 Γ _ hu_11) (cwV 1 hts (g_gV wq_1018 wq_1019 wq_1020 wq_11 wq_1021) rfl rfl rfl (by decide +kernel) ⟨Nat.le_of_ble_eq_true rfl, Nat.le_of_ble_eq_true rfl⟩) (g_preV g_bl0 hK hPc hDc hS hE hFc g_to0 (q0 := 0) (ci := 3) rfl rfl) rfl rfl hl.1 rfl (lv_room (Nat.le_of_ble_eq_true rfl)) dX3_sayName_29 ⟨Nat.le_of_ble_eq_true rfl, Nat.le_of_ble_eq_true rfl⟩) (fun u9 H locs hw9 hP' hD' hS => ?_)
    clear hPc hDc hFc
    have hP : va_P (dC, dI) vwCl (b_k cB cC cI cJ cZ oA rA u_11.2 ++ b_p cB cC cI cJ cZ oA rA u_11.2 ++ b_o cB cC cI cJ cZ oA rA u_11.2 ++ b_s cB cC cI cJ cZ oA rA u_11.2 ++ b_c cB cC cI cJ cZ oA rA u_11.2 ++ b_t cB cC cI cJ cZ oA rA u_11.2 ++ b_d cB cC cI cJ cZ oA rA u_11.2) H := hP'
    clear hP' hD'
    have h9 := Option.some.inj hF_12
    subst h9
    exact W.vret hx hb hr (fun t ht hW => ⟨⟨(), rfl, trivial, m_end ht hP, hDD _⟩, hS.F ht⟩) hS.2.2 dX3_sayName_32
  · have hF_2 := ipos c_1 hF
    clear hF
    refine lv_aload_n hx hb dX3_sayName_5 rfl (lv_at hl 0 rfl) ?_
    refine va_get (D := (dC, dI)) (ci := 3) (v := .ref (oA 8)) (C := RX3) (T := TX3) (N := 16) hx hb hts ii_X3 hown hK hP 0 rfl rfl 1 (by decide) (hts (.fieldLink RX3 33 "StoryHouse$Machine" "told" "LStoryHouse$Out;") wq_260) (fun _ h9 => h9) rfl dX3_sayName_6 ?_
    obtain ⟨q_3, vq_3, hRq_3, hSq_3⟩ := hE.2.2.2.2 _ (List.mem_of_getElem? (i := 27) rfl)
    refine va_ldcS (own := RX3) (tx := "yourself") hx hb hown hRq_3 dX3_sayName_9 ?_
    obtain ⟨u_4, hu_4, hF_5⟩ := Option.bind_eq_some_iff.mp hF_2
    clear hF_2
    have hPc := bx_P (bs := [b_k cB cC cI cJ cZ oA rA Γ, b_p cB cC cI cJ cZ oA rA Γ, b_o cB cC cI cJ cZ oA rA Γ, b_s cB cC cI cJ cZ oA rA Γ, b_c cB cC cI cJ cZ oA rA Γ, b_t cB cC cI cJ cZ oA rA Γ, b_d cB cC cI cJ cZ oA rA Γ]) (bs' := [b_o cB cC cI cJ cZ oA rA Γ]) (ws' := (b_o cB cC cI cJ cZ oA rA Γ)) hP fl_7 fl_1 [2] rfl
    have hDc := bx_D (bs := [b_k cB cC cI cJ cZ oA rA Γ, b_p cB cC cI cJ cZ oA rA Γ, b_o cB cC cI cJ cZ oA rA Γ, b_s cB cC cI cJ cZ oA rA Γ, b_c cB cC cI cJ cZ oA rA Γ, b_t cB cC cI cJ cZ oA rA Γ, b_d cB cC cI cJ cZ oA rA Γ]) (bs' := [b_o cB cC cI cJ cZ oA rA Γ]) (ws' := (b_o cB cC cI cJ cZ oA rA Γ)) (hDD Γ) fl_7 fl_1 [2] (by decide +kernel) rfl
    have hFc := bx_F (bs := [b_k cB cC cI cJ cZ oA rA Γ, b_p cB cC cI cJ cZ oA rA Γ, b_o cB cC cI cJ cZ oA rA Γ, b_s cB cC cI cJ cZ oA rA Γ, b_c cB cC cI cJ cZ oA rA Γ, b_t cB cC cI cJ cZ oA rA Γ, b_d cB cC cI cJ cZ oA rA Γ]) (bs' := [b_o cB cC cI cJ cZ oA rA Γ]) (wc := (b_o cB cC cI cJ cZ oA rA Γ)) (hDD Γ) hS hA fl_7 fl_1 [2] rfl
    refine g_ofv (wc := (b_o cB cC cI cJ cZ oA rA Γ)) (wr := (b_k cB cC cI cJ cZ oA rA Γ ++ b_p cB cC cI cJ cZ oA rA Γ ++ b_s cB cC cI cJ cZ oA rA Γ ++ b_c cB cC cI cJ cZ oA rA Γ ++ b_t cB cC cI cJ cZ oA rA Γ ++ b_d cB cC cI cJ cZ oA rA Γ)) hP (hDD Γ) hS hFc (bx_ix [b_k cB cC cI cJ cZ oA rA Γ, b_p cB cC cI cJ cZ oA rA Γ, b_o cB cC cI cJ cZ oA rA Γ, b_s cB cC cI cJ cZ oA rA Γ, b_c cB cC cI cJ cZ oA rA Γ, b_t cB cC cI cJ cZ oA rA Γ, b_d cB cC cI cJ cZ oA rA Γ] [2]) (bx_ix [b_k cB cC cI cJ cZ oA rA Γ, b_p cB cC cI cJ cZ oA rA Γ, b_o cB cC cI cJ cZ oA rA Γ, b_s cB cC cI cJ cZ oA rA Γ, b_c cB cC cI cJ cZ oA rA Γ, b_t cB cC cI cJ cZ oA rA Γ, b_d cB cC cI cJ cZ oA rA Γ] [0, 1, 3, 4, 5, 6]) (bx_C (bs := [b_k cB cC cI cJ cZ oA rA Γ, b_p cB cC cI cJ cZ oA rA Γ, b_o cB cC cI cJ cZ oA rA Γ, b_s cB cC cI cJ cZ oA rA Γ, b_c cB cC cI cJ cZ oA rA Γ, b_t cB cC cI cJ cZ oA rA Γ, b_d cB cC cI cJ cZ oA rA Γ]) (bs' := [b_o cB cC cI cJ cZ oA rA Γ]) (is := [2]) fl_7 fl_1 rfl) (bx_C (bs := [b_k cB cC cI cJ cZ oA rA Γ, b_p cB cC cI cJ cZ oA rA Γ, b_o cB cC cI cJ cZ oA rA Γ, b_s cB cC cI cJ cZ oA rA Γ, b_c cB cC cI cJ cZ oA rA Γ, b_t cB cC cI cJ cZ oA rA Γ, b_d cB cC cI cJ cZ oA rA Γ]) (bs' := [b_k cB cC cI cJ cZ oA rA Γ, b_p cB cC cI cJ cZ oA rA Γ, b_s cB cC cI cJ cZ oA rA Γ, b_c cB cC cI cJ cZ oA rA Γ, b_t cB cC cI cJ cZ oA rA Γ, b_d cB cC cI cJ cZ oA rA Γ]) (is := [0, 1, 3, 4, 5, 6]) fl_7 fl_6 rfl) (bx_n (by decide +kernel)) (bx_d (by decide +kernel)) (va_runV (As := [.ref q_3]) (rest := []) ⟨hx, hb, hml, hown, hts⟩ (k_X5_text l dC dI cB cC cI cJ cZ cP oA rA s.heap.size q_3 _ ([121, 111, 117, 114, 115, 101, 108, 102] : List Int32) Γ _ hu_4) (cwV 1 hts (g_gV wq_1017 wq_1003 wq_1004 wq_9 wq_1005) rfl rfl rfl (by decide +kernel) ⟨Nat.le_of_ble_eq_true rfl, Nat.le_of_ble_eq_true rfl⟩) (g_preV g_blS hK hPc hDc hS hE hFc (g_toS hSq_3 hS hFc) (q0 := 0) (ci := 5) rfl rfl) rfl rfl hl.1 rfl (lv_room (Nat.le_of_ble_eq_true rfl)) dX3_sayName_11 ⟨Nat.le_of_ble_eq_true rfl, Nat.le_of_ble_eq_true rfl⟩) (fun u9 H locs hw9 hP' hD' hS => ?_)
    clear hPc hDc hFc
    obtain ⟨σ_6, eσ_6, hF_7⟩ := bnd_e hF_5
    clear hF_5
    have hP : va_P (dC, dI) vwCl (b_k cB cC cI cJ cZ oA rA σ_6 ++ b_p cB cC cI cJ cZ oA rA σ_6 ++ b_o cB cC cI cJ cZ oA rA σ_6 ++ b_s cB cC cI cJ cZ oA rA σ_6 ++ b_c cB cC cI cJ cZ oA rA σ_6 ++ b_t cB cC cI cJ cZ oA rA σ_6 ++ b_d cB cC cI cJ cZ oA rA σ_6) H := by rw [eσ_6]; exact bx_P (bs := [b_k cB cC cI cJ cZ oA rA Γ, b_p cB cC cI cJ cZ oA rA Γ, b_s cB cC cI cJ cZ oA rA Γ, b_c cB cC cI cJ cZ oA rA Γ, b_t cB cC cI cJ cZ oA rA Γ, b_d cB cC cI cJ cZ oA rA Γ] ++ [b_o cB cC cI cJ cZ oA rA u_4.2]) (bs' := [b_k cB cC cI cJ cZ oA rA (mrg (fun j => j == 8) Γ u_4.2), b_p cB cC cI cJ cZ oA rA (mrg (fun j => j == 8) Γ u_4.2), b_o cB cC cI cJ cZ oA rA (mrg (fun j => j == 8) Γ u_4.2), b_s cB cC cI cJ cZ oA rA (mrg (fun j => j == 8) Γ u_4.2), b_c cB cC cI cJ cZ oA rA (mrg (fun j => j == 8) Γ u_4.2), b_t cB cC cI cJ cZ oA rA (mrg (fun j => j == 8) Γ u_4.2), b_d cB cC cI cJ cZ oA rA (mrg (fun j => j == 8) Γ u_4.2)]) hP' (fl_a fl_6 fl_1) fl_7 [0, 1, 6, 2, 3, 4, 5] rfl
    clear hP' hD'
    refine lv_goto (tgt := 32) hx hb dX3_sayName_14 (by decide) ?_
    have h9 := Option.some.inj hF_7
    subst h9
    exact W.vret hx hb hr (fun t ht hW => ⟨⟨(), rfl, trivial, m_end ht hP, hDD _⟩, hS.F ht⟩) hS.2.2 dX3_sayName_32
