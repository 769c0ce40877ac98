/-! methods of the reference: what each does is its function -/
theorem dX12_ownWord_0 : decode cX12_ownWord 0 = .ok (.bipush 10, 2) := by decide +kernel
theorem dX12_ownWord_2 : decode cX12_ownWord 2 = .ok (.iload_n 1, 1) := by decide +kernel
theorem dX12_ownWord_3 : decode cX12_ownWord 3 = .ok (.imul, 1) := by decide +kernel
theorem dX12_ownWord_4 : decode cX12_ownWord 4 = .ok (.aload_n 0, 1) := by decide +kernel
theorem dX12_ownWord_5 : decode cX12_ownWord 5 = .ok (.getfield 125, 3) := by decide +kernel
theorem dX12_ownWord_8 : decode cX12_ownWord 8 = .ok (.iload_n 1, 1) := by decide +kernel
theorem dX12_ownWord_9 : decode cX12_ownWord 9 = .ok (.dup2, 1) := by decide +kernel
theorem dX12_ownWord_10 : decode cX12_ownWord 10 = .ok (.iaload, 1) := by decide +kernel
theorem dX12_ownWord_11 : decode cX12_ownWord 11 = .ok (.dup_x2, 1) := by decide +kernel
theorem dX12_ownWord_12 : decode cX12_ownWord 12 = .ok (.iconst 1, 1) := by decide +kernel
theorem dX12_ownWord_13 : decode cX12_ownWord 13 = .ok (.iadd, 1) := by decide +kernel
theorem dX12_ownWord_14 : decode cX12_ownWord 14 = .ok (.iastore, 1) := by decide +kernel
theorem dX12_ownWord_15 : decode cX12_ownWord 15 = .ok (.iadd, 1) := by decide +kernel
theorem dX12_ownWord_16 : decode cX12_ownWord 16 = .ok (.istore_n 3, 1) := by decide +kernel
theorem dX12_ownWord_17 : decode cX12_ownWord 17 = .ok (.iconst 0, 1) := by decide +kernel
theorem dX12_ownWord_18 : decode cX12_ownWord 18 = .ok (.istore 4, 2) := by decide +kernel
theorem dX12_ownWord_20 : decode cX12_ownWord 20 = .ok (.iload 4, 2) := by decide +kernel
theorem dX12_ownWord_22 : decode cX12_ownWord 22 = .ok (.aload_n 2, 1) := by decide +kernel
theorem dX12_ownWord_23 : decode cX12_ownWord 23 = .ok (.invokevirtual 283, 3) := by decide +kernel
theorem dX12_ownWord_26 : decode cX12_ownWord 26 = .ok (.if_icmp .ge 35, 3) := by decide +kernel
theorem dX12_ownWord_29 : decode cX12_ownWord 29 = .ok (.iload 4, 2) := by decide +kernel
theorem dX12_ownWord_31 : decode cX12_ownWord 31 = .ok (.bipush 9, 2) := by decide +kernel
theorem dX12_ownWord_33 : decode cX12_ownWord 33 = .ok (.if_icmp .ge 28, 3) := by decide +kernel
theorem dX12_ownWord_36 : decode cX12_ownWord 36 = .ok (.aload_n 0, 1) := by decide +kernel
theorem dX12_ownWord_37 : decode cX12_ownWord 37 = .ok (.getfield 119, 3) := by decide +kernel
theorem dX12_ownWord_40 : decode cX12_ownWord 40 = .ok (.bipush 9, 2) := by decide +kernel
theorem dX12_ownWord_42 : decode cX12_ownWord 42 = .ok (.iload_n 3, 1) := by decide +kernel
theorem dX12_ownWord_43 : decode cX12_ownWord 43 = .ok (.imul, 1) := by decide +kernel
theorem dX12_ownWord_44 : decode cX12_ownWord 44 = .ok (.iload 4, 2) := by decide +kernel
theorem dX12_ownWord_46 : decode cX12_ownWord 46 = .ok (.iadd, 1) := by decide +kernel
theorem dX12_ownWord_47 : decode cX12_ownWord 47 = .ok (.aload_n 2, 1) := by decide +kernel
theorem dX12_ownWord_48 : decode cX12_ownWord 48 = .ok (.iload 4, 2) := by decide +kernel
theorem dX12_ownWord_50 : decode cX12_ownWord 50 = .ok (.invokevirtual 289, 3) := by decide +kernel
theorem dX12_ownWord_53 : decode cX12_ownWord 53 = .ok (.i2b, 1) := by decide +kernel
theorem dX12_ownWord_54 : decode cX12_ownWord 54 = .ok (.bastore, 1) := by decide +kernel
theorem dX12_ownWord_55 : decode cX12_ownWord 55 = .ok (.iinc 4 1, 3) := by decide +kernel
theorem dX12_ownWord_58 : decode cX12_ownWord 58 = .ok (.goto (-38), 3) := by decide +kernel
theorem dX12_ownWord_61 : decode cX12_ownWord 61 = .ok (.aload_n 0, 1) := by decide +kernel
theorem dX12_ownWord_62 : decode cX12_ownWord 62 = .ok (.getfield 122, 3) := by decide +kernel
theorem dX12_ownWord_65 : decode cX12_ownWord 65 = .ok (.iload_n 3, 1) := by decide +kernel
theorem dX12_ownWord_66 : decode cX12_ownWord 66 = .ok (.bipush 9, 2) := by decide +kernel
theorem dX12_ownWord_68 : decode cX12_ownWord 68 = .ok (.aload_n 2, 1) := by decide +kernel
theorem dX12_ownWord_69 : decode cX12_ownWord 69 = .ok (.invokevirtual 283, 3) := by decide +kernel
theorem dX12_ownWord_72 : decode cX12_ownWord 72 = .ok (.invokestatic 293, 3) := by decide +kernel
theorem dX12_ownWord_75 : decode cX12_ownWord 75 = .ok (.iastore, 1) := by decide +kernel
theorem dX12_ownWord_76 : decode cX12_ownWord 76 = .ok (.iload_n 1, 1) := by decide +kernel
theorem dX12_ownWord_77 : decode cX12_ownWord 77 = .ok (.ireturn, 1) := by decide +kernel
def F_X12_ownWord (p0 : Int32) (b1 : List Int32) (σ : MS) : MR :=
  if p0 < 0 ∨ 61 ≤ p0.toNatClampNeg then none else
  bnd (((σ.2 59 p0.toNatClampNeg) + 1)) fun (x_3 : Int32) =>
  if p0 < 0 ∨ 61 ≤ p0.toNatClampNeg then none else
  bnd (mA σ 59 (upd (σ.2 59) p0.toNatClampNeg x_3)) fun σ_7 =>
  bnd (((10 * p0) + (σ.2 59 p0.toNatClampNeg))) fun (x_9 : Int32) =>
  loopF (fun (again_12 : (Int32 × MS) → MR) (s_11 : Int32 × MS) => (
    bnd ((Int32.ofNat (b1).length)) fun (x_15 : Int32) =>
    bnd (fun  (σ_17 : MS) => (
      bnd ((Int32.ofNat (b1).length)) fun (x_21 : Int32) =>
      bnd ((if x_21 < 9 then x_21 else 9)) fun (x_23 : Int32) =>
      if x_9 < 0 ∨ 610 ≤ x_9.toNatClampNeg then none else
      bnd (mA σ_17 58 (upd (σ_17.2 58) x_9.toNatClampNeg x_23)) fun σ_27 =>
      some (p0, σ_27)
    ) : MS → MR) fun j_18 =>
    if x_15 ≤ s_11.1 then (
      j_18  s_11.2
    ) else (
      if 9 ≤ s_11.1 then (
        j_18  s_11.2
      ) else (
        if s_11.1 < 0 ∨ Int32.ofNat (b1).length ≤ s_11.1 then none else
        bnd ((g_chr ((b1).getD s_11.1.toNatClampNeg 0))) fun (x_37 : Int32) =>
        bnd (x_37.toInt8.toInt32) fun (x_39 : Int32) =>
        if ((9 * x_9) + s_11.1) < 0 ∨ 5490 ≤ ((9 * x_9) + s_11.1).toNatClampNeg then none else
        bnd (mA s_11.2 57 (upd (s_11.2.2 57) ((9 * x_9) + s_11.1).toNatClampNeg (vp_nar .byte x_39))) fun σ_43 =>
        bnd (s_11.1 + 1) fun (x_45 : Int32) =>
        again_12 (x_45, σ_43)
      )
    )
  )) FU (0, σ_7)
set_option maxHeartbeats 4000000 in
set_option maxRecDepth 100000 in
theorem m_X12_ownWord (l : Launch) (dC : Nat → ClassId) (dI : Nat → Nat → Nat) (cB cC cI cJ cZ cP : ClassId) (h qK qS : Nat) (ad : Nat → Nat) (hDD : mDis cB cI cZ h qK qS ad) (sz : Nat) (q1 vq1 : Nat) (p0 : Int32) (b1 : List Int32) (σ : MS) (res : Int32 × MS) (hF : F_X12_ownWord p0 b1 σ = some res) : Met l yX12_ownWord (g_ws yX12_ownWord cX12_ownWord 5 (some .int)) ({ frames := 5, cells := 0, slots := 0, locals := 125 }) (va_Pc [.ref h, .int p0, .ref q1] (m_B (dC, dI) [(cB, .byte), (cC, .char), (cI, .int), (cJ, .long), (cZ, .boolean), (cP, .object "StoryHouse$Play")] sz h ad qK qS (mW cB cI cZ h qK qS ad σ) (fun U : State => g_S q1 vq1 b1 (mCells h ad sz) U U.heap))) (va_Qi (fun r (_ : Unit) => r = res.1) (fun _ t => va_P (dC, dI) vwCl (mW cB cI cZ h qK qS ad res.2) t.heap) (mCells h ad sz)) 0 0 (mCells h ad sz) := by
  refine Met.ofW (cc := cX12_ownWord) (maxL := 5) (ret := (some .int)) (by decide) rfl ?_
  intro p e s m args below meth c s₁ B hml hv
  obtain ⟨rfl, hsz, hP, hK, hE, hKS, hX⟩ := hv
  have hStr_q1 := hX
  have hx := B.exec
  have hb := B.bytes
  have hr := B.returns
  have hts0 := atoms_spec (ws := g_ws yX12_ownWord cX12_ownWord 5 (some .int)) B.pre
  have hts : ∀ w ∈ lw_good, w.before ([.ref h, .int p0, .ref q1] : List Value).toArray s = true := fun w z => hts0 w (List.mem_cons_of_mem _ z)
  have hown : s.vm.findClass RX12 = some m.cls := findClass_of_methodNamed B.named
  have hlocks := B.notSynchronized
  have hS : va_S (mCells h ad sz) s.heap s.heap [] := va_S.rf
  have hl := lv_entry ([.ref h, .int p0, .ref q1]) (n := 5) (Nat.le_of_ble_eq_true rfl)
  rw [lg_entry_eq]
  generalize (lg_sl ([.ref h, .int p0, .ref q1]) ++ List.replicate (5 - (lg_sl ([.ref h, .int p0, .ref q1])).length) Slot.unset).toArray = ls at hl ⊢
  have hl : lv_has ls 5 [(0, .ref h), (1, .int p0), (2, .ref q1)] := hl
  unfold F_X12_ownWord at hF
  refine lv_bipush (v := 10) hx hb dX12_ownWord_0 (by decide +kernel) ?_
  refine lv_iload_n hx hb dX12_ownWord_2 rfl (lv_at hl 1 rfl) ?_
  refine lv_imul hx hb dX12_ownWord_3 ?_
  refine lv_aload_n hx hb dX12_ownWord_4 rfl (lv_at hl 0 rfl) ?_
  refine va_get (D := (dC, dI)) (ci := 12) (v := .ref (ad 59)) (C := RX12) (T := TX12) (N := 123) hx hb hts ii_X12 hown hK hP 0 rfl rfl 59 (by decide) (hts (.fieldLink RX12 125 "StoryHouseModel" "verbWords" "[I") wq_1415) (fun _ h9 => h9) rfl dX12_ownWord_5 ?_
  refine lv_iload_n hx hb dX12_ownWord_8 rfl (lv_at hl 1 rfl) ?_
  refine lv_dup2_11 hx hb dX12_ownWord_9 rfl rfl ?_
  obtain ⟨g_1, hF_2⟩ := nif_e hF
  clear hF
  refine va_iald (f := σ.2 59) hx hb hK hP 33 2 rfl rfl g_1 dX12_ownWord_10 ?_
  refine lv_dup_x2 hx hb dX12_ownWord_11 rfl rfl rfl ?_
  refine lv_iconst (v := 1) hx hb dX12_ownWord_12 (by decide +kernel) ?_
  refine lv_iadd hx hb dX12_ownWord_13 ?_
  obtain ⟨x_3, ex_3, hF_4⟩ := bnd_e hF_2
  clear hF_2
  refine m_top ex_3 ?_
  obtain ⟨g_5, hF_6⟩ := nif_e hF_4
  clear hF_4
  obtain ⟨σ_7, eσ_7, hF_8⟩ := bnd_e hF_6
  clear hF_6
  refine m_iast (σ' := σ_7) hx hb hK hP (hDD _ _) hS (q0 := 33) (t0 := 2) (f := σ.2 59) rfl rfl (by rw [eσ_7]; exact mwA_59) g_5 dX12_ownWord_14 (fun H locs hP hS => ?_)
  refine lv_iadd hx hb dX12_ownWord_15 ?_
  obtain ⟨x_9, ex_9, hF_10⟩ := bnd_e hF_8
  clear hF_8
  refine m_top ex_9 ?_
  refine lv_istore_n (lv' := [(3, .int x_9), (0, .ref h), (1, .int p0), (2, .ref q1)]) hx hb dX12_ownWord_16 rfl hl (by decide) rfl (fun ls hl => ?_)
  refine lv_iconst (v := 0) hx hb dX12_ownWord_17 (by decide +kernel) ?_
  refine lv_istore (lv' := [(4, .int 0), (3, .int x_9), (0, .ref h), (1, .int p0), (2, .ref q1)]) hx hb dX12_ownWord_18 hl (by decide) rfl (fun ls hl => ?_)
  refine loopF_ind (P := fun (s_11 : Int32 × MS) => ∀ (H : Heap) (locs : List Loc), va_P (dC, dI) vwCl (mW cB cI cZ h qK qS ad s_11.2) H → va_S (mCells h ad sz) s.heap H locs → ∀ ls : Array Slot, lv_has ls 5 [(0, .ref h), (1, .int p0), (2, .ref q1), (3, .int x_9), (4, .int s_11.1)] → W p l e (headSpec (g_ws yX12_ownWord cX12_ownWord 5 (some .int)) { frames := 5, cells := 0, slots := 0, locals := 125 }).room s m ([.ref h, .int p0, .ref q1] : List Value).toArray below meth c H locs 0 0 (MQ below (va_Qi (fun r (_ : Unit) => r = res.1) (fun _ t => va_P (dC, dI) vwCl (mW cB cI cZ h qK qS ad res.2) t.heap) (mCells h ad sz)) ([.ref h, .int p0, .ref q1] : List Value).toArray s 0 0 (mCells h ad sz)) (F0 m 20 ls [])) ?_ _ _ hF_10 _ _ hP hS ls (lv_sub hl [2, 3, 4, 1, 0] rfl)
  intro again_12 s_11 ih_13 hF_14
  intro H locs hP hS ls hl
  refine lv_iload hx hb dX12_ownWord_20 (lv_at hl 4 rfl) ?_
  refine lv_aload_n hx hb dX12_ownWord_22 rfl (lv_at hl 2 rfl) ?_
  refine m_cs (v := Int32.ofNat (b1).length) hsz hP hS (va_runV (As := []) (rest := [.int s_11.1]) ⟨hx, hb, hml, hown, hts⟩ (c_J0_length_8abf5 l dC dI cB cC cI cJ cZ cP H.size q1  _ b1 ) (cwV 0 hts (g_gV wq_1509 wq_346 wq_347 wq_22 wq_348) rfl rfl rfl (by decide +kernel) ⟨Nat.le_of_ble_eq_true rfl, Nat.le_of_ble_eq_true rfl⟩) (g_preVs g_blS hK (wc := []) (A := mCells h ad sz) (fun k q z => by simp at z) ⟨fun i j p q z => by simp at z, fun k q z => by simp at z⟩ hS hE (m_nil hS hsz) (g_toS hStr_q1 hS (m_nil hS hsz)) (va_Orecv hStr_q1.1 hS)) rfl rfl hl.1 rfl (lv_room (Nat.le_of_ble_eq_true rfl)) dX12_ownWord_23 ⟨Nat.le_of_ble_eq_true rfl, Nat.le_of_ble_eq_true rfl⟩) (fun H locs hP hS => ?_)
  obtain ⟨x_15, ex_15, hF_16⟩ := bnd_e hF_14
  clear hF_14
  refine m_top ex_15 ?_
  obtain ⟨j_18, ej_18, hF_19⟩ := bnd_e hF_16
  clear hF_16
  have Jj_18 : ∀  (σ_17 : MS), j_18  σ_17 = some res → ∀ (H : Heap) (locs : List Loc), va_P (dC, dI) vwCl (mW cB cI cZ h qK qS ad σ_17) H → va_S (mCells h ad sz) s.heap H locs → ∀ ls : Array Slot, lv_has ls 5 [(0, .ref h), (1, .int p0), (2, .ref q1), (3, .int x_9)] → W p l e (headSpec (g_ws yX12_ownWord cX12_ownWord 5 (some .int)) { frames := 5, cells := 0, slots := 0, locals := 125 }).room s m ([.ref h, .int p0, .ref q1] : List Value).toArray below meth c H locs 0 0 (MQ below (va_Qi (fun r (_ : Unit) => r = res.1) (fun _ t => va_P (dC, dI) vwCl (mW cB cI cZ h qK qS ad res.2) t.heap) (mCells h ad sz)) ([.ref h, .int p0, .ref q1] : List Value).toArray s 0 0 (mCells h ad sz)) (F0 m 61 ls []) := by
    intro  σ_17 hF0 H locs hP hS ls hl
    subst ej_18
    have hF_20 := hF0
    clear hF0
    refine lv_aload_n hx hb dX12_ownWord_61 rfl (lv_at hl 0 rfl) ?_
    refine va_get (D := (dC, dI)) (ci := 12) (v := .ref (ad 58)) (C := RX12) (T := TX12) (N := 123) hx hb hts ii_X12 hown hK hP 0 rfl rfl 58 (by decide) (hts (.fieldLink RX12 122 "StoryHouseModel" "verbWordSize" "[I") wq_1414) (fun _ h9 => h9) rfl dX12_ownWord_62 ?_
    refine lv_iload_n hx hb dX12_ownWord_65 rfl (lv_at hl 3 rfl) ?_
    refine lv_bipush (v := 9) hx hb dX12_ownWord_66 (by decide +kernel) ?_
    refine lv_aload_n hx hb dX12_ownWord_68 rfl (lv_at hl 2 rfl) ?_
    refine m_cs (v := Int32.ofNat (b1).length) hsz hP hS (va_runV (As := []) (rest := [.int 9, .int x_9, .ref (ad 58)]) ⟨hx, hb, hml, hown, hts⟩ (c_J0_length_8abf5 l dC dI cB cC cI cJ cZ cP H.size q1  _ b1 ) (cwV 0 hts (g_gV wq_1509 wq_346 wq_347 wq_22 wq_348) rfl rfl rfl (by decide +kernel) ⟨Nat.le_of_ble_eq_true rfl, Nat.le_of_ble_eq_true rfl⟩) (g_preVs g_blS hK (wc := []) (A := mCells h ad sz) (fun k q z => by simp at z) ⟨fun i j p q z => by simp at z, fun k q z => by simp at z⟩ hS hE (m_nil hS hsz) (g_toS hStr_q1 hS (m_nil hS hsz)) (va_Orecv hStr_q1.1 hS)) rfl rfl hl.1 rfl (lv_room (Nat.le_of_ble_eq_true rfl)) dX12_ownWord_69 ⟨Nat.le_of_ble_eq_true rfl, Nat.le_of_ble_eq_true rfl⟩) (fun H locs hP hS => ?_)
    obtain ⟨x_21, ex_21, hF_22⟩ := bnd_e hF_20
    clear hF_20
    refine m_top ex_21 ?_
    refine va_mmin hx hb (hml.trans hl.1.symm) hown (hts (.methodLink RX12 293 yJ9_min_7cf53) wq_1520) (hts (.static yJ9_min_7cf53) wq_331) (hts (.initialized RJ9) wq_19) (hts (.code yJ9_min_7cf53 cJ9_min_7cf53 2 (some .int)) wq_332) (Nat.le_of_ble_eq_true rfl) (Nat.le_of_ble_eq_true rfl) (Nat.le_of_ble_eq_true rfl) (Nat.le_of_ble_eq_true rfl) dX12_ownWord_72 ?_
    obtain ⟨x_23, ex_23, hF_24⟩ := bnd_e hF_22
    clear hF_22
    refine m_top ex_23 ?_
    obtain ⟨g_25, hF_26⟩ := nif_e hF_24
    clear hF_24
    obtain ⟨σ_27, eσ_27, hF_28⟩ := bnd_e hF_26
    clear hF_26
    refine m_iast (σ' := σ_27) hx hb hK hP (hDD _ _) hS (q0 := 32) (t0 := 2) (f := σ_17.2 58) rfl rfl (by rw [eσ_27]; exact mwA_58) g_25 dX12_ownWord_75 (fun H locs hP hS => ?_)
    refine lv_iload_n hx hb dX12_ownWord_76 rfl (lv_at hl 1 rfl) ?_
    have h9 := Option.some.inj hF_28
    subst h9
    exact W.iret (v := p0) hx hb hr (fun t ht hW => ⟨⟨p0, (), rfl, rfl, m_end ht hP⟩, hS.F ht⟩) hS.2.2 dX12_ownWord_77
  refine lv_icmp_ge (tgt := 61) hx hb dX12_ownWord_26 (by decide) (fun c_29 => ?_) (fun c_29 => ?_)
  · have hF_30 := ipos c_29 hF_19
    clear hF_19
    exact Jj_18  s_11.2 hF_30 _ _ hP hS ls (lv_sub hl [0, 1, 2, 3] rfl)
  · have hF_31 := ineg c_29 hF_19
    clear hF_19
    refine lv_iload hx hb dX12_ownWord_29 (lv_at hl 4 rfl) ?_
    refine lv_bipush (v := 9) hx hb dX12_ownWord_31 (by decide +kernel) ?_
    refine lv_icmp_ge (tgt := 61) hx hb dX12_ownWord_33 (by decide) (fun c_32 => ?_) (fun c_32 => ?_)
    · have hF_33 := ipos c_32 hF_31
      clear hF_31
      exact Jj_18  s_11.2 hF_33 _ _ hP hS ls (lv_sub hl [0, 1, 2, 3] rfl)
    · have hF_34 := ineg c_32 hF_31
      clear hF_31
      refine lv_aload_n hx hb dX12_ownWord_36 rfl (lv_at hl 0 rfl) ?_
      refine va_get (D := (dC, dI)) (ci := 12) (v := .ref (ad 57)) (C := RX12) (T := TX12) (N := 123) hx hb hts ii_X12 hown hK hP 0 rfl rfl 57 (by decide) (hts (.fieldLink RX12 119 "StoryHouseModel" "verbBytes" "[B") wq_1413) (fun _ h9 => h9) rfl dX12_ownWord_37 ?_
      refine lv_bipush (v := 9) hx hb dX12_ownWord_40 (by decide +kernel) ?_
      refine lv_iload_n hx hb dX12_ownWord_42 rfl (lv_at hl 3 rfl) ?_
      refine lv_imul hx hb dX12_ownWord_43 ?_
      refine lv_iload hx hb dX12_ownWord_44 (lv_at hl 4 rfl) ?_
      refine lv_iadd hx hb dX12_ownWord_46 ?_
      refine lv_aload_n hx hb dX12_ownWord_47 rfl (lv_at hl 2 rfl) ?_
      refine lv_iload hx hb dX12_ownWord_48 (lv_at hl 4 rfl) ?_
      obtain ⟨g_35, hF_36⟩ := nif_e hF_34
      clear hF_34
      refine m_cs (v := g_chr ((b1).getD s_11.1.toNatClampNeg 0)) hsz hP hS (va_runV (As := [.int s_11.1]) (rest := [.int ((9 * x_9) + s_11.1), .ref (ad 57)]) ⟨hx, hb, hml, hown, hts⟩ (c_J0_charAt_5068e l dC dI cB cC cI cJ cZ cP H.size q1 s_11.1 _ b1 (fun z => g_35 (Or.inl z)) (Int32.not_le.mp (fun z => g_35 (Or.inr z)))) (cwV 1 hts (g_gV wq_1510 wq_359 wq_360 wq_22 wq_361) rfl rfl rfl (by decide +kernel) ⟨Nat.le_of_ble_eq_true rfl, Nat.le_of_ble_eq_true rfl⟩) (g_preVs g_blS hK (wc := []) (A := mCells h ad sz) (fun k q z => by simp at z) ⟨fun i j p q z => by simp at z, fun k q z => by simp at z⟩ hS hE (m_nil hS hsz) (g_toS hStr_q1 hS (m_nil hS hsz)) (va_Orecv hStr_q1.1 hS)) rfl rfl hl.1 rfl (lv_room (Nat.le_of_ble_eq_true rfl)) dX12_ownWord_50 ⟨Nat.le_of_ble_eq_true rfl, Nat.le_of_ble_eq_true rfl⟩) (fun H locs hP hS => ?_)
      obtain ⟨x_37, ex_37, hF_38⟩ := bnd_e hF_36
      clear hF_36
      refine m_top ex_37 ?_
      refine lv_i2b hx hb dX12_ownWord_53 rfl ?_
      obtain ⟨x_39, ex_39, hF_40⟩ := bnd_e hF_38
      clear hF_38
      refine m_top ex_39 ?_
      obtain ⟨g_41, hF_42⟩ := nif_e hF_40
      clear hF_40
      obtain ⟨σ_43, eσ_43, hF_44⟩ := bnd_e hF_42
      clear hF_42
      refine m_bast (σ' := σ_43) hx hb hK hP (hDD _ _) hS (q0 := 31) (t0 := 0) (f := s_11.2.2 57) rfl rfl (by rw [eσ_43]; exact mwA_57) g_41 dX12_ownWord_54 (fun H locs hP hS => ?_)
      obtain ⟨x_45, ex_45, hF_46⟩ := bnd_e hF_44
      clear hF_44
      refine lv_iinc (v := x_45) (lv' := [(4, .int x_45), (0, .ref h), (1, .int p0), (2, .ref q1), (3, .int x_9)]) hx hb dX12_ownWord_55 hl (k := 4) rfl (by rw [ex_45]; rfl) (by decide) rfl (fun ls hl => ?_)
      refine lv_goto (tgt := 20) hx hb dX12_ownWord_58 (by decide) ?_
      exact ih_13 (x_45, σ_43) hF_46 _ _ hP hS ls (lv_sub hl [1, 2, 3, 4, 0] rfl)
theorem dX12_ownVerb_0 : decode cX12_ownVerb 0 = .ok (.aload_n 0, 1) := by decide +kernel
theorem dX12_ownVerb_1 : decode cX12_ownVerb 1 = .ok (.getfield 125, 3) := by decide +kernel
theorem dX12_ownVerb_4 : decode cX12_ownVerb 4 = .ok (.iload_n 1, 1) := by decide +kernel
theorem dX12_ownVerb_5 : decode cX12_ownVerb 5 = .ok (.iconst 0, 1) := by decide +kernel
theorem dX12_ownVerb_6 : decode cX12_ownVerb 6 = .ok (.iastore, 1) := by decide +kernel
theorem dX12_ownVerb_7 : decode cX12_ownVerb 7 = .ok (.aload_n 0, 1) := by decide +kernel
theorem dX12_ownVerb_8 : decode cX12_ownVerb 8 = .ok (.iload_n 1, 1) := by decide +kernel
theorem dX12_ownVerb_9 : decode cX12_ownVerb 9 = .ok (.aload_n 2, 1) := by decide +kernel
theorem dX12_ownVerb_10 : decode cX12_ownVerb 10 = .ok (.invokevirtual 593, 3) := by decide +kernel
theorem dX12_ownVerb_13 : decode cX12_ownVerb 13 = .ok (.pop, 1) := by decide +kernel
theorem dX12_ownVerb_14 : decode cX12_ownVerb 14 = .ok (.aload_n 3, 1) := by decide +kernel
theorem dX12_ownVerb_15 : decode cX12_ownVerb 15 = .ok (.invokevirtual 283, 3) := by decide +kernel
theorem dX12_ownVerb_18 : decode cX12_ownVerb 18 = .ok (.ifCond .le 10, 3) := by decide +kernel
theorem dX12_ownVerb_21 : decode cX12_ownVerb 21 = .ok (.aload_n 0, 1) := by decide +kernel
theorem dX12_ownVerb_22 : decode cX12_ownVerb 22 = .ok (.iload_n 1, 1) := by decide +kernel
theorem dX12_ownVerb_23 : decode cX12_ownVerb 23 = .ok (.aload_n 3, 1) := by decide +kernel
theorem dX12_ownVerb_24 : decode cX12_ownVerb 24 = .ok (.invokevirtual 593, 3) := by decide +kernel
theorem dX12_ownVerb_27 : decode cX12_ownVerb 27 = .ok (.pop, 1) := by decide +kernel
theorem dX12_ownVerb_28 : decode cX12_ownVerb 28 = .ok (.aload 4, 2) := by decide +kernel
theorem dX12_ownVerb_30 : decode cX12_ownVerb 30 = .ok (.invokevirtual 283, 3) := by decide +kernel
theorem dX12_ownVerb_33 : decode cX12_ownVerb 33 = .ok (.ifCond .le 11, 3) := by decide +kernel
theorem dX12_ownVerb_36 : decode cX12_ownVerb 36 = .ok (.aload_n 0, 1) := by decide +kernel
theorem dX12_ownVerb_37 : decode cX12_ownVerb 37 = .ok (.iload_n 1, 1) := by decide +kernel
theorem dX12_ownVerb_38 : decode cX12_ownVerb 38 = .ok (.aload 4, 2) := by decide +kernel
theorem dX12_ownVerb_40 : decode cX12_ownVerb 40 = .ok (.invokevirtual 593, 3) := by decide +kernel
theorem dX12_ownVerb_43 : decode cX12_ownVerb 43 = .ok (.pop, 1) := by decide +kernel
theorem dX12_ownVerb_44 : decode cX12_ownVerb 44 = .ok (.aload_n 0, 1) := by decide +kernel
theorem dX12_ownVerb_45 : decode cX12_ownVerb 45 = .ok (.getfield 128, 3) := by decide +kernel
theorem dX12_ownVerb_48 : decode cX12_ownVerb 48 = .ok (.iload_n 1, 1) := by decide +kernel
theorem dX12_ownVerb_49 : decode cX12_ownVerb 49 = .ok (.iload 5, 2) := by decide +kernel
theorem dX12_ownVerb_51 : decode cX12_ownVerb 51 = .ok (.iastore, 1) := by decide +kernel
theorem dX12_ownVerb_52 : decode cX12_ownVerb 52 = .ok (.aload_n 0, 1) := by decide +kernel
theorem dX12_ownVerb_53 : decode cX12_ownVerb 53 = .ok (.getfield 134, 3) := by decide +kernel
theorem dX12_ownVerb_56 : decode cX12_ownVerb 56 = .ok (.iload_n 1, 1) := by decide +kernel
theorem dX12_ownVerb_57 : decode cX12_ownVerb 57 = .ok (.aload 6, 2) := by decide +kernel
theorem dX12_ownVerb_59 : decode cX12_ownVerb 59 = .ok (.invokevirtual 283, 3) := by decide +kernel
theorem dX12_ownVerb_62 : decode cX12_ownVerb 62 = .ok (.iastore, 1) := by decide +kernel
theorem dX12_ownVerb_63 : decode cX12_ownVerb 63 = .ok (.iconst 0, 1) := by decide +kernel
theorem dX12_ownVerb_64 : decode cX12_ownVerb 64 = .ok (.istore 7, 2) := by decide +kernel
theorem dX12_ownVerb_66 : decode cX12_ownVerb 66 = .ok (.iload 7, 2) := by decide +kernel
theorem dX12_ownVerb_68 : decode cX12_ownVerb 68 = .ok (.aload 6, 2) := by decide +kernel
theorem dX12_ownVerb_70 : decode cX12_ownVerb 70 = .ok (.invokevirtual 283, 3) := by decide +kernel
theorem dX12_ownVerb_73 : decode cX12_ownVerb 73 = .ok (.if_icmp .ge 29, 3) := by decide +kernel
theorem dX12_ownVerb_76 : decode cX12_ownVerb 76 = .ok (.aload_n 0, 1) := by decide +kernel
theorem dX12_ownVerb_77 : decode cX12_ownVerb 77 = .ok (.getfield 131, 3) := by decide +kernel
theorem dX12_ownVerb_80 : decode cX12_ownVerb 80 = .ok (.bipush 9, 2) := by decide +kernel
theorem dX12_ownVerb_82 : decode cX12_ownVerb 82 = .ok (.iload_n 1, 1) := by decide +kernel
theorem dX12_ownVerb_83 : decode cX12_ownVerb 83 = .ok (.imul, 1) := by decide +kernel
theorem dX12_ownVerb_84 : decode cX12_ownVerb 84 = .ok (.iload 7, 2) := by decide +kernel
theorem dX12_ownVerb_86 : decode cX12_ownVerb 86 = .ok (.iadd, 1) := by decide +kernel
theorem dX12_ownVerb_87 : decode cX12_ownVerb 87 = .ok (.aload 6, 2) := by decide +kernel
theorem dX12_ownVerb_89 : decode cX12_ownVerb 89 = .ok (.iload 7, 2) := by decide +kernel
theorem dX12_ownVerb_91 : decode cX12_ownVerb 91 = .ok (.invokevirtual 289, 3) := by decide +kernel
theorem dX12_ownVerb_94 : decode cX12_ownVerb 94 = .ok (.i2b, 1) := by decide +kernel
theorem dX12_ownVerb_95 : decode cX12_ownVerb 95 = .ok (.bastore, 1) := by decide +kernel
theorem dX12_ownVerb_96 : decode cX12_ownVerb 96 = .ok (.iinc 7 1, 3) := by decide +kernel
theorem dX12_ownVerb_99 : decode cX12_ownVerb 99 = .ok (.goto (-33), 3) := by decide +kernel
theorem dX12_ownVerb_102 : decode cX12_ownVerb 102 = .ok (.return_, 1) := by decide +kernel
def F_X12_ownVerb (p0 : Int32) (b1 : List Int32) (b2 : List Int32) (b3 : List Int32) (p4 : Int32) (b5 : List Int32) (σ : MS) : MR :=
  if p0 < 0 ∨ 61 ≤ p0.toNatClampNeg then none else
  bnd (mA σ 59 (upd (σ.2 59) p0.toNatClampNeg 0)) fun σ_3 =>
  (F_X12_ownWord p0 b1 σ_3).bind fun u_5 =>
  bnd ((Int32.ofNat (b2).length)) fun (x_7 : Int32) =>
  bnd (fun  (σ_9 : MS) => (
    bnd ((Int32.ofNat (b3).length)) fun (x_13 : Int32) =>
    bnd (fun  (σ_15 : MS) => (
      if p0 < 0 ∨ 61 ≤ p0.toNatClampNeg then none else
      bnd (mA σ_15 60 (upd (σ_15.2 60) p0.toNatClampNeg p4)) fun σ_21 =>
      bnd ((Int32.ofNat (b5).length)) fun (x_23 : Int32) =>
      if p0 < 0 ∨ 61 ≤ p0.toNatClampNeg then none else
      bnd (mA σ_21 62 (upd (σ_21.2 62) p0.toNatClampNeg x_23)) fun σ_27 =>
      loopF (fun (again_30 : (Int32 × MS) → MR) (s_29 : Int32 × MS) => (
        bnd ((Int32.ofNat (b5).length)) fun (x_33 : Int32) =>
        if x_33 ≤ s_29.1 then (
          some (0, s_29.2)
        ) else (
          if s_29.1 < 0 ∨ Int32.ofNat (b5).length ≤ s_29.1 then none else
          bnd ((g_chr ((b5).getD s_29.1.toNatClampNeg 0))) fun (x_40 : Int32) =>
          bnd (x_40.toInt8.toInt32) fun (x_42 : Int32) =>
          if ((9 * p0) + s_29.1) < 0 ∨ 549 ≤ ((9 * p0) + s_29.1).toNatClampNeg then none else
          bnd (mA s_29.2 61 (upd (s_29.2.2 61) ((9 * p0) + s_29.1).toNatClampNeg (vp_nar .byte x_42))) fun σ_46 =>
          bnd (s_29.1 + 1) fun (x_48 : Int32) =>
          again_30 (x_48, σ_46)
        )
      )) FU (0, σ_27)
    ) : MS → MR) fun j_16 =>
    if x_13 ≤ 0 then (
      j_16  σ_9
    ) else (
      (F_X12_ownWord p0 b3 σ_9).bind fun u_53 =>
      j_16  u_53.2
    )
  ) : MS → MR) fun j_10 =>
  if x_7 ≤ 0 then (
    j_10  u_5.2
  ) else (
    (F_X12_ownWord p0 b2 u_5.2).bind fun u_58 =>
    j_10  u_58.2
  )
set_option maxHeartbeats 4000000 in
set_option maxRecDepth 100000 in
theorem m_X12_ownVerb (l : Launch) (dC : Nat → ClassId) (dI : Nat → Nat → Nat) (cB cC cI cJ cZ cP : ClassId) (h qK qS : Nat) (ad : Nat → Nat) (hDD : mDis cB cI cZ h qK qS ad) (sz : Nat) (q1 vq1 : Nat) (q2 vq2 : Nat) (q3 vq3 : Nat) (q5 vq5 : Nat) (p0 : Int32) (b1 : List Int32) (b2 : List Int32) (b3 : List Int32) (p4 : Int32) (b5 : List Int32) (σ : MS) (res : Int32 × MS) (hF : F_X12_ownVerb p0 b1 b2 b3 p4 b5 σ = some res) : Met l yX12_ownVerb (g_ws yX12_ownVerb cX12_ownVerb 8 none) ({ frames := 6, cells := 0, slots := 0, locals := 149 }) (va_Pc [.ref h, .int p0, .ref q1, .ref q2, .ref q3, .int p4, .ref q5] (m_B (dC, dI) [(cB, .byte), (cC, .char), (cI, .int), (cJ, .long), (cZ, .boolean), (cP, .object "StoryHouse$Play")] sz h ad qK qS (mW cB cI cZ h qK qS ad σ) (fun U : State => g_S q1 vq1 b1 (mCells h ad sz) U U.heap ∧ g_S q2 vq2 b2 (mCells h ad sz) U U.heap ∧ g_S q3 vq3 b3 (mCells h ad sz) U U.heap ∧ g_S q5 vq5 b5 (mCells h ad sz) U U.heap))) (va_Qv (fun (_ : Unit) => True) (fun _ t => va_P (dC, dI) vwCl (mW cB cI cZ h qK qS ad res.2) t.heap) (mCells h ad sz)) 0 0 (mCells h ad sz) := by
  refine Met.ofW (cc := cX12_ownVerb) (maxL := 8) (ret := none) (by decide) rfl ?_
  intro p e s m args below meth c s₁ B hml hv
  obtain ⟨rfl, hsz, hP, hK, hE, hKS, hX⟩ := hv
  obtain ⟨hStr_q1, hStr_q2, hStr_q3, hStr_q5⟩ := hX
  have hx := B.exec
  have hb := B.bytes
  have hr := B.returns
  have hts0 := atoms_spec (ws := g_ws yX12_ownVerb cX12_ownVerb 8 none) B.pre
  have hts : ∀ w ∈ lw_good, w.before ([.ref h, .int p0, .ref q1, .ref q2, .ref q3, .int p4, .ref q5] : List Value).toArray s = true := fun w z => hts0 w (List.mem_cons_of_mem _ z)
  have hown : s.vm.findClass RX12 = some m.cls := findClass_of_methodNamed B.named
  have hlocks := B.notSynchronized
  have hS : va_S (mCells h ad sz) s.heap s.heap [] := va_S.rf
  have hl := lv_entry ([.ref h, .int p0, .ref q1, .ref q2, .ref q3, .int p4, .ref q5]) (n := 8) (Nat.le_of_ble_eq_true rfl)
  rw [lg_entry_eq]
  generalize (lg_sl ([.ref h, .int p0, .ref q1, .ref q2, .ref q3, .int p4, .ref q5]) ++ List.replicate (8 - (lg_sl ([.ref h, .int p0, .ref q1, .ref q2, .ref q3, .int p4, .ref q5])).length) Slot.unset).toArray = ls at hl ⊢
  have hl : lv_has ls 8 [(0, .ref h), (1, .int p0), (2, .ref q1), (3, .ref q2), (4, .ref q3), (5, .int p4), (6, .ref q5)] := hl
  unfold F_X12_ownVerb at hF
  refine lv_aload_n hx hb dX12_ownVerb_0 rfl (lv_at hl 0 rfl) ?_
  refine va_get (D := (dC, dI)) (ci := 12) (v := .ref (ad 59)) (C := RX12) (T := TX12) (N := 123) hx hb hts ii_X12 hown hK hP 0 rfl rfl 59 (by decide) (hts (.fieldLink RX12 125 "StoryHouseModel" "verbWords" "[I") wq_1415) (fun _ h9 => h9) rfl dX12_ownVerb_1 ?_
  refine lv_iload_n hx hb dX12_ownVerb_4 rfl (lv_at hl 1 rfl) ?_
  refine lv_iconst (v := 0) hx hb dX12_ownVerb_5 (by decide +kernel) ?_
  obtain ⟨g_1, hF_2⟩ := nif_e hF
  clear hF
  obtain ⟨σ_3, eσ_3, hF_4⟩ := bnd_e hF_2
  clear hF_2
  refine m_iast (σ' := σ_3) hx hb hK hP (hDD _ _) hS (q0 := 33) (t0 := 2) (f := σ.2 59) rfl rfl (by rw [eσ_3]; exact mwA_59) g_1 dX12_ownVerb_6 (fun H locs hP hS => ?_)
  refine lv_aload_n hx hb dX12_ownVerb_7 rfl (lv_at hl 0 rfl) ?_
  refine lv_iload_n hx hb dX12_ownVerb_8 rfl (lv_at hl 1 rfl) ?_
  refine lv_aload_n hx hb dX12_ownVerb_9 rfl (lv_at hl 2 rfl) ?_
  obtain ⟨u_5, hu_5, hF_6⟩ := Option.bind_eq_some_iff.mp hF_4
  clear hF_4
  refine m_ci hsz hS (va_runV (As := [.int p0, .ref q1]) (rest := []) ⟨hx, hb, hml, hown, hts⟩ (m_X12_ownWord l dC dI cB cC cI cJ cZ cP h qK qS ad hDD H.size q1 _ p0 b1 σ_3 _ hu_5) (cwV 2 hts (g_gV wq_1726 wq_1727 wq_2187 wq_13 wq_1728) rfl rfl rfl (by decide +kernel) ⟨Nat.le_of_ble_eq_true rfl, Nat.le_of_ble_eq_true rfl⟩) (m_preV g_blS hsz hK hP hS hE hKS (g_toS hStr_q1 hS (m_narrow hS hsz))) rfl rfl hl.1 rfl (lv_room (Nat.le_of_ble_eq_true rfl)) dX12_ownVerb_10 ⟨Nat.le_of_ble_eq_true rfl, Nat.le_of_ble_eq_true rfl⟩) (fun H locs hP hS => ?_)
  refine lv_pop hx hb dX12_ownVerb_13 rfl ?_
  refine lv_aload_n hx hb dX12_ownVerb_14 rfl (lv_at hl 3 rfl) ?_
  refine m_cs (v := Int32.ofNat (b2).length) hsz hP hS (va_runV (As := []) (rest := []) ⟨hx, hb, hml, hown, hts⟩ (c_J0_length_8abf5 l dC dI cB cC cI cJ cZ cP H.size q2  _ b2 ) (cwV 0 hts (g_gV wq_1509 wq_346 wq_347 wq_22 wq_348) rfl rfl rfl (by decide +kernel) ⟨Nat.le_of_ble_eq_true rfl, Nat.le_of_ble_eq_true rfl⟩) (g_preVs g_blS hK (wc := []) (A := mCells h ad sz) (fun k q z => by simp at z) ⟨fun i j p q z => by simp at z, fun k q z => by simp at z⟩ hS hE (m_nil hS hsz) (g_toS hStr_q2 hS (m_nil hS hsz)) (va_Orecv hStr_q2.1 hS)) rfl rfl hl.1 rfl (lv_room (Nat.le_of_ble_eq_true rfl)) dX12_ownVerb_15 ⟨Nat.le_of_ble_eq_true rfl, Nat.le_of_ble_eq_true rfl⟩) (fun H locs hP hS => ?_)
  obtain ⟨x_7, ex_7, hF_8⟩ := bnd_e hF_6
  clear hF_6
  refine m_top ex_7 ?_
  obtain ⟨j_10, ej_10, hF_11⟩ := bnd_e hF_8
  clear hF_8
  have Jj_10 : ∀  (σ_9 : MS), j_10  σ_9 = some res → ∀ (H : Heap) (locs : List Loc), va_P (dC, dI) vwCl (mW cB cI cZ h qK qS ad σ_9) H → va_S (mCells h ad sz) s.heap H locs → ∀ ls : Array Slot, lv_has ls 8 [(0, .ref h), (1, .int p0), (4, .ref q3), (5, .int p4), (6, .ref q5)] → W p l e (headSpec (g_ws yX12_ownVerb cX12_ownVerb 8 none) { frames := 6, cells := 0, slots := 0, locals := 149 }).room s m ([.ref h, .int p0, .ref q1, .ref q2, .ref q3, .int p4, .ref q5] : List Value).toArray below meth c H locs 0 0 (MQ below (va_Qv (fun (_ : Unit) => True) (fun _ t => va_P (dC, dI) vwCl (mW cB cI cZ h qK qS ad res.2) t.heap) (mCells h ad sz)) ([.ref h, .int p0, .ref q1, .ref q2, .ref q3, .int p4, .ref q5] : List Value).toArray s 0 0 (mCells h ad sz)) (F0 m 28 ls []) := by
    intro  σ_9 hF0 H locs hP hS ls hl
    subst ej_10
    have hF_12 := hF0
    clear hF0
    refine lv_aload hx hb dX12_ownVerb_28 (lv_at hl 2 rfl) ?_
    refine m_cs (v := Int32.ofNat (b3).length) hsz hP hS (va_runV (As := []) (rest := []) ⟨hx, hb, hml, hown, hts⟩ (c_J0_length_8abf5 l dC dI cB cC cI cJ cZ cP H.size q3  _ b3 ) (cwV 0 hts (g_gV wq_1509 wq_346 wq_347 wq_22 wq_348) rfl rfl rfl (by decide +kernel) ⟨Nat.le_of_ble_eq_true rfl, Nat.le_of_ble_eq_true rfl⟩) (g_preVs g_blS hK (wc := []) (A := mCells h ad sz) (fun k q z => by simp at z) ⟨fun i j p q z => by simp at z, fun k q z => by simp at z⟩ hS hE (m_nil hS hsz) (g_toS hStr_q3 hS (m_nil hS hsz)) (va_Orecv hStr_q3.1 hS)) rfl rfl hl.1 rfl (lv_room (Nat.le_of_ble_eq_true rfl)) dX12_ownVerb_30 ⟨Nat.le_of_ble_eq_true rfl, Nat.le_of_ble_eq_true rfl⟩) (fun H locs hP hS => ?_)
    obtain ⟨x_13, ex_13, hF_14⟩ := bnd_e hF_12
    clear hF_12
    refine m_top ex_13 ?_
    obtain ⟨j_16, ej_16, hF_17⟩ := bnd_e hF_14
    clear hF_14
    have Jj_16 : ∀  (σ_15 : MS), j_16  σ_15 = some res → ∀ (H : Heap) (locs : List Loc), va_P (dC, dI) vwCl (mW cB cI cZ h qK qS ad σ_15) H → va_S (mCells h ad sz) s.heap H locs → ∀ ls : Array Slot, lv_has ls 8 [(0, .ref h), (1, .int p0), (5, .int p4), (6, .ref q5)] → W p l e (headSpec (g_ws yX12_ownVerb cX12_ownVerb 8 none) { frames := 6, cells := 0, slots := 0, locals := 149 }).room s m ([.ref h, .int p0, .ref q1, .ref q2, .ref q3, .int p4, .ref q5] : List Value).toArray below meth c H locs 0 0 (MQ below (va_Qv (fun (_ : Unit) => True) (fun _ t => va_P (dC, dI) vwCl (mW cB cI cZ h qK qS ad res.2) t.heap) (mCells h ad sz)) ([.ref h, .int p0, .ref q1, .ref q2, .ref q3, .int p4, .ref q5] : List Value).toArray s 0 0 (mCells h ad sz)) (F0 m 44 ls []) := by
      intro  σ_15 hF0 H locs hP hS ls hl
      subst ej_16
      have hF_18 := hF0
      clear hF0
      refine lv_aload_n hx hb dX12_ownVerb_44 rfl (lv_at hl 0 rfl) ?_
      refine va_get (D := (dC, dI)) (ci := 12) (v := .ref (ad 60)) (C := RX12) (T := TX12) (N := 123) hx hb hts ii_X12 hown hK hP 0 rfl rfl 60 (by decide) (hts (.fieldLink RX12 128 "StoryHouseModel" "forms" "[I") wq_1416) (fun _ h9 => h9) rfl dX12_ownVerb_45 ?_
      refine lv_iload_n hx hb dX12_ownVerb_48 rfl (lv_at hl 1 rfl) ?_
      refine lv_iload hx hb dX12_ownVerb_49 (lv_at hl 2 rfl) ?_
      obtain ⟨g_19, hF_20⟩ := nif_e hF_18
      clear hF_18
      obtain ⟨σ_21, eσ_21, hF_22⟩ := bnd_e hF_20
      clear hF_20
      refine m_iast (σ' := σ_21) hx hb hK hP (hDD _ _) hS (q0 := 34) (t0 := 2) (f := σ_15.2 60) rfl rfl (by rw [eσ_21]; exact mwA_60) g_19 dX12_ownVerb_51 (fun H locs hP hS => ?_)
      refine lv_aload_n hx hb dX12_ownVerb_52 rfl (lv_at hl 0 rfl) ?_
      refine va_get (D := (dC, dI)) (ci := 12) (v := .ref (ad 62)) (C := RX12) (T := TX12) (N := 123) hx hb hts ii_X12 hown hK hP 0 rfl rfl 62 (by decide) (hts (.fieldLink RX12 134 "StoryHouseModel" "betweenSize" "[I") wq_1418) (fun _ h9 => h9) rfl dX12_ownVerb_53 ?_
      refine lv_iload_n hx hb dX12_ownVerb_56 rfl (lv_at hl 1 rfl) ?_
      refine lv_aload hx hb dX12_ownVerb_57 (lv_at hl 3 rfl) ?_
      refine m_cs (v := Int32.ofNat (b5).length) hsz hP hS (va_runV (As := []) (rest := [.int p0, .ref (ad 62)]) ⟨hx, hb, hml, hown, hts⟩ (c_J0_length_8abf5 l dC dI cB cC cI cJ cZ cP H.size q5  _ b5 ) (cwV 0 hts (g_gV wq_1509 wq_346 wq_347 wq_22 wq_348) rfl rfl rfl (by decide +kernel) ⟨Nat.le_of_ble_eq_true rfl, Nat.le_of_ble_eq_true rfl⟩) (g_preVs g_blS hK (wc := []) (A := mCells h ad sz) (fun k q z => by simp at z) ⟨fun i j p q z => by simp at z, fun k q z => by simp at z⟩ hS hE (m_nil hS hsz) (g_toS hStr_q5 hS (m_nil hS hsz)) (va_Orecv hStr_q5.1 hS)) rfl rfl hl.1 rfl (lv_room (Nat.le_of_ble_eq_true rfl)) dX12_ownVerb_59 ⟨Nat.le_of_ble_eq_true rfl, Nat.le_of_ble_eq_true rfl⟩) (fun H locs hP hS => ?_)
      obtain ⟨x_23, ex_23, hF_24⟩ := bnd_e hF_22
      clear hF_22
      refine m_top ex_23 ?_
      obtain ⟨g_25, hF_26⟩ := nif_e hF_24
      clear hF_24
      obtain ⟨σ_27, eσ_27, hF_28⟩ := bnd_e hF_26
      clear hF_26
      refine m_iast (σ' := σ_27) hx hb hK hP (hDD _ _) hS (q0 := 36) (t0 := 2) (f := σ_21.2 62) rfl rfl (by rw [eσ_27]; exact mwA_62) g_25 dX12_ownVerb_62 (fun H locs hP hS => ?_)
      refine lv_iconst (v := 0) hx hb dX12_ownVerb_63 (by decide +kernel) ?_
      refine lv_istore (lv' := [(7, .int 0), (0, .ref h), (1, .int p0), (5, .int p4), (6, .ref q5)]) hx hb dX12_ownVerb_64 hl (by decide) rfl (fun ls hl => ?_)
      refine loopF_ind (P := fun (s_29 : Int32 × MS) => ∀ (H : Heap) (locs : List Loc), va_P (dC, dI) vwCl (mW cB cI cZ h qK qS ad s_29.2) H → va_S (mCells h ad sz) s.heap H locs → ∀ ls : Array Slot, lv_has ls 8 [(0, .ref h), (1, .int p0), (6, .ref q5), (7, .int s_29.1)] → W p l e (headSpec (g_ws yX12_ownVerb cX12_ownVerb 8 none) { frames := 6, cells := 0, slots := 0, locals := 149 }).room s m ([.ref h, .int p0, .ref q1, .ref q2, .ref q3, .int p4, .ref q5] : List Value).toArray below meth c H locs 0 0 (MQ below (va_Qv (fun (_ : Unit) => True) (fun _ t => va_P (dC, dI) vwCl (mW cB cI cZ h qK qS ad res.2) t.heap) (mCells h ad sz)) ([.ref h, .int p0, .ref q1, .ref q2, .ref q3, .int p4, .ref q5] : List Value).toArray s 0 0 (mCells h ad sz)) (F0 m 66 ls [])) ?_ _ _ hF_28 _ _ hP hS ls (lv_sub hl [1, 2, 4, 0] rfl)
      intro again_30 s_29 ih_31 hF_32
      intro H locs hP hS ls hl
      refine lv_iload hx hb dX12_ownVerb_66 (lv_at hl 3 rfl) ?_
      refine lv_aload hx hb dX12_ownVerb_68 (lv_at hl 2 rfl) ?_
      refine m_cs (v := Int32.ofNat (b5).length) hsz hP hS (va_runV (As := []) (rest := [.int s_29.1]) ⟨hx, hb, hml, hown, hts⟩ (c_J0_length_8abf5 l dC dI cB cC cI cJ cZ cP H.size q5  _ b5 ) (cwV 0 hts (g_gV wq_1509 wq_346 wq_347 wq_22 wq_348) rfl rfl rfl (by decide +kernel) ⟨Nat.le_of_ble_eq_true rfl, Nat.le_of_ble_eq_true rfl⟩) (g_preVs g_blS hK (wc := []) (A := mCells h ad sz) (fun k q z => by simp at z) ⟨fun i j p q z => by simp at z, fun k q z => by simp at z⟩ hS hE (m_nil hS hsz) (g_toS hStr_q5 hS (m_nil hS hsz)) (va_Orecv hStr_q5.1 hS)) rfl rfl hl.1 rfl (lv_room (Nat.le_of_ble_eq_true rfl)) dX12_ownVerb_70 ⟨Nat.le_of_ble_eq_true rfl, Nat.le_of_ble_eq_true rfl⟩) (fun H locs hP hS => ?_)
      obtain ⟨x_33, ex_33, hF_34⟩ := bnd_e hF_32
      clear hF_32
      refine m_top ex_33 ?_
      refine lv_icmp_ge (tgt := 102) hx hb dX12_ownVerb_73 (by decide) (fun c_35 => ?_) (fun c_35 => ?_)
      · have hF_36 := ipos c_35 hF_34
        clear hF_34
        have h9 := Option.some.inj hF_36
        subst h9
        exact W.vret hx hb hr (fun t ht hW => ⟨⟨(), rfl, trivial, m_end ht hP⟩, hS.F ht⟩) hS.2.2 dX12_ownVerb_102
      · have hF_37 := ineg c_35 hF_34
        clear hF_34
        refine lv_aload_n hx hb dX12_ownVerb_76 rfl (lv_at hl 0 rfl) ?_
        refine va_get (D := (dC, dI)) (ci := 12) (v := .ref (ad 61)) (C := RX12) (T := TX12) (N := 123) hx hb hts ii_X12 hown hK hP 0 rfl rfl 61 (by decide) (hts (.fieldLink RX12 131 "StoryHouseModel" "between" "[B") wq_1417) (fun _ h9 => h9) rfl dX12_ownVerb_77 ?_
        refine lv_bipush (v := 9) hx hb dX12_ownVerb_80 (by decide +kernel) ?_
        refine lv_iload_n hx hb dX12_ownVerb_82 rfl (lv_at hl 1 rfl) ?_
        refine lv_imul hx hb dX12_ownVerb_83 ?_
        refine lv_iload hx hb dX12_ownVerb_84 (lv_at hl 3 rfl) ?_
        refine lv_iadd hx hb dX12_ownVerb_86 ?_
        refine lv_aload hx hb dX12_ownVerb_87 (lv_at hl 2 rfl) ?_
        refine lv_iload hx hb dX12_ownVerb_89 (lv_at hl 3 rfl) ?_
        obtain ⟨g_38, hF_39⟩ := nif_e hF_37
        clear hF_37
        refine m_cs (v := g_chr ((b5).getD s_29.1.toNatClampNeg 0)) hsz hP hS (va_runV (As := [.int s_29.1]) (rest := [.int ((9 * p0) + s_29.1), .ref (ad 61)]) ⟨hx, hb, hml, hown, hts⟩ (c_J0_charAt_5068e l dC dI cB cC cI cJ cZ cP H.size q5 s_29.1 _ b5 (fun z => g_38 (Or.inl z)) (Int32.not_le.mp (fun z => g_38 (Or.inr z)))) (cwV 1 hts (g_gV wq_1510 wq_359 wq_360 wq_22 wq_361) rfl rfl rfl (by decide +kernel) ⟨Nat.le_of_ble_eq_true rfl, Nat.le_of_ble_eq_true rfl⟩) (g_preVs g_blS hK (wc := []) (A := mCells h ad sz) (fun k q z => by simp at z) ⟨fun i j p q z => by simp at z, fun k q z => by simp at z⟩ hS hE (m_nil hS hsz) (g_toS hStr_q5 hS (m_nil hS hsz)) (va_Orecv hStr_q5.1 hS)) rfl rfl hl.1 rfl (lv_room (Nat.le_of_ble_eq_true rfl)) dX12_ownVerb_91 ⟨Nat.le_of_ble_eq_true rfl, Nat.le_of_ble_eq_true rfl⟩) (fun H locs hP hS => ?_)
        obtain ⟨x_40, ex_40, hF_41⟩ := bnd_e hF_39
        clear hF_39
        refine m_top ex_40 ?_
        refine lv_i2b hx hb dX12_ownVerb_94 rfl ?_
        obtain ⟨x_42, ex_42, hF_43⟩ := bnd_e hF_41
        clear hF_41
        refine m_top ex_42 ?_
        obtain ⟨g_44, hF_45⟩ := nif_e hF_43
        clear hF_43
        obtain ⟨σ_46, eσ_46, hF_47⟩ := bnd_e hF_45
        clear hF_45
        refine m_bast (σ' := σ_46) hx hb hK hP (hDD _ _) hS (q0 := 35) (t0 := 0) (f := s_29.2.2 61) rfl rfl (by rw [eσ_46]; exact mwA_61) g_44 dX12_ownVerb_95 (fun H locs hP hS => ?_)
        obtain ⟨x_48, ex_48, hF_49⟩ := bnd_e hF_47
        clear hF_47
        refine lv_iinc (v := x_48) (lv' := [(7, .int x_48), (0, .ref h), (1, .int p0), (6, .ref q5)]) hx hb dX12_ownVerb_96 hl (k := 3) rfl (by rw [ex_48]; rfl) (by decide) rfl (fun ls hl => ?_)
        refine lv_goto (tgt := 66) hx hb dX12_ownVerb_99 (by decide) ?_
        exact ih_31 (x_48, σ_46) hF_49 _ _ hP hS ls (lv_sub hl [1, 2, 3, 0] rfl)
    refine lv_if_le (tgt := 44) hx hb dX12_ownVerb_33 (by decide) (fun c_50 => ?_) (fun c_50 => ?_)
    · have hF_51 := ipos c_50 hF_17
      clear hF_17
      exact Jj_16  σ_9 hF_51 _ _ hP hS ls (lv_sub hl [0, 1, 3, 4] rfl)
    · have hF_52 := ineg c_50 hF_17
      clear hF_17
      refine lv_aload_n hx hb dX12_ownVerb_36 rfl (lv_at hl 0 rfl) ?_
      refine lv_iload_n hx hb dX12_ownVerb_37 rfl (lv_at hl 1 rfl) ?_
      refine lv_aload hx hb dX12_ownVerb_38 (lv_at hl 2 rfl) ?_
      obtain ⟨u_53, hu_53, hF_54⟩ := Option.bind_eq_some_iff.mp hF_52
      clear hF_52
      refine m_ci hsz hS (va_runV (As := [.int p0, .ref q3]) (rest := []) ⟨hx, hb, hml, hown, hts⟩ (m_X12_ownWord l dC dI cB cC cI cJ cZ cP h qK qS ad hDD H.size q3 _ p0 b3 σ_9 _ hu_53) (cwV 2 hts (g_gV wq_1726 wq_1727 wq_2187 wq_13 wq_1728) rfl rfl rfl (by decide +kernel) ⟨Nat.le_of_ble_eq_true rfl, Nat.le_of_ble_eq_true rfl⟩) (m_preV g_blS hsz hK hP hS hE hKS (g_toS hStr_q3 hS (m_narrow hS hsz))) rfl rfl hl.1 rfl (lv_room (Nat.le_of_ble_eq_true rfl)) dX12_ownVerb_40 ⟨Nat.le_of_ble_eq_true rfl, Nat.le_of_ble_eq_true rfl⟩) (fun H locs hP hS => ?_)
      refine lv_pop hx hb dX12_ownVerb_43 rfl ?_
      exact Jj_16  u_53.2 hF_54 _ _ hP hS ls (lv_sub hl [0, 1, 3, 4] rfl)
  refine lv_if_le (tgt := 28) hx hb dX12_ownVerb_18 (by decide) (fun c_55 => ?_) (fun c_55 => ?_)
  · have hF_56 := ipos c_55 hF_11
    clear hF_11
    exact Jj_10  u_5.2 hF_56 _ _ hP hS ls (lv_sub hl [0, 1, 4, 5, 6] rfl)
  · have hF_57 := ineg c_55 hF_11
    clear hF_11
    refine lv_aload_n hx hb dX12_ownVerb_21 rfl (lv_at hl 0 rfl) ?_
    refine lv_iload_n hx hb dX12_ownVerb_22 rfl (lv_at hl 1 rfl) ?_
    refine lv_aload_n hx hb dX12_ownVerb_23 rfl (lv_at hl 3 rfl) ?_
    obtain ⟨u_58, hu_58, hF_59⟩ := Option.bind_eq_some_iff.mp hF_57
    clear hF_57
    refine m_ci hsz hS (va_runV (As := [.int p0, .ref q2]) (rest := []) ⟨hx, hb, hml, hown, hts⟩ (m_X12_ownWord l dC dI cB cC cI cJ cZ cP h qK qS ad hDD H.size q2 _ p0 b2 u_5.2 _ hu_58) (cwV 2 hts (g_gV wq_1726 wq_1727 wq_2187 wq_13 wq_1728) rfl rfl rfl (by decide +kernel) ⟨Nat.le_of_ble_eq_true rfl, Nat.le_of_ble_eq_true rfl⟩) (m_preV g_blS hsz hK hP hS hE hKS (g_toS hStr_q2 hS (m_narrow hS hsz))) rfl rfl hl.1 rfl (lv_room (Nat.le_of_ble_eq_true rfl)) dX12_ownVerb_24 ⟨Nat.le_of_ble_eq_true rfl, Nat.le_of_ble_eq_true rfl⟩) (fun H locs hP hS => ?_)
    refine lv_pop hx hb dX12_ownVerb_27 rfl ?_
    exact Jj_10  u_58.2 hF_59 _ _ hP hS ls (lv_sub hl [0, 1, 4, 5, 6] rfl)
theorem dX12_lay_0 : decode cX12_lay 0 = .ok (.aload_n 0, 1) := by decide +kernel
theorem dX12_lay_1 : decode cX12_lay 1 = .ok (.iconst 1, 1) := by decide +kernel
theorem dX12_lay_2 : decode cX12_lay 2 = .ok (.putfield 597, 3) := by decide +kernel
theorem dX12_lay_5 : decode cX12_lay 5 = .ok (.aload_n 0, 1) := by decide +kernel
theorem dX12_lay_6 : decode cX12_lay 6 = .ok (.iconst 0, 1) := by decide +kernel
theorem dX12_lay_7 : decode cX12_lay 7 = .ok (.putfield 600, 3) := by decide +kernel
theorem dX12_lay_10 : decode cX12_lay 10 = .ok (.iconst 0, 1) := by decide +kernel
theorem dX12_lay_11 : decode cX12_lay 11 = .ok (.istore_n 1, 1) := by decide +kernel
theorem dX12_lay_12 : decode cX12_lay 12 = .ok (.iload_n 1, 1) := by decide +kernel
theorem dX12_lay_13 : decode cX12_lay 13 = .ok (.iconst 4, 1) := by decide +kernel
theorem dX12_lay_14 : decode cX12_lay 14 = .ok (.if_icmp .ge 16, 3) := by decide +kernel
theorem dX12_lay_17 : decode cX12_lay 17 = .ok (.aload_n 0, 1) := by decide +kernel
theorem dX12_lay_18 : decode cX12_lay 18 = .ok (.getfield 209, 3) := by decide +kernel
theorem dX12_lay_21 : decode cX12_lay 21 = .ok (.iload_n 1, 1) := by decide +kernel
theorem dX12_lay_22 : decode cX12_lay 22 = .ok (.iconst 0, 1) := by decide +kernel
theorem dX12_lay_23 : decode cX12_lay 23 = .ok (.bastore, 1) := by decide +kernel
theorem dX12_lay_24 : decode cX12_lay 24 = .ok (.iinc 1 1, 3) := by decide +kernel
theorem dX12_lay_27 : decode cX12_lay 27 = .ok (.goto (-15), 3) := by decide +kernel
theorem dX12_lay_30 : decode cX12_lay 30 = .ok (.iconst 0, 1) := by decide +kernel
theorem dX12_lay_31 : decode cX12_lay 31 = .ok (.istore_n 1, 1) := by decide +kernel
theorem dX12_lay_32 : decode cX12_lay 32 = .ok (.iload_n 1, 1) := by decide +kernel
theorem dX12_lay_33 : decode cX12_lay 33 = .ok (.aload_n 0, 1) := by decide +kernel
theorem dX12_lay_34 : decode cX12_lay 34 = .ok (.getfield 249, 3) := by decide +kernel
theorem dX12_lay_37 : decode cX12_lay 37 = .ok (.if_icmp .ge 21, 3) := by decide +kernel
theorem dX12_lay_40 : decode cX12_lay 40 = .ok (.aload_n 0, 1) := by decide +kernel
theorem dX12_lay_41 : decode cX12_lay 41 = .ok (.getfield 82, 3) := by decide +kernel
theorem dX12_lay_44 : decode cX12_lay 44 = .ok (.iload_n 1, 1) := by decide +kernel
theorem dX12_lay_45 : decode cX12_lay 45 = .ok (.aload_n 0, 1) := by decide +kernel
theorem dX12_lay_46 : decode cX12_lay 46 = .ok (.getfield 24, 3) := by decide +kernel
theorem dX12_lay_49 : decode cX12_lay 49 = .ok (.iload_n 1, 1) := by decide +kernel
theorem dX12_lay_50 : decode cX12_lay 50 = .ok (.baload, 1) := by decide +kernel
theorem dX12_lay_51 : decode cX12_lay 51 = .ok (.bastore, 1) := by decide +kernel
theorem dX12_lay_52 : decode cX12_lay 52 = .ok (.iinc 1 1, 3) := by decide +kernel
theorem dX12_lay_55 : decode cX12_lay 55 = .ok (.goto (-23), 3) := by decide +kernel
theorem dX12_lay_58 : decode cX12_lay 58 = .ok (.iconst 0, 1) := by decide +kernel
theorem dX12_lay_59 : decode cX12_lay 59 = .ok (.istore_n 1, 1) := by decide +kernel
theorem dX12_lay_60 : decode cX12_lay 60 = .ok (.iload_n 1, 1) := by decide +kernel
theorem dX12_lay_61 : decode cX12_lay 61 = .ok (.aload_n 0, 1) := by decide +kernel
theorem dX12_lay_62 : decode cX12_lay 62 = .ok (.getfield 301, 3) := by decide +kernel
theorem dX12_lay_65 : decode cX12_lay 65 = .ok (.if_icmp .ge 81, 3) := by decide +kernel
theorem dX12_lay_68 : decode cX12_lay 68 = .ok (.aload_n 0, 1) := by decide +kernel
theorem dX12_lay_69 : decode cX12_lay 69 = .ok (.getfield 137, 3) := by decide +kernel
theorem dX12_lay_72 : decode cX12_lay 72 = .ok (.iload_n 1, 1) := by decide +kernel
theorem dX12_lay_73 : decode cX12_lay 73 = .ok (.aload_n 0, 1) := by decide +kernel
theorem dX12_lay_74 : decode cX12_lay 74 = .ok (.getfield 49, 3) := by decide +kernel
theorem dX12_lay_77 : decode cX12_lay 77 = .ok (.iload_n 1, 1) := by decide +kernel
theorem dX12_lay_78 : decode cX12_lay 78 = .ok (.iaload, 1) := by decide +kernel
theorem dX12_lay_79 : decode cX12_lay 79 = .ok (.iastore, 1) := by decide +kernel
theorem dX12_lay_80 : decode cX12_lay 80 = .ok (.aload_n 0, 1) := by decide +kernel
theorem dX12_lay_81 : decode cX12_lay 81 = .ok (.getfield 140, 3) := by decide +kernel
theorem dX12_lay_84 : decode cX12_lay 84 = .ok (.iload_n 1, 1) := by decide +kernel
theorem dX12_lay_85 : decode cX12_lay 85 = .ok (.aload_n 0, 1) := by decide +kernel
theorem dX12_lay_86 : decode cX12_lay 86 = .ok (.getfield 52, 3) := by decide +kernel
theorem dX12_lay_89 : decode cX12_lay 89 = .ok (.iload_n 1, 1) := by decide +kernel
theorem dX12_lay_90 : decode cX12_lay 90 = .ok (.iaload, 1) := by decide +kernel
theorem dX12_lay_91 : decode cX12_lay 91 = .ok (.iastore, 1) := by decide +kernel
theorem dX12_lay_92 : decode cX12_lay 92 = .ok (.aload_n 0, 1) := by decide +kernel
theorem dX12_lay_93 : decode cX12_lay 93 = .ok (.getfield 143, 3) := by decide +kernel
theorem dX12_lay_96 : decode cX12_lay 96 = .ok (.iload_n 1, 1) := by decide +kernel
theorem dX12_lay_97 : decode cX12_lay 97 = .ok (.aload_n 0, 1) := by decide +kernel
theorem dX12_lay_98 : decode cX12_lay 98 = .ok (.getfield 55, 3) := by decide +kernel
theorem dX12_lay_101 : decode cX12_lay 101 = .ok (.iload_n 1, 1) := by decide +kernel
theorem dX12_lay_102 : decode cX12_lay 102 = .ok (.iaload, 1) := by decide +kernel
theorem dX12_lay_103 : decode cX12_lay 103 = .ok (.iastore, 1) := by decide +kernel
theorem dX12_lay_104 : decode cX12_lay 104 = .ok (.aload_n 0, 1) := by decide +kernel
theorem dX12_lay_105 : decode cX12_lay 105 = .ok (.getfield 146, 3) := by decide +kernel
theorem dX12_lay_108 : decode cX12_lay 108 = .ok (.iload_n 1, 1) := by decide +kernel
theorem dX12_lay_109 : decode cX12_lay 109 = .ok (.aload_n 0, 1) := by decide +kernel
theorem dX12_lay_110 : decode cX12_lay 110 = .ok (.getfield 58, 3) := by decide +kernel
theorem dX12_lay_113 : decode cX12_lay 113 = .ok (.iload_n 1, 1) := by decide +kernel
theorem dX12_lay_114 : decode cX12_lay 114 = .ok (.iaload, 1) := by decide +kernel
theorem dX12_lay_115 : decode cX12_lay 115 = .ok (.iastore, 1) := by decide +kernel
theorem dX12_lay_116 : decode cX12_lay 116 = .ok (.aload_n 0, 1) := by decide +kernel
theorem dX12_lay_117 : decode cX12_lay 117 = .ok (.getfield 149, 3) := by decide +kernel
theorem dX12_lay_120 : decode cX12_lay 120 = .ok (.iload_n 1, 1) := by decide +kernel
theorem dX12_lay_121 : decode cX12_lay 121 = .ok (.aload_n 0, 1) := by decide +kernel
theorem dX12_lay_122 : decode cX12_lay 122 = .ok (.getfield 61, 3) := by decide +kernel
theorem dX12_lay_125 : decode cX12_lay 125 = .ok (.iload_n 1, 1) := by decide +kernel
theorem dX12_lay_126 : decode cX12_lay 126 = .ok (.iaload, 1) := by decide +kernel
theorem dX12_lay_127 : decode cX12_lay 127 = .ok (.iastore, 1) := by decide +kernel
theorem dX12_lay_128 : decode cX12_lay 128 = .ok (.aload_n 0, 1) := by decide +kernel
theorem dX12_lay_129 : decode cX12_lay 129 = .ok (.getfield 152, 3) := by decide +kernel
theorem dX12_lay_132 : decode cX12_lay 132 = .ok (.iload_n 1, 1) := by decide +kernel
theorem dX12_lay_133 : decode cX12_lay 133 = .ok (.aload_n 0, 1) := by decide +kernel
theorem dX12_lay_134 : decode cX12_lay 134 = .ok (.getfield 64, 3) := by decide +kernel
theorem dX12_lay_137 : decode cX12_lay 137 = .ok (.iload_n 1, 1) := by decide +kernel
theorem dX12_lay_138 : decode cX12_lay 138 = .ok (.iaload, 1) := by decide +kernel
theorem dX12_lay_139 : decode cX12_lay 139 = .ok (.iastore, 1) := by decide +kernel
theorem dX12_lay_140 : decode cX12_lay 140 = .ok (.iinc 1 1, 3) := by decide +kernel
theorem dX12_lay_143 : decode cX12_lay 143 = .ok (.goto (-83), 3) := by decide +kernel
theorem dX12_lay_146 : decode cX12_lay 146 = .ok (.aload_n 0, 1) := by decide +kernel
theorem dX12_lay_147 : decode cX12_lay 147 = .ok (.aload_n 0, 1) := by decide +kernel
theorem dX12_lay_148 : decode cX12_lay 148 = .ok (.getfield 470, 3) := by decide +kernel
theorem dX12_lay_151 : decode cX12_lay 151 = .ok (.putfield 587, 3) := by decide +kernel
theorem dX12_lay_154 : decode cX12_lay 154 = .ok (.aload_n 0, 1) := by decide +kernel
theorem dX12_lay_155 : decode cX12_lay 155 = .ok (.aload_n 0, 1) := by decide +kernel
theorem dX12_lay_156 : decode cX12_lay 156 = .ok (.getfield 473, 3) := by decide +kernel
theorem dX12_lay_159 : decode cX12_lay 159 = .ok (.putfield 603, 3) := by decide +kernel
theorem dX12_lay_162 : decode cX12_lay 162 = .ok (.aload_n 0, 1) := by decide +kernel
theorem dX12_lay_163 : decode cX12_lay 163 = .ok (.aload_n 0, 1) := by decide +kernel
theorem dX12_lay_164 : decode cX12_lay 164 = .ok (.getfield 476, 3) := by decide +kernel
theorem dX12_lay_167 : decode cX12_lay 167 = .ok (.putfield 606, 3) := by decide +kernel
theorem dX12_lay_170 : decode cX12_lay 170 = .ok (.aload_n 0, 1) := by decide +kernel
theorem dX12_lay_171 : decode cX12_lay 171 = .ok (.aload_n 0, 1) := by decide +kernel
theorem dX12_lay_172 : decode cX12_lay 172 = .ok (.getfield 479, 3) := by decide +kernel
theorem dX12_lay_175 : decode cX12_lay 175 = .ok (.putfield 609, 3) := by decide +kernel
theorem dX12_lay_178 : decode cX12_lay 178 = .ok (.aload_n 0, 1) := by decide +kernel
theorem dX12_lay_179 : decode cX12_lay 179 = .ok (.aload_n 0, 1) := by decide +kernel
theorem dX12_lay_180 : decode cX12_lay 180 = .ok (.getfield 485, 3) := by decide +kernel
theorem dX12_lay_183 : decode cX12_lay 183 = .ok (.putfield 612, 3) := by decide +kernel
theorem dX12_lay_186 : decode cX12_lay 186 = .ok (.aload_n 0, 1) := by decide +kernel
theorem dX12_lay_187 : decode cX12_lay 187 = .ok (.iconst 0, 1) := by decide +kernel
theorem dX12_lay_188 : decode cX12_lay 188 = .ok (.putfield 615, 3) := by decide +kernel
theorem dX12_lay_191 : decode cX12_lay 191 = .ok (.aload_n 0, 1) := by decide +kernel
theorem dX12_lay_192 : decode cX12_lay 192 = .ok (.iconst 0, 1) := by decide +kernel
theorem dX12_lay_193 : decode cX12_lay 193 = .ok (.putfield 618, 3) := by decide +kernel
theorem dX12_lay_196 : decode cX12_lay 196 = .ok (.aload_n 0, 1) := by decide +kernel
theorem dX12_lay_197 : decode cX12_lay 197 = .ok (.iconst 0, 1) := by decide +kernel
theorem dX12_lay_198 : decode cX12_lay 198 = .ok (.putfield 621, 3) := by decide +kernel
theorem dX12_lay_201 : decode cX12_lay 201 = .ok (.iconst 0, 1) := by decide +kernel
theorem dX12_lay_202 : decode cX12_lay 202 = .ok (.istore_n 1, 1) := by decide +kernel
theorem dX12_lay_203 : decode cX12_lay 203 = .ok (.iload_n 1, 1) := by decide +kernel
theorem dX12_lay_204 : decode cX12_lay 204 = .ok (.bipush 121, 2) := by decide +kernel
theorem dX12_lay_206 : decode cX12_lay 206 = .ok (.if_icmp .ge 82, 3) := by decide +kernel
theorem dX12_lay_209 : decode cX12_lay 209 = .ok (.aload_n 0, 1) := by decide +kernel
theorem dX12_lay_210 : decode cX12_lay 210 = .ok (.getfield 104, 3) := by decide +kernel
theorem dX12_lay_213 : decode cX12_lay 213 = .ok (.iload_n 1, 1) := by decide +kernel
theorem dX12_lay_214 : decode cX12_lay 214 = .ok (.iconst 0, 1) := by decide +kernel
theorem dX12_lay_215 : decode cX12_lay 215 = .ok (.iastore, 1) := by decide +kernel
theorem dX12_lay_216 : decode cX12_lay 216 = .ok (.aload_n 0, 1) := by decide +kernel
theorem dX12_lay_217 : decode cX12_lay 217 = .ok (.getfield 116, 3) := by decide +kernel
theorem dX12_lay_220 : decode cX12_lay 220 = .ok (.iload_n 1, 1) := by decide +kernel
theorem dX12_lay_221 : decode cX12_lay 221 = .ok (.iconst 0, 1) := by decide +kernel
theorem dX12_lay_222 : decode cX12_lay 222 = .ok (.iastore, 1) := by decide +kernel
theorem dX12_lay_223 : decode cX12_lay 223 = .ok (.aload_n 0, 1) := by decide +kernel
theorem dX12_lay_224 : decode cX12_lay 224 = .ok (.getfield 94, 3) := by decide +kernel
theorem dX12_lay_227 : decode cX12_lay 227 = .ok (.iload_n 1, 1) := by decide +kernel
theorem dX12_lay_228 : decode cX12_lay 228 = .ok (.iconst 0, 1) := by decide +kernel
theorem dX12_lay_229 : decode cX12_lay 229 = .ok (.iastore, 1) := by decide +kernel
theorem dX12_lay_230 : decode cX12_lay 230 = .ok (.aload_n 0, 1) := by decide +kernel
theorem dX12_lay_231 : decode cX12_lay 231 = .ok (.getfield 237, 3) := by decide +kernel
theorem dX12_lay_234 : decode cX12_lay 234 = .ok (.iload_n 1, 1) := by decide +kernel
theorem dX12_lay_235 : decode cX12_lay 235 = .ok (.iconst 0, 1) := by decide +kernel
theorem dX12_lay_236 : decode cX12_lay 236 = .ok (.bastore, 1) := by decide +kernel
theorem dX12_lay_237 : decode cX12_lay 237 = .ok (.aload_n 0, 1) := by decide +kernel
theorem dX12_lay_238 : decode cX12_lay 238 = .ok (.getfield 97, 3) := by decide +kernel
theorem dX12_lay_241 : decode cX12_lay 241 = .ok (.iload_n 1, 1) := by decide +kernel
theorem dX12_lay_242 : decode cX12_lay 242 = .ok (.iconst 0, 1) := by decide +kernel
theorem dX12_lay_243 : decode cX12_lay 243 = .ok (.bastore, 1) := by decide +kernel
theorem dX12_lay_244 : decode cX12_lay 244 = .ok (.iconst 0, 1) := by decide +kernel
theorem dX12_lay_245 : decode cX12_lay 245 = .ok (.istore_n 2, 1) := by decide +kernel
theorem dX12_lay_246 : decode cX12_lay 246 = .ok (.iload_n 2, 1) := by decide +kernel
theorem dX12_lay_247 : decode cX12_lay 247 = .ok (.bipush 7, 2) := by decide +kernel
theorem dX12_lay_249 : decode cX12_lay 249 = .ok (.if_icmp .ge 33, 3) := by decide +kernel
theorem dX12_lay_252 : decode cX12_lay 252 = .ok (.aload_n 0, 1) := by decide +kernel
theorem dX12_lay_253 : decode cX12_lay 253 = .ok (.getfield 101, 3) := by decide +kernel
theorem dX12_lay_256 : decode cX12_lay 256 = .ok (.bipush 7, 2) := by decide +kernel
theorem dX12_lay_258 : decode cX12_lay 258 = .ok (.iload_n 1, 1) := by decide +kernel
theorem dX12_lay_259 : decode cX12_lay 259 = .ok (.imul, 1) := by decide +kernel
theorem dX12_lay_260 : decode cX12_lay 260 = .ok (.iload_n 2, 1) := by decide +kernel
theorem dX12_lay_261 : decode cX12_lay 261 = .ok (.iadd, 1) := by decide +kernel
theorem dX12_lay_262 : decode cX12_lay 262 = .ok (.iconst 0, 1) := by decide +kernel
theorem dX12_lay_263 : decode cX12_lay 263 = .ok (.iastore, 1) := by decide +kernel
theorem dX12_lay_264 : decode cX12_lay 264 = .ok (.aload_n 0, 1) := by decide +kernel
theorem dX12_lay_265 : decode cX12_lay 265 = .ok (.getfield 107, 3) := by decide +kernel
theorem dX12_lay_268 : decode cX12_lay 268 = .ok (.bipush 7, 2) := by decide +kernel
theorem dX12_lay_270 : decode cX12_lay 270 = .ok (.iload_n 1, 1) := by decide +kernel
theorem dX12_lay_271 : decode cX12_lay 271 = .ok (.imul, 1) := by decide +kernel
theorem dX12_lay_272 : decode cX12_lay 272 = .ok (.iload_n 2, 1) := by decide +kernel
theorem dX12_lay_273 : decode cX12_lay 273 = .ok (.iadd, 1) := by decide +kernel
theorem dX12_lay_274 : decode cX12_lay 274 = .ok (.iconst 0, 1) := by decide +kernel
theorem dX12_lay_275 : decode cX12_lay 275 = .ok (.bastore, 1) := by decide +kernel
theorem dX12_lay_276 : decode cX12_lay 276 = .ok (.iinc 2 1, 3) := by decide +kernel
theorem dX12_lay_279 : decode cX12_lay 279 = .ok (.goto (-33), 3) := by decide +kernel
theorem dX12_lay_282 : decode cX12_lay 282 = .ok (.iinc 1 1, 3) := by decide +kernel
theorem dX12_lay_285 : decode cX12_lay 285 = .ok (.goto (-82), 3) := by decide +kernel
theorem dX12_lay_288 : decode cX12_lay 288 = .ok (.aload_n 0, 1) := by decide +kernel
theorem dX12_lay_289 : decode cX12_lay 289 = .ok (.iconst 1, 1) := by decide +kernel
theorem dX12_lay_290 : decode cX12_lay 290 = .ok (.ldc_w 446, 3) := by decide +kernel
theorem dX12_lay_293 : decode cX12_lay 293 = .ok (.ldc_w 624, 3) := by decide +kernel
theorem dX12_lay_296 : decode cX12_lay 296 = .ok (.ldc_w 626, 3) := by decide +kernel
theorem dX12_lay_299 : decode cX12_lay 299 = .ok (.iconst 0, 1) := by decide +kernel
theorem dX12_lay_300 : decode cX12_lay 300 = .ok (.ldc_w 626, 3) := by decide +kernel
theorem dX12_lay_303 : decode cX12_lay 303 = .ok (.invokevirtual 628, 3) := by decide +kernel
theorem dX12_lay_306 : decode cX12_lay 306 = .ok (.aload_n 0, 1) := by decide +kernel
theorem dX12_lay_307 : decode cX12_lay 307 = .ok (.iconst 2, 1) := by decide +kernel
theorem dX12_lay_308 : decode cX12_lay 308 = .ok (.ldc_w 452, 3) := by decide +kernel
theorem dX12_lay_311 : decode cX12_lay 311 = .ok (.ldc_w 632, 3) := by decide +kernel
theorem dX12_lay_314 : decode cX12_lay 314 = .ok (.ldc_w 626, 3) := by decide +kernel
theorem dX12_lay_317 : decode cX12_lay 317 = .ok (.iconst 0, 1) := by decide +kernel
theorem dX12_lay_318 : decode cX12_lay 318 = .ok (.ldc_w 626, 3) := by decide +kernel
theorem dX12_lay_321 : decode cX12_lay 321 = .ok (.invokevirtual 628, 3) := by decide +kernel
theorem dX12_lay_324 : decode cX12_lay 324 = .ok (.aload_n 0, 1) := by decide +kernel
theorem dX12_lay_325 : decode cX12_lay 325 = .ok (.iconst 3, 1) := by decide +kernel
theorem dX12_lay_326 : decode cX12_lay 326 = .ok (.ldc_w 454, 3) := by decide +kernel
theorem dX12_lay_329 : decode cX12_lay 329 = .ok (.ldc_w 634, 3) := by decide +kernel
theorem dX12_lay_332 : decode cX12_lay 332 = .ok (.ldc_w 626, 3) := by decide +kernel
theorem dX12_lay_335 : decode cX12_lay 335 = .ok (.iconst 0, 1) := by decide +kernel
theorem dX12_lay_336 : decode cX12_lay 336 = .ok (.ldc_w 626, 3) := by decide +kernel
theorem dX12_lay_339 : decode cX12_lay 339 = .ok (.invokevirtual 628, 3) := by decide +kernel
theorem dX12_lay_342 : decode cX12_lay 342 = .ok (.aload_n 0, 1) := by decide +kernel
theorem dX12_lay_343 : decode cX12_lay 343 = .ok (.iconst 4, 1) := by decide +kernel
theorem dX12_lay_344 : decode cX12_lay 344 = .ok (.ldc_w 456, 3) := by decide +kernel
theorem dX12_lay_347 : decode cX12_lay 347 = .ok (.ldc_w 636, 3) := by decide +kernel
theorem dX12_lay_350 : decode cX12_lay 350 = .ok (.ldc_w 626, 3) := by decide +kernel
theorem dX12_lay_353 : decode cX12_lay 353 = .ok (.iconst 1, 1) := by decide +kernel
theorem dX12_lay_354 : decode cX12_lay 354 = .ok (.ldc_w 626, 3) := by decide +kernel
theorem dX12_lay_357 : decode cX12_lay 357 = .ok (.invokevirtual 628, 3) := by decide +kernel
theorem dX12_lay_360 : decode cX12_lay 360 = .ok (.aload_n 0, 1) := by decide +kernel
theorem dX12_lay_361 : decode cX12_lay 361 = .ok (.iconst 5, 1) := by decide +kernel
theorem dX12_lay_362 : decode cX12_lay 362 = .ok (.ldc_w 458, 3) := by decide +kernel
theorem dX12_lay_365 : decode cX12_lay 365 = .ok (.ldc_w 626, 3) := by decide +kernel
theorem dX12_lay_368 : decode cX12_lay 368 = .ok (.ldc_w 626, 3) := by decide +kernel
theorem dX12_lay_371 : decode cX12_lay 371 = .ok (.iconst 1, 1) := by decide +kernel
theorem dX12_lay_372 : decode cX12_lay 372 = .ok (.ldc_w 626, 3) := by decide +kernel
theorem dX12_lay_375 : decode cX12_lay 375 = .ok (.invokevirtual 628, 3) := by decide +kernel
theorem dX12_lay_378 : decode cX12_lay 378 = .ok (.aload_n 0, 1) := by decide +kernel
theorem dX12_lay_379 : decode cX12_lay 379 = .ok (.bipush 6, 2) := by decide +kernel
theorem dX12_lay_381 : decode cX12_lay 381 = .ok (.ldc_w 460, 3) := by decide +kernel
theorem dX12_lay_384 : decode cX12_lay 384 = .ok (.ldc_w 638, 3) := by decide +kernel
theorem dX12_lay_387 : decode cX12_lay 387 = .ok (.ldc_w 626, 3) := by decide +kernel
theorem dX12_lay_390 : decode cX12_lay 390 = .ok (.iconst 1, 1) := by decide +kernel
theorem dX12_lay_391 : decode cX12_lay 391 = .ok (.ldc_w 626, 3) := by decide +kernel
theorem dX12_lay_394 : decode cX12_lay 394 = .ok (.invokevirtual 628, 3) := by decide +kernel
theorem dX12_lay_397 : decode cX12_lay 397 = .ok (.aload_n 0, 1) := by decide +kernel
theorem dX12_lay_398 : decode cX12_lay 398 = .ok (.bipush 7, 2) := by decide +kernel
theorem dX12_lay_400 : decode cX12_lay 400 = .ok (.ldc_w 640, 3) := by decide +kernel
theorem dX12_lay_403 : decode cX12_lay 403 = .ok (.ldc_w 626, 3) := by decide +kernel
theorem dX12_lay_406 : decode cX12_lay 406 = .ok (.ldc_w 626, 3) := by decide +kernel
theorem dX12_lay_409 : decode cX12_lay 409 = .ok (.iconst 1, 1) := by decide +kernel
theorem dX12_lay_410 : decode cX12_lay 410 = .ok (.ldc_w 626, 3) := by decide +kernel
theorem dX12_lay_413 : decode cX12_lay 413 = .ok (.invokevirtual 628, 3) := by decide +kernel
theorem dX12_lay_416 : decode cX12_lay 416 = .ok (.aload_n 0, 1) := by decide +kernel
theorem dX12_lay_417 : decode cX12_lay 417 = .ok (.bipush 8, 2) := by decide +kernel
theorem dX12_lay_419 : decode cX12_lay 419 = .ok (.ldc_w 462, 3) := by decide +kernel
theorem dX12_lay_422 : decode cX12_lay 422 = .ok (.ldc_w 626, 3) := by decide +kernel
theorem dX12_lay_425 : decode cX12_lay 425 = .ok (.ldc_w 626, 3) := by decide +kernel
theorem dX12_lay_428 : decode cX12_lay 428 = .ok (.iconst 1, 1) := by decide +kernel
theorem dX12_lay_429 : decode cX12_lay 429 = .ok (.ldc_w 626, 3) := by decide +kernel
theorem dX12_lay_432 : decode cX12_lay 432 = .ok (.invokevirtual 628, 3) := by decide +kernel
theorem dX12_lay_435 : decode cX12_lay 435 = .ok (.aload_n 0, 1) := by decide +kernel
theorem dX12_lay_436 : decode cX12_lay 436 = .ok (.bipush 9, 2) := by decide +kernel
theorem dX12_lay_438 : decode cX12_lay 438 = .ok (.ldc_w 641, 3) := by decide +kernel
theorem dX12_lay_441 : decode cX12_lay 441 = .ok (.ldc_w 626, 3) := by decide +kernel
theorem dX12_lay_444 : decode cX12_lay 444 = .ok (.ldc_w 626, 3) := by decide +kernel
theorem dX12_lay_447 : decode cX12_lay 447 = .ok (.iconst 2, 1) := by decide +kernel
theorem dX12_lay_448 : decode cX12_lay 448 = .ok (.ldc_w 643, 3) := by decide +kernel
theorem dX12_lay_451 : decode cX12_lay 451 = .ok (.invokevirtual 628, 3) := by decide +kernel
theorem dX12_lay_454 : decode cX12_lay 454 = .ok (.aload_n 0, 1) := by decide +kernel
theorem dX12_lay_455 : decode cX12_lay 455 = .ok (.bipush 10, 2) := by decide +kernel
theorem dX12_lay_457 : decode cX12_lay 457 = .ok (.ldc_w 641, 3) := by decide +kernel
theorem dX12_lay_460 : decode cX12_lay 460 = .ok (.ldc_w 626, 3) := by decide +kernel
theorem dX12_lay_463 : decode cX12_lay 463 = .ok (.ldc_w 626, 3) := by decide +kernel
theorem dX12_lay_466 : decode cX12_lay 466 = .ok (.iconst 2, 1) := by decide +kernel
theorem dX12_lay_467 : decode cX12_lay 467 = .ok (.ldc_w 645, 3) := by decide +kernel
theorem dX12_lay_470 : decode cX12_lay 470 = .ok (.invokevirtual 628, 3) := by decide +kernel
theorem dX12_lay_473 : decode cX12_lay 473 = .ok (.aload_n 0, 1) := by decide +kernel
theorem dX12_lay_474 : decode cX12_lay 474 = .ok (.getfield 125, 3) := by decide +kernel
theorem dX12_lay_477 : decode cX12_lay 477 = .ok (.bipush 11, 2) := by decide +kernel
theorem dX12_lay_479 : decode cX12_lay 479 = .ok (.iconst 0, 1) := by decide +kernel
theorem dX12_lay_480 : decode cX12_lay 480 = .ok (.iastore, 1) := by decide +kernel
theorem dX12_lay_481 : decode cX12_lay 481 = .ok (.aload_n 0, 1) := by decide +kernel
theorem dX12_lay_482 : decode cX12_lay 482 = .ok (.getfield 128, 3) := by decide +kernel
theorem dX12_lay_485 : decode cX12_lay 485 = .ok (.bipush 11, 2) := by decide +kernel
theorem dX12_lay_487 : decode cX12_lay 487 = .ok (.iconst (-1), 1) := by decide +kernel
theorem dX12_lay_488 : decode cX12_lay 488 = .ok (.iastore, 1) := by decide +kernel
theorem dX12_lay_489 : decode cX12_lay 489 = .ok (.aload_n 0, 1) := by decide +kernel
theorem dX12_lay_490 : decode cX12_lay 490 = .ok (.getfield 110, 3) := by decide +kernel
theorem dX12_lay_493 : decode cX12_lay 493 = .ok (.bipush 90, 2) := by decide +kernel
theorem dX12_lay_495 : decode cX12_lay 495 = .ok (.bipush 109, 2) := by decide +kernel
theorem dX12_lay_497 : decode cX12_lay 497 = .ok (.bastore, 1) := by decide +kernel
theorem dX12_lay_498 : decode cX12_lay 498 = .ok (.aload_n 0, 1) := by decide +kernel
theorem dX12_lay_499 : decode cX12_lay 499 = .ok (.getfield 110, 3) := by decide +kernel
theorem dX12_lay_502 : decode cX12_lay 502 = .ok (.bipush 91, 2) := by decide +kernel
theorem dX12_lay_504 : decode cX12_lay 504 = .ok (.bipush 101, 2) := by decide +kernel
theorem dX12_lay_506 : decode cX12_lay 506 = .ok (.bastore, 1) := by decide +kernel
theorem dX12_lay_507 : decode cX12_lay 507 = .ok (.aload_n 0, 1) := by decide +kernel
theorem dX12_lay_508 : decode cX12_lay 508 = .ok (.getfield 113, 3) := by decide +kernel
theorem dX12_lay_511 : decode cX12_lay 511 = .ok (.bipush 10, 2) := by decide +kernel
theorem dX12_lay_513 : decode cX12_lay 513 = .ok (.iconst 2, 1) := by decide +kernel
theorem dX12_lay_514 : decode cX12_lay 514 = .ok (.iastore, 1) := by decide +kernel
theorem dX12_lay_515 : decode cX12_lay 515 = .ok (.aload_n 0, 1) := by decide +kernel
theorem dX12_lay_516 : decode cX12_lay 516 = .ok (.getfield 116, 3) := by decide +kernel
theorem dX12_lay_519 : decode cX12_lay 519 = .ok (.iconst 1, 1) := by decide +kernel
theorem dX12_lay_520 : decode cX12_lay 520 = .ok (.iconst 1, 1) := by decide +kernel
theorem dX12_lay_521 : decode cX12_lay 521 = .ok (.iastore, 1) := by decide +kernel
theorem dX12_lay_522 : decode cX12_lay 522 = .ok (.aload_n 0, 1) := by decide +kernel
theorem dX12_lay_523 : decode cX12_lay 523 = .ok (.getfield 352, 3) := by decide +kernel
theorem dX12_lay_526 : decode cX12_lay 526 = .ok (.istore_n 1, 1) := by decide +kernel
theorem dX12_lay_527 : decode cX12_lay 527 = .ok (.iload_n 1, 1) := by decide +kernel
theorem dX12_lay_528 : decode cX12_lay 528 = .ok (.ifCond .lt 18, 3) := by decide +kernel
theorem dX12_lay_531 : decode cX12_lay 531 = .ok (.aload_n 0, 1) := by decide +kernel
theorem dX12_lay_532 : decode cX12_lay 532 = .ok (.iload_n 1, 1) := by decide +kernel
theorem dX12_lay_533 : decode cX12_lay 533 = .ok (.invokevirtual 647, 3) := by decide +kernel
theorem dX12_lay_536 : decode cX12_lay 536 = .ok (.aload_n 0, 1) := by decide +kernel
theorem dX12_lay_537 : decode cX12_lay 537 = .ok (.getfield 64, 3) := by decide +kernel
theorem dX12_lay_540 : decode cX12_lay 540 = .ok (.iload_n 1, 1) := by decide +kernel
theorem dX12_lay_541 : decode cX12_lay 541 = .ok (.iaload, 1) := by decide +kernel
theorem dX12_lay_542 : decode cX12_lay 542 = .ok (.istore_n 1, 1) := by decide +kernel
theorem dX12_lay_543 : decode cX12_lay 543 = .ok (.goto (-16), 3) := by decide +kernel
theorem dX12_lay_546 : decode cX12_lay 546 = .ok (.return_, 1) := by decide +kernel
def F_X12_lay  (σ : MS) : MR :=
  bnd (mI σ 44 1) fun σ_1 =>
  bnd (mI σ_1 86 0) fun σ_3 =>
  loopF (fun (again_6 : (Int32 × MS) → MR) (s_5 : Int32 × MS) => (
    if 4 ≤ s_5.1 then (
      loopF (fun (again_12 : (Int32 × MS) → MR) (s_11 : Int32 × MS) => (
        if (s_11.2.1 6) ≤ s_11.1 then (
          loopF (fun (again_18 : (Int32 × MS) → MR) (s_17 : Int32 × MS) => (
            if (s_17.2.1 23) ≤ s_17.1 then (
              bnd (mI s_17.2 78 (s_17.2.1 35)) fun σ_23 =>
              bnd (mI σ_23 79 (σ_23.1 36)) fun σ_25 =>
              bnd (mI σ_25 80 (σ_25.1 37)) fun σ_27 =>
              bnd (mI σ_27 81 (σ_27.1 38)) fun σ_29 =>
              bnd (mI σ_29 82 (σ_29.1 40)) fun σ_31 =>
              bnd (mI σ_31 83 0) fun σ_33 =>
              bnd (mI σ_33 84 0) fun σ_35 =>
              bnd (mI σ_35 63 0) fun σ_37 =>
              loopF (fun (again_40 : (Int32 × MS) → MR) (s_39 : Int32 × MS) => (
                if 121 ≤ s_39.1 then (
                  (F_X12_ownVerb 1 ([108, 111, 111, 107] : List Int32) ([108] : List Int32) ([] : List Int32) 0 ([] : List Int32) s_39.2).bind fun u_49 =>
                  (F_X12_ownVerb 2 ([105, 110, 118, 101, 110, 116, 111, 114, 121] : List Int32) ([105] : List Int32) ([] : List Int32) 0 ([] : List Int32) u_49.2).bind fun u_55 =>
                  (F_X12_ownVerb 3 ([119, 97, 105, 116] : List Int32) ([122] : List Int32) ([] : List Int32) 0 ([] : List Int32) u_55.2).bind fun u_61 =>
                  (F_X12_ownVerb 4 ([116, 97, 107, 101] : List Int32) ([103, 101, 116] : List Int32) ([] : List Int32) 1 ([] : List Int32) u_61.2).bind fun u_67 =>
                  (F_X12_ownVerb 5 ([100, 114, 111, 112] : List Int32) ([] : List Int32) ([] : List Int32) 1 ([] : List Int32) u_67.2).bind fun u_73 =>
                  (F_X12_ownVerb 6 ([101, 120, 97, 109, 105, 110, 101] : List Int32) ([120] : List Int32) ([] : List Int32) 1 ([] : List Int32) u_73.2).bind fun u_79 =>
                  (F_X12_ownVerb 7 ([111, 112, 101, 110] : List Int32) ([] : List Int32) ([] : List Int32) 1 ([] : List Int32) u_79.2).bind fun u_85 =>
                  (F_X12_ownVerb 8 ([99, 108, 111, 115, 101] : List Int32) ([] : List Int32) ([] : List Int32) 1 ([] : List Int32) u_85.2).bind fun u_91 =>
                  (F_X12_ownVerb 9 ([112, 117, 116] : List Int32) ([] : List Int32) ([] : List Int32) 2 ([105, 110] : List Int32) u_91.2).bind fun u_97 =>
                  (F_X12_ownVerb 10 ([112, 117, 116] : List Int32) ([] : List Int32) ([] : List Int32) 2 ([111, 110] : List Int32) u_97.2).bind fun u_103 =>
                  bnd (mA u_103.2 59 (upd (u_103.2.2 59) (11 : Int32).toNatClampNeg 0)) fun σ_105 =>
                  bnd (mA σ_105 60 (upd (σ_105.2 60) (11 : Int32).toNatClampNeg (-1))) fun σ_107 =>
                  bnd (mA σ_107 54 (upd (σ_107.2 54) (90 : Int32).toNatClampNeg (vp_nar .byte 109))) fun σ_109 =>
                  bnd (mA σ_109 54 (upd (σ_109.2 54) (91 : Int32).toNatClampNeg (vp_nar .byte 101))) fun σ_111 =>
                  bnd (mA σ_111 55 (upd (σ_111.2 55) (10 : Int32).toNatClampNeg 2)) fun σ_113 =>
                  bnd (mA σ_113 56 (upd (σ_113.2 56) (1 : Int32).toNatClampNeg 1)) fun σ_115 =>
                  bnd ((σ_115.1 24)) fun (x_117 : Int32) =>
                  loopF (fun (again_120 : (Int32 × MS) → MR) (s_119 : Int32 × MS) => (
                    if s_119.1 < 0 then (
                      some (0, s_119.2)
                    ) else (
                      (F_X12_layOne s_119.1 s_119.2).bind fun u_126 =>
                      if s_119.1 < 0 ∨ 40000 ≤ s_119.1.toNatClampNeg then none else
                      bnd ((u_126.2.2 22 s_119.1.toNatClampNeg)) fun (x_130 : Int32) =>
                      again_120 (x_130, u_126.2)
                    )
                  )) FU (x_117, σ_115)
                ) else (
                  if s_39.1 < 0 ∨ 121 ≤ s_39.1.toNatClampNeg then none else
                  bnd (mA s_39.2 52 (upd (s_39.2.2 52) s_39.1.toNatClampNeg 0)) fun σ_135 =>
                  if s_39.1 < 0 ∨ 121 ≤ s_39.1.toNatClampNeg then none else
                  bnd (mA σ_135 56 (upd (σ_135.2 56) s_39.1.toNatClampNeg 0)) fun σ_139 =>
                  if s_39.1 < 0 ∨ 121 ≤ s_39.1.toNatClampNeg then none else
                  bnd (mA σ_139 49 (upd (σ_139.2 49) s_39.1.toNatClampNeg 0)) fun σ_143 =>
                  if s_39.1 < 0 ∨ 121 ≤ s_39.1.toNatClampNeg then none else
                  bnd (mA σ_143 122 (upd (σ_143.2 122) s_39.1.toNatClampNeg (vp_nar .boolean 0))) fun σ_147 =>
                  if s_39.1 < 0 ∨ 121 ≤ s_39.1.toNatClampNeg then none else
                  bnd (mA σ_147 50 (upd (σ_147.2 50) s_39.1.toNatClampNeg (vp_nar .boolean 0))) fun σ_151 =>
                  loopF (fun (again_154 : (Int32 × MS) → MR) (s_153 : Int32 × MS) => (
                    if 7 ≤ s_153.1 then (
                      bnd (s_39.1 + 1) fun (x_159 : Int32) =>
                      again_40 (x_159, s_153.2)
                    ) else (
                      if ((7 * s_39.1) + s_153.1) < 0 ∨ 847 ≤ ((7 * s_39.1) + s_153.1).toNatClampNeg then none else
                      bnd (mA s_153.2 51 (upd (s_153.2.2 51) ((7 * s_39.1) + s_153.1).toNatClampNeg 0)) fun σ_164 =>
                      if ((7 * s_39.1) + s_153.1) < 0 ∨ 847 ≤ ((7 * s_39.1) + s_153.1).toNatClampNeg then none else
                      bnd (mA σ_164 53 (upd (σ_164.2 53) ((7 * s_39.1) + s_153.1).toNatClampNeg (vp_nar .boolean 0))) fun σ_168 =>
                      bnd (s_153.1 + 1) fun (x_170 : Int32) =>
                      again_154 (x_170, σ_168)
                    )
                  )) FU (0, σ_151)
                )
              )) FU (0, σ_37)
            ) else (
              if s_17.1 < 0 ∨ 40000 ≤ s_17.1.toNatClampNeg then none else
              bnd ((s_17.2.2 17 s_17.1.toNatClampNeg)) fun (x_175 : Int32) =>
              if s_17.1 < 0 ∨ 40000 ≤ s_17.1.toNatClampNeg then none else
              bnd (mA s_17.2 64 (upd (s_17.2.2 64) s_17.1.toNatClampNeg x_175)) fun σ_179 =>
              if s_17.1 < 0 ∨ 40000 ≤ s_17.1.toNatClampNeg then none else
              bnd ((σ_179.2 18 s_17.1.toNatClampNeg)) fun (x_183 : Int32) =>
              if s_17.1 < 0 ∨ 40000 ≤ s_17.1.toNatClampNeg then none else
              bnd (mA σ_179 65 (upd (σ_179.2 65) s_17.1.toNatClampNeg x_183)) fun σ_187 =>
              if s_17.1 < 0 ∨ 40000 ≤ s_17.1.toNatClampNeg then none else
              bnd ((σ_187.2 19 s_17.1.toNatClampNeg)) fun (x_191 : Int32) =>
              if s_17.1 < 0 ∨ 40000 ≤ s_17.1.toNatClampNeg then none else
              bnd (mA σ_187 66 (upd (σ_187.2 66) s_17.1.toNatClampNeg x_191)) fun σ_195 =>
              if s_17.1 < 0 ∨ 40000 ≤ s_17.1.toNatClampNeg then none else
              bnd ((σ_195.2 20 s_17.1.toNatClampNeg)) fun (x_199 : Int32) =>
              if s_17.1 < 0 ∨ 40000 ≤ s_17.1.toNatClampNeg then none else
              bnd (mA σ_195 67 (upd (σ_195.2 67) s_17.1.toNatClampNeg x_199)) fun σ_203 =>
              if s_17.1 < 0 ∨ 40000 ≤ s_17.1.toNatClampNeg then none else
              bnd ((σ_203.2 21 s_17.1.toNatClampNeg)) fun (x_207 : Int32) =>
              if s_17.1 < 0 ∨ 40000 ≤ s_17.1.toNatClampNeg then none else
              bnd (mA σ_203 68 (upd (σ_203.2 68) s_17.1.toNatClampNeg x_207)) fun σ_211 =>
              if s_17.1 < 0 ∨ 40000 ≤ s_17.1.toNatClampNeg then none else
              bnd ((σ_211.2 22 s_17.1.toNatClampNeg)) fun (x_215 : Int32) =>
              if s_17.1 < 0 ∨ 40000 ≤ s_17.1.toNatClampNeg then none else
              bnd (mA σ_211 69 (upd (σ_211.2 69) s_17.1.toNatClampNeg x_215)) fun σ_219 =>
              bnd (s_17.1 + 1) fun (x_221 : Int32) =>
              again_18 (x_221, σ_219)
            )
          )) FU (0, s_11.2)
        ) else (
          if s_11.1 < 0 ∨ 16000 ≤ s_11.1.toNatClampNeg then none else
          bnd ((s_11.2.2 5 s_11.1.toNatClampNeg)) fun (x_226 : Int32) =>
          if s_11.1 < 0 ∨ 16000 ≤ s_11.1.toNatClampNeg then none else
          bnd (mA s_11.2 45 (upd (s_11.2.2 45) s_11.1.toNatClampNeg (vp_nar .byte x_226))) fun σ_230 =>
          bnd (s_11.1 + 1) fun (x_232 : Int32) =>
          again_12 (x_232, σ_230)
        )
      )) FU (0, s_5.2)
    ) else (
      if s_5.1 < 0 ∨ 4 ≤ s_5.1.toNatClampNeg then none else
      bnd (mA s_5.2 100 (upd (s_5.2.2 100) s_5.1.toNatClampNeg (vp_nar .boolean 0))) fun σ_237 =>
      bnd (s_5.1 + 1) fun (x_239 : Int32) =>
      again_6 (x_239, σ_237)
    )
  )) FU (0, σ_3)
set_option maxHeartbeats 4000000 in
set_option maxRecDepth 100000 in
theorem m_X12_lay (l : Launch) (dC : Nat → ClassId) (dI : Nat → Nat → Nat) (cB cC cI cJ cZ cP : ClassId) (h qK qS : Nat) (ad : Nat → Nat) (hDD : mDis cB cI cZ h qK qS ad) (sz : Nat)   (σ : MS) (res : Int32 × MS) (hF : F_X12_lay  σ = some res) : Met l yX12_lay (g_ws yX12_lay cX12_lay 3 none) ({ frames := 7, cells := 0, slots := 0, locals := 176 }) (va_Pc [.ref h] (m_B (dC, dI) [(cB, .byte), (cC, .char), (cI, .int), (cJ, .long), (cZ, .boolean), (cP, .object "StoryHouse$Play")] sz h ad qK qS (mW cB cI cZ h qK qS ad σ) g_0)) (va_Qv (fun (_ : Unit) => True) (fun _ t => va_P (dC, dI) vwCl (mW cB cI cZ h qK qS ad res.2) t.heap) (mCells h ad sz)) 0 0 (mCells h ad sz) := by
  refine Met.ofW (cc := cX12_lay) (maxL := 3) (ret := none) (by decide) rfl ?_
  intro p e s m args below meth c s₁ B hml hv
  obtain ⟨rfl, hsz, hP, hK, hE, hKS, hX⟩ := hv
  have hx := B.exec
  have hb := B.bytes
  have hr := B.returns
  have hts0 := atoms_spec (ws := g_ws yX12_lay cX12_lay 3 none) B.pre
  have hts : ∀ w ∈ lw_good, w.before ([.ref h] : List Value).toArray s = true := fun w z => hts0 w (List.mem_cons_of_mem _ z)
  have hown : s.vm.findClass RX12 = some m.cls := findClass_of_methodNamed B.named
  have hlocks := B.notSynchronized
  have hS : va_S (mCells h ad sz) s.heap s.heap [] := va_S.rf
  have hl := lv_entry ([.ref h]) (n := 3) (Nat.le_of_ble_eq_true rfl)
  rw [lg_entry_eq]
  generalize (lg_sl ([.ref h]) ++ List.replicate (3 - (lg_sl ([.ref h])).length) Slot.unset).toArray = ls at hl ⊢
  have hl : lv_has ls 3 [(0, .ref h)] := hl
  unfold F_X12_lay at hF
  refine lv_aload_n hx hb dX12_lay_0 rfl (lv_at hl 0 rfl) ?_
  refine lv_iconst (v := 1) hx hb dX12_lay_1 (by decide +kernel) ?_
  obtain ⟨σ_1, eσ_1, hF_2⟩ := bnd_e hF
  clear hF
  refine m_put (σ' := σ_1) (v := .int 1) (ty := .boolean) hx hb hts hown hK hP (hDD _ _) hS (by rw [eσ_1]; exact mwI_44) (k := 44) (by decide) (hts (.fieldLink RX12 597 "StoryHouseModel" "built" "Z") wq_1400) (fun _ h9 => h9) rfl (by decide +kernel) (by decide +kernel) (by decide +kernel) dX12_lay_2 (fun H locs hP hS => ?_)
  refine lv_aload_n hx hb dX12_lay_5 rfl (lv_at hl 0 rfl) ?_
  refine lv_iconst (v := 0) hx hb dX12_lay_6 (by decide +kernel) ?_
  obtain ⟨σ_3, eσ_3, hF_4⟩ := bnd_e hF_2
  clear hF_2
  refine m_put (σ' := σ_3) (v := .int 0) (ty := .boolean) hx hb hts hown hK hP (hDD _ _) hS (by rw [eσ_3]; exact mwI_86) (k := 86) (by decide) (hts (.fieldLink RX12 600 "StoryHouseModel" "playing" "Z") wq_1442) (fun _ h9 => h9) rfl (by decide +kernel) (by decide +kernel) (by decide +kernel) dX12_lay_7 (fun H locs hP hS => ?_)
  refine lv_iconst (v := 0) hx hb dX12_lay_10 (by decide +kernel) ?_
  refine lv_istore_n (lv' := [(1, .int 0), (0, .ref h)]) hx hb dX12_lay_11 rfl hl (by decide) rfl (fun ls hl => ?_)
  refine loopF_ind (P := fun (s_5 : Int32 × MS) => ∀ (H : Heap) (locs : List Loc), va_P (dC, dI) vwCl (mW cB cI cZ h qK qS ad s_5.2) H → va_S (mCells h ad sz) s.heap H locs → ∀ ls : Array Slot, lv_has ls 3 [(0, .ref h), (1, .int s_5.1)] → W p l e (headSpec (g_ws yX12_lay cX12_lay 3 none) { frames := 7, cells := 0, slots := 0, locals := 176 }).room s m ([.ref h] : List Value).toArray below meth c H locs 0 0 (MQ below (va_Qv (fun (_ : Unit) => True) (fun _ t => va_P (dC, dI) vwCl (mW cB cI cZ h qK qS ad res.2) t.heap) (mCells h ad sz)) ([.ref h] : List Value).toArray s 0 0 (mCells h ad sz)) (F0 m 12 ls [])) ?_ _ _ hF_4 _ _ hP hS ls (lv_sub hl [1, 0] rfl)
  intro again_6 s_5 ih_7 hF_8
  intro H locs hP hS ls hl
  refine lv_iload_n hx hb dX12_lay_12 rfl (lv_at hl 1 rfl) ?_
  refine lv_iconst (v := 4) hx hb dX12_lay_13 (by decide +kernel) ?_
  refine lv_icmp_ge (tgt := 30) hx hb dX12_lay_14 (by decide) (fun c_9 => ?_) (fun c_9 => ?_)
  · have hF_10 := ipos c_9 hF_8
    clear hF_8
    refine lv_iconst (v := 0) hx hb dX12_lay_30 (by decide +kernel) ?_
    refine lv_istore_n (lv' := [(1, .int 0), (0, .ref h)]) hx hb dX12_lay_31 rfl hl (by decide) rfl (fun ls hl => ?_)
    refine loopF_ind (P := fun (s_11 : Int32 × MS) => ∀ (H : Heap) (locs : List Loc), va_P (dC, dI) vwCl (mW cB cI cZ h qK qS ad s_11.2) H → va_S (mCells h ad sz) s.heap H locs → ∀ ls : Array Slot, lv_has ls 3 [(0, .ref h), (1, .int s_11.1)] → W p l e (headSpec (g_ws yX12_lay cX12_lay 3 none) { frames := 7, cells := 0, slots := 0, locals := 176 }).room s m ([.ref h] : List Value).toArray below meth c H locs 0 0 (MQ below (va_Qv (fun (_ : Unit) => True) (fun _ t => va_P (dC, dI) vwCl (mW cB cI cZ h qK qS ad res.2) t.heap) (mCells h ad sz)) ([.ref h] : List Value).toArray s 0 0 (mCells h ad sz)) (F0 m 32 ls [])) ?_ _ _ hF_10 _ _ hP hS ls (lv_sub hl [1, 0] rfl)
    intro again_12 s_11 ih_13 hF_14
    intro H locs hP hS ls hl
    refine lv_iload_n hx hb dX12_lay_32 rfl (lv_at hl 1 rfl) ?_
    refine lv_aload_n hx hb dX12_lay_33 rfl (lv_at hl 0 rfl) ?_
    refine va_get (D := (dC, dI)) (ci := 12) (v := .int (s_11.2.1 6)) (C := RX12) (T := TX12) (N := 123) hx hb hts ii_X12 hown hK hP 0 rfl rfl 6 (by decide) (hts (.fieldLink RX12 249 "StoryHouseModel" "sourceSize" "I") wq_1362) (fun _ h9 => h9) rfl dX12_lay_34 ?_
    refine lv_icmp_ge (tgt := 58) hx hb dX12_lay_37 (by decide) (fun c_15 => ?_) (fun c_15 => ?_)
    · have hF_16 := ipos c_15 hF_14
      clear hF_14
      refine lv_iconst (v := 0) hx hb dX12_lay_58 (by decide +kernel) ?_
      refine lv_istore_n (lv' := [(1, .int 0), (0, .ref h)]) hx hb dX12_lay_59 rfl hl (by decide) rfl (fun ls hl => ?_)
      refine loopF_ind (P := fun (s_17 : Int32 × MS) => ∀ (H : Heap) (locs : List Loc), va_P (dC, dI) vwCl (mW cB cI cZ h qK qS ad s_17.2) H → va_S (mCells h ad sz) s.heap H locs → ∀ ls : Array Slot, lv_has ls 3 [(0, .ref h), (1, .int s_17.1)] → W p l e (headSpec (g_ws yX12_lay cX12_lay 3 none) { frames := 7, cells := 0, slots := 0, locals := 176 }).room s m ([.ref h] : List Value).toArray below meth c H locs 0 0 (MQ below (va_Qv (fun (_ : Unit) => True) (fun _ t => va_P (dC, dI) vwCl (mW cB cI cZ h qK qS ad res.2) t.heap) (mCells h ad sz)) ([.ref h] : List Value).toArray s 0 0 (mCells h ad sz)) (F0 m 60 ls [])) ?_ _ _ hF_16 _ _ hP hS ls (lv_sub hl [1, 0] rfl)
      intro again_18 s_17 ih_19 hF_20
      intro H locs hP hS ls hl
      refine lv_iload_n hx hb dX12_lay_60 rfl (lv_at hl 1 rfl) ?_
      refine lv_aload_n hx hb dX12_lay_61 rfl (lv_at hl 0 rfl) ?_
      refine va_get (D := (dC, dI)) (ci := 12) (v := .int (s_17.2.1 23)) (C := RX12) (T := TX12) (N := 123) hx hb hts ii_X12 hown hK hP 0 rfl rfl 23 (by decide) (hts (.fieldLink RX12 301 "StoryHouseModel" "nodes" "I") wq_1379) (fun _ h9 => h9) rfl dX12_lay_62 ?_
      refine lv_icmp_ge (tgt := 146) hx hb dX12_lay_65 (by decide) (fun c_21 => ?_) (fun c_21 => ?_)
      · have hF_22 := ipos c_21 hF_20
        clear hF_20
        refine lv_aload_n hx hb dX12_lay_146 rfl (lv_at hl 0 rfl) ?_
        refine lv_aload_n hx hb dX12_lay_147 rfl (lv_at hl 0 rfl) ?_
        refine va_get (D := (dC, dI)) (ci := 12) (v := .int (s_17.2.1 35)) (C := RX12) (T := TX12) (N := 123) hx hb hts ii_X12 hown hK hP 0 rfl rfl 35 (by decide) (hts (.fieldLink RX12 470 "StoryHouseModel" "objects" "I") wq_1391) (fun _ h9 => h9) rfl dX12_lay_148 ?_
        obtain ⟨σ_23, eσ_23, hF_24⟩ := bnd_e hF_22
        clear hF_22
        refine m_put (σ' := σ_23) (v := .int (s_17.2.1 35)) (ty := .int) hx hb hts hown hK hP (hDD _ _) hS (by rw [eσ_23]; exact mwI_78) (k := 78) (by decide) (hts (.fieldLink RX12 587 "StoryHouseModel" "nObjects" "I") wq_1434) (fun _ h9 => h9) rfl (by decide +kernel) rfl rfl dX12_lay_151 (fun H locs hP hS => ?_)
        refine lv_aload_n hx hb dX12_lay_154 rfl (lv_at hl 0 rfl) ?_
        refine lv_aload_n hx hb dX12_lay_155 rfl (lv_at hl 0 rfl) ?_
        refine va_get (D := (dC, dI)) (ci := 12) (v := .int (σ_23.1 36)) (C := RX12) (T := TX12) (N := 123) hx hb hts ii_X12 hown hK hP 0 rfl rfl 36 (by decide) (hts (.fieldLink RX12 473 "StoryHouseModel" "verbs" "I") wq_1392) (fun _ h9 => h9) rfl dX12_lay_156 ?_
        obtain ⟨σ_25, eσ_25, hF_26⟩ := bnd_e hF_24
        clear hF_24
        refine m_put (σ' := σ_25) (v := .int (σ_23.1 36)) (ty := .int) hx hb hts hown hK hP (hDD _ _) hS (by rw [eσ_25]; exact mwI_79) (k := 79) (by decide) (hts (.fieldLink RX12 603 "StoryHouseModel" "nVerbs" "I") wq_1435) (fun _ h9 => h9) rfl (by decide +kernel) rfl rfl dX12_lay_159 (fun H locs hP hS => ?_)
        refine lv_aload_n hx hb dX12_lay_162 rfl (lv_at hl 0 rfl) ?_
        refine lv_aload_n hx hb dX12_lay_163 rfl (lv_at hl 0 rfl) ?_
        refine va_get (D := (dC, dI)) (ci := 12) (v := .int (σ_25.1 37)) (C := RX12) (T := TX12) (N := 123) hx hb hts ii_X12 hown hK hP 0 rfl rfl 37 (by decide) (hts (.fieldLink RX12 476 "StoryHouseModel" "vars" "I") wq_1393) (fun _ h9 => h9) rfl dX12_lay_164 ?_
        obtain ⟨σ_27, eσ_27, hF_28⟩ := bnd_e hF_26
        clear hF_26
        refine m_put (σ' := σ_27) (v := .int (σ_25.1 37)) (ty := .int) hx hb hts hown hK hP (hDD _ _) hS (by rw [eσ_27]; exact mwI_80) (k := 80) (by decide) (hts (.fieldLink RX12 606 "StoryHouseModel" "nVars" "I") wq_1436) (fun _ h9 => h9) rfl (by decide +kernel) rfl rfl dX12_lay_167 (fun H locs hP hS => ?_)
        refine lv_aload_n hx hb dX12_lay_170 rfl (lv_at hl 0 rfl) ?_
        refine lv_aload_n hx hb dX12_lay_171 rfl (lv_at hl 0 rfl) ?_
        refine va_get (D := (dC, dI)) (ci := 12) (v := .int (σ_27.1 38)) (C := RX12) (T := TX12) (N := 123) hx hb hts ii_X12 hown hK hP 0 rfl rfl 38 (by decide) (hts (.fieldLink RX12 479 "StoryHouseModel" "arrays" "I") wq_1394) (fun _ h9 => h9) rfl dX12_lay_172 ?_
        obtain ⟨σ_29, eσ_29, hF_30⟩ := bnd_e hF_28
        clear hF_28
        refine m_put (σ' := σ_29) (v := .int (σ_27.1 38)) (ty := .int) hx hb hts hown hK hP (hDD _ _) hS (by rw [eσ_29]; exact mwI_81) (k := 81) (by decide) (hts (.fieldLink RX12 609 "StoryHouseModel" "nArrays" "I") wq_1437) (fun _ h9 => h9) rfl (by decide +kernel) rfl rfl dX12_lay_175 (fun H locs hP hS => ?_)
        refine lv_aload_n hx hb dX12_lay_178 rfl (lv_at hl 0 rfl) ?_
        refine lv_aload_n hx hb dX12_lay_179 rfl (lv_at hl 0 rfl) ?_
        refine va_get (D := (dC, dI)) (ci := 12) (v := .int (σ_29.1 40)) (C := RX12) (T := TX12) (N := 123) hx hb hts ii_X12 hown hK hP 0 rfl rfl 40 (by decide) (hts (.fieldLink RX12 485 "StoryHouseModel" "defs" "I") wq_1396) (fun _ h9 => h9) rfl dX12_lay_180 ?_
        obtain ⟨σ_31, eσ_31, hF_32⟩ := bnd_e hF_30
        clear hF_30
        refine m_put (σ' := σ_31) (v := .int (σ_29.1 40)) (ty := .int) hx hb hts hown hK hP (hDD _ _) hS (by rw [eσ_31]; exact mwI_82) (k := 82) (by decide) (hts (.fieldLink RX12 612 "StoryHouseModel" "nDefs" "I") wq_1438) (fun _ h9 => h9) rfl (by decide +kernel) rfl rfl dX12_lay_183 (fun H locs hP hS => ?_)
        refine lv_aload_n hx hb dX12_lay_186 rfl (lv_at hl 0 rfl) ?_
        refine lv_iconst (v := 0) hx hb dX12_lay_187 (by decide +kernel) ?_
        obtain ⟨σ_33, eσ_33, hF_34⟩ := bnd_e hF_32
        clear hF_32
        refine m_put (σ' := σ_33) (v := .int 0) (ty := .int) hx hb hts hown hK hP (hDD _ _) hS (by rw [eσ_33]; exact mwI_83) (k := 83) (by decide) (hts (.fieldLink RX12 615 "StoryHouseModel" "nOns" "I") wq_1439) (fun _ h9 => h9) rfl (by decide +kernel) rfl rfl dX12_lay_188 (fun H locs hP hS => ?_)
        refine lv_aload_n hx hb dX12_lay_191 rfl (lv_at hl 0 rfl) ?_
        refine lv_iconst (v := 0) hx hb dX12_lay_192 (by decide +kernel) ?_
        obtain ⟨σ_35, eσ_35, hF_36⟩ := bnd_e hF_34
        clear hF_34
        refine m_put (σ' := σ_35) (v := .int 0) (ty := .int) hx hb hts hown hK hP (hDD _ _) hS (by rw [eσ_35]; exact mwI_84) (k := 84) (by decide) (hts (.fieldLink RX12 618 "StoryHouseModel" "nEachs" "I") wq_1440) (fun _ h9 => h9) rfl (by decide +kernel) rfl rfl dX12_lay_193 (fun H locs hP hS => ?_)
        refine lv_aload_n hx hb dX12_lay_196 rfl (lv_at hl 0 rfl) ?_
        refine lv_iconst (v := 0) hx hb dX12_lay_197 (by decide +kernel) ?_
        obtain ⟨σ_37, eσ_37, hF_38⟩ := bnd_e hF_36
        clear hF_36
        refine m_put (σ' := σ_37) (v := .int 0) (ty := .int) hx hb hts hown hK hP (hDD _ _) hS (by rw [eσ_37]; exact mwI_63) (k := 63) (by decide) (hts (.fieldLink RX12 621 "StoryHouseModel" "firstRoom" "I") wq_1419) (fun _ h9 => h9) rfl (by decide +kernel) rfl rfl dX12_lay_198 (fun H locs hP hS => ?_)
        refine lv_iconst (v := 0) hx hb dX12_lay_201 (by decide +kernel) ?_
        refine lv_istore_n (lv' := [(1, .int 0), (0, .ref h)]) hx hb dX12_lay_202 rfl hl (by decide) rfl (fun ls hl => ?_)
        refine loopF_ind (P := fun (s_39 : Int32 × MS) => ∀ (H : Heap) (locs : List Loc), va_P (dC, dI) vwCl (mW cB cI cZ h qK qS ad s_39.2) H → va_S (mCells h ad sz) s.heap H locs → ∀ ls : Array Slot, lv_has ls 3 [(0, .ref h), (1, .int s_39.1)] → W p l e (headSpec (g_ws yX12_lay cX12_lay 3 none) { frames := 7, cells := 0, slots := 0, locals := 176 }).room s m ([.ref h] : List Value).toArray below meth c H locs 0 0 (MQ below (va_Qv (fun (_ : Unit) => True) (fun _ t => va_P (dC, dI) vwCl (mW cB cI cZ h qK qS ad res.2) t.heap) (mCells h ad sz)) ([.ref h] : List Value).toArray s 0 0 (mCells h ad sz)) (F0 m 203 ls [])) ?_ _ _ hF_38 _ _ hP hS ls (lv_sub hl [1, 0] rfl)
        intro again_40 s_39 ih_41 hF_42
        intro H locs hP hS ls hl
        refine lv_iload_n hx hb dX12_lay_203 rfl (lv_at hl 1 rfl) ?_
        refine lv_bipush (v := 121) hx hb dX12_lay_204 (by decide +kernel) ?_
        refine lv_icmp_ge (tgt := 288) hx hb dX12_lay_206 (by decide) (fun c_43 => ?_) (fun c_43 => ?_)
        · have hF_44 := ipos c_43 hF_42
          clear hF_42
          refine lv_aload_n hx hb dX12_lay_288 rfl (lv_at hl 0 rfl) ?_
          refine lv_iconst (v := 1) hx hb dX12_lay_289 (by decide +kernel) ?_
          obtain ⟨q_45, vq_45, hRq_45, hSq_45⟩ := hE.2.2.2.2 _ (List.mem_of_getElem? (i := 80) rfl)
          refine g_ldcwS (own := RX12) (tx := "look") hx hb hown hRq_45 dX12_lay_290 ?_
          obtain ⟨q_46, vq_46, hRq_46, hSq_46⟩ := hE.2.2.2.2 _ (List.mem_of_getElem? (i := 90) rfl)
          refine g_ldcwS (own := RX12) (tx := "l") hx hb hown hRq_46 dX12_lay_293 ?_
          obtain ⟨q_47, vq_47, hRq_47, hSq_47⟩ := hE.2.2.2.2 _ (List.mem_of_getElem? (i := 91) rfl)
          refine g_ldcwS (own := RX12) (tx := "") hx hb hown hRq_47 dX12_lay_296 ?_
          refine lv_iconst (v := 0) hx hb dX12_lay_299 (by decide +kernel) ?_
          obtain ⟨q_48, vq_48, hRq_48, hSq_48⟩ := hE.2.2.2.2 _ (List.mem_of_getElem? (i := 91) rfl)
          refine g_ldcwS (own := RX12) (tx := "") hx hb hown hRq_48 dX12_lay_300 ?_
          obtain ⟨u_49, hu_49, hF_50⟩ := Option.bind_eq_some_iff.mp hF_44
          clear hF_44
          refine m_cv hsz hS (va_runV (As := [.int 1, .ref q_45, .ref q_46, .ref q_47, .int 0, .ref q_48]) (rest := []) ⟨hx, hb, hml, hown, hts⟩ (m_X12_ownVerb l dC dI cB cC cI cJ cZ cP h qK qS ad hDD H.size q_45 _ q_46 _ q_47 _ q_48 _ 1 ([108, 111, 111, 107] : List Int32) ([108] : List Int32) ([] : List Int32) 0 ([] : List Int32) s_39.2 _ hu_49) (cwV 6 hts (g_gV wq_1723 wq_1724 wq_2186 wq_13 wq_1725) rfl rfl rfl (by decide +kernel) ⟨Nat.le_of_ble_eq_true rfl, Nat.le_of_ble_eq_true rfl⟩) (m_preV (g_blAnd g_blS (g_blAnd g_blS (g_blAnd g_blS g_blS))) hsz hK hP hS hE hKS (g_toAnd (g_toS hSq_45 hS (m_narrow hS hsz)) (g_toAnd (g_toS hSq_46 hS (m_narrow hS hsz)) (g_toAnd (g_toS hSq_47 hS (m_narrow hS hsz)) (g_toS hSq_48 hS (m_narrow hS hsz)))))) rfl rfl hl.1 rfl (lv_room (Nat.le_of_ble_eq_true rfl)) dX12_lay_303 ⟨Nat.le_of_ble_eq_true rfl, Nat.le_of_ble_eq_true rfl⟩) (fun H locs hP hS => ?_)
          refine lv_aload_n hx hb dX12_lay_306 rfl (lv_at hl 0 rfl) ?_
          refine lv_iconst (v := 2) hx hb dX12_lay_307 (by decide +kernel) ?_
          obtain ⟨q_51, vq_51, hRq_51, hSq_51⟩ := hE.2.2.2.2 _ (List.mem_of_getElem? (i := 81) rfl)
          refine g_ldcwS (own := RX12) (tx := "inventory") hx hb hown hRq_51 dX12_lay_308 ?_
          obtain ⟨q_52, vq_52, hRq_52, hSq_52⟩ := hE.2.2.2.2 _ (List.mem_of_getElem? (i := 92) rfl)
          refine g_ldcwS (own := RX12) (tx := "i") hx hb hown hRq_52 dX12_lay_311 ?_
          obtain ⟨q_53, vq_53, hRq_53, hSq_53⟩ := hE.2.2.2.2 _ (List.mem_of_getElem? (i := 91) rfl)
          refine g_ldcwS (own := RX12) (tx := "") hx hb hown hRq_53 dX12_lay_314 ?_
          refine lv_iconst (v := 0) hx hb dX12_lay_317 (by decide +kernel) ?_
          obtain ⟨q_54, vq_54, hRq_54, hSq_54⟩ := hE.2.2.2.2 _ (List.mem_of_getElem? (i := 91) rfl)
          refine g_ldcwS (own := RX12) (tx := "") hx hb hown hRq_54 dX12_lay_318 ?_
          obtain ⟨u_55, hu_55, hF_56⟩ := Option.bind_eq_some_iff.mp hF_50
          clear hF_50
          refine m_cv hsz hS (va_runV (As := [.int 2, .ref q_51, .ref q_52, .ref q_53, .int 0, .ref q_54]) (rest := []) ⟨hx, hb, hml, hown, hts⟩ (m_X12_ownVerb l dC dI cB cC cI cJ cZ cP h qK qS ad hDD H.size q_51 _ q_52 _ q_53 _ q_54 _ 2 ([105, 110, 118, 101, 110, 116, 111, 114, 121] : List Int32) ([105] : List Int32) ([] : List Int32) 0 ([] : List Int32) u_49.2 _ hu_55) (cwV 6 hts (g_gV wq_1723 wq_1724 wq_2186 wq_13 wq_1725) rfl rfl rfl (by decide +kernel) ⟨Nat.le_of_ble_eq_true rfl, Nat.le_of_ble_eq_true rfl⟩) (m_preV (g_blAnd g_blS (g_blAnd g_blS (g_blAnd g_blS g_blS))) hsz hK hP hS hE hKS (g_toAnd (g_toS hSq_51 hS (m_narrow hS hsz)) (g_toAnd (g_toS hSq_52 hS (m_narrow hS hsz)) (g_toAnd (g_toS hSq_53 hS (m_narrow hS hsz)) (g_toS hSq_54 hS (m_narrow hS hsz)))))) rfl rfl hl.1 rfl (lv_room (Nat.le_of_ble_eq_true rfl)) dX12_lay_321 ⟨Nat.le_of_ble_eq_true rfl, Nat.le_of_ble_eq_true rfl⟩) (fun H locs hP hS => ?_)
          refine lv_aload_n hx hb dX12_lay_324 rfl (lv_at hl 0 rfl) ?_
          refine lv_iconst (v := 3) hx hb dX12_lay_325 (by decide +kernel) ?_
          obtain ⟨q_57, vq_57, hRq_57, hSq_57⟩ := hE.2.2.2.2 _ (List.mem_of_getElem? (i := 82) rfl)
          refine g_ldcwS (own := RX12) (tx := "wait") hx hb hown hRq_57 dX12_lay_326 ?_
          obtain ⟨q_58, vq_58, hRq_58, hSq_58⟩ := hE.2.2.2.2 _ (List.mem_of_getElem? (i := 93) rfl)
          refine g_ldcwS (own := RX12) (tx := "z") hx hb hown hRq_58 dX12_lay_329 ?_
          obtain ⟨q_59, vq_59, hRq_59, hSq_59⟩ := hE.2.2.2.2 _ (List.mem_of_getElem? (i := 91) rfl)
          refine g_ldcwS (own := RX12) (tx := "") hx hb hown hRq_59 dX12_lay_332 ?_
          refine lv_iconst (v := 0) hx hb dX12_lay_335 (by decide +kernel) ?_
          obtain ⟨q_60, vq_60, hRq_60, hSq_60⟩ := hE.2.2.2.2 _ (List.mem_of_getElem? (i := 91) rfl)
          refine g_ldcwS (own := RX12) (tx := "") hx hb hown hRq_60 dX12_lay_336 ?_
          obtain ⟨u_61, hu_61, hF_62⟩ := Option.bind_eq_some_iff.mp hF_56
          clear hF_56
          refine m_cv hsz hS (va_runV (As := [.int 3, .ref q_57, .ref q_58, .ref q_59, .int 0, .ref q_60]) (rest := []) ⟨hx, hb, hml, hown, hts⟩ (m_X12_ownVerb l dC dI cB cC cI cJ cZ cP h qK qS ad hDD H.size q_57 _ q_58 _ q_59 _ q_60 _ 3 ([119, 97, 105, 116] : List Int32) ([122] : List Int32) ([] : List Int32) 0 ([] : List Int32) u_55.2 _ hu_61) (cwV 6 hts (g_gV wq_1723 wq_1724 wq_2186 wq_13 wq_1725) rfl rfl rfl (by decide +kernel) ⟨Nat.le_of_ble_eq_true rfl, Nat.le_of_ble_eq_true rfl⟩) (m_preV (g_blAnd g_blS (g_blAnd g_blS (g_blAnd g_blS g_blS))) hsz hK hP hS hE hKS (g_toAnd (g_toS hSq_57 hS (m_narrow hS hsz)) (g_toAnd (g_toS hSq_58 hS (m_narrow hS hsz)) (g_toAnd (g_toS hSq_59 hS (m_narrow hS hsz)) (g_toS hSq_60 hS (m_narrow hS hsz)))))) rfl rfl hl.1 rfl (lv_room (Nat.le_of_ble_eq_true rfl)) dX12_lay_339 ⟨Nat.le_of_ble_eq_true rfl, Nat.le_of_ble_eq_true rfl⟩) (fun H locs hP hS => ?_)
          refine lv_aload_n hx hb dX12_lay_342 rfl (lv_at hl 0 rfl) ?_
          refine lv_iconst (v := 4) hx hb dX12_lay_343 (by decide +kernel) ?_
          obtain ⟨q_63, vq_63, hRq_63, hSq_63⟩ := hE.2.2.2.2 _ (List.mem_of_getElem? (i := 83) rfl)
          refine g_ldcwS (own := RX12) (tx := "take") hx hb hown hRq_63 dX12_lay_344 ?_
          obtain ⟨q_64, vq_64, hRq_64, hSq_64⟩ := hE.2.2.2.2 _ (List.mem_of_getElem? (i := 94) rfl)
          refine g_ldcwS (own := RX12) (tx := "get") hx hb hown hRq_64 dX12_lay_347 ?_
          obtain ⟨q_65, vq_65, hRq_65, hSq_65⟩ := hE.2.2.2.2 _ (List.mem_of_getElem? (i := 91) rfl)
          refine g_ldcwS (own := RX12) (tx := "") hx hb hown hRq_65 dX12_lay_350 ?_
          refine lv_iconst (v := 1) hx hb dX12_lay_353 (by decide +kernel) ?_
          obtain ⟨q_66, vq_66, hRq_66, hSq_66⟩ := hE.2.2.2.2 _ (List.mem_of_getElem? (i := 91) rfl)
          refine g_ldcwS (own := RX12) (tx := "") hx hb hown hRq_66 dX12_lay_354 ?_
          obtain ⟨u_67, hu_67, hF_68⟩ := Option.bind_eq_some_iff.mp hF_62
          clear hF_62
          refine m_cv hsz hS (va_runV (As := [.int 4, .ref q_63, .ref q_64, .ref q_65, .int 1, .ref q_66]) (rest := []) ⟨hx, hb, hml, hown, hts⟩ (m_X12_ownVerb l dC dI cB cC cI cJ cZ cP h qK qS ad hDD H.size q_63 _ q_64 _ q_65 _ q_66 _ 4 ([116, 97, 107, 101] : List Int32) ([103, 101, 116] : List Int32) ([] : List Int32) 1 ([] : List Int32) u_61.2 _ hu_67) (cwV 6 hts (g_gV wq_1723 wq_1724 wq_2186 wq_13 wq_1725) rfl rfl rfl (by decide +kernel) ⟨Nat.le_of_ble_eq_true rfl, Nat.le_of_ble_eq_true rfl⟩) (m_preV (g_blAnd g_blS (g_blAnd g_blS (g_blAnd g_blS g_blS))) hsz hK hP hS hE hKS (g_toAnd (g_toS hSq_63 hS (m_narrow hS hsz)) (g_toAnd (g_toS hSq_64 hS (m_narrow hS hsz)) (g_toAnd (g_toS hSq_65 hS (m_narrow hS hsz)) (g_toS hSq_66 hS (m_narrow hS hsz)))))) rfl rfl hl.1 rfl (lv_room (Nat.le_of_ble_eq_true rfl)) dX12_lay_357 ⟨Nat.le_of_ble_eq_true rfl, Nat.le_of_ble_eq_true rfl⟩) (fun H locs hP hS => ?_)
          refine lv_aload_n hx hb dX12_lay_360 rfl (lv_at hl 0 rfl) ?_
          refine lv_iconst (v := 5) hx hb dX12_lay_361 (by decide +kernel) ?_
          obtain ⟨q_69, vq_69, hRq_69, hSq_69⟩ := hE.2.2.2.2 _ (List.mem_of_getElem? (i := 84) rfl)
          refine g_ldcwS (own := RX12) (tx := "drop") hx hb hown hRq_69 dX12_lay_362 ?_
          obtain ⟨q_70, vq_70, hRq_70, hSq_70⟩ := hE.2.2.2.2 _ (List.mem_of_getElem? (i := 91) rfl)
          refine g_ldcwS (own := RX12) (tx := "") hx hb hown hRq_70 dX12_lay_365 ?_
          obtain ⟨q_71, vq_71, hRq_71, hSq_71⟩ := hE.2.2.2.2 _ (List.mem_of_getElem? (i := 91) rfl)
          refine g_ldcwS (own := RX12) (tx := "") hx hb hown hRq_71 dX12_lay_368 ?_
          refine lv_iconst (v := 1) hx hb dX12_lay_371 (by decide +kernel) ?_
          obtain ⟨q_72, vq_72, hRq_72, hSq_72⟩ := hE.2.2.2.2 _ (List.mem_of_getElem? (i := 91) rfl)
          refine g_ldcwS (own := RX12) (tx := "") hx hb hown hRq_72 dX12_lay_372 ?_
          obtain ⟨u_73, hu_73, hF_74⟩ := Option.bind_eq_some_iff.mp hF_68
          clear hF_68
          refine m_cv hsz hS (va_runV (As := [.int 5, .ref q_69, .ref q_70, .ref q_71, .int 1, .ref q_72]) (rest := []) ⟨hx, hb, hml, hown, hts⟩ (m_X12_ownVerb l dC dI cB cC cI cJ cZ cP h qK qS ad hDD H.size q_69 _ q_70 _ q_71 _ q_72 _ 5 ([100, 114, 111, 112] : List Int32) ([] : List Int32) ([] : List Int32) 1 ([] : List Int32) u_67.2 _ hu_73) (cwV 6 hts (g_gV wq_1723 wq_1724 wq_2186 wq_13 wq_1725) rfl rfl rfl (by decide +kernel) ⟨Nat.le_of_ble_eq_true rfl, Nat.le_of_ble_eq_true rfl⟩) (m_preV (g_blAnd g_blS (g_blAnd g_blS (g_blAnd g_blS g_blS))) hsz hK hP hS hE hKS (g_toAnd (g_toS hSq_69 hS (m_narrow hS hsz)) (g_toAnd (g_toS hSq_70 hS (m_narrow hS hsz)) (g_toAnd (g_toS hSq_71 hS (m_narrow hS hsz)) (g_toS hSq_72 hS (m_narrow hS hsz)))))) rfl rfl hl.1 rfl (lv_room (Nat.le_of_ble_eq_true rfl)) dX12_lay_375 ⟨Nat.le_of_ble_eq_true rfl, Nat.le_of_ble_eq_true rfl⟩) (fun H locs hP hS => ?_)
          refine lv_aload_n hx hb dX12_lay_378 rfl (lv_at hl 0 rfl) ?_
          refine lv_bipush (v := 6) hx hb dX12_lay_379 (by decide +kernel) ?_
          obtain ⟨q_75, vq_75, hRq_75, hSq_75⟩ := hE.2.2.2.2 _ (List.mem_of_getElem? (i := 85) rfl)
          refine g_ldcwS (own := RX12) (tx := "examine") hx hb hown hRq_75 dX12_lay_381 ?_
          obtain ⟨q_76, vq_76, hRq_76, hSq_76⟩ := hE.2.2.2.2 _ (List.mem_of_getElem? (i := 95) rfl)
          refine g_ldcwS (own := RX12) (tx := "x") hx hb hown hRq_76 dX12_lay_384 ?_
          obtain ⟨q_77, vq_77, hRq_77, hSq_77⟩ := hE.2.2.2.2 _ (List.mem_of_getElem? (i := 91) rfl)
          refine g_ldcwS (own := RX12) (tx := "") hx hb hown hRq_77 dX12_lay_387 ?_
          refine lv_iconst (v := 1) hx hb dX12_lay_390 (by decide +kernel) ?_
          obtain ⟨q_78, vq_78, hRq_78, hSq_78⟩ := hE.2.2.2.2 _ (List.mem_of_getElem? (i := 91) rfl)
          refine g_ldcwS (own := RX12) (tx := "") hx hb hown hRq_78 dX12_lay_391 ?_
          obtain ⟨u_79, hu_79, hF_80⟩ := Option.bind_eq_some_iff.mp hF_74
          clear hF_74
          refine m_cv hsz hS (va_runV (As := [.int 6, .ref q_75, .ref q_76, .ref q_77, .int 1, .ref q_78]) (rest := []) ⟨hx, hb, hml, hown, hts⟩ (m_X12_ownVerb l dC dI cB cC cI cJ cZ cP h qK qS ad hDD H.size q_75 _ q_76 _ q_77 _ q_78 _ 6 ([101, 120, 97, 109, 105, 110, 101] : List Int32) ([120] : List Int32) ([] : List Int32) 1 ([] : List Int32) u_73.2 _ hu_79) (cwV 6 hts (g_gV wq_1723 wq_1724 wq_2186 wq_13 wq_1725) rfl rfl rfl (by decide +kernel) ⟨Nat.le_of_ble_eq_true rfl, Nat.le_of_ble_eq_true rfl⟩) (m_preV (g_blAnd g_blS (g_blAnd g_blS (g_blAnd g_blS g_blS))) hsz hK hP hS hE hKS (g_toAnd (g_toS hSq_75 hS (m_narrow hS hsz)) (g_toAnd (g_toS hSq_76 hS (m_narrow hS hsz)) (g_toAnd (g_toS hSq_77 hS (m_narrow hS hsz)) (g_toS hSq_78 hS (m_narrow hS hsz)))))) rfl rfl hl.1 rfl (lv_room (Nat.le_of_ble_eq_true rfl)) dX12_lay_394 ⟨Nat.le_of_ble_eq_true rfl, Nat.le_of_ble_eq_true rfl⟩) (fun H locs hP hS => ?_)
          refine lv_aload_n hx hb dX12_lay_397 rfl (lv_at hl 0 rfl) ?_
          refine lv_bipush (v := 7) hx hb dX12_lay_398 (by decide +kernel) ?_
          obtain ⟨q_81, vq_81, hRq_81, hSq_81⟩ := hE.2.2.2.2 _ (List.mem_of_getElem? (i := 96) rfl)
          refine g_ldcwS (own := RX12) (tx := "open") hx hb hown hRq_81 dX12_lay_400 ?_
          obtain ⟨q_82, vq_82, hRq_82, hSq_82⟩ := hE.2.2.2.2 _ (List.mem_of_getElem? (i := 91) rfl)
          refine g_ldcwS (own := RX12) (tx := "") hx hb hown hRq_82 dX12_lay_403 ?_
          obtain ⟨q_83, vq_83, hRq_83, hSq_83⟩ := hE.2.2.2.2 _ (List.mem_of_getElem? (i := 91) rfl)
          refine g_ldcwS (own := RX12) (tx := "") hx hb hown hRq_83 dX12_lay_406 ?_
          refine lv_iconst (v := 1) hx hb dX12_lay_409 (by decide +kernel) ?_
          obtain ⟨q_84, vq_84, hRq_84, hSq_84⟩ := hE.2.2.2.2 _ (List.mem_of_getElem? (i := 91) rfl)
          refine g_ldcwS (own := RX12) (tx := "") hx hb hown hRq_84 dX12_lay_410 ?_
          obtain ⟨u_85, hu_85, hF_86⟩ := Option.bind_eq_some_iff.mp hF_80
          clear hF_80
          refine m_cv hsz hS (va_runV (As := [.int 7, .ref q_81, .ref q_82, .ref q_83, .int 1, .ref q_84]) (rest := []) ⟨hx, hb, hml, hown, hts⟩ (m_X12_ownVerb l dC dI cB cC cI cJ cZ cP h qK qS ad hDD H.size q_81 _ q_82 _ q_83 _ q_84 _ 7 ([111, 112, 101, 110] : List Int32) ([] : List Int32) ([] : List Int32) 1 ([] : List Int32) u_79.2 _ hu_85) (cwV 6 hts (g_gV wq_1723 wq_1724 wq_2186 wq_13 wq_1725) rfl rfl rfl (by decide +kernel) ⟨Nat.le_of_ble_eq_true rfl, Nat.le_of_ble_eq_true rfl⟩) (m_preV (g_blAnd g_blS (g_blAnd g_blS (g_blAnd g_blS g_blS))) hsz hK hP hS hE hKS (g_toAnd (g_toS hSq_81 hS (m_narrow hS hsz)) (g_toAnd (g_toS hSq_82 hS (m_narrow hS hsz)) (g_toAnd (g_toS hSq_83 hS (m_narrow hS hsz)) (g_toS hSq_84 hS (m_narrow hS hsz)))))) rfl rfl hl.1 rfl (lv_room (Nat.le_of_ble_eq_true rfl)) dX12_lay_413 ⟨Nat.le_of_ble_eq_true rfl, Nat.le_of_ble_eq_true rfl⟩) (fun H locs hP hS => ?_)
          refine lv_aload_n hx hb dX12_lay_416 rfl (lv_at hl 0 rfl) ?_
          refine lv_bipush (v := 8) hx hb dX12_lay_417 (by decide +kernel) ?_
          obtain ⟨q_87, vq_87, hRq_87, hSq_87⟩ := hE.2.2.2.2 _ (List.mem_of_getElem? (i := 86) rfl)
          refine g_ldcwS (own := RX12) (tx := "close") hx hb hown hRq_87 dX12_lay_419 ?_
          obtain ⟨q_88, vq_88, hRq_88, hSq_88⟩ := hE.2.2.2.2 _ (List.mem_of_getElem? (i := 91) rfl)
          refine g_ldcwS (own := RX12) (tx := "") hx hb hown hRq_88 dX12_lay_422 ?_
          obtain ⟨q_89, vq_89, hRq_89, hSq_89⟩ := hE.2.2.2.2 _ (List.mem_of_getElem? (i := 91) rfl)
          refine g_ldcwS (own := RX12) (tx := "") hx hb hown hRq_89 dX12_lay_425 ?_
          refine lv_iconst (v := 1) hx hb dX12_lay_428 (by decide +kernel) ?_
          obtain ⟨q_90, vq_90, hRq_90, hSq_90⟩ := hE.2.2.2.2 _ (List.mem_of_getElem? (i := 91) rfl)
          refine g_ldcwS (own := RX12) (tx := "") hx hb hown hRq_90 dX12_lay_429 ?_
          obtain ⟨u_91, hu_91, hF_92⟩ := Option.bind_eq_some_iff.mp hF_86
          clear hF_86
          refine m_cv hsz hS (va_runV (As := [.int 8, .ref q_87, .ref q_88, .ref q_89, .int 1, .ref q_90]) (rest := []) ⟨hx, hb, hml, hown, hts⟩ (m_X12_ownVerb l dC dI cB cC cI cJ cZ cP h qK qS ad hDD H.size q_87 _ q_88 _ q_89 _ q_90 _ 8 ([99, 108, 111, 115, 101] : List Int32) ([] : List Int32) ([] : List Int32) 1 ([] : List Int32) u_85.2 _ hu_91) (cwV 6 hts (g_gV wq_1723 wq_1724 wq_2186 wq_13 wq_1725) rfl rfl rfl (by decide +kernel) ⟨Nat.le_of_ble_eq_true rfl, Nat.le_of_ble_eq_true rfl⟩) (m_preV (g_blAnd g_blS (g_blAnd g_blS (g_blAnd g_blS g_blS))) hsz hK hP hS hE hKS (g_toAnd (g_toS hSq_87 hS (m_narrow hS hsz)) (g_toAnd (g_toS hSq_88 hS (m_narrow hS hsz)) (g_toAnd (g_toS hSq_89 hS (m_narrow hS hsz)) (g_toS hSq_90 hS (m_narrow hS hsz)))))) rfl rfl hl.1 rfl (lv_room (Nat.le_of_ble_eq_true rfl)) dX12_lay_432 ⟨Nat.le_of_ble_eq_true rfl, Nat.le_of_ble_eq_true rfl⟩) (fun H locs hP hS => ?_)
          refine lv_aload_n hx hb dX12_lay_435 rfl (lv_at hl 0 rfl) ?_
          refine lv_bipush (v := 9) hx hb dX12_lay_436 (by decide +kernel) ?_
          obtain ⟨q_93, vq_93, hRq_93, hSq_93⟩ := hE.2.2.2.2 _ (List.mem_of_getElem? (i := 97) rfl)
          refine g_ldcwS (own := RX12) (tx := "put") hx hb hown hRq_93 dX12_lay_438 ?_
          obtain ⟨q_94, vq_94, hRq_94, hSq_94⟩ := hE.2.2.2.2 _ (List.mem_of_getElem? (i := 91) rfl)
          refine g_ldcwS (own := RX12) (tx := "") hx hb hown hRq_94 dX12_lay_441 ?_
          obtain ⟨q_95, vq_95, hRq_95, hSq_95⟩ := hE.2.2.2.2 _ (List.mem_of_getElem? (i := 91) rfl)
          refine g_ldcwS (own := RX12) (tx := "") hx hb hown hRq_95 dX12_lay_444 ?_
          refine lv_iconst (v := 2) hx hb dX12_lay_447 (by decide +kernel) ?_
          obtain ⟨q_96, vq_96, hRq_96, hSq_96⟩ := hE.2.2.2.2 _ (List.mem_of_getElem? (i := 98) rfl)
          refine g_ldcwS (own := RX12) (tx := "in") hx hb hown hRq_96 dX12_lay_448 ?_
          obtain ⟨u_97, hu_97, hF_98⟩ := Option.bind_eq_some_iff.mp hF_92
          clear hF_92
          refine m_cv hsz hS (va_runV (As := [.int 9, .ref q_93, .ref q_94, .ref q_95, .int 2, .ref q_96]) (rest := []) ⟨hx, hb, hml, hown, hts⟩ (m_X12_ownVerb l dC dI cB cC cI cJ cZ cP h qK qS ad hDD H.size q_93 _ q_94 _ q_95 _ q_96 _ 9 ([112, 117, 116] : List Int32) ([] : List Int32) ([] : List Int32) 2 ([105, 110] : List Int32) u_91.2 _ hu_97) (cwV 6 hts (g_gV wq_1723 wq_1724 wq_2186 wq_13 wq_1725) rfl rfl rfl (by decide +kernel) ⟨Nat.le_of_ble_eq_true rfl, Nat.le_of_ble_eq_true rfl⟩) (m_preV (g_blAnd g_blS (g_blAnd g_blS (g_blAnd g_blS g_blS))) hsz hK hP hS hE hKS (g_toAnd (g_toS hSq_93 hS (m_narrow hS hsz)) (g_toAnd (g_toS hSq_94 hS (m_narrow hS hsz)) (g_toAnd (g_toS hSq_95 hS (m_narrow hS hsz)) (g_toS hSq_96 hS (m_narrow hS hsz)))))) rfl rfl hl.1 rfl (lv_room (Nat.le_of_ble_eq_true rfl)) dX12_lay_451 ⟨Nat.le_of_ble_eq_true rfl, Nat.le_of_ble_eq_true rfl⟩) (fun H locs hP hS => ?_)
          refine lv_aload_n hx hb dX12_lay_454 rfl (lv_at hl 0 rfl) ?_
          refine lv_bipush (v := 10) hx hb dX12_lay_455 (by decide +kernel) ?_
          obtain ⟨q_99, vq_99, hRq_99, hSq_99⟩ := hE.2.2.2.2 _ (List.mem_of_getElem? (i := 97) rfl)
          refine g_ldcwS (own := RX12) (tx := "put") hx hb hown hRq_99 dX12_lay_457 ?_
          obtain ⟨q_100, vq_100, hRq_100, hSq_100⟩ := hE.2.2.2.2 _ (List.mem_of_getElem? (i := 91) rfl)
          refine g_ldcwS (own := RX12) (tx := "") hx hb hown hRq_100 dX12_lay_460 ?_
          obtain ⟨q_101, vq_101, hRq_101, hSq_101⟩ := hE.2.2.2.2 _ (List.mem_of_getElem? (i := 91) rfl)
          refine g_ldcwS (own := RX12) (tx := "") hx hb hown hRq_101 dX12_lay_463 ?_
          refine lv_iconst (v := 2) hx hb dX12_lay_466 (by decide +kernel) ?_
          obtain ⟨q_102, vq_102, hRq_102, hSq_102⟩ := hE.2.2.2.2 _ (List.mem_of_getElem? (i := 99) rfl)
          refine g_ldcwS (own := RX12) (tx := "on") hx hb hown hRq_102 dX12_lay_467 ?_
          obtain ⟨u_103, hu_103, hF_104⟩ := Option.bind_eq_some_iff.mp hF_98
          clear hF_98
          refine m_cv hsz hS (va_runV (As := [.int 10, .ref q_99, .ref q_100, .ref q_101, .int 2, .ref q_102]) (rest := []) ⟨hx, hb, hml, hown, hts⟩ (m_X12_ownVerb l dC dI cB cC cI cJ cZ cP h qK qS ad hDD H.size q_99 _ q_100 _ q_101 _ q_102 _ 10 ([112, 117, 116] : List Int32) ([] : List Int32) ([] : List Int32) 2 ([111, 110] : List Int32) u_97.2 _ hu_103) (cwV 6 hts (g_gV wq_1723 wq_1724 wq_2186 wq_13 wq_1725) rfl rfl rfl (by decide +kernel) ⟨Nat.le_of_ble_eq_true rfl, Nat.le_of_ble_eq_true rfl⟩) (m_preV (g_blAnd g_blS (g_blAnd g_blS (g_blAnd g_blS g_blS))) hsz hK hP hS hE hKS (g_toAnd (g_toS hSq_99 hS (m_narrow hS hsz)) (g_toAnd (g_toS hSq_100 hS (m_narrow hS hsz)) (g_toAnd (g_toS hSq_101 hS (m_narrow hS hsz)) (g_toS hSq_102 hS (m_narrow hS hsz)))))) rfl rfl hl.1 rfl (lv_room (Nat.le_of_ble_eq_true rfl)) dX12_lay_470 ⟨Nat.le_of_ble_eq_true rfl, Nat.le_of_ble_eq_true rfl⟩) (fun H locs hP hS => ?_)
          refine lv_aload_n hx hb dX12_lay_473 rfl (lv_at hl 0 rfl) ?_
          refine va_get (D := (dC, dI)) (ci := 12) (v := .ref (ad 59)) (C := RX12) (T := TX12) (N := 123) hx hb hts ii_X12 hown hK hP 0 rfl rfl 59 (by decide) (hts (.fieldLink RX12 125 "StoryHouseModel" "verbWords" "[I") wq_1415) (fun _ h9 => h9) rfl dX12_lay_474 ?_
          refine lv_bipush (v := 11) hx hb dX12_lay_477 (by decide +kernel) ?_
          refine lv_iconst (v := 0) hx hb dX12_lay_479 (by decide +kernel) ?_
          obtain ⟨σ_105, eσ_105, hF_106⟩ := bnd_e hF_104
          clear hF_104
          refine m_iast (σ' := σ_105) hx hb hK hP (hDD _ _) hS (q0 := 33) (t0 := 2) (f := u_103.2.2 59) rfl rfl (by rw [eσ_105]; exact mwA_59) (vp_in_iff.mpr (by decide +kernel)) dX12_lay_480 (fun H locs hP hS => ?_)
          refine lv_aload_n hx hb dX12_lay_481 rfl (lv_at hl 0 rfl) ?_
          refine va_get (D := (dC, dI)) (ci := 12) (v := .ref (ad 60)) (C := RX12) (T := TX12) (N := 123) hx hb hts ii_X12 hown hK hP 0 rfl rfl 60 (by decide) (hts (.fieldLink RX12 128 "StoryHouseModel" "forms" "[I") wq_1416) (fun _ h9 => h9) rfl dX12_lay_482 ?_
          refine lv_bipush (v := 11) hx hb dX12_lay_485 (by decide +kernel) ?_
          refine lv_iconst (v := (-1)) hx hb dX12_lay_487 (by decide +kernel) ?_
          obtain ⟨σ_107, eσ_107, hF_108⟩ := bnd_e hF_106
          clear hF_106
          refine m_iast (σ' := σ_107) hx hb hK hP (hDD _ _) hS (q0 := 34) (t0 := 2) (f := σ_105.2 60) rfl rfl (by rw [eσ_107]; exact mwA_60) (vp_in_iff.mpr (by decide +kernel)) dX12_lay_488 (fun H locs hP hS => ?_)
          refine lv_aload_n hx hb dX12_lay_489 rfl (lv_at hl 0 rfl) ?_
          refine va_get (D := (dC, dI)) (ci := 12) (v := .ref (ad 54)) (C := RX12) (T := TX12) (N := 123) hx hb hts ii_X12 hown hK hP 0 rfl rfl 54 (by decide) (hts (.fieldLink RX12 110 "StoryHouseModel" "wordBytes" "[B") wq_1410) (fun _ h9 => h9) rfl dX12_lay_490 ?_
          refine lv_bipush (v := 90) hx hb dX12_lay_493 (by decide +kernel) ?_
          refine lv_bipush (v := 109) hx hb dX12_lay_495 (by decide +kernel) ?_
          obtain ⟨σ_109, eσ_109, hF_110⟩ := bnd_e hF_108
          clear hF_108
          refine m_bast (σ' := σ_109) hx hb hK hP (hDD _ _) hS (q0 := 28) (t0 := 0) (f := σ_107.2 54) rfl rfl (by rw [eσ_109]; exact mwA_54) (vp_in_iff.mpr (by decide +kernel)) dX12_lay_497 (fun H locs hP hS => ?_)
          refine lv_aload_n hx hb dX12_lay_498 rfl (lv_at hl 0 rfl) ?_
          refine va_get (D := (dC, dI)) (ci := 12) (v := .ref (ad 54)) (C := RX12) (T := TX12) (N := 123) hx hb hts ii_X12 hown hK hP 0 rfl rfl 54 (by decide) (hts (.fieldLink RX12 110 "StoryHouseModel" "wordBytes" "[B") wq_1410) (fun _ h9 => h9) rfl dX12_lay_499 ?_
          refine lv_bipush (v := 91) hx hb dX12_lay_502 (by decide +kernel) ?_
          refine lv_bipush (v := 101) hx hb dX12_lay_504 (by decide +kernel) ?_
          obtain ⟨σ_111, eσ_111, hF_112⟩ := bnd_e hF_110
          clear hF_110
          refine m_bast (σ' := σ_111) hx hb hK hP (hDD _ _) hS (q0 := 28) (t0 := 0) (f := σ_109.2 54) rfl rfl (by rw [eσ_111]; exact mwA_54) (vp_in_iff.mpr (by decide +kernel)) dX12_lay_506 (fun H locs hP hS => ?_)
          refine lv_aload_n hx hb dX12_lay_507 rfl (lv_at hl 0 rfl) ?_
          refine va_get (D := (dC, dI)) (ci := 12) (v := .ref (ad 55)) (C := RX12) (T := TX12) (N := 123) hx hb hts ii_X12 hown hK hP 0 rfl rfl 55 (by decide) (hts (.fieldLink RX12 113 "StoryHouseModel" "wordSize" "[I") wq_1411) (fun _ h9 => h9) rfl dX12_lay_508 ?_
          refine lv_bipush (v := 10) hx hb dX12_lay_511 (by decide +kernel) ?_
          refine lv_iconst (v := 2) hx hb dX12_lay_513 (by decide +kernel) ?_
          obtain ⟨σ_113, eσ_113, hF_114⟩ := bnd_e hF_112
          clear hF_112
          refine m_iast (σ' := σ_113) hx hb hK hP (hDD _ _) hS (q0 := 29) (t0 := 2) (f := σ_111.2 55) rfl rfl (by rw [eσ_113]; exact mwA_55) (vp_in_iff.mpr (by decide +kernel)) dX12_lay_514 (fun H locs hP hS => ?_)
          refine lv_aload_n hx hb dX12_lay_515 rfl (lv_at hl 0 rfl) ?_
          refine va_get (D := (dC, dI)) (ci := 12) (v := .ref (ad 56)) (C := RX12) (T := TX12) (N := 123) hx hb hts ii_X12 hown hK hP 0 rfl rfl 56 (by decide) (hts (.fieldLink RX12 116 "StoryHouseModel" "wordCount" "[I") wq_1412) (fun _ h9 => h9) rfl dX12_lay_516 ?_
          refine lv_iconst (v := 1) hx hb dX12_lay_519 (by decide +kernel) ?_
          refine lv_iconst (v := 1) hx hb dX12_lay_520 (by decide +kernel) ?_
          obtain ⟨σ_115, eσ_115, hF_116⟩ := bnd_e hF_114
          clear hF_114
          refine m_iast (σ' := σ_115) hx hb hK hP (hDD _ _) hS (q0 := 30) (t0 := 2) (f := σ_113.2 56) rfl rfl (by rw [eσ_115]; exact mwA_56) (vp_in_iff.mpr (by decide +kernel)) dX12_lay_521 (fun H locs hP hS => ?_)
          refine lv_aload_n hx hb dX12_lay_522 rfl (lv_at hl 0 rfl) ?_
          refine va_get (D := (dC, dI)) (ci := 12) (v := .int (σ_115.1 24)) (C := RX12) (T := TX12) (N := 123) hx hb hts ii_X12 hown hK hP 0 rfl rfl 24 (by decide) (hts (.fieldLink RX12 352 "StoryHouseModel" "items" "I") wq_1380) (fun _ h9 => h9) rfl dX12_lay_523 ?_
          obtain ⟨x_117, ex_117, hF_118⟩ := bnd_e hF_116
          clear hF_116
          refine m_top ex_117 ?_
          refine lv_istore_n (lv' := [(1, .int x_117), (0, .ref h)]) hx hb dX12_lay_526 rfl hl (by decide) rfl (fun ls hl => ?_)
          refine loopF_ind (P := fun (s_119 : Int32 × MS) => ∀ (H : Heap) (locs : List Loc), va_P (dC, dI) vwCl (mW cB cI cZ h qK qS ad s_119.2) H → va_S (mCells h ad sz) s.heap H locs → ∀ ls : Array Slot, lv_has ls 3 [(0, .ref h), (1, .int s_119.1)] → W p l e (headSpec (g_ws yX12_lay cX12_lay 3 none) { frames := 7, cells := 0, slots := 0, locals := 176 }).room s m ([.ref h] : List Value).toArray below meth c H locs 0 0 (MQ below (va_Qv (fun (_ : Unit) => True) (fun _ t => va_P (dC, dI) vwCl (mW cB cI cZ h qK qS ad res.2) t.heap) (mCells h ad sz)) ([.ref h] : List Value).toArray s 0 0 (mCells h ad sz)) (F0 m 527 ls [])) ?_ _ _ hF_118 _ _ hP hS ls (lv_sub hl [1, 0] rfl)
          intro again_120 s_119 ih_121 hF_122
          intro H locs hP hS ls hl
          refine lv_iload_n hx hb dX12_lay_527 rfl (lv_at hl 1 rfl) ?_
          refine lv_if_lt (tgt := 546) hx hb dX12_lay_528 (by decide) (fun c_123 => ?_) (fun c_123 => ?_)
          · have hF_124 := ipos c_123 hF_122
            clear hF_122
            have h9 := Option.some.inj hF_124
            subst h9
            exact W.vret hx hb hr (fun t ht hW => ⟨⟨(), rfl, trivial, m_end ht hP⟩, hS.F ht⟩) hS.2.2 dX12_lay_546
          · have hF_125 := ineg c_123 hF_122
            clear hF_122
            refine lv_aload_n hx hb dX12_lay_531 rfl (lv_at hl 0 rfl) ?_
            refine lv_iload_n hx hb dX12_lay_532 rfl (lv_at hl 1 rfl) ?_
            obtain ⟨u_126, hu_126, hF_127⟩ := Option.bind_eq_some_iff.mp hF_125
            clear hF_125
            refine m_cv hsz hS (va_runV (As := [.int s_119.1]) (rest := []) ⟨hx, hb, hml, hown, hts⟩ (m_X12_layOne l dC dI cB cC cI cJ cZ cP h qK qS ad hDD H.size  s_119.1 s_119.2 _ hu_126) (cwV 1 hts (g_gV wq_1729 wq_1730 wq_2188 wq_13 wq_1731) rfl rfl rfl (by decide +kernel) ⟨Nat.le_of_ble_eq_true rfl, Nat.le_of_ble_eq_true rfl⟩) (m_preV g_bl0 hsz hK hP hS hE hKS g_to0) rfl rfl hl.1 rfl (lv_room (Nat.le_of_ble_eq_true rfl)) dX12_lay_533 ⟨Nat.le_of_ble_eq_true rfl, Nat.le_of_ble_eq_true rfl⟩) (fun H locs hP hS => ?_)
            refine lv_aload_n hx hb dX12_lay_536 rfl (lv_at hl 0 rfl) ?_
            refine va_get (D := (dC, dI)) (ci := 12) (v := .ref (ad 22)) (C := RX12) (T := TX12) (N := 123) hx hb hts ii_X12 hown hK hP 0 rfl rfl 22 (by decide) (hts (.fieldLink RX12 64 "StoryHouseModel" "then" "[I") wq_1378) (fun _ h9 => h9) rfl dX12_lay_537 ?_
            refine lv_iload_n hx hb dX12_lay_540 rfl (lv_at hl 1 rfl) ?_
            obtain ⟨g_128, hF_129⟩ := nif_e hF_127
            clear hF_127
            refine va_iald (f := u_126.2.2 22) hx hb hK hP 13 2 rfl rfl g_128 dX12_lay_541 ?_
            obtain ⟨x_130, ex_130, hF_131⟩ := bnd_e hF_129
            clear hF_129
            refine m_top ex_130 ?_
            refine lv_istore_n (lv' := [(1, .int x_130), (0, .ref h)]) hx hb dX12_lay_542 rfl hl (by decide) rfl (fun ls hl => ?_)
            refine lv_goto (tgt := 527) hx hb dX12_lay_543 (by decide) ?_
            exact ih_121 (x_130, u_126.2) hF_131 _ _ hP hS ls (lv_sub hl [1, 0] rfl)
        · have hF_132 := ineg c_43 hF_42
          clear hF_42
          refine lv_aload_n hx hb dX12_lay_209 rfl (lv_at hl 0 rfl) ?_
          refine va_get (D := (dC, dI)) (ci := 12) (v := .ref (ad 52)) (C := RX12) (T := TX12) (N := 123) hx hb hts ii_X12 hown hK hP 0 rfl rfl 52 (by decide) (hts (.fieldLink RX12 104 "StoryHouseModel" "toldIn" "[I") wq_1408) (fun _ h9 => h9) rfl dX12_lay_210 ?_
          refine lv_iload_n hx hb dX12_lay_213 rfl (lv_at hl 1 rfl) ?_
          refine lv_iconst (v := 0) hx hb dX12_lay_214 (by decide +kernel) ?_
          obtain ⟨g_133, hF_134⟩ := nif_e hF_132
          clear hF_132
          obtain ⟨σ_135, eσ_135, hF_136⟩ := bnd_e hF_134
          clear hF_134
          refine m_iast (σ' := σ_135) hx hb hK hP (hDD _ _) hS (q0 := 26) (t0 := 2) (f := s_39.2.2 52) rfl rfl (by rw [eσ_135]; exact mwA_52) g_133 dX12_lay_215 (fun H locs hP hS => ?_)
          refine lv_aload_n hx hb dX12_lay_216 rfl (lv_at hl 0 rfl) ?_
          refine va_get (D := (dC, dI)) (ci := 12) (v := .ref (ad 56)) (C := RX12) (T := TX12) (N := 123) hx hb hts ii_X12 hown hK hP 0 rfl rfl 56 (by decide) (hts (.fieldLink RX12 116 "StoryHouseModel" "wordCount" "[I") wq_1412) (fun _ h9 => h9) rfl dX12_lay_217 ?_
          refine lv_iload_n hx hb dX12_lay_220 rfl (lv_at hl 1 rfl) ?_
          refine lv_iconst (v := 0) hx hb dX12_lay_221 (by decide +kernel) ?_
          obtain ⟨g_137, hF_138⟩ := nif_e hF_136
          clear hF_136
          obtain ⟨σ_139, eσ_139, hF_140⟩ := bnd_e hF_138
          clear hF_138
          refine m_iast (σ' := σ_139) hx hb hK hP (hDD _ _) hS (q0 := 30) (t0 := 2) (f := σ_135.2 56) rfl rfl (by rw [eσ_139]; exact mwA_56) g_137 dX12_lay_222 (fun H locs hP hS => ?_)
          refine lv_aload_n hx hb dX12_lay_223 rfl (lv_at hl 0 rfl) ?_
          refine va_get (D := (dC, dI)) (ci := 12) (v := .ref (ad 49)) (C := RX12) (T := TX12) (N := 123) hx hb hts ii_X12 hown hK hP 0 rfl rfl 49 (by decide) (hts (.fieldLink RX12 94 "StoryHouseModel" "textSize" "[I") wq_1405) (fun _ h9 => h9) rfl dX12_lay_224 ?_
          refine lv_iload_n hx hb dX12_lay_227 rfl (lv_at hl 1 rfl) ?_
          refine lv_iconst (v := 0) hx hb dX12_lay_228 (by decide +kernel) ?_
          obtain ⟨g_141, hF_142⟩ := nif_e hF_140
          clear hF_140
          obtain ⟨σ_143, eσ_143, hF_144⟩ := bnd_e hF_142
          clear hF_142
          refine m_iast (σ' := σ_143) hx hb hK hP (hDD _ _) hS (q0 := 23) (t0 := 2) (f := σ_139.2 49) rfl rfl (by rw [eσ_143]; exact mwA_49) g_141 dX12_lay_229 (fun H locs hP hS => ?_)
          refine lv_aload_n hx hb dX12_lay_230 rfl (lv_at hl 0 rfl) ?_
          refine va_get (D := (dC, dI)) (ci := 12) (v := .ref (ad 122)) (C := RX12) (T := TX12) (N := 123) hx hb hts ii_X12 hown hK hP 0 rfl rfl 122 (by decide) (hts (.fieldLink RX12 237 "StoryHouseModel" "told" "[Z") wq_1478) (fun _ h9 => h9) rfl dX12_lay_231 ?_
          refine lv_iload_n hx hb dX12_lay_234 rfl (lv_at hl 1 rfl) ?_
          refine lv_iconst (v := 0) hx hb dX12_lay_235 (by decide +kernel) ?_
          obtain ⟨g_145, hF_146⟩ := nif_e hF_144
          clear hF_144
          obtain ⟨σ_147, eσ_147, hF_148⟩ := bnd_e hF_146
          clear hF_146
          refine m_zast (σ' := σ_147) hx hb hK hP (hDD _ _) hS (q0 := 69) (t0 := 4) (f := σ_143.2 122) rfl rfl (by rw [eσ_147]; exact mwA_122) g_145 dX12_lay_236 (fun H locs hP hS => ?_)
          refine lv_aload_n hx hb dX12_lay_237 rfl (lv_at hl 0 rfl) ?_
          refine va_get (D := (dC, dI)) (ci := 12) (v := .ref (ad 50)) (C := RX12) (T := TX12) (N := 123) hx hb hts ii_X12 hown hK hP 0 rfl rfl 50 (by decide) (hts (.fieldLink RX12 97 "StoryHouseModel" "isRoom" "[Z") wq_1406) (fun _ h9 => h9) rfl dX12_lay_238 ?_
          refine lv_iload_n hx hb dX12_lay_241 rfl (lv_at hl 1 rfl) ?_
          refine lv_iconst (v := 0) hx hb dX12_lay_242 (by decide +kernel) ?_
          obtain ⟨g_149, hF_150⟩ := nif_e hF_148
          clear hF_148
          obtain ⟨σ_151, eσ_151, hF_152⟩ := bnd_e hF_150
          clear hF_150
          refine m_zast (σ' := σ_151) hx hb hK hP (hDD _ _) hS (q0 := 24) (t0 := 4) (f := σ_147.2 50) rfl rfl (by rw [eσ_151]; exact mwA_50) g_149 dX12_lay_243 (fun H locs hP hS => ?_)
          refine lv_iconst (v := 0) hx hb dX12_lay_244 (by decide +kernel) ?_
          refine lv_istore_n (lv' := [(2, .int 0), (0, .ref h), (1, .int s_39.1)]) hx hb dX12_lay_245 rfl hl (by decide) rfl (fun ls hl => ?_)
          refine loopF_ind (P := fun (s_153 : Int32 × MS) => ∀ (H : Heap) (locs : List Loc), va_P (dC, dI) vwCl (mW cB cI cZ h qK qS ad s_153.2) H → va_S (mCells h ad sz) s.heap H locs → ∀ ls : Array Slot, lv_has ls 3 [(0, .ref h), (1, .int s_39.1), (2, .int s_153.1)] → W p l e (headSpec (g_ws yX12_lay cX12_lay 3 none) { frames := 7, cells := 0, slots := 0, locals := 176 }).room s m ([.ref h] : List Value).toArray below meth c H locs 0 0 (MQ below (va_Qv (fun (_ : Unit) => True) (fun _ t => va_P (dC, dI) vwCl (mW cB cI cZ h qK qS ad res.2) t.heap) (mCells h ad sz)) ([.ref h] : List Value).toArray s 0 0 (mCells h ad sz)) (F0 m 246 ls [])) ?_ _ _ hF_152 _ _ hP hS ls (lv_sub hl [1, 2, 0] rfl)
          intro again_154 s_153 ih_155 hF_156
          intro H locs hP hS ls hl
          refine lv_iload_n hx hb dX12_lay_246 rfl (lv_at hl 2 rfl) ?_
          refine lv_bipush (v := 7) hx hb dX12_lay_247 (by decide +kernel) ?_
          refine lv_icmp_ge (tgt := 282) hx hb dX12_lay_249 (by decide) (fun c_157 => ?_) (fun c_157 => ?_)
          · have hF_158 := ipos c_157 hF_156
            clear hF_156
            obtain ⟨x_159, ex_159, hF_160⟩ := bnd_e hF_158
            clear hF_158
            refine lv_iinc (v := x_159) (lv' := [(1, .int x_159), (0, .ref h), (2, .int s_153.1)]) hx hb dX12_lay_282 hl (k := 1) rfl (by rw [ex_159]; rfl) (by decide) rfl (fun ls hl => ?_)
            refine lv_goto (tgt := 203) hx hb dX12_lay_285 (by decide) ?_
            exact ih_41 (x_159, s_153.2) hF_160 _ _ hP hS ls (lv_sub hl [1, 0] rfl)
          · have hF_161 := ineg c_157 hF_156
            clear hF_156
            refine lv_aload_n hx hb dX12_lay_252 rfl (lv_at hl 0 rfl) ?_
            refine va_get (D := (dC, dI)) (ci := 12) (v := .ref (ad 51)) (C := RX12) (T := TX12) (N := 123) hx hb hts ii_X12 hown hK hP 0 rfl rfl 51 (by decide) (hts (.fieldLink RX12 101 "StoryHouseModel" "exits" "[I") wq_1407) (fun _ h9 => h9) rfl dX12_lay_253 ?_
            refine lv_bipush (v := 7) hx hb dX12_lay_256 (by decide +kernel) ?_
            refine lv_iload_n hx hb dX12_lay_258 rfl (lv_at hl 1 rfl) ?_
            refine lv_imul hx hb dX12_lay_259 ?_
            refine lv_iload_n hx hb dX12_lay_260 rfl (lv_at hl 2 rfl) ?_
            refine lv_iadd hx hb dX12_lay_261 ?_
            refine lv_iconst (v := 0) hx hb dX12_lay_262 (by decide +kernel) ?_
            obtain ⟨g_162, hF_163⟩ := nif_e hF_161
            clear hF_161
            obtain ⟨σ_164, eσ_164, hF_165⟩ := bnd_e hF_163
            clear hF_163
            refine m_iast (σ' := σ_164) hx hb hK hP (hDD _ _) hS (q0 := 25) (t0 := 2) (f := s_153.2.2 51) rfl rfl (by rw [eσ_164]; exact mwA_51) g_162 dX12_lay_263 (fun H locs hP hS => ?_)
            refine lv_aload_n hx hb dX12_lay_264 rfl (lv_at hl 0 rfl) ?_
            refine va_get (D := (dC, dI)) (ci := 12) (v := .ref (ad 53)) (C := RX12) (T := TX12) (N := 123) hx hb hts ii_X12 hown hK hP 0 rfl rfl 53 (by decide) (hts (.fieldLink RX12 107 "StoryHouseModel" "toldHas" "[Z") wq_1409) (fun _ h9 => h9) rfl dX12_lay_265 ?_
            refine lv_bipush (v := 7) hx hb dX12_lay_268 (by decide +kernel) ?_
            refine lv_iload_n hx hb dX12_lay_270 rfl (lv_at hl 1 rfl) ?_
            refine lv_imul hx hb dX12_lay_271 ?_
            refine lv_iload_n hx hb dX12_lay_272 rfl (lv_at hl 2 rfl) ?_
            refine lv_iadd hx hb dX12_lay_273 ?_
            refine lv_iconst (v := 0) hx hb dX12_lay_274 (by decide +kernel) ?_
            obtain ⟨g_166, hF_167⟩ := nif_e hF_165
            clear hF_165
            obtain ⟨σ_168, eσ_168, hF_169⟩ := bnd_e hF_167
            clear hF_167
            refine m_zast (σ' := σ_168) hx hb hK hP (hDD _ _) hS (q0 := 27) (t0 := 4) (f := σ_164.2 53) rfl rfl (by rw [eσ_168]; exact mwA_53) g_166 dX12_lay_275 (fun H locs hP hS => ?_)
            obtain ⟨x_170, ex_170, hF_171⟩ := bnd_e hF_169
            clear hF_169
            refine lv_iinc (v := x_170) (lv' := [(2, .int x_170), (0, .ref h), (1, .int s_39.1)]) hx hb dX12_lay_276 hl (k := 2) rfl (by rw [ex_170]; rfl) (by decide) rfl (fun ls hl => ?_)
            refine lv_goto (tgt := 246) hx hb dX12_lay_279 (by decide) ?_
            exact ih_155 (x_170, σ_168) hF_171 _ _ hP hS ls (lv_sub hl [1, 2, 0] rfl)
      · have hF_172 := ineg c_21 hF_20
        clear hF_20
        refine lv_aload_n hx hb dX12_lay_68 rfl (lv_at hl 0 rfl) ?_
        refine va_get (D := (dC, dI)) (ci := 12) (v := .ref (ad 64)) (C := RX12) (T := TX12) (N := 123) hx hb hts ii_X12 hown hK hP 0 rfl rfl 64 (by decide) (hts (.fieldLink RX12 137 "StoryHouseModel" "bWhat" "[I") wq_1420) (fun _ h9 => h9) rfl dX12_lay_69 ?_
        refine lv_iload_n hx hb dX12_lay_72 rfl (lv_at hl 1 rfl) ?_
        refine lv_aload_n hx hb dX12_lay_73 rfl (lv_at hl 0 rfl) ?_
        refine va_get (D := (dC, dI)) (ci := 12) (v := .ref (ad 17)) (C := RX12) (T := TX12) (N := 123) hx hb hts ii_X12 hown hK hP 0 rfl rfl 17 (by decide) (hts (.fieldLink RX12 49 "StoryHouseModel" "what" "[I") wq_1373) (fun _ h9 => h9) rfl dX12_lay_74 ?_
        refine lv_iload_n hx hb dX12_lay_77 rfl (lv_at hl 1 rfl) ?_
        obtain ⟨g_173, hF_174⟩ := nif_e hF_172
        clear hF_172
        refine va_iald (f := s_17.2.2 17) hx hb hK hP 8 2 rfl rfl g_173 dX12_lay_78 ?_
        obtain ⟨x_175, ex_175, hF_176⟩ := bnd_e hF_174
        clear hF_174
        refine m_top ex_175 ?_
        obtain ⟨g_177, hF_178⟩ := nif_e hF_176
        clear hF_176
        obtain ⟨σ_179, eσ_179, hF_180⟩ := bnd_e hF_178
        clear hF_178
        refine m_iast (σ' := σ_179) hx hb hK hP (hDD _ _) hS (q0 := 37) (t0 := 2) (f := s_17.2.2 64) rfl rfl (by rw [eσ_179]; exact mwA_64) g_177 dX12_lay_79 (fun H locs hP hS => ?_)
        refine lv_aload_n hx hb dX12_lay_80 rfl (lv_at hl 0 rfl) ?_
        refine va_get (D := (dC, dI)) (ci := 12) (v := .ref (ad 65)) (C := RX12) (T := TX12) (N := 123) hx hb hts ii_X12 hown hK hP 0 rfl rfl 65 (by decide) (hts (.fieldLink RX12 140 "StoryHouseModel" "bWhere" "[I") wq_1421) (fun _ h9 => h9) rfl dX12_lay_81 ?_
        refine lv_iload_n hx hb dX12_lay_84 rfl (lv_at hl 1 rfl) ?_
        refine lv_aload_n hx hb dX12_lay_85 rfl (lv_at hl 0 rfl) ?_
        refine va_get (D := (dC, dI)) (ci := 12) (v := .ref (ad 18)) (C := RX12) (T := TX12) (N := 123) hx hb hts ii_X12 hown hK hP 0 rfl rfl 18 (by decide) (hts (.fieldLink RX12 52 "StoryHouseModel" "where" "[I") wq_1374) (fun _ h9 => h9) rfl dX12_lay_86 ?_
        refine lv_iload_n hx hb dX12_lay_89 rfl (lv_at hl 1 rfl) ?_
        obtain ⟨g_181, hF_182⟩ := nif_e hF_180
        clear hF_180
        refine va_iald (f := σ_179.2 18) hx hb hK hP 9 2 rfl rfl g_181 dX12_lay_90 ?_
        obtain ⟨x_183, ex_183, hF_184⟩ := bnd_e hF_182
        clear hF_182
        refine m_top ex_183 ?_
        obtain ⟨g_185, hF_186⟩ := nif_e hF_184
        clear hF_184
        obtain ⟨σ_187, eσ_187, hF_188⟩ := bnd_e hF_186
        clear hF_186
        refine m_iast (σ' := σ_187) hx hb hK hP (hDD _ _) hS (q0 := 38) (t0 := 2) (f := σ_179.2 65) rfl rfl (by rw [eσ_187]; exact mwA_65) g_185 dX12_lay_91 (fun H locs hP hS => ?_)
        refine lv_aload_n hx hb dX12_lay_92 rfl (lv_at hl 0 rfl) ?_
        refine va_get (D := (dC, dI)) (ci := 12) (v := .ref (ad 66)) (C := RX12) (T := TX12) (N := 123) hx hb hts ii_X12 hown hK hP 0 rfl rfl 66 (by decide) (hts (.fieldLink RX12 143 "StoryHouseModel" "bA" "[I") wq_1422) (fun _ h9 => h9) rfl dX12_lay_93 ?_
        refine lv_iload_n hx hb dX12_lay_96 rfl (lv_at hl 1 rfl) ?_
        refine lv_aload_n hx hb dX12_lay_97 rfl (lv_at hl 0 rfl) ?_
        refine va_get (D := (dC, dI)) (ci := 12) (v := .ref (ad 19)) (C := RX12) (T := TX12) (N := 123) hx hb hts ii_X12 hown hK hP 0 rfl rfl 19 (by decide) (hts (.fieldLink RX12 55 "StoryHouseModel" "a" "[I") wq_1375) (fun _ h9 => h9) rfl dX12_lay_98 ?_
        refine lv_iload_n hx hb dX12_lay_101 rfl (lv_at hl 1 rfl) ?_
        obtain ⟨g_189, hF_190⟩ := nif_e hF_188
        clear hF_188
        refine va_iald (f := σ_187.2 19) hx hb hK hP 10 2 rfl rfl g_189 dX12_lay_102 ?_
        obtain ⟨x_191, ex_191, hF_192⟩ := bnd_e hF_190
        clear hF_190
        refine m_top ex_191 ?_
        obtain ⟨g_193, hF_194⟩ := nif_e hF_192
        clear hF_192
        obtain ⟨σ_195, eσ_195, hF_196⟩ := bnd_e hF_194
        clear hF_194
        refine m_iast (σ' := σ_195) hx hb hK hP (hDD _ _) hS (q0 := 39) (t0 := 2) (f := σ_187.2 66) rfl rfl (by rw [eσ_195]; exact mwA_66) g_193 dX12_lay_103 (fun H locs hP hS => ?_)
        refine lv_aload_n hx hb dX12_lay_104 rfl (lv_at hl 0 rfl) ?_
        refine va_get (D := (dC, dI)) (ci := 12) (v := .ref (ad 67)) (C := RX12) (T := TX12) (N := 123) hx hb hts ii_X12 hown hK hP 0 rfl rfl 67 (by decide) (hts (.fieldLink RX12 146 "StoryHouseModel" "bB" "[I") wq_1423) (fun _ h9 => h9) rfl dX12_lay_105 ?_
        refine lv_iload_n hx hb dX12_lay_108 rfl (lv_at hl 1 rfl) ?_
        refine lv_aload_n hx hb dX12_lay_109 rfl (lv_at hl 0 rfl) ?_
        refine va_get (D := (dC, dI)) (ci := 12) (v := .ref (ad 20)) (C := RX12) (T := TX12) (N := 123) hx hb hts ii_X12 hown hK hP 0 rfl rfl 20 (by decide) (hts (.fieldLink RX12 58 "StoryHouseModel" "b" "[I") wq_1376) (fun _ h9 => h9) rfl dX12_lay_110 ?_
        refine lv_iload_n hx hb dX12_lay_113 rfl (lv_at hl 1 rfl) ?_
        obtain ⟨g_197, hF_198⟩ := nif_e hF_196
        clear hF_196
        refine va_iald (f := σ_195.2 20) hx hb hK hP 11 2 rfl rfl g_197 dX12_lay_114 ?_
        obtain ⟨x_199, ex_199, hF_200⟩ := bnd_e hF_198
        clear hF_198
        refine m_top ex_199 ?_
        obtain ⟨g_201, hF_202⟩ := nif_e hF_200
        clear hF_200
        obtain ⟨σ_203, eσ_203, hF_204⟩ := bnd_e hF_202
        clear hF_202
        refine m_iast (σ' := σ_203) hx hb hK hP (hDD _ _) hS (q0 := 40) (t0 := 2) (f := σ_195.2 67) rfl rfl (by rw [eσ_203]; exact mwA_67) g_201 dX12_lay_115 (fun H locs hP hS => ?_)
        refine lv_aload_n hx hb dX12_lay_116 rfl (lv_at hl 0 rfl) ?_
        refine va_get (D := (dC, dI)) (ci := 12) (v := .ref (ad 68)) (C := RX12) (T := TX12) (N := 123) hx hb hts ii_X12 hown hK hP 0 rfl rfl 68 (by decide) (hts (.fieldLink RX12 149 "StoryHouseModel" "bD" "[I") wq_1424) (fun _ h9 => h9) rfl dX12_lay_117 ?_
        refine lv_iload_n hx hb dX12_lay_120 rfl (lv_at hl 1 rfl) ?_
        refine lv_aload_n hx hb dX12_lay_121 rfl (lv_at hl 0 rfl) ?_
        refine va_get (D := (dC, dI)) (ci := 12) (v := .ref (ad 21)) (C := RX12) (T := TX12) (N := 123) hx hb hts ii_X12 hown hK hP 0 rfl rfl 21 (by decide) (hts (.fieldLink RX12 61 "StoryHouseModel" "d" "[I") wq_1377) (fun _ h9 => h9) rfl dX12_lay_122 ?_
        refine lv_iload_n hx hb dX12_lay_125 rfl (lv_at hl 1 rfl) ?_
        obtain ⟨g_205, hF_206⟩ := nif_e hF_204
        clear hF_204
        refine va_iald (f := σ_203.2 21) hx hb hK hP 12 2 rfl rfl g_205 dX12_lay_126 ?_
        obtain ⟨x_207, ex_207, hF_208⟩ := bnd_e hF_206
        clear hF_206
        refine m_top ex_207 ?_
        obtain ⟨g_209, hF_210⟩ := nif_e hF_208
        clear hF_208
        obtain ⟨σ_211, eσ_211, hF_212⟩ := bnd_e hF_210
        clear hF_210
        refine m_iast (σ' := σ_211) hx hb hK hP (hDD _ _) hS (q0 := 41) (t0 := 2) (f := σ_203.2 68) rfl rfl (by rw [eσ_211]; exact mwA_68) g_209 dX12_lay_127 (fun H locs hP hS => ?_)
        refine lv_aload_n hx hb dX12_lay_128 rfl (lv_at hl 0 rfl) ?_
        refine va_get (D := (dC, dI)) (ci := 12) (v := .ref (ad 69)) (C := RX12) (T := TX12) (N := 123) hx hb hts ii_X12 hown hK hP 0 rfl rfl 69 (by decide) (hts (.fieldLink RX12 152 "StoryHouseModel" "bThen" "[I") wq_1425) (fun _ h9 => h9) rfl dX12_lay_129 ?_
        refine lv_iload_n hx hb dX12_lay_132 rfl (lv_at hl 1 rfl) ?_
        refine lv_aload_n hx hb dX12_lay_133 rfl (lv_at hl 0 rfl) ?_
        refine va_get (D := (dC, dI)) (ci := 12) (v := .ref (ad 22)) (C := RX12) (T := TX12) (N := 123) hx hb hts ii_X12 hown hK hP 0 rfl rfl 22 (by decide) (hts (.fieldLink RX12 64 "StoryHouseModel" "then" "[I") wq_1378) (fun _ h9 => h9) rfl dX12_lay_134 ?_
        refine lv_iload_n hx hb dX12_lay_137 rfl (lv_at hl 1 rfl) ?_
        obtain ⟨g_213, hF_214⟩ := nif_e hF_212
        clear hF_212
        refine va_iald (f := σ_211.2 22) hx hb hK hP 13 2 rfl rfl g_213 dX12_lay_138 ?_
        obtain ⟨x_215, ex_215, hF_216⟩ := bnd_e hF_214
        clear hF_214
        refine m_top ex_215 ?_
        obtain ⟨g_217, hF_218⟩ := nif_e hF_216
        clear hF_216
        obtain ⟨σ_219, eσ_219, hF_220⟩ := bnd_e hF_218
        clear hF_218
        refine m_iast (σ' := σ_219) hx hb hK hP (hDD _ _) hS (q0 := 42) (t0 := 2) (f := σ_211.2 69) rfl rfl (by rw [eσ_219]; exact mwA_69) g_217 dX12_lay_139 (fun H locs hP hS => ?_)
        obtain ⟨x_221, ex_221, hF_222⟩ := bnd_e hF_220
        clear hF_220
        refine lv_iinc (v := x_221) (lv' := [(1, .int x_221), (0, .ref h)]) hx hb dX12_lay_140 hl (k := 1) rfl (by rw [ex_221]; rfl) (by decide) rfl (fun ls hl => ?_)
        refine lv_goto (tgt := 60) hx hb dX12_lay_143 (by decide) ?_
        exact ih_19 (x_221, σ_219) hF_222 _ _ hP hS ls (lv_sub hl [1, 0] rfl)
    · have hF_223 := ineg c_15 hF_14
      clear hF_14
      refine lv_aload_n hx hb dX12_lay_40 rfl (lv_at hl 0 rfl) ?_
      refine va_get (D := (dC, dI)) (ci := 12) (v := .ref (ad 45)) (C := RX12) (T := TX12) (N := 123) hx hb hts ii_X12 hown hK hP 0 rfl rfl 45 (by decide) (hts (.fieldLink RX12 82 "StoryHouseModel" "text" "[B") wq_1401) (fun _ h9 => h9) rfl dX12_lay_41 ?_
      refine lv_iload_n hx hb dX12_lay_44 rfl (lv_at hl 1 rfl) ?_
      refine lv_aload_n hx hb dX12_lay_45 rfl (lv_at hl 0 rfl) ?_
      refine va_get (D := (dC, dI)) (ci := 12) (v := .ref (ad 5)) (C := RX12) (T := TX12) (N := 123) hx hb hts ii_X12 hown hK hP 0 rfl rfl 5 (by decide) (hts (.fieldLink RX12 24 "StoryHouseModel" "source" "[B") wq_1361) (fun _ h9 => h9) rfl dX12_lay_46 ?_
      refine lv_iload_n hx hb dX12_lay_49 rfl (lv_at hl 1 rfl) ?_
      obtain ⟨g_224, hF_225⟩ := nif_e hF_223
      clear hF_223
      refine va_bald (f := s_11.2.2 5) hx hb hK hP 2 0 rfl rfl g_224 dX12_lay_50 ?_
      obtain ⟨x_226, ex_226, hF_227⟩ := bnd_e hF_225
      clear hF_225
      refine m_top ex_226 ?_
      obtain ⟨g_228, hF_229⟩ := nif_e hF_227
      clear hF_227
      obtain ⟨σ_230, eσ_230, hF_231⟩ := bnd_e hF_229
      clear hF_229
      refine m_bast (σ' := σ_230) hx hb hK hP (hDD _ _) hS (q0 := 19) (t0 := 0) (f := s_11.2.2 45) rfl rfl (by rw [eσ_230]; exact mwA_45) g_228 dX12_lay_51 (fun H locs hP hS => ?_)
      obtain ⟨x_232, ex_232, hF_233⟩ := bnd_e hF_231
      clear hF_231
      refine lv_iinc (v := x_232) (lv' := [(1, .int x_232), (0, .ref h)]) hx hb dX12_lay_52 hl (k := 1) rfl (by rw [ex_232]; rfl) (by decide) rfl (fun ls hl => ?_)
      refine lv_goto (tgt := 32) hx hb dX12_lay_55 (by decide) ?_
      exact ih_13 (x_232, σ_230) hF_233 _ _ hP hS ls (lv_sub hl [1, 0] rfl)
  · have hF_234 := ineg c_9 hF_8
    clear hF_8
    refine lv_aload_n hx hb dX12_lay_17 rfl (lv_at hl 0 rfl) ?_
    refine va_get (D := (dC, dI)) (ci := 12) (v := .ref (ad 100)) (C := RX12) (T := TX12) (N := 123) hx hb hts ii_X12 hown hK hP 0 rfl rfl 100 (by decide) (hts (.fieldLink RX12 209 "StoryHouseModel" "saved" "[Z") wq_1456) (fun _ h9 => h9) rfl dX12_lay_18 ?_
    refine lv_iload_n hx hb dX12_lay_21 rfl (lv_at hl 1 rfl) ?_
    refine lv_iconst (v := 0) hx hb dX12_lay_22 (by decide +kernel) ?_
    obtain ⟨g_235, hF_236⟩ := nif_e hF_234
    clear hF_234
    obtain ⟨σ_237, eσ_237, hF_238⟩ := bnd_e hF_236
    clear hF_236
    refine m_zast (σ' := σ_237) hx hb hK hP (hDD _ _) hS (q0 := 60) (t0 := 4) (f := s_5.2.2 100) rfl rfl (by rw [eσ_237]; exact mwA_100) g_235 dX12_lay_23 (fun H locs hP hS => ?_)
    obtain ⟨x_239, ex_239, hF_240⟩ := bnd_e hF_238
    clear hF_238
    refine lv_iinc (v := x_239) (lv' := [(1, .int x_239), (0, .ref h)]) hx hb dX12_lay_24 hl (k := 1) rfl (by rw [ex_239]; rfl) (by decide) rfl (fun ls hl => ?_)
    refine lv_goto (tgt := 12) hx hb dX12_lay_27 (by decide) ?_
    exact ih_7 (x_239, σ_237) hF_240 _ _ hP hS ls (lv_sub hl [1, 0] rfl)
theorem dX12_build_0 : decode cX12_build 0 = .ok (.aload_n 0, 1) := by decide +kernel
theorem dX12_build_1 : decode cX12_build 1 = .ok (.iconst 0, 1) := by decide +kernel
theorem dX12_build_2 : decode cX12_build 2 = .ok (.putfield 240, 3) := by decide +kernel
theorem dX12_build_5 : decode cX12_build 5 = .ok (.aload_n 0, 1) := by decide +kernel
theorem dX12_build_6 : decode cX12_build 6 = .ok (.aload_n 0, 1) := by decide +kernel
theorem dX12_build_7 : decode cX12_build 7 = .ok (.getfield 559, 3) := by decide +kernel
theorem dX12_build_10 : decode cX12_build 10 = .ok (.putfield 249, 3) := by decide +kernel
theorem dX12_build_13 : decode cX12_build 13 = .ok (.iconst 0, 1) := by decide +kernel
theorem dX12_build_14 : decode cX12_build 14 = .ok (.istore_n 1, 1) := by decide +kernel
theorem dX12_build_15 : decode cX12_build 15 = .ok (.iload_n 1, 1) := by decide +kernel
theorem dX12_build_16 : decode cX12_build 16 = .ok (.aload_n 0, 1) := by decide +kernel
theorem dX12_build_17 : decode cX12_build 17 = .ok (.getfield 559, 3) := by decide +kernel
theorem dX12_build_20 : decode cX12_build 20 = .ok (.if_icmp .ge 21, 3) := by decide +kernel
theorem dX12_build_23 : decode cX12_build 23 = .ok (.aload_n 0, 1) := by decide +kernel
theorem dX12_build_24 : decode cX12_build 24 = .ok (.getfield 24, 3) := by decide +kernel
theorem dX12_build_27 : decode cX12_build 27 = .ok (.iload_n 1, 1) := by decide +kernel
theorem dX12_build_28 : decode cX12_build 28 = .ok (.aload_n 0, 1) := by decide +kernel
theorem dX12_build_29 : decode cX12_build 29 = .ok (.getfield 20, 3) := by decide +kernel
theorem dX12_build_32 : decode cX12_build 32 = .ok (.iload_n 1, 1) := by decide +kernel
theorem dX12_build_33 : decode cX12_build 33 = .ok (.baload, 1) := by decide +kernel
theorem dX12_build_34 : decode cX12_build 34 = .ok (.bastore, 1) := by decide +kernel
theorem dX12_build_35 : decode cX12_build 35 = .ok (.iinc 1 1, 3) := by decide +kernel
theorem dX12_build_38 : decode cX12_build 38 = .ok (.goto (-23), 3) := by decide +kernel
theorem dX12_build_41 : decode cX12_build 41 = .ok (.aload_n 0, 1) := by decide +kernel
theorem dX12_build_42 : decode cX12_build 42 = .ok (.iconst 0, 1) := by decide +kernel
theorem dX12_build_43 : decode cX12_build 43 = .ok (.putfield 559, 3) := by decide +kernel
theorem dX12_build_46 : decode cX12_build 46 = .ok (.aload_n 0, 1) := by decide +kernel
theorem dX12_build_47 : decode cX12_build 47 = .ok (.iconst 0, 1) := by decide +kernel
theorem dX12_build_48 : decode cX12_build 48 = .ok (.putfield 308, 3) := by decide +kernel
theorem dX12_build_51 : decode cX12_build 51 = .ok (.aload_n 0, 1) := by decide +kernel
theorem dX12_build_52 : decode cX12_build 52 = .ok (.iconst (-1), 1) := by decide +kernel
theorem dX12_build_53 : decode cX12_build 53 = .ok (.putfield 311, 3) := by decide +kernel
theorem dX12_build_56 : decode cX12_build 56 = .ok (.aload_n 0, 1) := by decide +kernel
theorem dX12_build_57 : decode cX12_build 57 = .ok (.invokevirtual 565, 3) := by decide +kernel
theorem dX12_build_60 : decode cX12_build 60 = .ok (.aload_n 0, 1) := by decide +kernel
theorem dX12_build_61 : decode cX12_build 61 = .ok (.invokevirtual 568, 3) := by decide +kernel
theorem dX12_build_64 : decode cX12_build 64 = .ok (.aload_n 0, 1) := by decide +kernel
theorem dX12_build_65 : decode cX12_build 65 = .ok (.getfield 308, 3) := by decide +kernel
theorem dX12_build_68 : decode cX12_build 68 = .ok (.ifCond .ne 11, 3) := by decide +kernel
theorem dX12_build_71 : decode cX12_build 71 = .ok (.aload_n 0, 1) := by decide +kernel
theorem dX12_build_72 : decode cX12_build 72 = .ok (.invokevirtual 571, 3) := by decide +kernel
theorem dX12_build_75 : decode cX12_build 75 = .ok (.aload_n 0, 1) := by decide +kernel
theorem dX12_build_76 : decode cX12_build 76 = .ok (.invokevirtual 574, 3) := by decide +kernel
theorem dX12_build_79 : decode cX12_build 79 = .ok (.aload_n 0, 1) := by decide +kernel
theorem dX12_build_80 : decode cX12_build 80 = .ok (.getfield 308, 3) := by decide +kernel
theorem dX12_build_83 : decode cX12_build 83 = .ok (.ifCond .ne 7, 3) := by decide +kernel
theorem dX12_build_86 : decode cX12_build 86 = .ok (.aload_n 0, 1) := by decide +kernel
theorem dX12_build_87 : decode cX12_build 87 = .ok (.invokevirtual 577, 3) := by decide +kernel
theorem dX12_build_90 : decode cX12_build 90 = .ok (.aload_n 0, 1) := by decide +kernel
theorem dX12_build_91 : decode cX12_build 91 = .ok (.getfield 308, 3) := by decide +kernel
theorem dX12_build_94 : decode cX12_build 94 = .ok (.ifCond .ne 20, 3) := by decide +kernel
theorem dX12_build_97 : decode cX12_build 97 = .ok (.aload_n 0, 1) := by decide +kernel
theorem dX12_build_98 : decode cX12_build 98 = .ok (.invokevirtual 580, 3) := by decide +kernel
theorem dX12_build_101 : decode cX12_build 101 = .ok (.ifCond .ne 13, 3) := by decide +kernel
theorem dX12_build_104 : decode cX12_build 104 = .ok (.aload_n 0, 1) := by decide +kernel
theorem dX12_build_105 : decode cX12_build 105 = .ok (.bipush 6, 2) := by decide +kernel
theorem dX12_build_107 : decode cX12_build 107 = .ok (.aload_n 0, 1) := by decide +kernel
theorem dX12_build_108 : decode cX12_build 108 = .ok (.getfield 249, 3) := by decide +kernel
theorem dX12_build_111 : decode cX12_build 111 = .ok (.invokevirtual 500, 3) := by decide +kernel
theorem dX12_build_114 : decode cX12_build 114 = .ok (.aload_n 0, 1) := by decide +kernel
theorem dX12_build_115 : decode cX12_build 115 = .ok (.aload_n 0, 1) := by decide +kernel
theorem dX12_build_116 : decode cX12_build 116 = .ok (.getfield 308, 3) := by decide +kernel
theorem dX12_build_119 : decode cX12_build 119 = .ok (.ifCond .ne 7, 3) := by decide +kernel
theorem dX12_build_122 : decode cX12_build 122 = .ok (.iconst (-1), 1) := by decide +kernel
theorem dX12_build_123 : decode cX12_build 123 = .ok (.goto 7, 3) := by decide +kernel
theorem dX12_build_126 : decode cX12_build 126 = .ok (.aload_n 0, 1) := by decide +kernel
theorem dX12_build_127 : decode cX12_build 127 = .ok (.getfield 311, 3) := by decide +kernel
theorem dX12_build_130 : decode cX12_build 130 = .ok (.putfield 44, 3) := by decide +kernel
theorem dX12_build_133 : decode cX12_build 133 = .ok (.aload_n 0, 1) := by decide +kernel
theorem dX12_build_134 : decode cX12_build 134 = .ok (.getfield 308, 3) := by decide +kernel
theorem dX12_build_137 : decode cX12_build 137 = .ok (.ifCond .eq 9, 3) := by decide +kernel
theorem dX12_build_140 : decode cX12_build 140 = .ok (.aload_n 0, 1) := by decide +kernel
theorem dX12_build_141 : decode cX12_build 141 = .ok (.getfield 308, 3) := by decide +kernel
theorem dX12_build_144 : decode cX12_build 144 = .ok (.ineg, 1) := by decide +kernel
theorem dX12_build_145 : decode cX12_build 145 = .ok (.ireturn, 1) := by decide +kernel
theorem dX12_build_146 : decode cX12_build 146 = .ok (.aload_n 0, 1) := by decide +kernel
theorem dX12_build_147 : decode cX12_build 147 = .ok (.invokevirtual 584, 3) := by decide +kernel
theorem dX12_build_150 : decode cX12_build 150 = .ok (.aload_n 0, 1) := by decide +kernel
theorem dX12_build_151 : decode cX12_build 151 = .ok (.getfield 587, 3) := by decide +kernel
theorem dX12_build_154 : decode cX12_build 154 = .ok (.ireturn, 1) := by decide +kernel
def F_X12_build  (σ : MS) : MR :=
  bnd (mI σ 0 0) fun σ_1 =>
  bnd (mI σ_1 6 (σ_1.1 4)) fun σ_3 =>
  loopF (fun (again_6 : (Int32 × MS) → MR) (s_5 : Int32 × MS) => (
    if (s_5.2.1 4) ≤ s_5.1 then (
      bnd (mI s_5.2 4 0) fun σ_11 =>
      bnd (mI σ_11 14 0) fun σ_13 =>
      bnd (mI σ_13 15 (-1)) fun σ_15 =>
      (F_X12_lex σ_15).bind fun u_17 =>
      (F_X12_parse u_17.2).bind fun u_19 =>
      bnd (fun  (σ_21 : MS) => (
        bnd (fun  (σ_25 : MS) => (
          bnd (fun  (σ_29 : MS) => (
            bnd (fun (t_33 : Int32) (σ_34 : MS) => (
              bnd (mI σ_34 16 t_33) fun σ_38 =>
              if (σ_38.1 14) = 0 then (
                (F_X12_lay σ_38).bind fun u_42 =>
                some ((u_42.2.1 78), u_42.2)
              ) else (
                some ((-(σ_38.1 14)), σ_38)
              )
            ) : Int32 → MS → MR) fun j_35 =>
            if (σ_29.1 14) = 0 then (
              j_35 (-1) σ_29
            ) else (
              j_35 (σ_29.1 15) σ_29
            )
          ) : MS → MR) fun j_30 =>
          if (σ_25.1 14) = 0 then (
            (F_X12_holds σ_25).bind fun u_50 =>
            if u_50.1 = 0 then (
              (F_X12_note 6 (u_50.2.1 6) u_50.2).bind fun u_54 =>
              j_30  u_54.2
            ) else (
              j_30  u_50.2
            )
          ) else (
            j_30  σ_25
          )
        ) : MS → MR) fun j_26 =>
        if (σ_21.1 14) = 0 then (
          (F_X12_resolve σ_21).bind fun u_60 =>
          j_26  u_60.2
        ) else (
          j_26  σ_21
        )
      ) : MS → MR) fun j_22 =>
      if (u_19.2.1 14) = 0 then (
        (F_X12_declare u_19.2).bind fun u_65 =>
        (F_X12_declareSeen u_65.2).bind fun u_67 =>
        j_22  u_67.2
      ) else (
        j_22  u_19.2
      )
    ) else (
      if s_5.1 < 0 ∨ 16000 ≤ s_5.1.toNatClampNeg then none else
      bnd ((s_5.2.2 3 s_5.1.toNatClampNeg)) fun (x_73 : Int32) =>
      if s_5.1 < 0 ∨ 16000 ≤ s_5.1.toNatClampNeg then none else
      bnd (mA s_5.2 5 (upd (s_5.2.2 5) s_5.1.toNatClampNeg (vp_nar .byte x_73))) fun σ_77 =>
      bnd (s_5.1 + 1) fun (x_79 : Int32) =>
      again_6 (x_79, σ_77)
    )
  )) FU (0, σ_3)
set_option maxHeartbeats 4000000 in
set_option maxRecDepth 100000 in
theorem m_X12_build (l : Launch) (dC : Nat → ClassId) (dI : Nat → Nat → Nat) (cB cC cI cJ cZ cP : ClassId) (h qK qS : Nat) (ad : Nat → Nat) (hDD : mDis cB cI cZ h qK qS ad) (sz : Nat)   (σ : MS) (res : Int32 × MS) (hF : F_X12_build  σ = some res) : Met l yX12_build (g_ws yX12_build cX12_build 2 (some .int)) ({ frames := 1476, cells := 0, slots := 0, locals := 38168 }) (va_Pc [.ref h] (m_B (dC, dI) [(cB, .byte), (cC, .char), (cI, .int), (cJ, .long), (cZ, .boolean), (cP, .object "StoryHouse$Play")] sz h ad qK qS (mW cB cI cZ h qK qS ad σ) g_0)) (va_Qi (fun r (_ : Unit) => r = res.1) (fun _ t => va_P (dC, dI) vwCl (mW cB cI cZ h qK qS ad res.2) t.heap) (mCells h ad sz)) 0 0 (mCells h ad sz) := by
  refine Met.ofW (cc := cX12_build) (maxL := 2) (ret := (some .int)) (by decide) rfl ?_
  intro p e s m args below meth c s₁ B hml hv
  obtain ⟨rfl, hsz, hP, hK, hE, hKS, hX⟩ := hv
  have hx := B.exec
  have hb := B.bytes
  have hr := B.returns
  have hts0 := atoms_spec (ws := g_ws yX12_build cX12_build 2 (some .int)) B.pre
  have hts : ∀ w ∈ lw_good, w.before ([.ref h] : List Value).toArray s = true := fun w z => hts0 w (List.mem_cons_of_mem _ z)
  have hown : s.vm.findClass RX12 = some m.cls := findClass_of_methodNamed B.named
  have hlocks := B.notSynchronized
  have hS : va_S (mCells h ad sz) s.heap s.heap [] := va_S.rf
  have hl := lv_entry ([.ref h]) (n := 2) (Nat.le_of_ble_eq_true rfl)
  rw [lg_entry_eq]
  generalize (lg_sl ([.ref h]) ++ List.replicate (2 - (lg_sl ([.ref h])).length) Slot.unset).toArray = ls at hl ⊢
  have hl : lv_has ls 2 [(0, .ref h)] := hl
  unfold F_X12_build at hF
  refine lv_aload_n hx hb dX12_build_0 rfl (lv_at hl 0 rfl) ?_
  refine lv_iconst (v := 0) hx hb dX12_build_1 (by decide +kernel) ?_
  obtain ⟨σ_1, eσ_1, hF_2⟩ := bnd_e hF
  clear hF
  refine m_put (σ' := σ_1) (v := .int 0) (ty := .int) hx hb hts hown hK hP (hDD _ _) hS (by rw [eσ_1]; exact mwI_0) (k := 0) (by decide) (hts (.fieldLink RX12 240 "StoryHouseModel" "thrown" "I") wq_1356) (fun _ h9 => h9) rfl (by decide +kernel) rfl rfl dX12_build_2 (fun H locs hP hS => ?_)
  refine lv_aload_n hx hb dX12_build_5 rfl (lv_at hl 0 rfl) ?_
  refine lv_aload_n hx hb dX12_build_6 rfl (lv_at hl 0 rfl) ?_
  refine va_get (D := (dC, dI)) (ci := 12) (v := .int (σ_1.1 4)) (C := RX12) (T := TX12) (N := 123) hx hb hts ii_X12 hown hK hP 0 rfl rfl 4 (by decide) (hts (.fieldLink RX12 559 "StoryHouseModel" "taped" "I") wq_1360) (fun _ h9 => h9) rfl dX12_build_7 ?_
  obtain ⟨σ_3, eσ_3, hF_4⟩ := bnd_e hF_2
  clear hF_2
  refine m_put (σ' := σ_3) (v := .int (σ_1.1 4)) (ty := .int) hx hb hts hown hK hP (hDD _ _) hS (by rw [eσ_3]; exact mwI_6) (k := 6) (by decide) (hts (.fieldLink RX12 249 "StoryHouseModel" "sourceSize" "I") wq_1362) (fun _ h9 => h9) rfl (by decide +kernel) rfl rfl dX12_build_10 (fun H locs hP hS => ?_)
  refine lv_iconst (v := 0) hx hb dX12_build_13 (by decide +kernel) ?_
  refine lv_istore_n (lv' := [(1, .int 0), (0, .ref h)]) hx hb dX12_build_14 rfl hl (by decide) rfl (fun ls hl => ?_)
  refine loopF_ind (P := fun (s_5 : Int32 × MS) => ∀ (H : Heap) (locs : List Loc), va_P (dC, dI) vwCl (mW cB cI cZ h qK qS ad s_5.2) H → va_S (mCells h ad sz) s.heap H locs → ∀ ls : Array Slot, lv_has ls 2 [(0, .ref h), (1, .int s_5.1)] → W p l e (headSpec (g_ws yX12_build cX12_build 2 (some .int)) { frames := 1476, cells := 0, slots := 0, locals := 38168 }).room s m ([.ref h] : List Value).toArray below meth c H locs 0 0 (MQ below (va_Qi (fun r (_ : Unit) => r = res.1) (fun _ t => va_P (dC, dI) vwCl (mW cB cI cZ h qK qS ad res.2) t.heap) (mCells h ad sz)) ([.ref h] : List Value).toArray s 0 0 (mCells h ad sz)) (F0 m 15 ls [])) ?_ _ _ hF_4 _ _ hP hS ls (lv_sub hl [1, 0] rfl)
  intro again_6 s_5 ih_7 hF_8
  intro H locs hP hS ls hl
  refine lv_iload_n hx hb dX12_build_15 rfl (lv_at hl 1 rfl) ?_
  refine lv_aload_n hx hb dX12_build_16 rfl (lv_at hl 0 rfl) ?_
  refine va_get (D := (dC, dI)) (ci := 12) (v := .int (s_5.2.1 4)) (C := RX12) (T := TX12) (N := 123) hx hb hts ii_X12 hown hK hP 0 rfl rfl 4 (by decide) (hts (.fieldLink RX12 559 "StoryHouseModel" "taped" "I") wq_1360) (fun _ h9 => h9) rfl dX12_build_17 ?_
  refine lv_icmp_ge (tgt := 41) hx hb dX12_build_20 (by decide) (fun c_9 => ?_) (fun c_9 => ?_)
  · have hF_10 := ipos c_9 hF_8
    clear hF_8
    refine lv_aload_n hx hb dX12_build_41 rfl (lv_at hl 0 rfl) ?_
    refine lv_iconst (v := 0) hx hb dX12_build_42 (by decide +kernel) ?_
    obtain ⟨σ_11, eσ_11, hF_12⟩ := bnd_e hF_10
    clear hF_10
    refine m_put (σ' := σ_11) (v := .int 0) (ty := .int) hx hb hts hown hK hP (hDD _ _) hS (by rw [eσ_11]; exact mwI_4) (k := 4) (by decide) (hts (.fieldLink RX12 559 "StoryHouseModel" "taped" "I") wq_1360) (fun _ h9 => h9) rfl (by decide +kernel) rfl rfl dX12_build_43 (fun H locs hP hS => ?_)
    refine lv_aload_n hx hb dX12_build_46 rfl (lv_at hl 0 rfl) ?_
    refine lv_iconst (v := 0) hx hb dX12_build_47 (by decide +kernel) ?_
    obtain ⟨σ_13, eσ_13, hF_14⟩ := bnd_e hF_12
    clear hF_12
    refine m_put (σ' := σ_13) (v := .int 0) (ty := .int) hx hb hts hown hK hP (hDD _ _) hS (by rw [eσ_13]; exact mwI_14) (k := 14) (by decide) (hts (.fieldLink RX12 308 "StoryHouseModel" "fault" "I") wq_1370) (fun _ h9 => h9) rfl (by decide +kernel) rfl rfl dX12_build_48 (fun H locs hP hS => ?_)
    refine lv_aload_n hx hb dX12_build_51 rfl (lv_at hl 0 rfl) ?_
    refine lv_iconst (v := (-1)) hx hb dX12_build_52 (by decide +kernel) ?_
    obtain ⟨σ_15, eσ_15, hF_16⟩ := bnd_e hF_14
    clear hF_14
    refine m_put (σ' := σ_15) (v := .int (-1)) (ty := .int) hx hb hts hown hK hP (hDD _ _) hS (by rw [eσ_15]; exact mwI_15) (k := 15) (by decide) (hts (.fieldLink RX12 311 "StoryHouseModel" "faultAt" "I") wq_1371) (fun _ h9 => h9) rfl (by decide +kernel) rfl rfl dX12_build_53 (fun H locs hP hS => ?_)
    refine lv_aload_n hx hb dX12_build_56 rfl (lv_at hl 0 rfl) ?_
    obtain ⟨u_17, hu_17, hF_18⟩ := Option.bind_eq_some_iff.mp hF_16
    clear hF_16
    refine m_cv hsz hS (va_runV (As := []) (rest := []) ⟨hx, hb, hml, hown, hts⟩ (m_X12_lex l dC dI cB cC cI cJ cZ cP h qK qS ad hDD H.size  σ_15 _ hu_17) (cwV 0 hts (g_gV wq_1494 wq_1495 wq_2114 wq_13 wq_1496) rfl rfl rfl (by decide +kernel) ⟨Nat.le_of_ble_eq_true rfl, Nat.le_of_ble_eq_true rfl⟩) (m_preV g_bl0 hsz hK hP hS hE hKS g_to0) rfl rfl hl.1 rfl (lv_room (Nat.le_of_ble_eq_true rfl)) dX12_build_57 ⟨Nat.le_of_ble_eq_true rfl, Nat.le_of_ble_eq_true rfl⟩) (fun H locs hP hS => ?_)
    refine lv_aload_n hx hb dX12_build_60 rfl (lv_at hl 0 rfl) ?_
    obtain ⟨u_19, hu_19, hF_20⟩ := Option.bind_eq_some_iff.mp hF_18
    clear hF_18
    refine m_cv hsz hS (va_runV (As := []) (rest := []) ⟨hx, hb, hml, hown, hts⟩ (m_X12_parse l dC dI cB cC cI cJ cZ cP h qK qS ad hDD H.size  u_17.2 _ hu_19) (cwV 0 hts (g_gV wq_1528 wq_1529 wq_2122 wq_13 wq_1530) rfl rfl rfl (by decide +kernel) ⟨Nat.le_of_ble_eq_true rfl, Nat.le_of_ble_eq_true rfl⟩) (m_preV g_bl0 hsz hK hP hS hE hKS g_to0) rfl rfl hl.1 rfl (lv_room (Nat.le_of_ble_eq_true rfl)) dX12_build_61 ⟨Nat.le_of_ble_eq_true rfl, Nat.le_of_ble_eq_true rfl⟩) (fun H locs hP hS => ?_)
    refine lv_aload_n hx hb dX12_build_64 rfl (lv_at hl 0 rfl) ?_
    refine va_get (D := (dC, dI)) (ci := 12) (v := .int (u_19.2.1 14)) (C := RX12) (T := TX12) (N := 123) hx hb hts ii_X12 hown hK hP 0 rfl rfl 14 (by decide) (hts (.fieldLink RX12 308 "StoryHouseModel" "fault" "I") wq_1370) (fun _ h9 => h9) rfl dX12_build_65 ?_
    obtain ⟨j_22, ej_22, hF_23⟩ := bnd_e hF_20
    clear hF_20
    have Jj_22 : ∀  (σ_21 : MS), j_22  σ_21 = some res → ∀ (H : Heap) (locs : List Loc), va_P (dC, dI) vwCl (mW cB cI cZ h qK qS ad σ_21) H → va_S (mCells h ad sz) s.heap H locs → ∀ ls : Array Slot, lv_has ls 2 [(0, .ref h)] → W p l e (headSpec (g_ws yX12_build cX12_build 2 (some .int)) { frames := 1476, cells := 0, slots := 0, locals := 38168 }).room s m ([.ref h] : List Value).toArray below meth c H locs 0 0 (MQ below (va_Qi (fun r (_ : Unit) => r = res.1) (fun _ t => va_P (dC, dI) vwCl (mW cB cI cZ h qK qS ad res.2) t.heap) (mCells h ad sz)) ([.ref h] : List Value).toArray s 0 0 (mCells h ad sz)) (F0 m 79 ls []) := by
      intro  σ_21 hF0 H locs hP hS ls hl
      subst ej_22
      have hF_24 := hF0
      clear hF0
      refine lv_aload_n hx hb dX12_build_79 rfl (lv_at hl 0 rfl) ?_
      refine va_get (D := (dC, dI)) (ci := 12) (v := .int (σ_21.1 14)) (C := RX12) (T := TX12) (N := 123) hx hb hts ii_X12 hown hK hP 0 rfl rfl 14 (by decide) (hts (.fieldLink RX12 308 "StoryHouseModel" "fault" "I") wq_1370) (fun _ h9 => h9) rfl dX12_build_80 ?_
      obtain ⟨j_26, ej_26, hF_27⟩ := bnd_e hF_24
      clear hF_24
      have Jj_26 : ∀  (σ_25 : MS), j_26  σ_25 = some res → ∀ (H : Heap) (locs : List Loc), va_P (dC, dI) vwCl (mW cB cI cZ h qK qS ad σ_25) H → va_S (mCells h ad sz) s.heap H locs → ∀ ls : Array Slot, lv_has ls 2 [(0, .ref h)] → W p l e (headSpec (g_ws yX12_build cX12_build 2 (some .int)) { frames := 1476, cells := 0, slots := 0, locals := 38168 }).room s m ([.ref h] : List Value).toArray below meth c H locs 0 0 (MQ below (va_Qi (fun r (_ : Unit) => r = res.1) (fun _ t => va_P (dC, dI) vwCl (mW cB cI cZ h qK qS ad res.2) t.heap) (mCells h ad sz)) ([.ref h] : List Value).toArray s 0 0 (mCells h ad sz)) (F0 m 90 ls []) := by
        intro  σ_25 hF0 H locs hP hS ls hl
        subst ej_26
        have hF_28 := hF0
        clear hF0
        refine lv_aload_n hx hb dX12_build_90 rfl (lv_at hl 0 rfl) ?_
        refine va_get (D := (dC, dI)) (ci := 12) (v := .int (σ_25.1 14)) (C := RX12) (T := TX12) (N := 123) hx hb hts ii_X12 hown hK hP 0 rfl rfl 14 (by decide) (hts (.fieldLink RX12 308 "StoryHouseModel" "fault" "I") wq_1370) (fun _ h9 => h9) rfl dX12_build_91 ?_
        obtain ⟨j_30, ej_30, hF_31⟩ := bnd_e hF_28
        clear hF_28
        have Jj_30 : ∀  (σ_29 : MS), j_30  σ_29 = some res → ∀ (H : Heap) (locs : List Loc), va_P (dC, dI) vwCl (mW cB cI cZ h qK qS ad σ_29) H → va_S (mCells h ad sz) s.heap H locs → ∀ ls : Array Slot, lv_has ls 2 [(0, .ref h)] → W p l e (headSpec (g_ws yX12_build cX12_build 2 (some .int)) { frames := 1476, cells := 0, slots := 0, locals := 38168 }).room s m ([.ref h] : List Value).toArray below meth c H locs 0 0 (MQ below (va_Qi (fun r (_ : Unit) => r = res.1) (fun _ t => va_P (dC, dI) vwCl (mW cB cI cZ h qK qS ad res.2) t.heap) (mCells h ad sz)) ([.ref h] : List Value).toArray s 0 0 (mCells h ad sz)) (F0 m 114 ls []) := by
          intro  σ_29 hF0 H locs hP hS ls hl
          subst ej_30
          have hF_32 := hF0
          clear hF0
          refine lv_aload_n hx hb dX12_build_114 rfl (lv_at hl 0 rfl) ?_
          refine lv_aload_n hx hb dX12_build_115 rfl (lv_at hl 0 rfl) ?_
          refine va_get (D := (dC, dI)) (ci := 12) (v := .int (σ_29.1 14)) (C := RX12) (T := TX12) (N := 123) hx hb hts ii_X12 hown hK hP 0 rfl rfl 14 (by decide) (hts (.fieldLink RX12 308 "StoryHouseModel" "fault" "I") wq_1370) (fun _ h9 => h9) rfl dX12_build_116 ?_
          obtain ⟨j_35, ej_35, hF_36⟩ := bnd_e hF_32
          clear hF_32
          have Jj_35 : ∀ (t_33 : Int32) (σ_34 : MS), j_35 t_33 σ_34 = some res → ∀ (H : Heap) (locs : List Loc), va_P (dC, dI) vwCl (mW cB cI cZ h qK qS ad σ_34) H → va_S (mCells h ad sz) s.heap H locs → ∀ ls : Array Slot, lv_has ls 2 [(0, .ref h)] → W p l e (headSpec (g_ws yX12_build cX12_build 2 (some .int)) { frames := 1476, cells := 0, slots := 0, locals := 38168 }).room s m ([.ref h] : List Value).toArray below meth c H locs 0 0 (MQ below (va_Qi (fun r (_ : Unit) => r = res.1) (fun _ t => va_P (dC, dI) vwCl (mW cB cI cZ h qK qS ad res.2) t.heap) (mCells h ad sz)) ([.ref h] : List Value).toArray s 0 0 (mCells h ad sz)) (F0 m 130 ls [.int t_33, .ref h]) := by
            intro t_33 σ_34 hF0 H locs hP hS ls hl
            subst ej_35
            have hF_37 := hF0
            clear hF0
            obtain ⟨σ_38, eσ_38, hF_39⟩ := bnd_e hF_37
            clear hF_37
            refine m_put (σ' := σ_38) (v := .int t_33) (ty := .int) hx hb hts hown hK hP (hDD _ _) hS (by rw [eσ_38]; exact mwI_16) (k := 16) (by decide) (hts (.fieldLink RX12 44 "StoryHouseModel" "placeOf" "I") wq_1372) (fun _ h9 => h9) rfl (by decide +kernel) rfl rfl dX12_build_130 (fun H locs hP hS => ?_)
            refine lv_aload_n hx hb dX12_build_133 rfl (lv_at hl 0 rfl) ?_
            refine va_get (D := (dC, dI)) (ci := 12) (v := .int (σ_38.1 14)) (C := RX12) (T := TX12) (N := 123) hx hb hts ii_X12 hown hK hP 0 rfl rfl 14 (by decide) (hts (.fieldLink RX12 308 "StoryHouseModel" "fault" "I") wq_1370) (fun _ h9 => h9) rfl dX12_build_134 ?_
            refine lv_if_eq (tgt := 146) hx hb dX12_build_137 (by decide) (fun c_40 => ?_) (fun c_40 => ?_)
            · have hF_41 := ipos c_40 hF_39
              clear hF_39
              refine lv_aload_n hx hb dX12_build_146 rfl (lv_at hl 0 rfl) ?_
              obtain ⟨u_42, hu_42, hF_43⟩ := Option.bind_eq_some_iff.mp hF_41
              clear hF_41
              refine m_cv hsz hS (va_runV (As := []) (rest := []) ⟨hx, hb, hml, hown, hts⟩ (m_X12_lay l dC dI cB cC cI cJ cZ cP h qK qS ad hDD H.size  σ_38 _ hu_42) (cwV 0 hts (g_gV wq_1720 wq_1721 wq_2185 wq_13 wq_1722) rfl rfl rfl (by decide +kernel) ⟨Nat.le_of_ble_eq_true rfl, Nat.le_of_ble_eq_true rfl⟩) (m_preV g_bl0 hsz hK hP hS hE hKS g_to0) rfl rfl hl.1 rfl (lv_room (Nat.le_of_ble_eq_true rfl)) dX12_build_147 ⟨Nat.le_of_ble_eq_true rfl, Nat.le_of_ble_eq_true rfl⟩) (fun H locs hP hS => ?_)
              refine lv_aload_n hx hb dX12_build_150 rfl (lv_at hl 0 rfl) ?_
              refine va_get (D := (dC, dI)) (ci := 12) (v := .int (u_42.2.1 78)) (C := RX12) (T := TX12) (N := 123) hx hb hts ii_X12 hown hK hP 0 rfl rfl 78 (by decide) (hts (.fieldLink RX12 587 "StoryHouseModel" "nObjects" "I") wq_1434) (fun _ h9 => h9) rfl dX12_build_151 ?_
              have h9 := Option.some.inj hF_43
              subst h9
              exact W.iret (v := (u_42.2.1 78)) hx hb hr (fun t ht hW => ⟨⟨(u_42.2.1 78), (), rfl, rfl, m_end ht hP⟩, hS.F ht⟩) hS.2.2 dX12_build_154
            · have hF_44 := ineg c_40 hF_39
              clear hF_39
              refine lv_aload_n hx hb dX12_build_140 rfl (lv_at hl 0 rfl) ?_
              refine va_get (D := (dC, dI)) (ci := 12) (v := .int (σ_38.1 14)) (C := RX12) (T := TX12) (N := 123) hx hb hts ii_X12 hown hK hP 0 rfl rfl 14 (by decide) (hts (.fieldLink RX12 308 "StoryHouseModel" "fault" "I") wq_1370) (fun _ h9 => h9) rfl dX12_build_141 ?_
              refine lv_ineg hx hb dX12_build_144 ?_
              have h9 := Option.some.inj hF_44
              subst h9
              exact W.iret (v := (-(σ_38.1 14))) hx hb hr (fun t ht hW => ⟨⟨(-(σ_38.1 14)), (), rfl, rfl, m_end ht hP⟩, hS.F ht⟩) hS.2.2 dX12_build_145
          refine lv_if_ne (tgt := 126) hx hb dX12_build_119 (by decide) (fun c_45 => ?_) (fun c_45 => ?_)
          · have hF_47 := ineg c_45 hF_36
            clear hF_36
            refine lv_aload_n hx hb dX12_build_126 rfl (lv_at hl 0 rfl) ?_
            refine va_get (D := (dC, dI)) (ci := 12) (v := .int (σ_29.1 15)) (C := RX12) (T := TX12) (N := 123) hx hb hts ii_X12 hown hK hP 0 rfl rfl 15 (by decide) (hts (.fieldLink RX12 311 "StoryHouseModel" "faultAt" "I") wq_1371) (fun _ h9 => h9) rfl dX12_build_127 ?_
            exact Jj_35 (σ_29.1 15) σ_29 hF_47 _ _ hP hS ls (lv_sub hl [0] rfl)
          · have hF_46 := ipos c_45 hF_36
            clear hF_36
            refine lv_iconst (v := (-1)) hx hb dX12_build_122 (by decide +kernel) ?_
            refine lv_goto (tgt := 130) hx hb dX12_build_123 (by decide) ?_
            exact Jj_35 (-1) σ_29 hF_46 _ _ hP hS ls (lv_sub hl [0] rfl)
        refine lv_if_ne (tgt := 114) hx hb dX12_build_94 (by decide) (fun c_48 => ?_) (fun c_48 => ?_)
        · have hF_57 := ineg c_48 hF_31
          clear hF_31
          exact Jj_30  σ_25 hF_57 _ _ hP hS ls (lv_sub hl [0] rfl)
        · have hF_49 := ipos c_48 hF_31
          clear hF_31
          refine lv_aload_n hx hb dX12_build_97 rfl (lv_at hl 0 rfl) ?_
          obtain ⟨u_50, hu_50, hF_51⟩ := Option.bind_eq_some_iff.mp hF_49
          clear hF_49
          refine m_ci hsz hS (va_runV (As := []) (rest := []) ⟨hx, hb, hml, hown, hts⟩ (m_X12_holds l dC dI cB cC cI cJ cZ cP h qK qS ad hDD H.size  σ_25 _ hu_50) (cwV 0 hts (g_gV wq_1714 wq_1715 wq_2183 wq_13 wq_1716) rfl rfl rfl (by decide +kernel) ⟨Nat.le_of_ble_eq_true rfl, Nat.le_of_ble_eq_true rfl⟩) (m_preV g_bl0 hsz hK hP hS hE hKS g_to0) rfl rfl hl.1 rfl (lv_room (Nat.le_of_ble_eq_true rfl)) dX12_build_98 ⟨Nat.le_of_ble_eq_true rfl, Nat.le_of_ble_eq_true rfl⟩) (fun H locs hP hS => ?_)
          refine lv_if_ne (tgt := 114) hx hb dX12_build_101 (by decide) (fun c_52 => ?_) (fun c_52 => ?_)
          · have hF_56 := ineg c_52 hF_51
            clear hF_51
            exact Jj_30  u_50.2 hF_56 _ _ hP hS ls (lv_sub hl [0] rfl)
          · have hF_53 := ipos c_52 hF_51
            clear hF_51
            refine lv_aload_n hx hb dX12_build_104 rfl (lv_at hl 0 rfl) ?_
            refine lv_bipush (v := 6) hx hb dX12_build_105 (by decide +kernel) ?_
            refine lv_aload_n hx hb dX12_build_107 rfl (lv_at hl 0 rfl) ?_
            refine va_get (D := (dC, dI)) (ci := 12) (v := .int (u_50.2.1 6)) (C := RX12) (T := TX12) (N := 123) hx hb hts ii_X12 hown hK hP 0 rfl rfl 6 (by decide) (hts (.fieldLink RX12 249 "StoryHouseModel" "sourceSize" "I") wq_1362) (fun _ h9 => h9) rfl dX12_build_108 ?_
            obtain ⟨u_54, hu_54, hF_55⟩ := Option.bind_eq_some_iff.mp hF_53
            clear hF_53
            refine m_cv hsz hS (va_runV (As := [.int 6, .int (u_50.2.1 6)]) (rest := []) ⟨hx, hb, hml, hown, hts⟩ (m_X12_note l dC dI cB cC cI cJ cZ cP h qK qS ad hDD H.size  6 (u_50.2.1 6) u_50.2 _ hu_54) (cwV 2 hts (g_gV wq_1660 wq_1661 wq_2165 wq_13 wq_1662) rfl rfl rfl (by decide +kernel) ⟨Nat.le_of_ble_eq_true rfl, Nat.le_of_ble_eq_true rfl⟩) (m_preV g_bl0 hsz hK hP hS hE hKS g_to0) rfl rfl hl.1 rfl (lv_room (Nat.le_of_ble_eq_true rfl)) dX12_build_111 ⟨Nat.le_of_ble_eq_true rfl, Nat.le_of_ble_eq_true rfl⟩) (fun H locs hP hS => ?_)
            exact Jj_30  u_54.2 hF_55 _ _ hP hS ls (lv_sub hl [0] rfl)
      refine lv_if_ne (tgt := 90) hx hb dX12_build_83 (by decide) (fun c_58 => ?_) (fun c_58 => ?_)
      · have hF_62 := ineg c_58 hF_27
        clear hF_27
        exact Jj_26  σ_21 hF_62 _ _ hP hS ls (lv_sub hl [0] rfl)
      · have hF_59 := ipos c_58 hF_27
        clear hF_27
        refine lv_aload_n hx hb dX12_build_86 rfl (lv_at hl 0 rfl) ?_
        obtain ⟨u_60, hu_60, hF_61⟩ := Option.bind_eq_some_iff.mp hF_59
        clear hF_59
        refine m_cv hsz hS (va_runV (As := []) (rest := []) ⟨hx, hb, hml, hown, hts⟩ (m_X12_resolve l dC dI cB cC cI cJ cZ cP h qK qS ad hDD H.size  σ_21 _ hu_60) (cwV 0 hts (g_gV wq_1678 wq_1679 wq_2171 wq_13 wq_1680) rfl rfl rfl (by decide +kernel) ⟨Nat.le_of_ble_eq_true rfl, Nat.le_of_ble_eq_true rfl⟩) (m_preV g_bl0 hsz hK hP hS hE hKS g_to0) rfl rfl hl.1 rfl (lv_room (Nat.le_of_ble_eq_true rfl)) dX12_build_87 ⟨Nat.le_of_ble_eq_true rfl, Nat.le_of_ble_eq_true rfl⟩) (fun H locs hP hS => ?_)
        exact Jj_26  u_60.2 hF_61 _ _ hP hS ls (lv_sub hl [0] rfl)
    refine lv_if_ne (tgt := 79) hx hb dX12_build_68 (by decide) (fun c_63 => ?_) (fun c_63 => ?_)
    · have hF_69 := ineg c_63 hF_23
      clear hF_23
      exact Jj_22  u_19.2 hF_69 _ _ hP hS ls (lv_sub hl [0] rfl)
    · have hF_64 := ipos c_63 hF_23
      clear hF_23
      refine lv_aload_n hx hb dX12_build_71 rfl (lv_at hl 0 rfl) ?_
      obtain ⟨u_65, hu_65, hF_66⟩ := Option.bind_eq_some_iff.mp hF_64
      clear hF_64
      refine m_cv hsz hS (va_runV (As := []) (rest := []) ⟨hx, hb, hml, hown, hts⟩ (m_X12_declare l dC dI cB cC cI cJ cZ cP h qK qS ad hDD H.size  u_19.2 _ hu_65) (cwV 0 hts (g_gV wq_1645 wq_1646 wq_2161 wq_13 wq_1647) rfl rfl rfl (by decide +kernel) ⟨Nat.le_of_ble_eq_true rfl, Nat.le_of_ble_eq_true rfl⟩) (m_preV g_bl0 hsz hK hP hS hE hKS g_to0) rfl rfl hl.1 rfl (lv_room (Nat.le_of_ble_eq_true rfl)) dX12_build_72 ⟨Nat.le_of_ble_eq_true rfl, Nat.le_of_ble_eq_true rfl⟩) (fun H locs hP hS => ?_)
      refine lv_aload_n hx hb dX12_build_75 rfl (lv_at hl 0 rfl) ?_
      obtain ⟨u_67, hu_67, hF_68⟩ := Option.bind_eq_some_iff.mp hF_66
      clear hF_66
      refine m_cv hsz hS (va_runV (As := []) (rest := []) ⟨hx, hb, hml, hown, hts⟩ (m_X12_declareSeen l dC dI cB cC cI cJ cZ cP h qK qS ad hDD H.size  u_65.2 _ hu_67) (cwV 0 hts (g_gV wq_1666 wq_1667 wq_2167 wq_13 wq_1668) rfl rfl rfl (by decide +kernel) ⟨Nat.le_of_ble_eq_true rfl, Nat.le_of_ble_eq_true rfl⟩) (m_preV g_bl0 hsz hK hP hS hE hKS g_to0) rfl rfl hl.1 rfl (lv_room (Nat.le_of_ble_eq_true rfl)) dX12_build_76 ⟨Nat.le_of_ble_eq_true rfl, Nat.le_of_ble_eq_true rfl⟩) (fun H locs hP hS => ?_)
      exact Jj_22  u_67.2 hF_68 _ _ hP hS ls (lv_sub hl [0] rfl)
  · have hF_70 := ineg c_9 hF_8
    clear hF_8
    refine lv_aload_n hx hb dX12_build_23 rfl (lv_at hl 0 rfl) ?_
    refine va_get (D := (dC, dI)) (ci := 12) (v := .ref (ad 5)) (C := RX12) (T := TX12) (N := 123) hx hb hts ii_X12 hown hK hP 0 rfl rfl 5 (by decide) (hts (.fieldLink RX12 24 "StoryHouseModel" "source" "[B") wq_1361) (fun _ h9 => h9) rfl dX12_build_24 ?_
    refine lv_iload_n hx hb dX12_build_27 rfl (lv_at hl 1 rfl) ?_
    refine lv_aload_n hx hb dX12_build_28 rfl (lv_at hl 0 rfl) ?_
    refine va_get (D := (dC, dI)) (ci := 12) (v := .ref (ad 3)) (C := RX12) (T := TX12) (N := 123) hx hb hts ii_X12 hown hK hP 0 rfl rfl 3 (by decide) (hts (.fieldLink RX12 20 "StoryHouseModel" "tape" "[B") wq_1359) (fun _ h9 => h9) rfl dX12_build_29 ?_
    refine lv_iload_n hx hb dX12_build_32 rfl (lv_at hl 1 rfl) ?_
    obtain ⟨g_71, hF_72⟩ := nif_e hF_70
    clear hF_70
    refine va_bald (f := s_5.2.2 3) hx hb hK hP 1 0 rfl rfl g_71 dX12_build_33 ?_
    obtain ⟨x_73, ex_73, hF_74⟩ := bnd_e hF_72
    clear hF_72
    refine m_top ex_73 ?_
    obtain ⟨g_75, hF_76⟩ := nif_e hF_74
    clear hF_74
    obtain ⟨σ_77, eσ_77, hF_78⟩ := bnd_e hF_76
    clear hF_76
    refine m_bast (σ' := σ_77) hx hb hK hP (hDD _ _) hS (q0 := 2) (t0 := 0) (f := s_5.2.2 5) rfl rfl (by rw [eσ_77]; exact mwA_5) g_75 dX12_build_34 (fun H locs hP hS => ?_)
    obtain ⟨x_79, ex_79, hF_80⟩ := bnd_e hF_78
    clear hF_78
    refine lv_iinc (v := x_79) (lv' := [(1, .int x_79), (0, .ref h)]) hx hb dX12_build_35 hl (k := 1) rfl (by rw [ex_79]; rfl) (by decide) rfl (fun ls hl => ?_)
    refine lv_goto (tgt := 15) hx hb dX12_build_38 (by decide) ?_
    exact ih_7 (x_79, σ_77) hF_80 _ _ hP hS ls (lv_sub hl [1, 0] rfl)
theorem dX12_place__0 : decode cX12_place_ 0 = .ok (.aload_n 0, 1) := by decide +kernel
theorem dX12_place__1 : decode cX12_place_ 1 = .ok (.iconst 0, 1) := by decide +kernel
theorem dX12_place__2 : decode cX12_place_ 2 = .ok (.putfield 240, 3) := by decide +kernel
theorem dX12_place__5 : decode cX12_place_ 5 = .ok (.aload_n 0, 1) := by decide +kernel
theorem dX12_place__6 : decode cX12_place_ 6 = .ok (.getfield 44, 3) := by decide +kernel
theorem dX12_place__9 : decode cX12_place_ 9 = .ok (.ireturn, 1) := by decide +kernel
def F_X12_place_  (σ : MS) : MR :=
  bnd (mI σ 0 0) fun σ_1 =>
  some ((σ_1.1 16), σ_1)
set_option maxHeartbeats 4000000 in
set_option maxRecDepth 100000 in
theorem m_X12_place_ (l : Launch) (dC : Nat → ClassId) (dI : Nat → Nat → Nat) (cB cC cI cJ cZ cP : ClassId) (h qK qS : Nat) (ad : Nat → Nat) (hDD : mDis cB cI cZ h qK qS ad) (sz : Nat)   (σ : MS) (res : Int32 × MS) (hF : F_X12_place_  σ = some res) : Met l yX12_place_ (g_ws yX12_place_ cX12_place_ 1 (some .int)) ({ frames := 1, cells := 0, slots := 0, locals := 40 }) (va_Pc [.ref h] (m_B (dC, dI) [(cB, .byte), (cC, .char), (cI, .int), (cJ, .long), (cZ, .boolean), (cP, .object "StoryHouse$Play")] sz h ad qK qS (mW cB cI cZ h qK qS ad σ) g_0)) (va_Qi (fun r (_ : Unit) => r = res.1) (fun _ t => va_P (dC, dI) vwCl (mW cB cI cZ h qK qS ad res.2) t.heap) (mCells h ad sz)) 0 0 (mCells h ad sz) := by
  refine Met.ofW (cc := cX12_place_) (maxL := 1) (ret := (some .int)) (by decide) rfl ?_
  intro p e s m args below meth c s₁ B hml hv
  obtain ⟨rfl, hsz, hP, hK, hE, hKS, hX⟩ := hv
  have hx := B.exec
  have hb := B.bytes
  have hr := B.returns
  have hts0 := atoms_spec (ws := g_ws yX12_place_ cX12_place_ 1 (some .int)) B.pre
  have hts : ∀ w ∈ lw_good, w.before ([.ref h] : List Value).toArray s = true := fun w z => hts0 w (List.mem_cons_of_mem _ z)
  have hown : s.vm.findClass RX12 = some m.cls := findClass_of_methodNamed B.named
  have hlocks := B.notSynchronized
  have hS : va_S (mCells h ad sz) s.heap s.heap [] := va_S.rf
  have hl := lv_entry ([.ref h]) (n := 1) (Nat.le_of_ble_eq_true rfl)
  rw [lg_entry_eq]
  generalize (lg_sl ([.ref h]) ++ List.replicate (1 - (lg_sl ([.ref h])).length) Slot.unset).toArray = ls at hl ⊢
  have hl : lv_has ls 1 [(0, .ref h)] := hl
  unfold F_X12_place_ at hF
  refine lv_aload_n hx hb dX12_place__0 rfl (lv_at hl 0 rfl) ?_
  refine lv_iconst (v := 0) hx hb dX12_place__1 (by decide +kernel) ?_
  obtain ⟨σ_1, eσ_1, hF_2⟩ := bnd_e hF
  clear hF
  refine m_put (σ' := σ_1) (v := .int 0) (ty := .int) hx hb hts hown hK hP (hDD _ _) hS (by rw [eσ_1]; exact mwI_0) (k := 0) (by decide) (hts (.fieldLink RX12 240 "StoryHouseModel" "thrown" "I") wq_1356) (fun _ h9 => h9) rfl (by decide +kernel) rfl rfl dX12_place__2 (fun H locs hP hS => ?_)
  refine lv_aload_n hx hb dX12_place__5 rfl (lv_at hl 0 rfl) ?_
  refine va_get (D := (dC, dI)) (ci := 12) (v := .int (σ_1.1 16)) (C := RX12) (T := TX12) (N := 123) hx hb hts ii_X12 hown hK hP 0 rfl rfl 16 (by decide) (hts (.fieldLink RX12 44 "StoryHouseModel" "placeOf" "I") wq_1372) (fun _ h9 => h9) rfl dX12_place__6 ?_
  have h9 := Option.some.inj hF_2
  subst h9
  exact W.iret (v := (σ_1.1 16)) hx hb hr (fun t ht hW => ⟨⟨(σ_1.1 16), (), rfl, rfl, m_end ht hP⟩, hS.F ht⟩) hS.2.2 dX12_place__9
theorem dX12_keep_0 : decode cX12_keep 0 = .ok (.sipush 2600, 3) := by decide +kernel
theorem dX12_keep_3 : decode cX12_keep 3 = .ok (.iload_n 1, 1) := by decide +kernel
theorem dX12_keep_4 : decode cX12_keep 4 = .ok (.imul, 1) := by decide +kernel
theorem dX12_keep_5 : decode cX12_keep 5 = .ok (.istore_n 2, 1) := by decide +kernel
theorem dX12_keep_6 : decode cX12_keep 6 = .ok (.iconst 1, 1) := by decide +kernel
theorem dX12_keep_7 : decode cX12_keep 7 = .ok (.istore_n 3, 1) := by decide +kernel
theorem dX12_keep_8 : decode cX12_keep 8 = .ok (.iload_n 3, 1) := by decide +kernel
theorem dX12_keep_9 : decode cX12_keep 9 = .ok (.aload_n 0, 1) := by decide +kernel
theorem dX12_keep_10 : decode cX12_keep 10 = .ok (.getfield 587, 3) := by decide +kernel
theorem dX12_keep_13 : decode cX12_keep 13 = .ok (.if_icmp .gt 112, 3) := by decide +kernel
theorem dX12_keep_16 : decode cX12_keep 16 = .ok (.aload_n 0, 1) := by decide +kernel
theorem dX12_keep_17 : decode cX12_keep 17 = .ok (.getfield 206, 3) := by decide +kernel
theorem dX12_keep_20 : decode cX12_keep 20 = .ok (.iload_n 2, 1) := by decide +kernel
theorem dX12_keep_21 : decode cX12_keep 21 = .ok (.iinc 2 1, 3) := by decide +kernel
theorem dX12_keep_24 : decode cX12_keep 24 = .ok (.aload_n 0, 1) := by decide +kernel
theorem dX12_keep_25 : decode cX12_keep 25 = .ok (.getfield 182, 3) := by decide +kernel
theorem dX12_keep_28 : decode cX12_keep 28 = .ok (.iload_n 3, 1) := by decide +kernel
theorem dX12_keep_29 : decode cX12_keep 29 = .ok (.iaload, 1) := by decide +kernel
theorem dX12_keep_30 : decode cX12_keep 30 = .ok (.iastore, 1) := by decide +kernel
theorem dX12_keep_31 : decode cX12_keep 31 = .ok (.aload_n 0, 1) := by decide +kernel
theorem dX12_keep_32 : decode cX12_keep 32 = .ok (.getfield 206, 3) := by decide +kernel
theorem dX12_keep_35 : decode cX12_keep 35 = .ok (.iload_n 2, 1) := by decide +kernel
theorem dX12_keep_36 : decode cX12_keep 36 = .ok (.iinc 2 1, 3) := by decide +kernel
theorem dX12_keep_39 : decode cX12_keep 39 = .ok (.aload_n 0, 1) := by decide +kernel
theorem dX12_keep_40 : decode cX12_keep 40 = .ok (.getfield 185, 3) := by decide +kernel
theorem dX12_keep_43 : decode cX12_keep 43 = .ok (.iload_n 3, 1) := by decide +kernel
theorem dX12_keep_44 : decode cX12_keep 44 = .ok (.iaload, 1) := by decide +kernel
theorem dX12_keep_45 : decode cX12_keep 45 = .ok (.iastore, 1) := by decide +kernel
theorem dX12_keep_46 : decode cX12_keep 46 = .ok (.aload_n 0, 1) := by decide +kernel
theorem dX12_keep_47 : decode cX12_keep 47 = .ok (.getfield 206, 3) := by decide +kernel
theorem dX12_keep_50 : decode cX12_keep 50 = .ok (.iload_n 2, 1) := by decide +kernel
theorem dX12_keep_51 : decode cX12_keep 51 = .ok (.iinc 2 1, 3) := by decide +kernel
theorem dX12_keep_54 : decode cX12_keep 54 = .ok (.aload_n 0, 1) := by decide +kernel
theorem dX12_keep_55 : decode cX12_keep 55 = .ok (.getfield 188, 3) := by decide +kernel
theorem dX12_keep_58 : decode cX12_keep 58 = .ok (.iload_n 3, 1) := by decide +kernel
theorem dX12_keep_59 : decode cX12_keep 59 = .ok (.iaload, 1) := by decide +kernel
theorem dX12_keep_60 : decode cX12_keep 60 = .ok (.iastore, 1) := by decide +kernel
theorem dX12_keep_61 : decode cX12_keep 61 = .ok (.iconst 0, 1) := by decide +kernel
theorem dX12_keep_62 : decode cX12_keep 62 = .ok (.istore 4, 2) := by decide +kernel
theorem dX12_keep_64 : decode cX12_keep 64 = .ok (.iconst 0, 1) := by decide +kernel
theorem dX12_keep_65 : decode cX12_keep 65 = .ok (.istore 5, 2) := by decide +kernel
theorem dX12_keep_67 : decode cX12_keep 67 = .ok (.iload 5, 2) := by decide +kernel
theorem dX12_keep_69 : decode cX12_keep 69 = .ok (.bipush 7, 2) := by decide +kernel
theorem dX12_keep_71 : decode cX12_keep 71 = .ok (.if_icmp .ge 37, 3) := by decide +kernel
theorem dX12_keep_74 : decode cX12_keep 74 = .ok (.iload 4, 2) := by decide +kernel
theorem dX12_keep_76 : decode cX12_keep 76 = .ok (.aload_n 0, 1) := by decide +kernel
theorem dX12_keep_77 : decode cX12_keep 77 = .ok (.getfield 191, 3) := by decide +kernel
theorem dX12_keep_80 : decode cX12_keep 80 = .ok (.bipush 7, 2) := by decide +kernel
theorem dX12_keep_82 : decode cX12_keep 82 = .ok (.iload_n 3, 1) := by decide +kernel
theorem dX12_keep_83 : decode cX12_keep 83 = .ok (.imul, 1) := by decide +kernel
theorem dX12_keep_84 : decode cX12_keep 84 = .ok (.iload 5, 2) := by decide +kernel
theorem dX12_keep_86 : decode cX12_keep 86 = .ok (.iadd, 1) := by decide +kernel
theorem dX12_keep_87 : decode cX12_keep 87 = .ok (.baload, 1) := by decide +kernel
theorem dX12_keep_88 : decode cX12_keep 88 = .ok (.ifCond .eq 10, 3) := by decide +kernel
theorem dX12_keep_91 : decode cX12_keep 91 = .ok (.iconst 1, 1) := by decide +kernel
theorem dX12_keep_92 : decode cX12_keep 92 = .ok (.iload 5, 2) := by decide +kernel
theorem dX12_keep_94 : decode cX12_keep 94 = .ok (.ishl, 1) := by decide +kernel
theorem dX12_keep_95 : decode cX12_keep 95 = .ok (.goto 4, 3) := by decide +kernel
theorem dX12_keep_98 : decode cX12_keep 98 = .ok (.iconst 0, 1) := by decide +kernel
theorem dX12_keep_99 : decode cX12_keep 99 = .ok (.ior, 1) := by decide +kernel
theorem dX12_keep_100 : decode cX12_keep 100 = .ok (.istore 4, 2) := by decide +kernel
theorem dX12_keep_102 : decode cX12_keep 102 = .ok (.iinc 5 1, 3) := by decide +kernel
theorem dX12_keep_105 : decode cX12_keep 105 = .ok (.goto (-38), 3) := by decide +kernel
theorem dX12_keep_108 : decode cX12_keep 108 = .ok (.aload_n 0, 1) := by decide +kernel
theorem dX12_keep_109 : decode cX12_keep 109 = .ok (.getfield 206, 3) := by decide +kernel
theorem dX12_keep_112 : decode cX12_keep 112 = .ok (.iload_n 2, 1) := by decide +kernel
theorem dX12_keep_113 : decode cX12_keep 113 = .ok (.iinc 2 1, 3) := by decide +kernel
theorem dX12_keep_116 : decode cX12_keep 116 = .ok (.iload 4, 2) := by decide +kernel
theorem dX12_keep_118 : decode cX12_keep 118 = .ok (.iastore, 1) := by decide +kernel
theorem dX12_keep_119 : decode cX12_keep 119 = .ok (.iinc 3 1, 3) := by decide +kernel
theorem dX12_keep_122 : decode cX12_keep 122 = .ok (.goto (-114), 3) := by decide +kernel
theorem dX12_keep_125 : decode cX12_keep 125 = .ok (.iconst 0, 1) := by decide +kernel
theorem dX12_keep_126 : decode cX12_keep 126 = .ok (.istore_n 3, 1) := by decide +kernel
theorem dX12_keep_127 : decode cX12_keep 127 = .ok (.iload_n 3, 1) := by decide +kernel
theorem dX12_keep_128 : decode cX12_keep 128 = .ok (.aload_n 0, 1) := by decide +kernel
theorem dX12_keep_129 : decode cX12_keep 129 = .ok (.getfield 606, 3) := by decide +kernel
theorem dX12_keep_132 : decode cX12_keep 132 = .ok (.if_icmp .ge 24, 3) := by decide +kernel
theorem dX12_keep_135 : decode cX12_keep 135 = .ok (.aload_n 0, 1) := by decide +kernel
theorem dX12_keep_136 : decode cX12_keep 136 = .ok (.getfield 206, 3) := by decide +kernel
theorem dX12_keep_139 : decode cX12_keep 139 = .ok (.iload_n 2, 1) := by decide +kernel
theorem dX12_keep_140 : decode cX12_keep 140 = .ok (.iinc 2 1, 3) := by decide +kernel
theorem dX12_keep_143 : decode cX12_keep 143 = .ok (.aload_n 0, 1) := by decide +kernel
theorem dX12_keep_144 : decode cX12_keep 144 = .ok (.getfield 194, 3) := by decide +kernel
theorem dX12_keep_147 : decode cX12_keep 147 = .ok (.iload_n 3, 1) := by decide +kernel
theorem dX12_keep_148 : decode cX12_keep 148 = .ok (.iaload, 1) := by decide +kernel
theorem dX12_keep_149 : decode cX12_keep 149 = .ok (.iastore, 1) := by decide +kernel
theorem dX12_keep_150 : decode cX12_keep 150 = .ok (.iinc 3 1, 3) := by decide +kernel
theorem dX12_keep_153 : decode cX12_keep 153 = .ok (.goto (-26), 3) := by decide +kernel
theorem dX12_keep_156 : decode cX12_keep 156 = .ok (.iconst 0, 1) := by decide +kernel
theorem dX12_keep_157 : decode cX12_keep 157 = .ok (.istore_n 3, 1) := by decide +kernel
theorem dX12_keep_158 : decode cX12_keep 158 = .ok (.iload_n 3, 1) := by decide +kernel
theorem dX12_keep_159 : decode cX12_keep 159 = .ok (.aload_n 0, 1) := by decide +kernel
theorem dX12_keep_160 : decode cX12_keep 160 = .ok (.getfield 176, 3) := by decide +kernel
theorem dX12_keep_163 : decode cX12_keep 163 = .ok (.aload_n 0, 1) := by decide +kernel
theorem dX12_keep_164 : decode cX12_keep 164 = .ok (.getfield 609, 3) := by decide +kernel
theorem dX12_keep_167 : decode cX12_keep 167 = .ok (.iaload, 1) := by decide +kernel
theorem dX12_keep_168 : decode cX12_keep 168 = .ok (.if_icmp .ge 24, 3) := by decide +kernel
theorem dX12_keep_171 : decode cX12_keep 171 = .ok (.aload_n 0, 1) := by decide +kernel
theorem dX12_keep_172 : decode cX12_keep 172 = .ok (.getfield 206, 3) := by decide +kernel
theorem dX12_keep_175 : decode cX12_keep 175 = .ok (.iload_n 2, 1) := by decide +kernel
theorem dX12_keep_176 : decode cX12_keep 176 = .ok (.iinc 2 1, 3) := by decide +kernel
theorem dX12_keep_179 : decode cX12_keep 179 = .ok (.aload_n 0, 1) := by decide +kernel
theorem dX12_keep_180 : decode cX12_keep 180 = .ok (.getfield 197, 3) := by decide +kernel
theorem dX12_keep_183 : decode cX12_keep 183 = .ok (.iload_n 3, 1) := by decide +kernel
theorem dX12_keep_184 : decode cX12_keep 184 = .ok (.iaload, 1) := by decide +kernel
theorem dX12_keep_185 : decode cX12_keep 185 = .ok (.iastore, 1) := by decide +kernel
theorem dX12_keep_186 : decode cX12_keep 186 = .ok (.iinc 3 1, 3) := by decide +kernel
theorem dX12_keep_189 : decode cX12_keep 189 = .ok (.goto (-31), 3) := by decide +kernel
theorem dX12_keep_192 : decode cX12_keep 192 = .ok (.aload_n 0, 1) := by decide +kernel
theorem dX12_keep_193 : decode cX12_keep 193 = .ok (.getfield 206, 3) := by decide +kernel
theorem dX12_keep_196 : decode cX12_keep 196 = .ok (.iload_n 2, 1) := by decide +kernel
theorem dX12_keep_197 : decode cX12_keep 197 = .ok (.iinc 2 1, 3) := by decide +kernel
theorem dX12_keep_200 : decode cX12_keep 200 = .ok (.aload_n 0, 1) := by decide +kernel
theorem dX12_keep_201 : decode cX12_keep 201 = .ok (.getfield 657, 3) := by decide +kernel
theorem dX12_keep_204 : decode cX12_keep 204 = .ok (.iastore, 1) := by decide +kernel
theorem dX12_keep_205 : decode cX12_keep 205 = .ok (.aload_n 0, 1) := by decide +kernel
theorem dX12_keep_206 : decode cX12_keep 206 = .ok (.getfield 206, 3) := by decide +kernel
theorem dX12_keep_209 : decode cX12_keep 209 = .ok (.iload_n 2, 1) := by decide +kernel
theorem dX12_keep_210 : decode cX12_keep 210 = .ok (.iinc 2 1, 3) := by decide +kernel
theorem dX12_keep_213 : decode cX12_keep 213 = .ok (.aload_n 0, 1) := by decide +kernel
theorem dX12_keep_214 : decode cX12_keep 214 = .ok (.getfield 660, 3) := by decide +kernel
theorem dX12_keep_217 : decode cX12_keep 217 = .ok (.iastore, 1) := by decide +kernel
theorem dX12_keep_218 : decode cX12_keep 218 = .ok (.aload_n 0, 1) := by decide +kernel
theorem dX12_keep_219 : decode cX12_keep 219 = .ok (.getfield 206, 3) := by decide +kernel
theorem dX12_keep_222 : decode cX12_keep 222 = .ok (.iload_n 2, 1) := by decide +kernel
theorem dX12_keep_223 : decode cX12_keep 223 = .ok (.iinc 2 1, 3) := by decide +kernel
theorem dX12_keep_226 : decode cX12_keep 226 = .ok (.aload_n 0, 1) := by decide +kernel
theorem dX12_keep_227 : decode cX12_keep 227 = .ok (.getfield 663, 3) := by decide +kernel
theorem dX12_keep_230 : decode cX12_keep 230 = .ok (.iastore, 1) := by decide +kernel
theorem dX12_keep_231 : decode cX12_keep 231 = .ok (.aload_n 0, 1) := by decide +kernel
theorem dX12_keep_232 : decode cX12_keep 232 = .ok (.getfield 206, 3) := by decide +kernel
theorem dX12_keep_235 : decode cX12_keep 235 = .ok (.iload_n 2, 1) := by decide +kernel
theorem dX12_keep_236 : decode cX12_keep 236 = .ok (.iinc 2 1, 3) := by decide +kernel
theorem dX12_keep_239 : decode cX12_keep 239 = .ok (.aload_n 0, 1) := by decide +kernel
theorem dX12_keep_240 : decode cX12_keep 240 = .ok (.getfield 665, 3) := by decide +kernel
theorem dX12_keep_243 : decode cX12_keep 243 = .ok (.iastore, 1) := by decide +kernel
theorem dX12_keep_244 : decode cX12_keep 244 = .ok (.aload_n 0, 1) := by decide +kernel
theorem dX12_keep_245 : decode cX12_keep 245 = .ok (.getfield 206, 3) := by decide +kernel
theorem dX12_keep_248 : decode cX12_keep 248 = .ok (.iload_n 2, 1) := by decide +kernel
theorem dX12_keep_249 : decode cX12_keep 249 = .ok (.iinc 2 1, 3) := by decide +kernel
theorem dX12_keep_252 : decode cX12_keep 252 = .ok (.aload_n 0, 1) := by decide +kernel
theorem dX12_keep_253 : decode cX12_keep 253 = .ok (.getfield 203, 3) := by decide +kernel
theorem dX12_keep_256 : decode cX12_keep 256 = .ok (.iastore, 1) := by decide +kernel
theorem dX12_keep_257 : decode cX12_keep 257 = .ok (.iconst 0, 1) := by decide +kernel
theorem dX12_keep_258 : decode cX12_keep 258 = .ok (.istore_n 3, 1) := by decide +kernel
theorem dX12_keep_259 : decode cX12_keep 259 = .ok (.iload_n 3, 1) := by decide +kernel
theorem dX12_keep_260 : decode cX12_keep 260 = .ok (.aload_n 0, 1) := by decide +kernel
theorem dX12_keep_261 : decode cX12_keep 261 = .ok (.getfield 203, 3) := by decide +kernel
theorem dX12_keep_264 : decode cX12_keep 264 = .ok (.if_icmp .ge 24, 3) := by decide +kernel
theorem dX12_keep_267 : decode cX12_keep 267 = .ok (.aload_n 0, 1) := by decide +kernel
theorem dX12_keep_268 : decode cX12_keep 268 = .ok (.getfield 206, 3) := by decide +kernel
theorem dX12_keep_271 : decode cX12_keep 271 = .ok (.iload_n 2, 1) := by decide +kernel
theorem dX12_keep_272 : decode cX12_keep 272 = .ok (.iinc 2 1, 3) := by decide +kernel
theorem dX12_keep_275 : decode cX12_keep 275 = .ok (.aload_n 0, 1) := by decide +kernel
theorem dX12_keep_276 : decode cX12_keep 276 = .ok (.getfield 200, 3) := by decide +kernel
theorem dX12_keep_279 : decode cX12_keep 279 = .ok (.iload_n 3, 1) := by decide +kernel
theorem dX12_keep_280 : decode cX12_keep 280 = .ok (.baload, 1) := by decide +kernel
theorem dX12_keep_281 : decode cX12_keep 281 = .ok (.iastore, 1) := by decide +kernel
theorem dX12_keep_282 : decode cX12_keep 282 = .ok (.iinc 3 1, 3) := by decide +kernel
theorem dX12_keep_285 : decode cX12_keep 285 = .ok (.goto (-26), 3) := by decide +kernel
theorem dX12_keep_288 : decode cX12_keep 288 = .ok (.return_, 1) := by decide +kernel
def F_X12_keep (p0 : Int32) (σ : MS) : MR :=
  bnd ((2600 * p0)) fun (x_1 : Int32) =>
  loopF (fun (again_4 : (Int32 × Int32 × MS) → MR) (s_3 : Int32 × Int32 × MS) => (
    if (s_3.2.2.1 78) < s_3.2.1 then (
      loopF (fun (again_10 : (Int32 × Int32 × MS) → MR) (s_9 : Int32 × Int32 × MS) => (
        if (s_9.2.2.1 80) ≤ s_9.2.1 then (
          loopF (fun (again_16 : (Int32 × Int32 × MS) → MR) (s_15 : Int32 × Int32 × MS) => (
            bnd ((s_15.2.2.1 81)) fun (x_19 : Int32) =>
            if x_19 < 0 ∨ 21 ≤ x_19.toNatClampNeg then none else
            if (s_15.2.2.2 77 x_19.toNatClampNeg) ≤ s_15.2.1 then (
              bnd (s_15.1 + 1) fun (x_25 : Int32) =>
              if s_15.1 < 0 ∨ 26000 ≤ s_15.1.toNatClampNeg then none else
              bnd (mA s_15.2.2 99 (upd (s_15.2.2.2 99) s_15.1.toNatClampNeg (s_15.2.2.1 93))) fun σ_29 =>
              bnd (x_25 + 1) fun (x_31 : Int32) =>
              if x_25 < 0 ∨ 26000 ≤ x_25.toNatClampNeg then none else
              bnd (mA σ_29 99 (upd (σ_29.2 99) x_25.toNatClampNeg (σ_29.1 94))) fun σ_35 =>
              bnd (x_31 + 1) fun (x_37 : Int32) =>
              if x_31 < 0 ∨ 26000 ≤ x_31.toNatClampNeg then none else
              bnd (mA σ_35 99 (upd (σ_35.2 99) x_31.toNatClampNeg (σ_35.1 95))) fun σ_41 =>
              bnd (x_37 + 1) fun (x_43 : Int32) =>
              if x_37 < 0 ∨ 26000 ≤ x_37.toNatClampNeg then none else
              bnd (mA σ_41 99 (upd (σ_41.2 99) x_37.toNatClampNeg (σ_41.1 96))) fun σ_47 =>
              bnd (x_43 + 1) fun (x_49 : Int32) =>
              if x_43 < 0 ∨ 26000 ≤ x_43.toNatClampNeg then none else
              bnd (mA σ_47 99 (upd (σ_47.2 99) x_43.toNatClampNeg (σ_47.1 98))) fun σ_53 =>
              loopF (fun (again_56 : (Int32 × Int32 × MS) → MR) (s_55 : Int32 × Int32 × MS) => (
                if (s_55.2.2.1 98) ≤ s_55.2.1 then (
                  some (0, s_55.2.2)
                ) else (
                  bnd (s_55.1 + 1) fun (x_62 : Int32) =>
                  if s_55.2.1 < 0 ∨ 120 ≤ s_55.2.1.toNatClampNeg then none else
                  bnd ((s_55.2.2.2 97 s_55.2.1.toNatClampNeg)) fun (x_66 : Int32) =>
                  if s_55.1 < 0 ∨ 26000 ≤ s_55.1.toNatClampNeg then none else
                  bnd (mA s_55.2.2 99 (upd (s_55.2.2.2 99) s_55.1.toNatClampNeg x_66)) fun σ_70 =>
                  bnd (s_55.2.1 + 1) fun (x_72 : Int32) =>
                  again_56 (x_62, x_72, σ_70)
                )
              )) FU (x_49, 0, σ_53)
            ) else (
              bnd (s_15.1 + 1) fun (x_75 : Int32) =>
              if s_15.2.1 < 0 ∨ 1000 ≤ s_15.2.1.toNatClampNeg then none else
              bnd ((s_15.2.2.2 92 s_15.2.1.toNatClampNeg)) fun (x_79 : Int32) =>
              if s_15.1 < 0 ∨ 26000 ≤ s_15.1.toNatClampNeg then none else
              bnd (mA s_15.2.2 99 (upd (s_15.2.2.2 99) s_15.1.toNatClampNeg x_79)) fun σ_83 =>
              bnd (s_15.2.1 + 1) fun (x_85 : Int32) =>
              again_16 (x_75, x_85, σ_83)
            )
          )) FU (s_9.1, 0, s_9.2.2)
        ) else (
          bnd (s_9.1 + 1) fun (x_88 : Int32) =>
          if s_9.2.1 < 0 ∨ 100 ≤ s_9.2.1.toNatClampNeg then none else
          bnd ((s_9.2.2.2 91 s_9.2.1.toNatClampNeg)) fun (x_92 : Int32) =>
          if s_9.1 < 0 ∨ 26000 ≤ s_9.1.toNatClampNeg then none else
          bnd (mA s_9.2.2 99 (upd (s_9.2.2.2 99) s_9.1.toNatClampNeg x_92)) fun σ_96 =>
          bnd (s_9.2.1 + 1) fun (x_98 : Int32) =>
          again_10 (x_88, x_98, σ_96)
        )
      )) FU (s_3.1, 0, s_3.2.2)
    ) else (
      bnd (s_3.1 + 1) fun (x_101 : Int32) =>
      if s_3.2.1 < 0 ∨ 121 ≤ s_3.2.1.toNatClampNeg then none else
      bnd ((s_3.2.2.2 87 s_3.2.1.toNatClampNeg)) fun (x_105 : Int32) =>
      if s_3.1 < 0 ∨ 26000 ≤ s_3.1.toNatClampNeg then none else
      bnd (mA s_3.2.2 99 (upd (s_3.2.2.2 99) s_3.1.toNatClampNeg x_105)) fun σ_109 =>
      bnd (x_101 + 1) fun (x_111 : Int32) =>
      if s_3.2.1 < 0 ∨ 121 ≤ s_3.2.1.toNatClampNeg then none else
      bnd ((σ_109.2 88 s_3.2.1.toNatClampNeg)) fun (x_115 : Int32) =>
      if x_101 < 0 ∨ 26000 ≤ x_101.toNatClampNeg then none else
      bnd (mA σ_109 99 (upd (σ_109.2 99) x_101.toNatClampNeg x_115)) fun σ_119 =>
      bnd (x_111 + 1) fun (x_121 : Int32) =>
      if s_3.2.1 < 0 ∨ 121 ≤ s_3.2.1.toNatClampNeg then none else
      bnd ((σ_119.2 89 s_3.2.1.toNatClampNeg)) fun (x_125 : Int32) =>
      if x_111 < 0 ∨ 26000 ≤ x_111.toNatClampNeg then none else
      bnd (mA σ_119 99 (upd (σ_119.2 99) x_111.toNatClampNeg x_125)) fun σ_129 =>
      loopF (fun (again_132 : (Int32 × Int32 × MS) → MR) (s_131 : Int32 × Int32 × MS) => (
        if 7 ≤ s_131.2.1 then (
          bnd (x_121 + 1) fun (x_137 : Int32) =>
          if x_121 < 0 ∨ 26000 ≤ x_121.toNatClampNeg then none else
          bnd (mA s_131.2.2 99 (upd (s_131.2.2.2 99) x_121.toNatClampNeg s_131.1)) fun σ_141 =>
          bnd (s_3.2.1 + 1) fun (x_143 : Int32) =>
          again_4 (x_137, x_143, σ_141)
        ) else (
          bnd (((7 * s_3.2.1) + s_131.2.1)) fun (x_146 : Int32) =>
          if x_146 < 0 ∨ 847 ≤ x_146.toNatClampNeg then none else
          bnd (fun (t_150 : Int32) (σ_151 : MS) => (
            bnd ((s_131.1 ||| t_150)) fun (x_155 : Int32) =>
            bnd (s_131.2.1 + 1) fun (x_157 : Int32) =>
            again_132 (x_155, x_157, σ_151)
          ) : Int32 → MS → MR) fun j_152 =>
          if (s_131.2.2.2 90 x_146.toNatClampNeg) = 0 then (
            j_152 0 s_131.2.2
          ) else (
            j_152 (1 <<< (s_131.2.1 &&& 31)) s_131.2.2
          )
        )
      )) FU (0, 0, σ_129)
    )
  )) FU (x_1, 1, σ)
set_option maxHeartbeats 4000000 in
set_option maxRecDepth 100000 in
theorem m_X12_keep (l : Launch) (dC : Nat → ClassId) (dI : Nat → Nat → Nat) (cB cC cI cJ cZ cP : ClassId) (h qK qS : Nat) (ad : Nat → Nat) (hDD : mDis cB cI cZ h qK qS ad) (sz : Nat)  (p0 : Int32) (σ : MS) (res : Int32 × MS) (hF : F_X12_keep p0 σ = some res) : Met l yX12_keep (g_ws yX12_keep cX12_keep 6 none) ({ frames := 1, cells := 0, slots := 0, locals := 40 }) (va_Pc [.ref h, .int p0] (m_B (dC, dI) [(cB, .byte), (cC, .char), (cI, .int), (cJ, .long), (cZ, .boolean), (cP, .object "StoryHouse$Play")] sz h ad qK qS (mW cB cI cZ h qK qS ad σ) g_0)) (va_Qv (fun (_ : Unit) => True) (fun _ t => va_P (dC, dI) vwCl (mW cB cI cZ h qK qS ad res.2) t.heap) (mCells h ad sz)) 0 0 (mCells h ad sz) := by
  refine Met.ofW (cc := cX12_keep) (maxL := 6) (ret := none) (by decide) rfl ?_
  intro p e s m args below meth c s₁ B hml hv
  obtain ⟨rfl, hsz, hP, hK, hE, hKS, hX⟩ := hv
  have hx := B.exec
  have hb := B.bytes
  have hr := B.returns
  have hts0 := atoms_spec (ws := g_ws yX12_keep cX12_keep 6 none) B.pre
  have hts : ∀ w ∈ lw_good, w.before ([.ref h, .int p0] : List Value).toArray s = true := fun w z => hts0 w (List.mem_cons_of_mem _ z)
  have hown : s.vm.findClass RX12 = some m.cls := findClass_of_methodNamed B.named
  have hlocks := B.notSynchronized
  have hS : va_S (mCells h ad sz) s.heap s.heap [] := va_S.rf
  have hl := lv_entry ([.ref h, .int p0]) (n := 6) (Nat.le_of_ble_eq_true rfl)
  rw [lg_entry_eq]
  generalize (lg_sl ([.ref h, .int p0]) ++ List.replicate (6 - (lg_sl ([.ref h, .int p0])).length) Slot.unset).toArray = ls at hl ⊢
  have hl : lv_has ls 6 [(0, .ref h), (1, .int p0)] := hl
  unfold F_X12_keep at hF
  refine lv_sipush (v := 2600) hx hb dX12_keep_0 (by decide +kernel) ?_
  refine lv_iload_n hx hb dX12_keep_3 rfl (lv_at hl 1 rfl) ?_
  refine lv_imul hx hb dX12_keep_4 ?_
  obtain ⟨x_1, ex_1, hF_2⟩ := bnd_e hF
  clear hF
  refine m_top ex_1 ?_
  refine lv_istore_n (lv' := [(2, .int x_1), (0, .ref h), (1, .int p0)]) hx hb dX12_keep_5 rfl hl (by decide) rfl (fun ls hl => ?_)
  refine lv_iconst (v := 1) hx hb dX12_keep_6 (by decide +kernel) ?_
  refine lv_istore_n (lv' := [(3, .int 1), (2, .int x_1), (0, .ref h), (1, .int p0)]) hx hb dX12_keep_7 rfl hl (by decide) rfl (fun ls hl => ?_)
  refine loopF_ind (P := fun (s_3 : Int32 × Int32 × MS) => ∀ (H : Heap) (locs : List Loc), va_P (dC, dI) vwCl (mW cB cI cZ h qK qS ad s_3.2.2) H → va_S (mCells h ad sz) s.heap H locs → ∀ ls : Array Slot, lv_has ls 6 [(0, .ref h), (2, .int s_3.1), (3, .int s_3.2.1)] → W p l e (headSpec (g_ws yX12_keep cX12_keep 6 none) { frames := 1, cells := 0, slots := 0, locals := 40 }).room s m ([.ref h, .int p0] : List Value).toArray below meth c H locs 0 0 (MQ below (va_Qv (fun (_ : Unit) => True) (fun _ t => va_P (dC, dI) vwCl (mW cB cI cZ h qK qS ad res.2) t.heap) (mCells h ad sz)) ([.ref h, .int p0] : List Value).toArray s 0 0 (mCells h ad sz)) (F0 m 8 ls [])) ?_ _ _ hF_2 _ _ hP hS ls (lv_sub hl [2, 1, 0] rfl)
  intro again_4 s_3 ih_5 hF_6
  intro H locs hP hS ls hl
  refine lv_iload_n hx hb dX12_keep_8 rfl (lv_at hl 2 rfl) ?_
  refine lv_aload_n hx hb dX12_keep_9 rfl (lv_at hl 0 rfl) ?_
  refine va_get (D := (dC, dI)) (ci := 12) (v := .int (s_3.2.2.1 78)) (C := RX12) (T := TX12) (N := 123) hx hb hts ii_X12 hown hK hP 0 rfl rfl 78 (by decide) (hts (.fieldLink RX12 587 "StoryHouseModel" "nObjects" "I") wq_1434) (fun _ h9 => h9) rfl dX12_keep_10 ?_
  refine lv_icmp_gt (tgt := 125) hx hb dX12_keep_13 (by decide) (fun c_7 => ?_) (fun c_7 => ?_)
  · have hF_8 := ipos c_7 hF_6
    clear hF_6
    refine lv_iconst (v := 0) hx hb dX12_keep_125 (by decide +kernel) ?_
    refine lv_istore_n (lv' := [(3, .int 0), (0, .ref h), (2, .int s_3.1)]) hx hb dX12_keep_126 rfl hl (by decide) rfl (fun ls hl => ?_)
    refine loopF_ind (P := fun (s_9 : Int32 × Int32 × MS) => ∀ (H : Heap) (locs : List Loc), va_P (dC, dI) vwCl (mW cB cI cZ h qK qS ad s_9.2.2) H → va_S (mCells h ad sz) s.heap H locs → ∀ ls : Array Slot, lv_has ls 6 [(0, .ref h), (2, .int s_9.1), (3, .int s_9.2.1)] → W p l e (headSpec (g_ws yX12_keep cX12_keep 6 none) { frames := 1, cells := 0, slots := 0, locals := 40 }).room s m ([.ref h, .int p0] : List Value).toArray below meth c H locs 0 0 (MQ below (va_Qv (fun (_ : Unit) => True) (fun _ t => va_P (dC, dI) vwCl (mW cB cI cZ h qK qS ad res.2) t.heap) (mCells h ad sz)) ([.ref h, .int p0] : List Value).toArray s 0 0 (mCells h ad sz)) (F0 m 127 ls [])) ?_ _ _ hF_8 _ _ hP hS ls (lv_sub hl [1, 2, 0] rfl)
    intro again_10 s_9 ih_11 hF_12
    intro H locs hP hS ls hl
    refine lv_iload_n hx hb dX12_keep_127 rfl (lv_at hl 2 rfl) ?_
    refine lv_aload_n hx hb dX12_keep_128 rfl (lv_at hl 0 rfl) ?_
    refine va_get (D := (dC, dI)) (ci := 12) (v := .int (s_9.2.2.1 80)) (C := RX12) (T := TX12) (N := 123) hx hb hts ii_X12 hown hK hP 0 rfl rfl 80 (by decide) (hts (.fieldLink RX12 606 "StoryHouseModel" "nVars" "I") wq_1436) (fun _ h9 => h9) rfl dX12_keep_129 ?_
    refine lv_icmp_ge (tgt := 156) hx hb dX12_keep_132 (by decide) (fun c_13 => ?_) (fun c_13 => ?_)
    · have hF_14 := ipos c_13 hF_12
      clear hF_12
      refine lv_iconst (v := 0) hx hb dX12_keep_156 (by decide +kernel) ?_
      refine lv_istore_n (lv' := [(3, .int 0), (0, .ref h), (2, .int s_9.1)]) hx hb dX12_keep_157 rfl hl (by decide) rfl (fun ls hl => ?_)
      refine loopF_ind (P := fun (s_15 : Int32 × Int32 × MS) => ∀ (H : Heap) (locs : List Loc), va_P (dC, dI) vwCl (mW cB cI cZ h qK qS ad s_15.2.2) H → va_S (mCells h ad sz) s.heap H locs → ∀ ls : Array Slot, lv_has ls 6 [(0, .ref h), (2, .int s_15.1), (3, .int s_15.2.1)] → W p l e (headSpec (g_ws yX12_keep cX12_keep 6 none) { frames := 1, cells := 0, slots := 0, locals := 40 }).room s m ([.ref h, .int p0] : List Value).toArray below meth c H locs 0 0 (MQ below (va_Qv (fun (_ : Unit) => True) (fun _ t => va_P (dC, dI) vwCl (mW cB cI cZ h qK qS ad res.2) t.heap) (mCells h ad sz)) ([.ref h, .int p0] : List Value).toArray s 0 0 (mCells h ad sz)) (F0 m 158 ls [])) ?_ _ _ hF_14 _ _ hP hS ls (lv_sub hl [1, 2, 0] rfl)
      intro again_16 s_15 ih_17 hF_18
      intro H locs hP hS ls hl
      refine lv_iload_n hx hb dX12_keep_158 rfl (lv_at hl 2 rfl) ?_
      refine lv_aload_n hx hb dX12_keep_159 rfl (lv_at hl 0 rfl) ?_
      refine va_get (D := (dC, dI)) (ci := 12) (v := .ref (ad 77)) (C := RX12) (T := TX12) (N := 123) hx hb hts ii_X12 hown hK hP 0 rfl rfl 77 (by decide) (hts (.fieldLink RX12 176 "StoryHouseModel" "arrayAt" "[I") wq_1433) (fun _ h9 => h9) rfl dX12_keep_160 ?_
      refine lv_aload_n hx hb dX12_keep_163 rfl (lv_at hl 0 rfl) ?_
      refine va_get (D := (dC, dI)) (ci := 12) (v := .int (s_15.2.2.1 81)) (C := RX12) (T := TX12) (N := 123) hx hb hts ii_X12 hown hK hP 0 rfl rfl 81 (by decide) (hts (.fieldLink RX12 609 "StoryHouseModel" "nArrays" "I") wq_1437) (fun _ h9 => h9) rfl dX12_keep_164 ?_
      obtain ⟨x_19, ex_19, hF_20⟩ := bnd_e hF_18
      clear hF_18
      refine m_top ex_19 ?_
      obtain ⟨g_21, hF_22⟩ := nif_e hF_20
      clear hF_20
      refine va_iald (f := s_15.2.2.2 77) hx hb hK hP 50 2 rfl rfl g_21 dX12_keep_167 ?_
      refine lv_icmp_ge (tgt := 192) hx hb dX12_keep_168 (by decide) (fun c_23 => ?_) (fun c_23 => ?_)
      · have hF_24 := ipos c_23 hF_22
        clear hF_22
        refine lv_aload_n hx hb dX12_keep_192 rfl (lv_at hl 0 rfl) ?_
        refine va_get (D := (dC, dI)) (ci := 12) (v := .ref (ad 99)) (C := RX12) (T := TX12) (N := 123) hx hb hts ii_X12 hown hK hP 0 rfl rfl 99 (by decide) (hts (.fieldLink RX12 206 "StoryHouseModel" "plays" "[I") wq_1455) (fun _ h9 => h9) rfl dX12_keep_193 ?_
        refine lv_iload_n hx hb dX12_keep_196 rfl (lv_at hl 1 rfl) ?_
        obtain ⟨x_25, ex_25, hF_26⟩ := bnd_e hF_24
        clear hF_24
        refine lv_iinc (v := x_25) (lv' := [(2, .int x_25), (0, .ref h), (3, .int s_15.2.1)]) hx hb dX12_keep_197 hl (k := 1) rfl (by rw [ex_25]; rfl) (by decide) rfl (fun ls hl => ?_)
        refine lv_aload_n hx hb dX12_keep_200 rfl (lv_at hl 1 rfl) ?_
        refine va_get (D := (dC, dI)) (ci := 12) (v := .int (s_15.2.2.1 93)) (C := RX12) (T := TX12) (N := 123) hx hb hts ii_X12 hown hK hP 0 rfl rfl 93 (by decide) (hts (.fieldLink RX12 657 "StoryHouseModel" "seed" "I") wq_1449) (fun _ h9 => h9) rfl dX12_keep_201 ?_
        obtain ⟨g_27, hF_28⟩ := nif_e hF_26
        clear hF_26
        obtain ⟨σ_29, eσ_29, hF_30⟩ := bnd_e hF_28
        clear hF_28
        refine m_iast (σ' := σ_29) hx hb hK hP (hDD _ _) hS (q0 := 59) (t0 := 2) (f := s_15.2.2.2 99) rfl rfl (by rw [eσ_29]; exact mwA_99) g_27 dX12_keep_204 (fun H locs hP hS => ?_)
        refine lv_aload_n hx hb dX12_keep_205 rfl (lv_at hl 1 rfl) ?_
        refine va_get (D := (dC, dI)) (ci := 12) (v := .ref (ad 99)) (C := RX12) (T := TX12) (N := 123) hx hb hts ii_X12 hown hK hP 0 rfl rfl 99 (by decide) (hts (.fieldLink RX12 206 "StoryHouseModel" "plays" "[I") wq_1455) (fun _ h9 => h9) rfl dX12_keep_206 ?_
        refine lv_iload_n hx hb dX12_keep_209 rfl (lv_at hl 0 rfl) ?_
        obtain ⟨x_31, ex_31, hF_32⟩ := bnd_e hF_30
        clear hF_30
        refine lv_iinc (v := x_31) (lv' := [(2, .int x_31), (0, .ref h), (3, .int s_15.2.1)]) hx hb dX12_keep_210 hl (k := 0) rfl (by rw [ex_31]; rfl) (by decide) rfl (fun ls hl => ?_)
        refine lv_aload_n hx hb dX12_keep_213 rfl (lv_at hl 1 rfl) ?_
        refine va_get (D := (dC, dI)) (ci := 12) (v := .int (σ_29.1 94)) (C := RX12) (T := TX12) (N := 123) hx hb hts ii_X12 hown hK hP 0 rfl rfl 94 (by decide) (hts (.fieldLink RX12 660 "StoryHouseModel" "turns" "I") wq_1450) (fun _ h9 => h9) rfl dX12_keep_214 ?_
        obtain ⟨g_33, hF_34⟩ := nif_e hF_32
        clear hF_32
        obtain ⟨σ_35, eσ_35, hF_36⟩ := bnd_e hF_34
        clear hF_34
        refine m_iast (σ' := σ_35) hx hb hK hP (hDD _ _) hS (q0 := 59) (t0 := 2) (f := σ_29.2 99) rfl rfl (by rw [eσ_35]; exact mwA_99) g_33 dX12_keep_217 (fun H locs hP hS => ?_)
        refine lv_aload_n hx hb dX12_keep_218 rfl (lv_at hl 1 rfl) ?_
        refine va_get (D := (dC, dI)) (ci := 12) (v := .ref (ad 99)) (C := RX12) (T := TX12) (N := 123) hx hb hts ii_X12 hown hK hP 0 rfl rfl 99 (by decide) (hts (.fieldLink RX12 206 "StoryHouseModel" "plays" "[I") wq_1455) (fun _ h9 => h9) rfl dX12_keep_219 ?_
        refine lv_iload_n hx hb dX12_keep_222 rfl (lv_at hl 0 rfl) ?_
        obtain ⟨x_37, ex_37, hF_38⟩ := bnd_e hF_36
        clear hF_36
        refine lv_iinc (v := x_37) (lv' := [(2, .int x_37), (0, .ref h), (3, .int s_15.2.1)]) hx hb dX12_keep_223 hl (k := 0) rfl (by rw [ex_37]; rfl) (by decide) rfl (fun ls hl => ?_)
        refine lv_aload_n hx hb dX12_keep_226 rfl (lv_at hl 1 rfl) ?_
        refine va_get (D := (dC, dI)) (ci := 12) (v := .int (σ_35.1 95)) (C := RX12) (T := TX12) (N := 123) hx hb hts ii_X12 hown hK hP 0 rfl rfl 95 (by decide) (hts (.fieldLink RX12 663 "StoryHouseModel" "ended" "I") wq_1451) (fun _ h9 => h9) rfl dX12_keep_227 ?_
        obtain ⟨g_39, hF_40⟩ := nif_e hF_38
        clear hF_38
        obtain ⟨σ_41, eσ_41, hF_42⟩ := bnd_e hF_40
        clear hF_40
        refine m_iast (σ' := σ_41) hx hb hK hP (hDD _ _) hS (q0 := 59) (t0 := 2) (f := σ_35.2 99) rfl rfl (by rw [eσ_41]; exact mwA_99) g_39 dX12_keep_230 (fun H locs hP hS => ?_)
        refine lv_aload_n hx hb dX12_keep_231 rfl (lv_at hl 1 rfl) ?_
        refine va_get (D := (dC, dI)) (ci := 12) (v := .ref (ad 99)) (C := RX12) (T := TX12) (N := 123) hx hb hts ii_X12 hown hK hP 0 rfl rfl 99 (by decide) (hts (.fieldLink RX12 206 "StoryHouseModel" "plays" "[I") wq_1455) (fun _ h9 => h9) rfl dX12_keep_232 ?_
        refine lv_iload_n hx hb dX12_keep_235 rfl (lv_at hl 0 rfl) ?_
        obtain ⟨x_43, ex_43, hF_44⟩ := bnd_e hF_42
        clear hF_42
        refine lv_iinc (v := x_43) (lv' := [(2, .int x_43), (0, .ref h), (3, .int s_15.2.1)]) hx hb dX12_keep_236 hl (k := 0) rfl (by rw [ex_43]; rfl) (by decide) rfl (fun ls hl => ?_)
        refine lv_aload_n hx hb dX12_keep_239 rfl (lv_at hl 1 rfl) ?_
        refine va_get (D := (dC, dI)) (ci := 12) (v := .int (σ_41.1 96)) (C := RX12) (T := TX12) (N := 123) hx hb hts ii_X12 hown hK hP 0 rfl rfl 96 (by decide) (hts (.fieldLink RX12 665 "StoryHouseModel" "it" "I") wq_1452) (fun _ h9 => h9) rfl dX12_keep_240 ?_
        obtain ⟨g_45, hF_46⟩ := nif_e hF_44
        clear hF_44
        obtain ⟨σ_47, eσ_47, hF_48⟩ := bnd_e hF_46
        clear hF_46
        refine m_iast (σ' := σ_47) hx hb hK hP (hDD _ _) hS (q0 := 59) (t0 := 2) (f := σ_41.2 99) rfl rfl (by rw [eσ_47]; exact mwA_99) g_45 dX12_keep_243 (fun H locs hP hS => ?_)
        refine lv_aload_n hx hb dX12_keep_244 rfl (lv_at hl 1 rfl) ?_
        refine va_get (D := (dC, dI)) (ci := 12) (v := .ref (ad 99)) (C := RX12) (T := TX12) (N := 123) hx hb hts ii_X12 hown hK hP 0 rfl rfl 99 (by decide) (hts (.fieldLink RX12 206 "StoryHouseModel" "plays" "[I") wq_1455) (fun _ h9 => h9) rfl dX12_keep_245 ?_
        refine lv_iload_n hx hb dX12_keep_248 rfl (lv_at hl 0 rfl) ?_
        obtain ⟨x_49, ex_49, hF_50⟩ := bnd_e hF_48
        clear hF_48
        refine lv_iinc (v := x_49) (lv' := [(2, .int x_49), (0, .ref h), (3, .int s_15.2.1)]) hx hb dX12_keep_249 hl (k := 0) rfl (by rw [ex_49]; rfl) (by decide) rfl (fun ls hl => ?_)
        refine lv_aload_n hx hb dX12_keep_252 rfl (lv_at hl 1 rfl) ?_
        refine va_get (D := (dC, dI)) (ci := 12) (v := .int (σ_47.1 98)) (C := RX12) (T := TX12) (N := 123) hx hb hts ii_X12 hown hK hP 0 rfl rfl 98 (by decide) (hts (.fieldLink RX12 203 "StoryHouseModel" "latestSize" "I") wq_1454) (fun _ h9 => h9) rfl dX12_keep_253 ?_
        obtain ⟨g_51, hF_52⟩ := nif_e hF_50
        clear hF_50
        obtain ⟨σ_53, eσ_53, hF_54⟩ := bnd_e hF_52
        clear hF_52
        refine m_iast (σ' := σ_53) hx hb hK hP (hDD _ _) hS (q0 := 59) (t0 := 2) (f := σ_47.2 99) rfl rfl (by rw [eσ_53]; exact mwA_99) g_51 dX12_keep_256 (fun H locs hP hS => ?_)
        refine lv_iconst (v := 0) hx hb dX12_keep_257 (by decide +kernel) ?_
        refine lv_istore_n (lv' := [(3, .int 0), (2, .int x_49), (0, .ref h)]) hx hb dX12_keep_258 rfl hl (by decide) rfl (fun ls hl => ?_)
        refine loopF_ind (P := fun (s_55 : Int32 × Int32 × MS) => ∀ (H : Heap) (locs : List Loc), va_P (dC, dI) vwCl (mW cB cI cZ h qK qS ad s_55.2.2) H → va_S (mCells h ad sz) s.heap H locs → ∀ ls : Array Slot, lv_has ls 6 [(0, .ref h), (2, .int s_55.1), (3, .int s_55.2.1)] → W p l e (headSpec (g_ws yX12_keep cX12_keep 6 none) { frames := 1, cells := 0, slots := 0, locals := 40 }).room s m ([.ref h, .int p0] : List Value).toArray below meth c H locs 0 0 (MQ below (va_Qv (fun (_ : Unit) => True) (fun _ t => va_P (dC, dI) vwCl (mW cB cI cZ h qK qS ad res.2) t.heap) (mCells h ad sz)) ([.ref h, .int p0] : List Value).toArray s 0 0 (mCells h ad sz)) (F0 m 259 ls [])) ?_ _ _ hF_54 _ _ hP hS ls (lv_sub hl [2, 1, 0] rfl)
        intro again_56 s_55 ih_57 hF_58
        intro H locs hP hS ls hl
        refine lv_iload_n hx hb dX12_keep_259 rfl (lv_at hl 2 rfl) ?_
        refine lv_aload_n hx hb dX12_keep_260 rfl (lv_at hl 0 rfl) ?_
        refine va_get (D := (dC, dI)) (ci := 12) (v := .int (s_55.2.2.1 98)) (C := RX12) (T := TX12) (N := 123) hx hb hts ii_X12 hown hK hP 0 rfl rfl 98 (by decide) (hts (.fieldLink RX12 203 "StoryHouseModel" "latestSize" "I") wq_1454) (fun _ h9 => h9) rfl dX12_keep_261 ?_
        refine lv_icmp_ge (tgt := 288) hx hb dX12_keep_264 (by decide) (fun c_59 => ?_) (fun c_59 => ?_)
        · have hF_60 := ipos c_59 hF_58
          clear hF_58
          have h9 := Option.some.inj hF_60
          subst h9
          exact W.vret hx hb hr (fun t ht hW => ⟨⟨(), rfl, trivial, m_end ht hP⟩, hS.F ht⟩) hS.2.2 dX12_keep_288
        · have hF_61 := ineg c_59 hF_58
          clear hF_58
          refine lv_aload_n hx hb dX12_keep_267 rfl (lv_at hl 0 rfl) ?_
          refine va_get (D := (dC, dI)) (ci := 12) (v := .ref (ad 99)) (C := RX12) (T := TX12) (N := 123) hx hb hts ii_X12 hown hK hP 0 rfl rfl 99 (by decide) (hts (.fieldLink RX12 206 "StoryHouseModel" "plays" "[I") wq_1455) (fun _ h9 => h9) rfl dX12_keep_268 ?_
          refine lv_iload_n hx hb dX12_keep_271 rfl (lv_at hl 1 rfl) ?_
          obtain ⟨x_62, ex_62, hF_63⟩ := bnd_e hF_61
          clear hF_61
          refine lv_iinc (v := x_62) (lv' := [(2, .int x_62), (0, .ref h), (3, .int s_55.2.1)]) hx hb dX12_keep_272 hl (k := 1) rfl (by rw [ex_62]; rfl) (by decide) rfl (fun ls hl => ?_)
          refine lv_aload_n hx hb dX12_keep_275 rfl (lv_at hl 1 rfl) ?_
          refine va_get (D := (dC, dI)) (ci := 12) (v := .ref (ad 97)) (C := RX12) (T := TX12) (N := 123) hx hb hts ii_X12 hown hK hP 0 rfl rfl 97 (by decide) (hts (.fieldLink RX12 200 "StoryHouseModel" "latest" "[B") wq_1453) (fun _ h9 => h9) rfl dX12_keep_276 ?_
          refine lv_iload_n hx hb dX12_keep_279 rfl (lv_at hl 2 rfl) ?_
          obtain ⟨g_64, hF_65⟩ := nif_e hF_63
          clear hF_63
          refine va_bald (f := s_55.2.2.2 97) hx hb hK hP 58 0 rfl rfl g_64 dX12_keep_280 ?_
          obtain ⟨x_66, ex_66, hF_67⟩ := bnd_e hF_65
          clear hF_65
          refine m_top ex_66 ?_
          obtain ⟨g_68, hF_69⟩ := nif_e hF_67
          clear hF_67
          obtain ⟨σ_70, eσ_70, hF_71⟩ := bnd_e hF_69
          clear hF_69
          refine m_iast (σ' := σ_70) hx hb hK hP (hDD _ _) hS (q0 := 59) (t0 := 2) (f := s_55.2.2.2 99) rfl rfl (by rw [eσ_70]; exact mwA_99) g_68 dX12_keep_281 (fun H locs hP hS => ?_)
          obtain ⟨x_72, ex_72, hF_73⟩ := bnd_e hF_71
          clear hF_71
          refine lv_iinc (v := x_72) (lv' := [(3, .int x_72), (2, .int x_62), (0, .ref h)]) hx hb dX12_keep_282 hl (k := 2) rfl (by rw [ex_72]; rfl) (by decide) rfl (fun ls hl => ?_)
          refine lv_goto (tgt := 259) hx hb dX12_keep_285 (by decide) ?_
          exact ih_57 (x_62, x_72, σ_70) hF_73 _ _ hP hS ls (lv_sub hl [2, 1, 0] rfl)
      · have hF_74 := ineg c_23 hF_22
        clear hF_22
        refine lv_aload_n hx hb dX12_keep_171 rfl (lv_at hl 0 rfl) ?_
        refine va_get (D := (dC, dI)) (ci := 12) (v := .ref (ad 99)) (C := RX12) (T := TX12) (N := 123) hx hb hts ii_X12 hown hK hP 0 rfl rfl 99 (by decide) (hts (.fieldLink RX12 206 "StoryHouseModel" "plays" "[I") wq_1455) (fun _ h9 => h9) rfl dX12_keep_172 ?_
        refine lv_iload_n hx hb dX12_keep_175 rfl (lv_at hl 1 rfl) ?_
        obtain ⟨x_75, ex_75, hF_76⟩ := bnd_e hF_74
        clear hF_74
        refine lv_iinc (v := x_75) (lv' := [(2, .int x_75), (0, .ref h), (3, .int s_15.2.1)]) hx hb dX12_keep_176 hl (k := 1) rfl (by rw [ex_75]; rfl) (by decide) rfl (fun ls hl => ?_)
        refine lv_aload_n hx hb dX12_keep_179 rfl (lv_at hl 1 rfl) ?_
        refine va_get (D := (dC, dI)) (ci := 12) (v := .ref (ad 92)) (C := RX12) (T := TX12) (N := 123) hx hb hts ii_X12 hown hK hP 0 rfl rfl 92 (by decide) (hts (.fieldLink RX12 197 "StoryHouseModel" "room" "[I") wq_1448) (fun _ h9 => h9) rfl dX12_keep_180 ?_
        refine lv_iload_n hx hb dX12_keep_183 rfl (lv_at hl 2 rfl) ?_
        obtain ⟨g_77, hF_78⟩ := nif_e hF_76
        clear hF_76
        refine va_iald (f := s_15.2.2.2 92) hx hb hK hP 57 2 rfl rfl g_77 dX12_keep_184 ?_
        obtain ⟨x_79, ex_79, hF_80⟩ := bnd_e hF_78
        clear hF_78
        refine m_top ex_79 ?_
        obtain ⟨g_81, hF_82⟩ := nif_e hF_80
        clear hF_80
        obtain ⟨σ_83, eσ_83, hF_84⟩ := bnd_e hF_82
        clear hF_82
        refine m_iast (σ' := σ_83) hx hb hK hP (hDD _ _) hS (q0 := 59) (t0 := 2) (f := s_15.2.2.2 99) rfl rfl (by rw [eσ_83]; exact mwA_99) g_81 dX12_keep_185 (fun H locs hP hS => ?_)
        obtain ⟨x_85, ex_85, hF_86⟩ := bnd_e hF_84
        clear hF_84
        refine lv_iinc (v := x_85) (lv' := [(3, .int x_85), (2, .int x_75), (0, .ref h)]) hx hb dX12_keep_186 hl (k := 2) rfl (by rw [ex_85]; rfl) (by decide) rfl (fun ls hl => ?_)
        refine lv_goto (tgt := 158) hx hb dX12_keep_189 (by decide) ?_
        exact ih_17 (x_75, x_85, σ_83) hF_86 _ _ hP hS ls (lv_sub hl [2, 1, 0] rfl)
    · have hF_87 := ineg c_13 hF_12
      clear hF_12
      refine lv_aload_n hx hb dX12_keep_135 rfl (lv_at hl 0 rfl) ?_
      refine va_get (D := (dC, dI)) (ci := 12) (v := .ref (ad 99)) (C := RX12) (T := TX12) (N := 123) hx hb hts ii_X12 hown hK hP 0 rfl rfl 99 (by decide) (hts (.fieldLink RX12 206 "StoryHouseModel" "plays" "[I") wq_1455) (fun _ h9 => h9) rfl dX12_keep_136 ?_
      refine lv_iload_n hx hb dX12_keep_139 rfl (lv_at hl 1 rfl) ?_
      obtain ⟨x_88, ex_88, hF_89⟩ := bnd_e hF_87
      clear hF_87
      refine lv_iinc (v := x_88) (lv' := [(2, .int x_88), (0, .ref h), (3, .int s_9.2.1)]) hx hb dX12_keep_140 hl (k := 1) rfl (by rw [ex_88]; rfl) (by decide) rfl (fun ls hl => ?_)
      refine lv_aload_n hx hb dX12_keep_143 rfl (lv_at hl 1 rfl) ?_
      refine va_get (D := (dC, dI)) (ci := 12) (v := .ref (ad 91)) (C := RX12) (T := TX12) (N := 123) hx hb hts ii_X12 hown hK hP 0 rfl rfl 91 (by decide) (hts (.fieldLink RX12 194 "StoryHouseModel" "values" "[I") wq_1447) (fun _ h9 => h9) rfl dX12_keep_144 ?_
      refine lv_iload_n hx hb dX12_keep_147 rfl (lv_at hl 2 rfl) ?_
      obtain ⟨g_90, hF_91⟩ := nif_e hF_89
      clear hF_89
      refine va_iald (f := s_9.2.2.2 91) hx hb hK hP 56 2 rfl rfl g_90 dX12_keep_148 ?_
      obtain ⟨x_92, ex_92, hF_93⟩ := bnd_e hF_91
      clear hF_91
      refine m_top ex_92 ?_
      obtain ⟨g_94, hF_95⟩ := nif_e hF_93
      clear hF_93
      obtain ⟨σ_96, eσ_96, hF_97⟩ := bnd_e hF_95
      clear hF_95
      refine m_iast (σ' := σ_96) hx hb hK hP (hDD _ _) hS (q0 := 59) (t0 := 2) (f := s_9.2.2.2 99) rfl rfl (by rw [eσ_96]; exact mwA_99) g_94 dX12_keep_149 (fun H locs hP hS => ?_)
      obtain ⟨x_98, ex_98, hF_99⟩ := bnd_e hF_97
      clear hF_97
      refine lv_iinc (v := x_98) (lv' := [(3, .int x_98), (2, .int x_88), (0, .ref h)]) hx hb dX12_keep_150 hl (k := 2) rfl (by rw [ex_98]; rfl) (by decide) rfl (fun ls hl => ?_)
      refine lv_goto (tgt := 127) hx hb dX12_keep_153 (by decide) ?_
      exact ih_11 (x_88, x_98, σ_96) hF_99 _ _ hP hS ls (lv_sub hl [2, 1, 0] rfl)
  · have hF_100 := ineg c_7 hF_6
    clear hF_6
    refine lv_aload_n hx hb dX12_keep_16 rfl (lv_at hl 0 rfl) ?_
    refine va_get (D := (dC, dI)) (ci := 12) (v := .ref (ad 99)) (C := RX12) (T := TX12) (N := 123) hx hb hts ii_X12 hown hK hP 0 rfl rfl 99 (by decide) (hts (.fieldLink RX12 206 "StoryHouseModel" "plays" "[I") wq_1455) (fun _ h9 => h9) rfl dX12_keep_17 ?_
    refine lv_iload_n hx hb dX12_keep_20 rfl (lv_at hl 1 rfl) ?_
    obtain ⟨x_101, ex_101, hF_102⟩ := bnd_e hF_100
    clear hF_100
    refine lv_iinc (v := x_101) (lv' := [(2, .int x_101), (0, .ref h), (3, .int s_3.2.1)]) hx hb dX12_keep_21 hl (k := 1) rfl (by rw [ex_101]; rfl) (by decide) rfl (fun ls hl => ?_)
    refine lv_aload_n hx hb dX12_keep_24 rfl (lv_at hl 1 rfl) ?_
    refine va_get (D := (dC, dI)) (ci := 12) (v := .ref (ad 87)) (C := RX12) (T := TX12) (N := 123) hx hb hts ii_X12 hown hK hP 0 rfl rfl 87 (by decide) (hts (.fieldLink RX12 182 "StoryHouseModel" "holder" "[I") wq_1443) (fun _ h9 => h9) rfl dX12_keep_25 ?_
    refine lv_iload_n hx hb dX12_keep_28 rfl (lv_at hl 2 rfl) ?_
    obtain ⟨g_103, hF_104⟩ := nif_e hF_102
    clear hF_102
    refine va_iald (f := s_3.2.2.2 87) hx hb hK hP 52 2 rfl rfl g_103 dX12_keep_29 ?_
    obtain ⟨x_105, ex_105, hF_106⟩ := bnd_e hF_104
    clear hF_104
    refine m_top ex_105 ?_
    obtain ⟨g_107, hF_108⟩ := nif_e hF_106
    clear hF_106
    obtain ⟨σ_109, eσ_109, hF_110⟩ := bnd_e hF_108
    clear hF_108
    refine m_iast (σ' := σ_109) hx hb hK hP (hDD _ _) hS (q0 := 59) (t0 := 2) (f := s_3.2.2.2 99) rfl rfl (by rw [eσ_109]; exact mwA_99) g_107 dX12_keep_30 (fun H locs hP hS => ?_)
    refine lv_aload_n hx hb dX12_keep_31 rfl (lv_at hl 1 rfl) ?_
    refine va_get (D := (dC, dI)) (ci := 12) (v := .ref (ad 99)) (C := RX12) (T := TX12) (N := 123) hx hb hts ii_X12 hown hK hP 0 rfl rfl 99 (by decide) (hts (.fieldLink RX12 206 "StoryHouseModel" "plays" "[I") wq_1455) (fun _ h9 => h9) rfl dX12_keep_32 ?_
    refine lv_iload_n hx hb dX12_keep_35 rfl (lv_at hl 0 rfl) ?_
    obtain ⟨x_111, ex_111, hF_112⟩ := bnd_e hF_110
    clear hF_110
    refine lv_iinc (v := x_111) (lv' := [(2, .int x_111), (0, .ref h), (3, .int s_3.2.1)]) hx hb dX12_keep_36 hl (k := 0) rfl (by rw [ex_111]; rfl) (by decide) rfl (fun ls hl => ?_)
    refine lv_aload_n hx hb dX12_keep_39 rfl (lv_at hl 1 rfl) ?_
    refine va_get (D := (dC, dI)) (ci := 12) (v := .ref (ad 88)) (C := RX12) (T := TX12) (N := 123) hx hb hts ii_X12 hown hK hP 0 rfl rfl 88 (by decide) (hts (.fieldLink RX12 185 "StoryHouseModel" "first" "[I") wq_1444) (fun _ h9 => h9) rfl dX12_keep_40 ?_
    refine lv_iload_n hx hb dX12_keep_43 rfl (lv_at hl 2 rfl) ?_
    obtain ⟨g_113, hF_114⟩ := nif_e hF_112
    clear hF_112
    refine va_iald (f := σ_109.2 88) hx hb hK hP 53 2 rfl rfl g_113 dX12_keep_44 ?_
    obtain ⟨x_115, ex_115, hF_116⟩ := bnd_e hF_114
    clear hF_114
    refine m_top ex_115 ?_
    obtain ⟨g_117, hF_118⟩ := nif_e hF_116
    clear hF_116
    obtain ⟨σ_119, eσ_119, hF_120⟩ := bnd_e hF_118
    clear hF_118
    refine m_iast (σ' := σ_119) hx hb hK hP (hDD _ _) hS (q0 := 59) (t0 := 2) (f := σ_109.2 99) rfl rfl (by rw [eσ_119]; exact mwA_99) g_117 dX12_keep_45 (fun H locs hP hS => ?_)
    refine lv_aload_n hx hb dX12_keep_46 rfl (lv_at hl 1 rfl) ?_
    refine va_get (D := (dC, dI)) (ci := 12) (v := .ref (ad 99)) (C := RX12) (T := TX12) (N := 123) hx hb hts ii_X12 hown hK hP 0 rfl rfl 99 (by decide) (hts (.fieldLink RX12 206 "StoryHouseModel" "plays" "[I") wq_1455) (fun _ h9 => h9) rfl dX12_keep_47 ?_
    refine lv_iload_n hx hb dX12_keep_50 rfl (lv_at hl 0 rfl) ?_
    obtain ⟨x_121, ex_121, hF_122⟩ := bnd_e hF_120
    clear hF_120
    refine lv_iinc (v := x_121) (lv' := [(2, .int x_121), (0, .ref h), (3, .int s_3.2.1)]) hx hb dX12_keep_51 hl (k := 0) rfl (by rw [ex_121]; rfl) (by decide) rfl (fun ls hl => ?_)
    refine lv_aload_n hx hb dX12_keep_54 rfl (lv_at hl 1 rfl) ?_
    refine va_get (D := (dC, dI)) (ci := 12) (v := .ref (ad 89)) (C := RX12) (T := TX12) (N := 123) hx hb hts ii_X12 hown hK hP 0 rfl rfl 89 (by decide) (hts (.fieldLink RX12 188 "StoryHouseModel" "next" "[I") wq_1445) (fun _ h9 => h9) rfl dX12_keep_55 ?_
    refine lv_iload_n hx hb dX12_keep_58 rfl (lv_at hl 2 rfl) ?_
    obtain ⟨g_123, hF_124⟩ := nif_e hF_122
    clear hF_122
    refine va_iald (f := σ_119.2 89) hx hb hK hP 54 2 rfl rfl g_123 dX12_keep_59 ?_
    obtain ⟨x_125, ex_125, hF_126⟩ := bnd_e hF_124
    clear hF_124
    refine m_top ex_125 ?_
    obtain ⟨g_127, hF_128⟩ := nif_e hF_126
    clear hF_126
    obtain ⟨σ_129, eσ_129, hF_130⟩ := bnd_e hF_128
    clear hF_128
    refine m_iast (σ' := σ_129) hx hb hK hP (hDD _ _) hS (q0 := 59) (t0 := 2) (f := σ_119.2 99) rfl rfl (by rw [eσ_129]; exact mwA_99) g_127 dX12_keep_60 (fun H locs hP hS => ?_)
    refine lv_iconst (v := 0) hx hb dX12_keep_61 (by decide +kernel) ?_
    refine lv_istore (lv' := [(4, .int 0), (2, .int x_121), (0, .ref h), (3, .int s_3.2.1)]) hx hb dX12_keep_62 hl (by decide) rfl (fun ls hl => ?_)
    refine lv_iconst (v := 0) hx hb dX12_keep_64 (by decide +kernel) ?_
    refine lv_istore (lv' := [(5, .int 0), (4, .int 0), (2, .int x_121), (0, .ref h), (3, .int s_3.2.1)]) hx hb dX12_keep_65 hl (by decide) rfl (fun ls hl => ?_)
    refine loopF_ind (P := fun (s_131 : Int32 × Int32 × MS) => ∀ (H : Heap) (locs : List Loc), va_P (dC, dI) vwCl (mW cB cI cZ h qK qS ad s_131.2.2) H → va_S (mCells h ad sz) s.heap H locs → ∀ ls : Array Slot, lv_has ls 6 [(0, .ref h), (2, .int x_121), (3, .int s_3.2.1), (4, .int s_131.1), (5, .int s_131.2.1)] → W p l e (headSpec (g_ws yX12_keep cX12_keep 6 none) { frames := 1, cells := 0, slots := 0, locals := 40 }).room s m ([.ref h, .int p0] : List Value).toArray below meth c H locs 0 0 (MQ below (va_Qv (fun (_ : Unit) => True) (fun _ t => va_P (dC, dI) vwCl (mW cB cI cZ h qK qS ad res.2) t.heap) (mCells h ad sz)) ([.ref h, .int p0] : List Value).toArray s 0 0 (mCells h ad sz)) (F0 m 67 ls [])) ?_ _ _ hF_130 _ _ hP hS ls (lv_sub hl [3, 2, 4, 1, 0] rfl)
    intro again_132 s_131 ih_133 hF_134
    intro H locs hP hS ls hl
    refine lv_iload hx hb dX12_keep_67 (lv_at hl 4 rfl) ?_
    refine lv_bipush (v := 7) hx hb dX12_keep_69 (by decide +kernel) ?_
    refine lv_icmp_ge (tgt := 108) hx hb dX12_keep_71 (by decide) (fun c_135 => ?_) (fun c_135 => ?_)
    · have hF_136 := ipos c_135 hF_134
      clear hF_134
      refine lv_aload_n hx hb dX12_keep_108 rfl (lv_at hl 0 rfl) ?_
      refine va_get (D := (dC, dI)) (ci := 12) (v := .ref (ad 99)) (C := RX12) (T := TX12) (N := 123) hx hb hts ii_X12 hown hK hP 0 rfl rfl 99 (by decide) (hts (.fieldLink RX12 206 "StoryHouseModel" "plays" "[I") wq_1455) (fun _ h9 => h9) rfl dX12_keep_109 ?_
      refine lv_iload_n hx hb dX12_keep_112 rfl (lv_at hl 1 rfl) ?_
      obtain ⟨x_137, ex_137, hF_138⟩ := bnd_e hF_136
      clear hF_136
      refine lv_iinc (v := x_137) (lv' := [(2, .int x_137), (0, .ref h), (3, .int s_3.2.1), (4, .int s_131.1), (5, .int s_131.2.1)]) hx hb dX12_keep_113 hl (k := 1) rfl (by rw [ex_137]; rfl) (by decide) rfl (fun ls hl => ?_)
      refine lv_iload hx hb dX12_keep_116 (lv_at hl 3 rfl) ?_
      obtain ⟨g_139, hF_140⟩ := nif_e hF_138
      clear hF_138
      obtain ⟨σ_141, eσ_141, hF_142⟩ := bnd_e hF_140
      clear hF_140
      refine m_iast (σ' := σ_141) hx hb hK hP (hDD _ _) hS (q0 := 59) (t0 := 2) (f := s_131.2.2.2 99) rfl rfl (by rw [eσ_141]; exact mwA_99) g_139 dX12_keep_118 (fun H locs hP hS => ?_)
      obtain ⟨x_143, ex_143, hF_144⟩ := bnd_e hF_142
      clear hF_142
      refine lv_iinc (v := x_143) (lv' := [(3, .int x_143), (2, .int x_137), (0, .ref h), (4, .int s_131.1), (5, .int s_131.2.1)]) hx hb dX12_keep_119 hl (k := 2) rfl (by rw [ex_143]; rfl) (by decide) rfl (fun ls hl => ?_)
      refine lv_goto (tgt := 8) hx hb dX12_keep_122 (by decide) ?_
      exact ih_5 (x_137, x_143, σ_141) hF_144 _ _ hP hS ls (lv_sub hl [2, 1, 0] rfl)
    · have hF_145 := ineg c_135 hF_134
      clear hF_134
      refine lv_iload hx hb dX12_keep_74 (lv_at hl 3 rfl) ?_
      refine lv_aload_n hx hb dX12_keep_76 rfl (lv_at hl 0 rfl) ?_
      refine va_get (D := (dC, dI)) (ci := 12) (v := .ref (ad 90)) (C := RX12) (T := TX12) (N := 123) hx hb hts ii_X12 hown hK hP 0 rfl rfl 90 (by decide) (hts (.fieldLink RX12 191 "StoryHouseModel" "has" "[Z") wq_1446) (fun _ h9 => h9) rfl dX12_keep_77 ?_
      refine lv_bipush (v := 7) hx hb dX12_keep_80 (by decide +kernel) ?_
      refine lv_iload_n hx hb dX12_keep_82 rfl (lv_at hl 2 rfl) ?_
      refine lv_imul hx hb dX12_keep_83 ?_
      refine lv_iload hx hb dX12_keep_84 (lv_at hl 4 rfl) ?_
      refine lv_iadd hx hb dX12_keep_86 ?_
      obtain ⟨x_146, ex_146, hF_147⟩ := bnd_e hF_145
      clear hF_145
      refine m_top ex_146 ?_
      obtain ⟨g_148, hF_149⟩ := nif_e hF_147
      clear hF_147
      refine va_zald (f := s_131.2.2.2 90) hx hb hK hP 55 4 rfl rfl g_148 dX12_keep_87 ?_
      obtain ⟨j_152, ej_152, hF_153⟩ := bnd_e hF_149
      clear hF_149
      have Jj_152 : ∀ (t_150 : Int32) (σ_151 : MS), j_152 t_150 σ_151 = some res → ∀ (H : Heap) (locs : List Loc), va_P (dC, dI) vwCl (mW cB cI cZ h qK qS ad σ_151) H → va_S (mCells h ad sz) s.heap H locs → ∀ ls : Array Slot, lv_has ls 6 [(0, .ref h), (2, .int x_121), (3, .int s_3.2.1), (5, .int s_131.2.1)] → W p l e (headSpec (g_ws yX12_keep cX12_keep 6 none) { frames := 1, cells := 0, slots := 0, locals := 40 }).room s m ([.ref h, .int p0] : List Value).toArray below meth c H locs 0 0 (MQ below (va_Qv (fun (_ : Unit) => True) (fun _ t => va_P (dC, dI) vwCl (mW cB cI cZ h qK qS ad res.2) t.heap) (mCells h ad sz)) ([.ref h, .int p0] : List Value).toArray s 0 0 (mCells h ad sz)) (F0 m 99 ls [.int t_150, .int s_131.1]) := by
        intro t_150 σ_151 hF0 H locs hP hS ls hl
        subst ej_152
        have hF_154 := hF0
        clear hF0
        refine lv_ior hx hb dX12_keep_99 ?_
        obtain ⟨x_155, ex_155, hF_156⟩ := bnd_e hF_154
        clear hF_154
        refine m_top ex_155 ?_
        refine lv_istore (lv' := [(4, .int x_155), (0, .ref h), (2, .int x_121), (3, .int s_3.2.1), (5, .int s_131.2.1)]) hx hb dX12_keep_100 hl (by decide) rfl (fun ls hl => ?_)
        obtain ⟨x_157, ex_157, hF_158⟩ := bnd_e hF_156
        clear hF_156
        refine lv_iinc (v := x_157) (lv' := [(5, .int x_157), (4, .int x_155), (0, .ref h), (2, .int x_121), (3, .int s_3.2.1)]) hx hb dX12_keep_102 hl (k := 4) rfl (by rw [ex_157]; rfl) (by decide) rfl (fun ls hl => ?_)
        refine lv_goto (tgt := 67) hx hb dX12_keep_105 (by decide) ?_
        exact ih_133 (x_155, x_157, σ_151) hF_158 _ _ hP hS ls (lv_sub hl [2, 3, 4, 1, 0] rfl)
      refine lv_if_eq (tgt := 98) hx hb dX12_keep_88 (by decide) (fun c_159 => ?_) (fun c_159 => ?_)
      · have hF_160 := ipos c_159 hF_153
        clear hF_153
        refine lv_iconst (v := 0) hx hb dX12_keep_98 (by decide +kernel) ?_
        exact Jj_152 0 s_131.2.2 hF_160 _ _ hP hS ls (lv_sub hl [0, 1, 2, 4] rfl)
      · have hF_161 := ineg c_159 hF_153
        clear hF_153
        refine lv_iconst (v := 1) hx hb dX12_keep_91 (by decide +kernel) ?_
        refine lv_iload hx hb dX12_keep_92 (lv_at hl 4 rfl) ?_
        refine lv_ishl hx hb dX12_keep_94 ?_
        refine lv_goto (tgt := 99) hx hb dX12_keep_95 (by decide) ?_
        exact Jj_152 (1 <<< (s_131.2.1 &&& 31)) s_131.2.2 hF_161 _ _ hP hS ls (lv_sub hl [0, 1, 2, 4] rfl)
