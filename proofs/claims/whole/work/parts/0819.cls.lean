/-! methods of the class: what each does is its function -/
theorem dX6_bears_0 : decode cX6_bears 0 = .ok (.aload_n 0, 1) := by decide +kernel
theorem dX6_bears_1 : decode cX6_bears 1 = .ok (.getfield 21, 3) := by decide +kernel
theorem dX6_bears_4 : decode cX6_bears 4 = .ok (.iload_n 1, 1) := by decide +kernel
theorem dX6_bears_5 : decode cX6_bears 5 = .ok (.invokestatic 83, 3) := by decide +kernel
theorem dX6_bears_8 : decode cX6_bears 8 = .ok (.iload_n 2, 1) := by decide +kernel
theorem dX6_bears_9 : decode cX6_bears 9 = .ok (.ishr, 1) := by decide +kernel
theorem dX6_bears_10 : decode cX6_bears 10 = .ok (.iconst 1, 1) := by decide +kernel
theorem dX6_bears_11 : decode cX6_bears 11 = .ok (.iand, 1) := by decide +kernel
theorem dX6_bears_12 : decode cX6_bears 12 = .ok (.ifCond .eq 7, 3) := by decide +kernel
theorem dX6_bears_15 : decode cX6_bears 15 = .ok (.iconst 1, 1) := by decide +kernel
theorem dX6_bears_16 : decode cX6_bears 16 = .ok (.goto 4, 3) := by decide +kernel
theorem dX6_bears_19 : decode cX6_bears 19 = .ok (.iconst 0, 1) := by decide +kernel
theorem dX6_bears_20 : decode cX6_bears 20 = .ok (.ireturn, 1) := by decide +kernel
def F_X6_bears (p0 : Int32) (p1 : Int32) (Γ : HS) : HR :=
  bnd ((g_at 121 ((Γ 9).2.1 3) p0)) fun (x_1 : Int32) =>
  if ((x_1 >>> (p1 &&& 31)) &&& 1) = 0 then (
    some (0, Γ)
  ) else (
    some (1, Γ)
  )
set_option maxHeartbeats 4000000 in
set_option maxRecDepth 100000 in
theorem k_X6_bears (l : Launch) (dC : Nat → ClassId) (dI : Nat → Nat → Nat) (cB cC cI cJ cZ cP : ClassId) (oA : Nat → Nat) (rA : Nat → Nat → Nat) (sz : Nat)  (p0 : Int32) (p1 : Int32) (Γ : HS) (res : Int32 × HS) (hF : F_X6_bears p0 p1 Γ = some res) : Met l yX6_bears (g_ws yX6_bears cX6_bears 3 (some .boolean)) ({ frames := 3, cells := 0, slots := 0, locals := 81 }) (va_Pc [.ref (oA 9), .int p0, .int p1] (g_B (dC, dI) [(cB, .byte), (cC, .char), (cI, .int), (cJ, .long), (cZ, .boolean), (cP, .object "StoryHouse$Play")] sz (b_p cB cC cI cJ cZ oA rA Γ) g_0)) (va_Qi (fun r (_ : Unit) => r = res.1) (g_Bo (dC, dI) (va_A (b_p cB cC cI cJ cZ oA rA Γ) sz) (fun (_ : Unit) => (b_p cB cC cI cJ cZ oA rA res.2))) (va_A (b_p cB cC cI cJ cZ oA rA Γ) sz)) 0 0 (va_A (b_p cB cC cI cJ cZ oA rA Γ) sz) := by
  refine Met.ofW (cc := cX6_bears) (maxL := 3) (ret := (some .boolean)) (by decide) rfl ?_
  intro p e s m args below meth c s₁ B hml hv
  obtain ⟨rfl, hsz, hP, hK, hD0, hE, hX⟩ := hv
  have hx := B.exec
  have hb := B.bytes
  have hr := B.returns
  have hts0 := atoms_spec (ws := g_ws yX6_bears cX6_bears 3 (some .boolean)) B.pre
  have hts : ∀ w ∈ lw_good, w.before ([.ref (oA 9), .int p0, .int p1] : List Value).toArray s = true := fun w z => hts0 w (List.mem_cons_of_mem _ z)
  have hown : s.vm.findClass RX6 = some m.cls := findClass_of_methodNamed B.named
  have hlocks := B.notSynchronized
  subst hsz
  have hD1 := hD0.self (sz := s.heap.size)
  generalize hAe : va_A (b_p cB cC cI cJ cZ oA rA Γ) s.heap.size = A at hD1 hE hX ⊢
  have hA : ∀ q : Nat, s.heap.size ≤ q → A q := fun q z => by rw [← hAe]; exact Or.inr z
  have hDD : ∀ Γ : HS, va_D A (b_p cB cC cI cJ cZ oA rA Γ) := fun Γ9 => va_D_fst (ws := (b_p cB cC cI cJ cZ oA rA Γ)) (ws' := (b_p cB cC cI cJ cZ oA rA Γ9)) rfl hD1
  have hN := hE.1
  have hS : va_S A s.heap s.heap [] := va_S.rf
  have hl := lv_entry ([.ref (oA 9), .int p0, .int p1]) (n := 3) (Nat.le_of_ble_eq_true rfl)
  rw [lg_entry_eq]
  generalize (lg_sl ([.ref (oA 9), .int p0, .int p1]) ++ List.replicate (3 - (lg_sl ([.ref (oA 9), .int p0, .int p1])).length) Slot.unset).toArray = ls at hl ⊢
  have hl : lv_has ls 3 [(0, .ref (oA 9)), (1, .int p0), (2, .int p1)] := hl
  unfold F_X6_bears at hF
  refine lv_aload_n hx hb dX6_bears_0 rfl (lv_at hl 0 rfl) ?_
  refine va_get (D := (dC, dI)) (ci := 6) (v := .ref (rA 9 3)) (C := RX6) (T := TX6) (N := 12) hx hb hts ii_X6 hown hK hP 0 rfl rfl 3 (by decide) (hts (.fieldLink RX6 21 "StoryHouse$Play" "traits" "[I") wq_229) (fun _ h9 => h9) rfl dX6_bears_1 ?_
  refine lv_iload_n hx hb dX6_bears_4 rfl (lv_at hl 1 rfl) ?_
  have hq9 : ((b_p cB cC cI cJ cZ oA rA Γ))[4]? = some (rA 9 3, .inl (cI, 121, .inl ((Γ 9).2.1 3))) := rfl
  have hPc := hP.sub (ws' := [(rA 9 3, .inl (cI, 121, .inl ((Γ 9).2.1 3)))]) [4] (pk_fm (er_C hq9))
  have hDc := (hDD Γ).sub (ws' := [(rA 9 3, .inl (cI, 121, .inl ((Γ 9).2.1 3)))]) [4] (by decide +kernel) (er_C hq9)
  have hFc := va_free (wc := [(rA 9 3, .inl (cI, 121, .inl ((Γ 9).2.1 3)))]) (hDD Γ) hS hA [4] (er_C hq9)
  refine g_ofi (wc := [(rA 9 3, .inl (cI, 121, .inl ((Γ 9).2.1 3)))]) (wr := (((b_p cB cC cI cJ cZ oA rA Γ)).eraseIdx 4)) hP (hDD Γ) hS hFc [4] ((List.range ((b_p cB cC cI cJ cZ oA rA Γ)).length).eraseIdx 4) (er_C hq9) er_R er_n er_d (va_runSN (As := [.ref (rA 9 3), .int p0]) (rest := []) ⟨hx, hb, hml, hown, hts⟩ (c_X11_at l dC dI cB cC cI cJ cZ cP s.heap.size (rA 9 3) p0 121 ((Γ 9).2.1 3) (by decide)) ⟨va_cnB 2 hts (g_gA wq_407) rfl rfl rfl (nw_28 hN) (hts (.initialized RX11) wq_1) (by decide +kernel) ⟨Nat.le_of_ble_eq_true rfl, Nat.le_of_ble_eq_true rfl⟩, (hts (.static yX11_at) wq_406), trivial⟩ (g_preS g_bl0 hK hPc hDc hS hE hFc g_to0) rfl rfl hl.1 rfl (lv_room (Nat.le_of_ble_eq_true rfl)) dX6_bears_5 ⟨Nat.le_of_ble_eq_true rfl, Nat.le_of_ble_eq_true rfl⟩) (fun r9 u9 H locs hw9 hP' hD' hS => ?_)
  clear hPc hDc hFc hD'
  have hP : va_P (dC, dI) vwCl (b_p cB cC cI cJ cZ oA rA Γ) H := er_I hP' hq9
  clear hP' hq9
  subst hw9
  obtain ⟨x_1, ex_1, hF_2⟩ := bnd_e hF
  clear hF
  refine m_top ex_1 ?_
  refine lv_iload_n hx hb dX6_bears_8 rfl (lv_at hl 2 rfl) ?_
  refine lv_ishr hx hb dX6_bears_9 ?_
  refine lv_iconst (v := 1) hx hb dX6_bears_10 (by decide +kernel) ?_
  refine lv_iand hx hb dX6_bears_11 ?_
  refine lv_if_eq (tgt := 19) hx hb dX6_bears_12 (by decide) (fun c_3 => ?_) (fun c_3 => ?_)
  · have hF_4 := ipos c_3 hF_2
    clear hF_2
    refine lv_iconst (v := 0) hx hb dX6_bears_19 (by decide +kernel) ?_
    have h9 := Option.some.inj hF_4
    subst h9
    exact W.zret (v := 0) hx hb hr (by decide +kernel) (fun t ht hW => ⟨⟨0, (), rfl, rfl, m_end ht hP, hDD _⟩, hS.F ht⟩) hS.2.2 dX6_bears_20
  · have hF_5 := ineg c_3 hF_2
    clear hF_2
    refine lv_iconst (v := 1) hx hb dX6_bears_15 (by decide +kernel) ?_
    refine lv_goto (tgt := 20) hx hb dX6_bears_16 (by decide) ?_
    have h9 := Option.some.inj hF_5
    subst h9
    exact W.zret (v := 1) hx hb hr (by decide +kernel) (fun t ht hW => ⟨⟨1, (), rfl, rfl, m_end ht hP, hDD _⟩, hS.F ht⟩) hS.2.2 dX6_bears_20
theorem dX6_give_0 : decode cX6_give 0 = .ok (.iconst 1, 1) := by decide +kernel
theorem dX6_give_1 : decode cX6_give 1 = .ok (.iload_n 2, 1) := by decide +kernel
theorem dX6_give_2 : decode cX6_give 2 = .ok (.ishl, 1) := by decide +kernel
theorem dX6_give_3 : decode cX6_give 3 = .ok (.istore 4, 2) := by decide +kernel
theorem dX6_give_5 : decode cX6_give 5 = .ok (.aload_n 0, 1) := by decide +kernel
theorem dX6_give_6 : decode cX6_give 6 = .ok (.getfield 21, 3) := by decide +kernel
theorem dX6_give_9 : decode cX6_give 9 = .ok (.iload_n 1, 1) := by decide +kernel
theorem dX6_give_10 : decode cX6_give 10 = .ok (.iload_n 3, 1) := by decide +kernel
theorem dX6_give_11 : decode cX6_give 11 = .ok (.ifCond .eq 17, 3) := by decide +kernel
theorem dX6_give_14 : decode cX6_give 14 = .ok (.aload_n 0, 1) := by decide +kernel
theorem dX6_give_15 : decode cX6_give 15 = .ok (.getfield 21, 3) := by decide +kernel
theorem dX6_give_18 : decode cX6_give 18 = .ok (.iload_n 1, 1) := by decide +kernel
theorem dX6_give_19 : decode cX6_give 19 = .ok (.invokestatic 83, 3) := by decide +kernel
theorem dX6_give_22 : decode cX6_give 22 = .ok (.iload 4, 2) := by decide +kernel
theorem dX6_give_24 : decode cX6_give 24 = .ok (.ior, 1) := by decide +kernel
theorem dX6_give_25 : decode cX6_give 25 = .ok (.goto 16, 3) := by decide +kernel
theorem dX6_give_28 : decode cX6_give 28 = .ok (.aload_n 0, 1) := by decide +kernel
theorem dX6_give_29 : decode cX6_give 29 = .ok (.getfield 21, 3) := by decide +kernel
theorem dX6_give_32 : decode cX6_give 32 = .ok (.iload_n 1, 1) := by decide +kernel
theorem dX6_give_33 : decode cX6_give 33 = .ok (.invokestatic 83, 3) := by decide +kernel
theorem dX6_give_36 : decode cX6_give 36 = .ok (.iload 4, 2) := by decide +kernel
theorem dX6_give_38 : decode cX6_give 38 = .ok (.iconst (-1), 1) := by decide +kernel
theorem dX6_give_39 : decode cX6_give 39 = .ok (.ixor, 1) := by decide +kernel
theorem dX6_give_40 : decode cX6_give 40 = .ok (.iand, 1) := by decide +kernel
theorem dX6_give_41 : decode cX6_give 41 = .ok (.invokestatic 91, 3) := by decide +kernel
theorem dX6_give_44 : decode cX6_give 44 = .ok (.return_, 1) := by decide +kernel
def F_X6_give (p0 : Int32) (p1 : Int32) (p2 : Int32) (Γ : HS) : HR :=
  bnd ((1 <<< (p1 &&& 31))) fun (x_1 : Int32) =>
  bnd (fun (t_3 : Int32) (σ_4 : HS) => (
    bnd (cA' σ_4 9 3 (g_put 121 ((σ_4 9).2.1 3) p0 t_3)) fun σ_8 =>
    some (0, σ_8)
  ) : Int32 → HS → HR) fun j_5 =>
  if p2 = 0 then (
    bnd ((g_at 121 ((Γ 9).2.1 3) p0)) fun (x_12 : Int32) =>
    j_5 (x_12 &&& (x_1 ^^^ (-1))) Γ
  ) else (
    bnd ((g_at 121 ((Γ 9).2.1 3) p0)) fun (x_15 : Int32) =>
    j_5 (x_15 ||| x_1) Γ
  )
set_option maxHeartbeats 4000000 in
set_option maxRecDepth 100000 in
theorem k_X6_give (l : Launch) (dC : Nat → ClassId) (dI : Nat → Nat → Nat) (cB cC cI cJ cZ cP : ClassId) (oA : Nat → Nat) (rA : Nat → Nat → Nat) (sz : Nat)  (p0 : Int32) (p1 : Int32) (p2 : Int32) (Γ : HS) (res : Int32 × HS) (hF : F_X6_give p0 p1 p2 Γ = some res) : Met l yX6_give (g_ws yX6_give cX6_give 5 none) ({ frames := 3, cells := 0, slots := 0, locals := 82 }) (va_Pc [.ref (oA 9), .int p0, .int p1, .int p2] (g_B (dC, dI) [(cB, .byte), (cC, .char), (cI, .int), (cJ, .long), (cZ, .boolean), (cP, .object "StoryHouse$Play")] sz (b_p cB cC cI cJ cZ oA rA Γ) g_0)) (va_Qv (fun (_ : Unit) => True) (g_Bo (dC, dI) (va_A (b_p cB cC cI cJ cZ oA rA Γ) sz) (fun (_ : Unit) => (b_p cB cC cI cJ cZ oA rA res.2))) (va_A (b_p cB cC cI cJ cZ oA rA Γ) sz)) 0 0 (va_A (b_p cB cC cI cJ cZ oA rA Γ) sz) := by
  refine Met.ofW (cc := cX6_give) (maxL := 5) (ret := none) (by decide) rfl ?_
  intro p e s m args below meth c s₁ B hml hv
  obtain ⟨rfl, hsz, hP, hK, hD0, hE, hX⟩ := hv
  have hx := B.exec
  have hb := B.bytes
  have hr := B.returns
  have hts0 := atoms_spec (ws := g_ws yX6_give cX6_give 5 none) B.pre
  have hts : ∀ w ∈ lw_good, w.before ([.ref (oA 9), .int p0, .int p1, .int p2] : List Value).toArray s = true := fun w z => hts0 w (List.mem_cons_of_mem _ z)
  have hown : s.vm.findClass RX6 = some m.cls := findClass_of_methodNamed B.named
  have hlocks := B.notSynchronized
  subst hsz
  have hD1 := hD0.self (sz := s.heap.size)
  generalize hAe : va_A (b_p cB cC cI cJ cZ oA rA Γ) s.heap.size = A at hD1 hE hX ⊢
  have hA : ∀ q : Nat, s.heap.size ≤ q → A q := fun q z => by rw [← hAe]; exact Or.inr z
  have hDD : ∀ Γ : HS, va_D A (b_p cB cC cI cJ cZ oA rA Γ) := fun Γ9 => va_D_fst (ws := (b_p cB cC cI cJ cZ oA rA Γ)) (ws' := (b_p cB cC cI cJ cZ oA rA Γ9)) rfl hD1
  have hN := hE.1
  have hS : va_S A s.heap s.heap [] := va_S.rf
  have hl := lv_entry ([.ref (oA 9), .int p0, .int p1, .int p2]) (n := 5) (Nat.le_of_ble_eq_true rfl)
  rw [lg_entry_eq]
  generalize (lg_sl ([.ref (oA 9), .int p0, .int p1, .int p2]) ++ List.replicate (5 - (lg_sl ([.ref (oA 9), .int p0, .int p1, .int p2])).length) Slot.unset).toArray = ls at hl ⊢
  have hl : lv_has ls 5 [(0, .ref (oA 9)), (1, .int p0), (2, .int p1), (3, .int p2)] := hl
  unfold F_X6_give at hF
  refine lv_iconst (v := 1) hx hb dX6_give_0 (by decide +kernel) ?_
  refine lv_iload_n hx hb dX6_give_1 rfl (lv_at hl 2 rfl) ?_
  refine lv_ishl hx hb dX6_give_2 ?_
  obtain ⟨x_1, ex_1, hF_2⟩ := bnd_e hF
  clear hF
  refine m_top ex_1 ?_
  refine lv_istore (lv' := [(4, .int x_1), (0, .ref (oA 9)), (1, .int p0), (2, .int p1), (3, .int p2)]) hx hb dX6_give_3 hl (by decide) rfl (fun ls hl => ?_)
  refine lv_aload_n hx hb dX6_give_5 rfl (lv_at hl 1 rfl) ?_
  refine va_get (D := (dC, dI)) (ci := 6) (v := .ref (rA 9 3)) (C := RX6) (T := TX6) (N := 12) hx hb hts ii_X6 hown hK hP 0 rfl rfl 3 (by decide) (hts (.fieldLink RX6 21 "StoryHouse$Play" "traits" "[I") wq_229) (fun _ h9 => h9) rfl dX6_give_6 ?_
  refine lv_iload_n hx hb dX6_give_9 rfl (lv_at hl 2 rfl) ?_
  refine lv_iload_n hx hb dX6_give_10 rfl (lv_at hl 4 rfl) ?_
  obtain ⟨j_5, ej_5, hF_6⟩ := bnd_e hF_2
  clear hF_2
  have Jj_5 : ∀ (t_3 : Int32) (σ_4 : HS), j_5 t_3 σ_4 = some res → ∀ (H : Heap) (locs : List Loc), va_P (dC, dI) vwCl (b_p cB cC cI cJ cZ oA rA σ_4) H → va_S A s.heap H locs → ∀ ls : Array Slot, lv_has ls 5 [] → W p l e (headSpec (g_ws yX6_give cX6_give 5 none) { frames := 3, cells := 0, slots := 0, locals := 82 }).room s m ([.ref (oA 9), .int p0, .int p1, .int p2] : List Value).toArray below meth c H locs 0 0 (MQ below (va_Qv (fun (_ : Unit) => True) (g_Bo (dC, dI) A (fun (_ : Unit) => (b_p cB cC cI cJ cZ oA rA res.2))) A) ([.ref (oA 9), .int p0, .int p1, .int p2] : List Value).toArray s 0 0 A) (F0 m 41 ls [.int t_3, .int p0, .ref (rA 9 3)]) := by
    intro t_3 σ_4 hF0 H locs hP hS ls hl
    subst ej_5
    have hF_7 := hF0
    clear hF0
    have hq9 : ((b_p cB cC cI cJ cZ oA rA σ_4))[4]? = some (rA 9 3, .inl (cI, 121, .inl ((σ_4 9).2.1 3))) := rfl
    have hPc := hP.sub (ws' := [(rA 9 3, .inl (cI, 121, .inl ((σ_4 9).2.1 3)))]) [4] (pk_fm (er_C hq9))
    have hDc := (hDD σ_4).sub (ws' := [(rA 9 3, .inl (cI, 121, .inl ((σ_4 9).2.1 3)))]) [4] (by decide +kernel) (er_C hq9)
    have hFc := va_free (wc := [(rA 9 3, .inl (cI, 121, .inl ((σ_4 9).2.1 3)))]) (hDD σ_4) hS hA [4] (er_C hq9)
    refine g_ofv (wc := [(rA 9 3, .inl (cI, 121, .inl ((σ_4 9).2.1 3)))]) (wr := (((b_p cB cC cI cJ cZ oA rA σ_4)).eraseIdx 4)) hP (hDD σ_4) hS hFc [4] ((List.range ((b_p cB cC cI cJ cZ oA rA σ_4)).length).eraseIdx 4) (er_C hq9) er_R er_n er_d (va_runSN (As := [.ref (rA 9 3), .int p0, .int t_3]) (rest := []) ⟨hx, hb, hml, hown, hts⟩ (c_X11_put l dC dI cB cC cI cJ cZ cP H.size (rA 9 3) p0 t_3 121 ((σ_4 9).2.1 3) (by decide)) ⟨va_cnB 3 hts (g_gA wq_412) rfl rfl rfl (nw_29 hN) (hts (.initialized RX11) wq_1) (by decide +kernel) ⟨Nat.le_of_ble_eq_true rfl, Nat.le_of_ble_eq_true rfl⟩, (hts (.static yX11_put) wq_411), trivial⟩ (g_preS g_bl0 hK hPc hDc hS hE hFc g_to0) rfl rfl hl.1 rfl (lv_room (Nat.le_of_ble_eq_true rfl)) dX6_give_41 ⟨Nat.le_of_ble_eq_true rfl, Nat.le_of_ble_eq_true rfl⟩) (fun g9 H locs hw9 hP' hD' hS => ?_)
    clear hPc hDc hFc hD'
    obtain ⟨σ_8, eσ_8, hF_9⟩ := bnd_e hF_7
    clear hF_7
    subst hw9
    have hP : va_P (dC, dI) vwCl (b_p cB cC cI cJ cZ oA rA σ_8) H := by rw [eσ_8]; exact cs_p_p_3 ▸ er_P hP' (er_lt hq9)
    clear hP' hq9
    have h9 := Option.some.inj hF_9
    subst h9
    exact W.vret hx hb hr (fun t ht hW => ⟨⟨(), rfl, trivial, m_end ht hP, hDD _⟩, hS.F ht⟩) hS.2.2 dX6_give_44
  refine lv_if_eq (tgt := 28) hx hb dX6_give_11 (by decide) (fun c_10 => ?_) (fun c_10 => ?_)
  · have hF_11 := ipos c_10 hF_6
    clear hF_6
    refine lv_aload_n hx hb dX6_give_28 rfl (lv_at hl 1 rfl) ?_
    refine va_get (D := (dC, dI)) (ci := 6) (v := .ref (rA 9 3)) (C := RX6) (T := TX6) (N := 12) hx hb hts ii_X6 hown hK hP 0 rfl rfl 3 (by decide) (hts (.fieldLink RX6 21 "StoryHouse$Play" "traits" "[I") wq_229) (fun _ h9 => h9) rfl dX6_give_29 ?_
    refine lv_iload_n hx hb dX6_give_32 rfl (lv_at hl 2 rfl) ?_
    have hq9 : ((b_p cB cC cI cJ cZ oA rA Γ))[4]? = some (rA 9 3, .inl (cI, 121, .inl ((Γ 9).2.1 3))) := rfl
    have hPc := hP.sub (ws' := [(rA 9 3, .inl (cI, 121, .inl ((Γ 9).2.1 3)))]) [4] (pk_fm (er_C hq9))
    have hDc := (hDD Γ).sub (ws' := [(rA 9 3, .inl (cI, 121, .inl ((Γ 9).2.1 3)))]) [4] (by decide +kernel) (er_C hq9)
    have hFc := va_free (wc := [(rA 9 3, .inl (cI, 121, .inl ((Γ 9).2.1 3)))]) (hDD Γ) hS hA [4] (er_C hq9)
    refine g_ofi (wc := [(rA 9 3, .inl (cI, 121, .inl ((Γ 9).2.1 3)))]) (wr := (((b_p cB cC cI cJ cZ oA rA Γ)).eraseIdx 4)) hP (hDD Γ) hS hFc [4] ((List.range ((b_p cB cC cI cJ cZ oA rA Γ)).length).eraseIdx 4) (er_C hq9) er_R er_n er_d (va_runSN (As := [.ref (rA 9 3), .int p0]) (rest := [.int p0, .ref (rA 9 3)]) ⟨hx, hb, hml, hown, hts⟩ (c_X11_at l dC dI cB cC cI cJ cZ cP s.heap.size (rA 9 3) p0 121 ((Γ 9).2.1 3) (by decide)) ⟨va_cnB 2 hts (g_gA wq_407) rfl rfl rfl (nw_28 hN) (hts (.initialized RX11) wq_1) (by decide +kernel) ⟨Nat.le_of_ble_eq_true rfl, Nat.le_of_ble_eq_true rfl⟩, (hts (.static yX11_at) wq_406), trivial⟩ (g_preS g_bl0 hK hPc hDc hS hE hFc g_to0) rfl rfl hl.1 rfl (lv_room (Nat.le_of_ble_eq_true rfl)) dX6_give_33 ⟨Nat.le_of_ble_eq_true rfl, Nat.le_of_ble_eq_true rfl⟩) (fun r9 u9 H locs hw9 hP' hD' hS => ?_)
    clear hPc hDc hFc hD'
    have hP : va_P (dC, dI) vwCl (b_p cB cC cI cJ cZ oA rA Γ) H := er_I hP' hq9
    clear hP' hq9
    subst hw9
    obtain ⟨x_12, ex_12, hF_13⟩ := bnd_e hF_11
    clear hF_11
    refine m_top ex_12 ?_
    refine lv_iload hx hb dX6_give_36 (lv_at hl 0 rfl) ?_
    refine lv_iconst (v := (-1)) hx hb dX6_give_38 (by decide +kernel) ?_
    refine lv_ixor hx hb dX6_give_39 ?_
    refine lv_iand hx hb dX6_give_40 ?_
    exact Jj_5 (x_12 &&& (x_1 ^^^ (-1))) Γ hF_13 _ _ hP hS ls (lv_sub hl [] rfl)
  · have hF_14 := ineg c_10 hF_6
    clear hF_6
    refine lv_aload_n hx hb dX6_give_14 rfl (lv_at hl 1 rfl) ?_
    refine va_get (D := (dC, dI)) (ci := 6) (v := .ref (rA 9 3)) (C := RX6) (T := TX6) (N := 12) hx hb hts ii_X6 hown hK hP 0 rfl rfl 3 (by decide) (hts (.fieldLink RX6 21 "StoryHouse$Play" "traits" "[I") wq_229) (fun _ h9 => h9) rfl dX6_give_15 ?_
    refine lv_iload_n hx hb dX6_give_18 rfl (lv_at hl 2 rfl) ?_
    have hq9 : ((b_p cB cC cI cJ cZ oA rA Γ))[4]? = some (rA 9 3, .inl (cI, 121, .inl ((Γ 9).2.1 3))) := rfl
    have hPc := hP.sub (ws' := [(rA 9 3, .inl (cI, 121, .inl ((Γ 9).2.1 3)))]) [4] (pk_fm (er_C hq9))
    have hDc := (hDD Γ).sub (ws' := [(rA 9 3, .inl (cI, 121, .inl ((Γ 9).2.1 3)))]) [4] (by decide +kernel) (er_C hq9)
    have hFc := va_free (wc := [(rA 9 3, .inl (cI, 121, .inl ((Γ 9).2.1 3)))]) (hDD Γ) hS hA [4] (er_C hq9)
    refine g_ofi (wc := [(rA 9 3, .inl (cI, 121, .inl ((Γ 9).2.1 3)))]) (wr := (((b_p cB cC cI cJ cZ oA rA Γ)).eraseIdx 4)) hP (hDD Γ) hS hFc [4] ((List.range ((b_p cB cC cI cJ cZ oA rA Γ)).length).eraseIdx 4) (er_C hq9) er_R er_n er_d (va_runSN (As := [.ref (rA 9 3), .int p0]) (rest := [.int p0, .ref (rA 9 3)]) ⟨hx, hb, hml, hown, hts⟩ (c_X11_at l dC dI cB cC cI cJ cZ cP s.heap.size (rA 9 3) p0 121 ((Γ 9).2.1 3) (by decide)) ⟨va_cnB 2 hts (g_gA wq_407) rfl rfl rfl (nw_28 hN) (hts (.initialized RX11) wq_1) (by decide +kernel) ⟨Nat.le_of_ble_eq_true rfl, Nat.le_of_ble_eq_true rfl⟩, (hts (.static yX11_at) wq_406), trivial⟩ (g_preS g_bl0 hK hPc hDc hS hE hFc g_to0) rfl rfl hl.1 rfl (lv_room (Nat.le_of_ble_eq_true rfl)) dX6_give_19 ⟨Nat.le_of_ble_eq_true rfl, Nat.le_of_ble_eq_true rfl⟩) (fun r9 u9 H locs hw9 hP' hD' hS => ?_)
    clear hPc hDc hFc hD'
    have hP : va_P (dC, dI) vwCl (b_p cB cC cI cJ cZ oA rA Γ) H := er_I hP' hq9
    clear hP' hq9
    subst hw9
    obtain ⟨x_15, ex_15, hF_16⟩ := bnd_e hF_14
    clear hF_14
    refine m_top ex_15 ?_
    refine lv_iload hx hb dX6_give_22 (lv_at hl 0 rfl) ?_
    refine lv_ior hx hb dX6_give_24 ?_
    refine lv_goto (tgt := 41) hx hb dX6_give_25 (by decide) ?_
    exact Jj_5 (x_15 ||| x_1) Γ hF_16 _ _ hP hS ls (lv_sub hl [] rfl)
theorem dX3_traitOp_0 : decode cX3_traitOp 0 = .ok (.aload_n 0, 1) := by decide +kernel
theorem dX3_traitOp_1 : decode cX3_traitOp 1 = .ok (.invokevirtual 102, 3) := by decide +kernel
theorem dX3_traitOp_4 : decode cX3_traitOp 4 = .ok (.istore_n 3, 1) := by decide +kernel
theorem dX3_traitOp_5 : decode cX3_traitOp 5 = .ok (.aload_n 0, 1) := by decide +kernel
theorem dX3_traitOp_6 : decode cX3_traitOp 6 = .ok (.getfield 52, 3) := by decide +kernel
theorem dX3_traitOp_9 : decode cX3_traitOp 9 = .ok (.iload_n 3, 1) := by decide +kernel
theorem dX3_traitOp_10 : decode cX3_traitOp 10 = .ok (.invokevirtual 171, 3) := by decide +kernel
theorem dX3_traitOp_13 : decode cX3_traitOp 13 = .ok (.ifCond .ne 11, 3) := by decide +kernel
theorem dX3_traitOp_16 : decode cX3_traitOp 16 = .ok (.aload_n 0, 1) := by decide +kernel
theorem dX3_traitOp_17 : decode cX3_traitOp 17 = .ok (.iconst 2, 1) := by decide +kernel
theorem dX3_traitOp_18 : decode cX3_traitOp 18 = .ok (.invokevirtual 106, 3) := by decide +kernel
theorem dX3_traitOp_21 : decode cX3_traitOp 21 = .ok (.goto 53, 3) := by decide +kernel
theorem dX3_traitOp_24 : decode cX3_traitOp 24 = .ok (.iload_n 1, 1) := by decide +kernel
theorem dX3_traitOp_25 : decode cX3_traitOp 25 = .ok (.bipush 46, 2) := by decide +kernel
theorem dX3_traitOp_27 : decode cX3_traitOp 27 = .ok (.if_icmp .ne 27, 3) := by decide +kernel
theorem dX3_traitOp_30 : decode cX3_traitOp 30 = .ok (.aload_n 0, 1) := by decide +kernel
theorem dX3_traitOp_31 : decode cX3_traitOp 31 = .ok (.aload_n 0, 1) := by decide +kernel
theorem dX3_traitOp_32 : decode cX3_traitOp 32 = .ok (.getfield 29, 3) := by decide +kernel
theorem dX3_traitOp_35 : decode cX3_traitOp 35 = .ok (.iload_n 3, 1) := by decide +kernel
theorem dX3_traitOp_36 : decode cX3_traitOp 36 = .ok (.iload_n 2, 1) := by decide +kernel
theorem dX3_traitOp_37 : decode cX3_traitOp 37 = .ok (.invokevirtual 175, 3) := by decide +kernel
theorem dX3_traitOp_40 : decode cX3_traitOp 40 = .ok (.ifCond .eq 7, 3) := by decide +kernel
theorem dX3_traitOp_43 : decode cX3_traitOp 43 = .ok (.iconst 1, 1) := by decide +kernel
theorem dX3_traitOp_44 : decode cX3_traitOp 44 = .ok (.goto 4, 3) := by decide +kernel
theorem dX3_traitOp_47 : decode cX3_traitOp 47 = .ok (.iconst 0, 1) := by decide +kernel
theorem dX3_traitOp_48 : decode cX3_traitOp 48 = .ok (.invokevirtual 113, 3) := by decide +kernel
theorem dX3_traitOp_51 : decode cX3_traitOp 51 = .ok (.goto 23, 3) := by decide +kernel
theorem dX3_traitOp_54 : decode cX3_traitOp 54 = .ok (.aload_n 0, 1) := by decide +kernel
theorem dX3_traitOp_55 : decode cX3_traitOp 55 = .ok (.getfield 29, 3) := by decide +kernel
theorem dX3_traitOp_58 : decode cX3_traitOp 58 = .ok (.iload_n 3, 1) := by decide +kernel
theorem dX3_traitOp_59 : decode cX3_traitOp 59 = .ok (.iload_n 2, 1) := by decide +kernel
theorem dX3_traitOp_60 : decode cX3_traitOp 60 = .ok (.iload_n 1, 1) := by decide +kernel
theorem dX3_traitOp_61 : decode cX3_traitOp 61 = .ok (.bipush 47, 2) := by decide +kernel
theorem dX3_traitOp_63 : decode cX3_traitOp 63 = .ok (.if_icmp .ne 7, 3) := by decide +kernel
theorem dX3_traitOp_66 : decode cX3_traitOp 66 = .ok (.iconst 1, 1) := by decide +kernel
theorem dX3_traitOp_67 : decode cX3_traitOp 67 = .ok (.goto 4, 3) := by decide +kernel
theorem dX3_traitOp_70 : decode cX3_traitOp 70 = .ok (.iconst 0, 1) := by decide +kernel
theorem dX3_traitOp_71 : decode cX3_traitOp 71 = .ok (.invokevirtual 179, 3) := by decide +kernel
theorem dX3_traitOp_74 : decode cX3_traitOp 74 = .ok (.return_, 1) := by decide +kernel
def F_X3_traitOp (p0 : Int32) (p1 : Int32) (Γ : HS) : HR :=
  (F_X3_pop Γ).bind fun u_1 =>
  (F_X7_isObject u_1.1 u_1.2).bind fun u_3 =>
  bnd (mrg (fun j => j == 4 || j == 5 || j == 6 || j == 7) u_1.2 u_3.2) fun σ_5 =>
  if u_3.1 = 0 then (
    (F_X3_stop 2 σ_5).bind fun u_9 =>
    some (0, u_9.2)
  ) else (
    if p0 = 46 then (
      (F_X6_bears u_1.1 p1 σ_5).bind fun u_14 =>
      bnd (mrg (fun j => j == 9) σ_5 u_14.2) fun σ_16 =>
      bnd (fun (t_18 : Int32) (σ_19 : HS) => (
        (F_X3_push t_18 σ_19).bind fun u_23 =>
        some (0, u_23.2)
      ) : Int32 → HS → HR) fun j_20 =>
      if u_14.1 = 0 then (
        j_20 0 σ_16
      ) else (
        j_20 1 σ_16
      )
    ) else (
      bnd (fun (t_29 : Int32) (σ_30 : HS) => (
        (F_X6_give u_1.1 p1 t_29 σ_30).bind fun u_34 =>
        bnd (mrg (fun j => j == 9) σ_30 u_34.2) fun σ_36 =>
        some (0, σ_36)
      ) : Int32 → HS → HR) fun j_31 =>
      if p0 = 47 then (
        j_31 1 σ_5
      ) else (
        j_31 0 σ_5
      )
    )
  )
set_option maxHeartbeats 4000000 in
set_option maxRecDepth 100000 in
theorem k_X3_traitOp (l : Launch) (dC : Nat → ClassId) (dI : Nat → Nat → Nat) (cB cC cI cJ cZ cP : ClassId) (oA : Nat → Nat) (rA : Nat → Nat → Nat) (sz : Nat)  (p0 : Int32) (p1 : Int32) (Γ : HS) (res : Int32 × HS) (hF : F_X3_traitOp p0 p1 Γ = some res) : Met l yX3_traitOp (g_ws yX3_traitOp cX3_traitOp 4 none) ({ frames := 4, cells := 0, slots := 0, locals := 106 }) (va_Pc [.ref (oA 10), .int p0, .int p1] (g_B (dC, dI) [(cB, .byte), (cC, .char), (cI, .int), (cJ, .long), (cZ, .boolean), (cP, .object "StoryHouse$Play")] sz (b_k cB cC cI cJ cZ oA rA Γ ++ b_p cB cC cI cJ cZ oA rA Γ ++ b_o cB cC cI cJ cZ oA rA Γ ++ b_s cB cC cI cJ cZ oA rA Γ ++ b_c cB cC cI cJ cZ oA rA Γ ++ b_t cB cC cI cJ cZ oA rA Γ ++ b_d cB cC cI cJ cZ oA rA Γ) g_0)) (va_Qv (fun (_ : Unit) => True) (g_Bo (dC, dI) (va_A (b_k cB cC cI cJ cZ oA rA Γ ++ b_p cB cC cI cJ cZ oA rA Γ ++ b_o cB cC cI cJ cZ oA rA Γ ++ b_s cB cC cI cJ cZ oA rA Γ ++ b_c cB cC cI cJ cZ oA rA Γ ++ b_t cB cC cI cJ cZ oA rA Γ ++ b_d cB cC cI cJ cZ oA rA Γ) sz) (fun (_ : Unit) => (b_k cB cC cI cJ cZ oA rA res.2 ++ b_p cB cC cI cJ cZ oA rA res.2 ++ b_o cB cC cI cJ cZ oA rA res.2 ++ b_s cB cC cI cJ cZ oA rA res.2 ++ b_c cB cC cI cJ cZ oA rA res.2 ++ b_t cB cC cI cJ cZ oA rA res.2 ++ b_d cB cC cI cJ cZ oA rA res.2))) (va_A (b_k cB cC cI cJ cZ oA rA Γ ++ b_p cB cC cI cJ cZ oA rA Γ ++ b_o cB cC cI cJ cZ oA rA Γ ++ b_s cB cC cI cJ cZ oA rA Γ ++ b_c cB cC cI cJ cZ oA rA Γ ++ b_t cB cC cI cJ cZ oA rA Γ ++ b_d cB cC cI cJ cZ oA rA Γ) sz)) 0 0 (va_A (b_k cB cC cI cJ cZ oA rA Γ ++ b_p cB cC cI cJ cZ oA rA Γ ++ b_o cB cC cI cJ cZ oA rA Γ ++ b_s cB cC cI cJ cZ oA rA Γ ++ b_c cB cC cI cJ cZ oA rA Γ ++ b_t cB cC cI cJ cZ oA rA Γ ++ b_d cB cC cI cJ cZ oA rA Γ) sz) := by
  refine Met.ofW (cc := cX3_traitOp) (maxL := 4) (ret := none) (by decide) rfl ?_
  intro p e s m args below meth c s₁ B hml hv
  obtain ⟨rfl, hsz, hP, hK, hD0, hE, hX⟩ := hv
  have hx := B.exec
  have hb := B.bytes
  have hr := B.returns
  have hts0 := atoms_spec (ws := g_ws yX3_traitOp cX3_traitOp 4 none) B.pre
  have hts : ∀ w ∈ lw_good, w.before ([.ref (oA 10), .int p0, .int p1] : List Value).toArray s = true := fun w z => hts0 w (List.mem_cons_of_mem _ z)
  have hown : s.vm.findClass RX3 = some m.cls := findClass_of_methodNamed B.named
  have hlocks := B.notSynchronized
  subst hsz
  have hD1 := hD0.self (sz := s.heap.size)
  generalize hAe : va_A (b_k cB cC cI cJ cZ oA rA Γ ++ b_p cB cC cI cJ cZ oA rA Γ ++ b_o cB cC cI cJ cZ oA rA Γ ++ b_s cB cC cI cJ cZ oA rA Γ ++ b_c cB cC cI cJ cZ oA rA Γ ++ b_t cB cC cI cJ cZ oA rA Γ ++ b_d cB cC cI cJ cZ oA rA Γ) s.heap.size = A at hD1 hE hX ⊢
  have hA : ∀ q : Nat, s.heap.size ≤ q → A q := fun q z => by rw [← hAe]; exact Or.inr z
  have hDD : ∀ Γ : HS, va_D A (b_k cB cC cI cJ cZ oA rA Γ ++ b_p cB cC cI cJ cZ oA rA Γ ++ b_o cB cC cI cJ cZ oA rA Γ ++ b_s cB cC cI cJ cZ oA rA Γ ++ b_c cB cC cI cJ cZ oA rA Γ ++ b_t cB cC cI cJ cZ oA rA Γ ++ b_d cB cC cI cJ cZ oA rA Γ) := fun Γ9 => va_D_fst (ws := (b_k cB cC cI cJ cZ oA rA Γ ++ b_p cB cC cI cJ cZ oA rA Γ ++ b_o cB cC cI cJ cZ oA rA Γ ++ b_s cB cC cI cJ cZ oA rA Γ ++ b_c cB cC cI cJ cZ oA rA Γ ++ b_t cB cC cI cJ cZ oA rA Γ ++ b_d cB cC cI cJ cZ oA rA Γ)) (ws' := (b_k cB cC cI cJ cZ oA rA Γ9 ++ b_p cB cC cI cJ cZ oA rA Γ9 ++ b_o cB cC cI cJ cZ oA rA Γ9 ++ b_s cB cC cI cJ cZ oA rA Γ9 ++ b_c cB cC cI cJ cZ oA rA Γ9 ++ b_t cB cC cI cJ cZ oA rA Γ9 ++ b_d cB cC cI cJ cZ oA rA Γ9)) rfl hD1
  have hN := hE.1
  have hS : va_S A s.heap s.heap [] := va_S.rf
  have hl := lv_entry ([.ref (oA 10), .int p0, .int p1]) (n := 4) (Nat.le_of_ble_eq_true rfl)
  rw [lg_entry_eq]
  generalize (lg_sl ([.ref (oA 10), .int p0, .int p1]) ++ List.replicate (4 - (lg_sl ([.ref (oA 10), .int p0, .int p1])).length) Slot.unset).toArray = ls at hl ⊢
  have hl : lv_has ls 4 [(0, .ref (oA 10)), (1, .int p0), (2, .int p1)] := hl
  unfold F_X3_traitOp at hF
  refine lv_aload_n hx hb dX3_traitOp_0 rfl (lv_at hl 0 rfl) ?_
  obtain ⟨u_1, hu_1, hF_2⟩ := Option.bind_eq_some_iff.mp hF
  clear hF
  have hPc := bx_P (bs := [b_k cB cC cI cJ cZ oA rA Γ, b_p cB cC cI cJ cZ oA rA Γ, b_o cB cC cI cJ cZ oA rA Γ, b_s cB cC cI cJ cZ oA rA Γ, b_c cB cC cI cJ cZ oA rA Γ, b_t cB cC cI cJ cZ oA rA Γ, b_d cB cC cI cJ cZ oA rA Γ]) (bs' := [b_k cB cC cI cJ cZ oA rA Γ, b_p cB cC cI cJ cZ oA rA Γ, b_o cB cC cI cJ cZ oA rA Γ, b_s cB cC cI cJ cZ oA rA Γ, b_c cB cC cI cJ cZ oA rA Γ, b_t cB cC cI cJ cZ oA rA Γ, b_d cB cC cI cJ cZ oA rA Γ]) (ws' := (b_k cB cC cI cJ cZ oA rA Γ ++ b_p cB cC cI cJ cZ oA rA Γ ++ b_o cB cC cI cJ cZ oA rA Γ ++ b_s cB cC cI cJ cZ oA rA Γ ++ b_c cB cC cI cJ cZ oA rA Γ ++ b_t cB cC cI cJ cZ oA rA Γ ++ b_d cB cC cI cJ cZ oA rA Γ)) hP fl_7 fl_7 [0, 1, 2, 3, 4, 5, 6] rfl
  have hDc := bx_D (bs := [b_k cB cC cI cJ cZ oA rA Γ, b_p cB cC cI cJ cZ oA rA Γ, b_o cB cC cI cJ cZ oA rA Γ, b_s cB cC cI cJ cZ oA rA Γ, b_c cB cC cI cJ cZ oA rA Γ, b_t cB cC cI cJ cZ oA rA Γ, b_d cB cC cI cJ cZ oA rA Γ]) (bs' := [b_k cB cC cI cJ cZ oA rA Γ, b_p cB cC cI cJ cZ oA rA Γ, b_o cB cC cI cJ cZ oA rA Γ, b_s cB cC cI cJ cZ oA rA Γ, b_c cB cC cI cJ cZ oA rA Γ, b_t cB cC cI cJ cZ oA rA Γ, b_d cB cC cI cJ cZ oA rA Γ]) (ws' := (b_k cB cC cI cJ cZ oA rA Γ ++ b_p cB cC cI cJ cZ oA rA Γ ++ b_o cB cC cI cJ cZ oA rA Γ ++ b_s cB cC cI cJ cZ oA rA Γ ++ b_c cB cC cI cJ cZ oA rA Γ ++ b_t cB cC cI cJ cZ oA rA Γ ++ b_d cB cC cI cJ cZ oA rA Γ)) (hDD Γ) fl_7 fl_7 [0, 1, 2, 3, 4, 5, 6] (by decide +kernel) rfl
  have hFc := bx_F (bs := [b_k cB cC cI cJ cZ oA rA Γ, b_p cB cC cI cJ cZ oA rA Γ, b_o cB cC cI cJ cZ oA rA Γ, b_s cB cC cI cJ cZ oA rA Γ, b_c cB cC cI cJ cZ oA rA Γ, b_t cB cC cI cJ cZ oA rA Γ, b_d cB cC cI cJ cZ oA rA Γ]) (bs' := [b_k cB cC cI cJ cZ oA rA Γ, b_p cB cC cI cJ cZ oA rA Γ, b_o cB cC cI cJ cZ oA rA Γ, b_s cB cC cI cJ cZ oA rA Γ, b_c cB cC cI cJ cZ oA rA Γ, b_t cB cC cI cJ cZ oA rA Γ, b_d cB cC cI cJ cZ oA rA Γ]) (wc := (b_k cB cC cI cJ cZ oA rA Γ ++ b_p cB cC cI cJ cZ oA rA Γ ++ b_o cB cC cI cJ cZ oA rA Γ ++ b_s cB cC cI cJ cZ oA rA Γ ++ b_c cB cC cI cJ cZ oA rA Γ ++ b_t cB cC cI cJ cZ oA rA Γ ++ b_d cB cC cI cJ cZ oA rA Γ)) (hDD Γ) hS hA fl_7 fl_7 [0, 1, 2, 3, 4, 5, 6] rfl
  refine g_ofi (wc := (b_k cB cC cI cJ cZ oA rA Γ ++ b_p cB cC cI cJ cZ oA rA Γ ++ b_o cB cC cI cJ cZ oA rA Γ ++ b_s cB cC cI cJ cZ oA rA Γ ++ b_c cB cC cI cJ cZ oA rA Γ ++ b_t cB cC cI cJ cZ oA rA Γ ++ b_d cB cC cI cJ cZ oA rA Γ)) (wr := ([] : va_W)) hP (hDD Γ) hS hFc (bx_ix [b_k cB cC cI cJ cZ oA rA Γ, b_p cB cC cI cJ cZ oA rA Γ, b_o cB cC cI cJ cZ oA rA Γ, b_s cB cC cI cJ cZ oA rA Γ, b_c cB cC cI cJ cZ oA rA Γ, b_t cB cC cI cJ cZ oA rA Γ, b_d cB cC cI cJ cZ oA rA Γ] [0, 1, 2, 3, 4, 5, 6]) (bx_ix [b_k cB cC cI cJ cZ oA rA Γ, b_p cB cC cI cJ cZ oA rA Γ, b_o cB cC cI cJ cZ oA rA Γ, b_s cB cC cI cJ cZ oA rA Γ, b_c cB cC cI cJ cZ oA rA Γ, b_t cB cC cI cJ cZ oA rA Γ, b_d cB cC cI cJ cZ oA rA Γ] []) (bx_C (bs := [b_k cB cC cI cJ cZ oA rA Γ, b_p cB cC cI cJ cZ oA rA Γ, b_o cB cC cI cJ cZ oA rA Γ, b_s cB cC cI cJ cZ oA rA Γ, b_c cB cC cI cJ cZ oA rA Γ, b_t cB cC cI cJ cZ oA rA Γ, b_d cB cC cI cJ cZ oA rA Γ]) (bs' := [b_k cB cC cI cJ cZ oA rA Γ, b_p cB cC cI cJ cZ oA rA Γ, b_o cB cC cI cJ cZ oA rA Γ, b_s cB cC cI cJ cZ oA rA Γ, b_c cB cC cI cJ cZ oA rA Γ, b_t cB cC cI cJ cZ oA rA Γ, b_d cB cC cI cJ cZ oA rA Γ]) (is := [0, 1, 2, 3, 4, 5, 6]) fl_7 fl_7 rfl) (bx_C (bs := [b_k cB cC cI cJ cZ oA rA Γ, b_p cB cC cI cJ cZ oA rA Γ, b_o cB cC cI cJ cZ oA rA Γ, b_s cB cC cI cJ cZ oA rA Γ, b_c cB cC cI cJ cZ oA rA Γ, b_t cB cC cI cJ cZ oA rA Γ, b_d cB cC cI cJ cZ oA rA Γ]) (bs' := []) (is := []) fl_7 fl_0 rfl) (bx_n (by decide +kernel)) (bx_d (by decide +kernel)) (va_runV (As := []) (rest := []) ⟨hx, hb, hml, hown, hts⟩ (k_X3_pop l dC dI cB cC cI cJ cZ cP oA rA s.heap.size  Γ _ hu_1) (cwV 0 hts (g_gV wq_1144 wq_1145 wq_2086 wq_11 wq_1146) rfl rfl rfl (by decide +kernel) ⟨Nat.le_of_ble_eq_true rfl, Nat.le_of_ble_eq_true rfl⟩) (g_preV g_bl0 hK hPc hDc hS hE hFc g_to0 (q0 := 0) (ci := 3) rfl rfl) rfl rfl hl.1 rfl (lv_room (Nat.le_of_ble_eq_true rfl)) dX3_traitOp_1 ⟨Nat.le_of_ble_eq_true rfl, Nat.le_of_ble_eq_true rfl⟩) (fun r9 u9 H locs hw9 hP' hD' hS => ?_)
  clear hPc hDc hFc
  subst hw9
  have hP : va_P (dC, dI) vwCl (b_k cB cC cI cJ cZ oA rA u_1.2 ++ b_p cB cC cI cJ cZ oA rA u_1.2 ++ b_o cB cC cI cJ cZ oA rA u_1.2 ++ b_s cB cC cI cJ cZ oA rA u_1.2 ++ b_c cB cC cI cJ cZ oA rA u_1.2 ++ b_t cB cC cI cJ cZ oA rA u_1.2 ++ b_d cB cC cI cJ cZ oA rA u_1.2) H := hP'
  clear hP' hD'
  refine lv_istore_n (lv' := [(3, .int u_1.1), (0, .ref (oA 10)), (1, .int p0), (2, .int p1)]) hx hb dX3_traitOp_4 rfl hl (by decide) rfl (fun ls hl => ?_)
  refine lv_aload_n hx hb dX3_traitOp_5 rfl (lv_at hl 1 rfl) ?_
  refine va_get (D := (dC, dI)) (ci := 3) (v := .ref (oA 4)) (C := RX3) (T := TX3) (N := 16) hx hb hts ii_X3 hown hK hP 0 rfl rfl 2 (by decide) (hts (.fieldLink RX3 52 "StoryHouse$Machine" "story" "LStoryHouse$Story;") wq_262) (fun _ h9 => h9) rfl dX3_traitOp_6 ?_
  refine lv_iload_n hx hb dX3_traitOp_9 rfl (lv_at hl 0 rfl) ?_
  obtain ⟨u_3, hu_3, hF_4⟩ := Option.bind_eq_some_iff.mp hF_2
  clear hF_2
  have hPc := bx_P (bs := [b_k cB cC cI cJ cZ oA rA u_1.2, b_p cB cC cI cJ cZ oA rA u_1.2, b_o cB cC cI cJ cZ oA rA u_1.2, b_s cB cC cI cJ cZ oA rA u_1.2, b_c cB cC cI cJ cZ oA rA u_1.2, b_t cB cC cI cJ cZ oA rA u_1.2, b_d cB cC cI cJ cZ oA rA u_1.2]) (bs' := [b_s cB cC cI cJ cZ oA rA u_1.2, b_c cB cC cI cJ cZ oA rA u_1.2, b_t cB cC cI cJ cZ oA rA u_1.2, b_d cB cC cI cJ cZ oA rA u_1.2]) (ws' := (b_s cB cC cI cJ cZ oA rA u_1.2 ++ b_c cB cC cI cJ cZ oA rA u_1.2 ++ b_t cB cC cI cJ cZ oA rA u_1.2 ++ b_d cB cC cI cJ cZ oA rA u_1.2)) hP fl_7 fl_4 [3, 4, 5, 6] rfl
  have hDc := bx_D (bs := [b_k cB cC cI cJ cZ oA rA u_1.2, b_p cB cC cI cJ cZ oA rA u_1.2, b_o cB cC cI cJ cZ oA rA u_1.2, b_s cB cC cI cJ cZ oA rA u_1.2, b_c cB cC cI cJ cZ oA rA u_1.2, b_t cB cC cI cJ cZ oA rA u_1.2, b_d cB cC cI cJ cZ oA rA u_1.2]) (bs' := [b_s cB cC cI cJ cZ oA rA u_1.2, b_c cB cC cI cJ cZ oA rA u_1.2, b_t cB cC cI cJ cZ oA rA u_1.2, b_d cB cC cI cJ cZ oA rA u_1.2]) (ws' := (b_s cB cC cI cJ cZ oA rA u_1.2 ++ b_c cB cC cI cJ cZ oA rA u_1.2 ++ b_t cB cC cI cJ cZ oA rA u_1.2 ++ b_d cB cC cI cJ cZ oA rA u_1.2)) (hDD u_1.2) fl_7 fl_4 [3, 4, 5, 6] (by decide +kernel) rfl
  have hFc := bx_F (bs := [b_k cB cC cI cJ cZ oA rA u_1.2, b_p cB cC cI cJ cZ oA rA u_1.2, b_o cB cC cI cJ cZ oA rA u_1.2, b_s cB cC cI cJ cZ oA rA u_1.2, b_c cB cC cI cJ cZ oA rA u_1.2, b_t cB cC cI cJ cZ oA rA u_1.2, b_d cB cC cI cJ cZ oA rA u_1.2]) (bs' := [b_s cB cC cI cJ cZ oA rA u_1.2, b_c cB cC cI cJ cZ oA rA u_1.2, b_t cB cC cI cJ cZ oA rA u_1.2, b_d cB cC cI cJ cZ oA rA u_1.2]) (wc := (b_s cB cC cI cJ cZ oA rA u_1.2 ++ b_c cB cC cI cJ cZ oA rA u_1.2 ++ b_t cB cC cI cJ cZ oA rA u_1.2 ++ b_d cB cC cI cJ cZ oA rA u_1.2)) (hDD u_1.2) hS hA fl_7 fl_4 [3, 4, 5, 6] rfl
  refine g_ofi (wc := (b_s cB cC cI cJ cZ oA rA u_1.2 ++ b_c cB cC cI cJ cZ oA rA u_1.2 ++ b_t cB cC cI cJ cZ oA rA u_1.2 ++ b_d cB cC cI cJ cZ oA rA u_1.2)) (wr := (b_k cB cC cI cJ cZ oA rA u_1.2 ++ b_p cB cC cI cJ cZ oA rA u_1.2 ++ b_o cB cC cI cJ cZ oA rA u_1.2)) hP (hDD u_1.2) hS hFc (bx_ix [b_k cB cC cI cJ cZ oA rA u_1.2, b_p cB cC cI cJ cZ oA rA u_1.2, b_o cB cC cI cJ cZ oA rA u_1.2, b_s cB cC cI cJ cZ oA rA u_1.2, b_c cB cC cI cJ cZ oA rA u_1.2, b_t cB cC cI cJ cZ oA rA u_1.2, b_d cB cC cI cJ cZ oA rA u_1.2] [3, 4, 5, 6]) (bx_ix [b_k cB cC cI cJ cZ oA rA u_1.2, b_p cB cC cI cJ cZ oA rA u_1.2, b_o cB cC cI cJ cZ oA rA u_1.2, b_s cB cC cI cJ cZ oA rA u_1.2, b_c cB cC cI cJ cZ oA rA u_1.2, b_t cB cC cI cJ cZ oA rA u_1.2, b_d cB cC cI cJ cZ oA rA u_1.2] [0, 1, 2]) (bx_C (bs := [b_k cB cC cI cJ cZ oA rA u_1.2, b_p cB cC cI cJ cZ oA rA u_1.2, b_o cB cC cI cJ cZ oA rA u_1.2, b_s cB cC cI cJ cZ oA rA u_1.2, b_c cB cC cI cJ cZ oA rA u_1.2, b_t cB cC cI cJ cZ oA rA u_1.2, b_d cB cC cI cJ cZ oA rA u_1.2]) (bs' := [b_s cB cC cI cJ cZ oA rA u_1.2, b_c cB cC cI cJ cZ oA rA u_1.2, b_t cB cC cI cJ cZ oA rA u_1.2, b_d cB cC cI cJ cZ oA rA u_1.2]) (is := [3, 4, 5, 6]) fl_7 fl_4 rfl) (bx_C (bs := [b_k cB cC cI cJ cZ oA rA u_1.2, b_p cB cC cI cJ cZ oA rA u_1.2, b_o cB cC cI cJ cZ oA rA u_1.2, b_s cB cC cI cJ cZ oA rA u_1.2, b_c cB cC cI cJ cZ oA rA u_1.2, b_t cB cC cI cJ cZ oA rA u_1.2, b_d cB cC cI cJ cZ oA rA u_1.2]) (bs' := [b_k cB cC cI cJ cZ oA rA u_1.2, b_p cB cC cI cJ cZ oA rA u_1.2, b_o cB cC cI cJ cZ oA rA u_1.2]) (is := [0, 1, 2]) fl_7 fl_3 rfl) (bx_n (by decide +kernel)) (bx_d (by decide +kernel)) (va_runV (As := [.int u_1.1]) (rest := []) ⟨hx, hb, hml, hown, hts⟩ (k_X7_isObject l dC dI cB cC cI cJ cZ cP oA rA H.size  u_1.1 u_1.2 _ hu_3) (cwV 1 hts (g_gV wq_1169 wq_971 wq_972 wq_5 wq_973) rfl rfl rfl (by decide +kernel) ⟨Nat.le_of_ble_eq_true rfl, Nat.le_of_ble_eq_true rfl⟩) (g_preV g_bl0 hK hPc hDc hS hE hFc g_to0 (q0 := 0) (ci := 7) rfl rfl) rfl rfl hl.1 rfl (lv_room (Nat.le_of_ble_eq_true rfl)) dX3_traitOp_10 ⟨Nat.le_of_ble_eq_true rfl, Nat.le_of_ble_eq_true rfl⟩) (fun r9 u9 H locs hw9 hP' hD' hS => ?_)
  clear hPc hDc hFc
  subst hw9
  obtain ⟨σ_5, eσ_5, hF_6⟩ := bnd_e hF_4
  clear hF_4
  have hP : va_P (dC, dI) vwCl (b_k cB cC cI cJ cZ oA rA σ_5 ++ b_p cB cC cI cJ cZ oA rA σ_5 ++ b_o cB cC cI cJ cZ oA rA σ_5 ++ b_s cB cC cI cJ cZ oA rA σ_5 ++ b_c cB cC cI cJ cZ oA rA σ_5 ++ b_t cB cC cI cJ cZ oA rA σ_5 ++ b_d cB cC cI cJ cZ oA rA σ_5) H := by rw [eσ_5]; exact bx_P (bs := [b_k cB cC cI cJ cZ oA rA u_1.2, b_p cB cC cI cJ cZ oA rA u_1.2, b_o cB cC cI cJ cZ oA rA u_1.2] ++ [b_s cB cC cI cJ cZ oA rA u_3.2, b_c cB cC cI cJ cZ oA rA u_3.2, b_t cB cC cI cJ cZ oA rA u_3.2, b_d cB cC cI cJ cZ oA rA u_3.2]) (bs' := [b_k cB cC cI cJ cZ oA rA (mrg (fun j => j == 4 || j == 5 || j == 6 || j == 7) u_1.2 u_3.2), b_p cB cC cI cJ cZ oA rA (mrg (fun j => j == 4 || j == 5 || j == 6 || j == 7) u_1.2 u_3.2), b_o cB cC cI cJ cZ oA rA (mrg (fun j => j == 4 || j == 5 || j == 6 || j == 7) u_1.2 u_3.2), b_s cB cC cI cJ cZ oA rA (mrg (fun j => j == 4 || j == 5 || j == 6 || j == 7) u_1.2 u_3.2), b_c cB cC cI cJ cZ oA rA (mrg (fun j => j == 4 || j == 5 || j == 6 || j == 7) u_1.2 u_3.2), b_t cB cC cI cJ cZ oA rA (mrg (fun j => j == 4 || j == 5 || j == 6 || j == 7) u_1.2 u_3.2), b_d cB cC cI cJ cZ oA rA (mrg (fun j => j == 4 || j == 5 || j == 6 || j == 7) u_1.2 u_3.2)]) hP' (fl_a fl_3 fl_4) fl_7 [0, 1, 2, 3, 4, 5, 6] rfl
  clear hP' hD'
  refine lv_if_ne (tgt := 24) hx hb dX3_traitOp_13 (by decide) (fun c_7 => ?_) (fun c_7 => ?_)
  · have hF_11 := ineg c_7 hF_6
    clear hF_6
    refine lv_iload_n hx hb dX3_traitOp_24 rfl (lv_at hl 2 rfl) ?_
    refine lv_bipush (v := 46) hx hb dX3_traitOp_25 (by decide +kernel) ?_
    refine lv_icmp_ne (tgt := 54) hx hb dX3_traitOp_27 (by decide) (fun c_12 => ?_) (fun c_12 => ?_)
    · have hF_28 := ineg c_12 hF_11
      clear hF_11
      refine lv_aload_n hx hb dX3_traitOp_54 rfl (lv_at hl 1 rfl) ?_
      refine va_get (D := (dC, dI)) (ci := 3) (v := .ref (oA 9)) (C := RX3) (T := TX3) (N := 16) hx hb hts ii_X3 hown hK hP 0 rfl rfl 0 (by decide) (hts (.fieldLink RX3 29 "StoryHouse$Machine" "play" "LStoryHouse$Play;") wq_259) (fun _ h9 => h9) rfl dX3_traitOp_55 ?_
      refine lv_iload_n hx hb dX3_traitOp_58 rfl (lv_at hl 0 rfl) ?_
      refine lv_iload_n hx hb dX3_traitOp_59 rfl (lv_at hl 3 rfl) ?_
      refine lv_iload_n hx hb dX3_traitOp_60 rfl (lv_at hl 2 rfl) ?_
      refine lv_bipush (v := 47) hx hb dX3_traitOp_61 (by decide +kernel) ?_
      obtain ⟨j_31, ej_31, hF_32⟩ := bnd_e hF_28
      clear hF_28
      have Jj_31 : ∀ (t_29 : Int32) (σ_30 : HS), j_31 t_29 σ_30 = some res → ∀ (H : Heap) (locs : List Loc), va_P (dC, dI) vwCl (b_k cB cC cI cJ cZ oA rA σ_30 ++ b_p cB cC cI cJ cZ oA rA σ_30 ++ b_o cB cC cI cJ cZ oA rA σ_30 ++ b_s cB cC cI cJ cZ oA rA σ_30 ++ b_c cB cC cI cJ cZ oA rA σ_30 ++ b_t cB cC cI cJ cZ oA rA σ_30 ++ b_d cB cC cI cJ cZ oA rA σ_30) H → va_S A s.heap H locs → ∀ ls : Array Slot, lv_has ls 4 [] → W p l e (headSpec (g_ws yX3_traitOp cX3_traitOp 4 none) { frames := 4, cells := 0, slots := 0, locals := 106 }).room s m ([.ref (oA 10), .int p0, .int p1] : List Value).toArray below meth c H locs 0 0 (MQ below (va_Qv (fun (_ : Unit) => True) (g_Bo (dC, dI) A (fun (_ : Unit) => (b_k cB cC cI cJ cZ oA rA res.2 ++ b_p cB cC cI cJ cZ oA rA res.2 ++ b_o cB cC cI cJ cZ oA rA res.2 ++ b_s cB cC cI cJ cZ oA rA res.2 ++ b_c cB cC cI cJ cZ oA rA res.2 ++ b_t cB cC cI cJ cZ oA rA res.2 ++ b_d cB cC cI cJ cZ oA rA res.2))) A) ([.ref (oA 10), .int p0, .int p1] : List Value).toArray s 0 0 A) (F0 m 71 ls [.int t_29, .int p1, .int u_1.1, .ref (oA 9)]) := by
        intro t_29 σ_30 hF0 H locs hP hS ls hl
        subst ej_31
        have hF_33 := hF0
        clear hF0
        obtain ⟨u_34, hu_34, hF_35⟩ := Option.bind_eq_some_iff.mp hF_33
        clear hF_33
        have hPc := bx_P (bs := [b_k cB cC cI cJ cZ oA rA σ_30, b_p cB cC cI cJ cZ oA rA σ_30, b_o cB cC cI cJ cZ oA rA σ_30, b_s cB cC cI cJ cZ oA rA σ_30, b_c cB cC cI cJ cZ oA rA σ_30, b_t cB cC cI cJ cZ oA rA σ_30, b_d cB cC cI cJ cZ oA rA σ_30]) (bs' := [b_p cB cC cI cJ cZ oA rA σ_30]) (ws' := (b_p cB cC cI cJ cZ oA rA σ_30)) hP fl_7 fl_1 [1] rfl
        have hDc := bx_D (bs := [b_k cB cC cI cJ cZ oA rA σ_30, b_p cB cC cI cJ cZ oA rA σ_30, b_o cB cC cI cJ cZ oA rA σ_30, b_s cB cC cI cJ cZ oA rA σ_30, b_c cB cC cI cJ cZ oA rA σ_30, b_t cB cC cI cJ cZ oA rA σ_30, b_d cB cC cI cJ cZ oA rA σ_30]) (bs' := [b_p cB cC cI cJ cZ oA rA σ_30]) (ws' := (b_p cB cC cI cJ cZ oA rA σ_30)) (hDD σ_30) fl_7 fl_1 [1] (by decide +kernel) rfl
        have hFc := bx_F (bs := [b_k cB cC cI cJ cZ oA rA σ_30, b_p cB cC cI cJ cZ oA rA σ_30, b_o cB cC cI cJ cZ oA rA σ_30, b_s cB cC cI cJ cZ oA rA σ_30, b_c cB cC cI cJ cZ oA rA σ_30, b_t cB cC cI cJ cZ oA rA σ_30, b_d cB cC cI cJ cZ oA rA σ_30]) (bs' := [b_p cB cC cI cJ cZ oA rA σ_30]) (wc := (b_p cB cC cI cJ cZ oA rA σ_30)) (hDD σ_30) hS hA fl_7 fl_1 [1] rfl
        refine g_ofv (wc := (b_p cB cC cI cJ cZ oA rA σ_30)) (wr := (b_k cB cC cI cJ cZ oA rA σ_30 ++ b_o cB cC cI cJ cZ oA rA σ_30 ++ b_s cB cC cI cJ cZ oA rA σ_30 ++ b_c cB cC cI cJ cZ oA rA σ_30 ++ b_t cB cC cI cJ cZ oA rA σ_30 ++ b_d cB cC cI cJ cZ oA rA σ_30)) hP (hDD σ_30) hS hFc (bx_ix [b_k cB cC cI cJ cZ oA rA σ_30, b_p cB cC cI cJ cZ oA rA σ_30, b_o cB cC cI cJ cZ oA rA σ_30, b_s cB cC cI cJ cZ oA rA σ_30, b_c cB cC cI cJ cZ oA rA σ_30, b_t cB cC cI cJ cZ oA rA σ_30, b_d cB cC cI cJ cZ oA rA σ_30] [1]) (bx_ix [b_k cB cC cI cJ cZ oA rA σ_30, b_p cB cC cI cJ cZ oA rA σ_30, b_o cB cC cI cJ cZ oA rA σ_30, b_s cB cC cI cJ cZ oA rA σ_30, b_c cB cC cI cJ cZ oA rA σ_30, b_t cB cC cI cJ cZ oA rA σ_30, b_d cB cC cI cJ cZ oA rA σ_30] [0, 2, 3, 4, 5, 6]) (bx_C (bs := [b_k cB cC cI cJ cZ oA rA σ_30, b_p cB cC cI cJ cZ oA rA σ_30, b_o cB cC cI cJ cZ oA rA σ_30, b_s cB cC cI cJ cZ oA rA σ_30, b_c cB cC cI cJ cZ oA rA σ_30, b_t cB cC cI cJ cZ oA rA σ_30, b_d cB cC cI cJ cZ oA rA σ_30]) (bs' := [b_p cB cC cI cJ cZ oA rA σ_30]) (is := [1]) fl_7 fl_1 rfl) (bx_C (bs := [b_k cB cC cI cJ cZ oA rA σ_30, b_p cB cC cI cJ cZ oA rA σ_30, b_o cB cC cI cJ cZ oA rA σ_30, b_s cB cC cI cJ cZ oA rA σ_30, b_c cB cC cI cJ cZ oA rA σ_30, b_t cB cC cI cJ cZ oA rA σ_30, b_d cB cC cI cJ cZ oA rA σ_30]) (bs' := [b_k cB cC cI cJ cZ oA rA σ_30, b_o cB cC cI cJ cZ oA rA σ_30, b_s cB cC cI cJ cZ oA rA σ_30, b_c cB cC cI cJ cZ oA rA σ_30, b_t cB cC cI cJ cZ oA rA σ_30, b_d cB cC cI cJ cZ oA rA σ_30]) (is := [0, 2, 3, 4, 5, 6]) fl_7 fl_6 rfl) (bx_n (by decide +kernel)) (bx_d (by decide +kernel)) (va_runV (As := [.int u_1.1, .int p1, .int t_29]) (rest := []) ⟨hx, hb, hml, hown, hts⟩ (k_X6_give l dC dI cB cC cI cJ cZ cP oA rA H.size  u_1.1 p1 t_29 σ_30 _ hu_34) (cwV 3 hts (g_gV wq_1171 wq_1172 wq_1173 wq_10 wq_1174) rfl rfl rfl (by decide +kernel) ⟨Nat.le_of_ble_eq_true rfl, Nat.le_of_ble_eq_true rfl⟩) (g_preV g_bl0 hK hPc hDc hS hE hFc g_to0 (q0 := 0) (ci := 6) rfl rfl) rfl rfl hl.1 rfl (lv_room (Nat.le_of_ble_eq_true rfl)) dX3_traitOp_71 ⟨Nat.le_of_ble_eq_true rfl, Nat.le_of_ble_eq_true rfl⟩) (fun u9 H locs hw9 hP' hD' hS => ?_)
        clear hPc hDc hFc
        obtain ⟨σ_36, eσ_36, hF_37⟩ := bnd_e hF_35
        clear hF_35
        have hP : va_P (dC, dI) vwCl (b_k cB cC cI cJ cZ oA rA σ_36 ++ b_p cB cC cI cJ cZ oA rA σ_36 ++ b_o cB cC cI cJ cZ oA rA σ_36 ++ b_s cB cC cI cJ cZ oA rA σ_36 ++ b_c cB cC cI cJ cZ oA rA σ_36 ++ b_t cB cC cI cJ cZ oA rA σ_36 ++ b_d cB cC cI cJ cZ oA rA σ_36) H := by rw [eσ_36]; exact bx_P (bs := [b_k cB cC cI cJ cZ oA rA σ_30, b_o cB cC cI cJ cZ oA rA σ_30, b_s cB cC cI cJ cZ oA rA σ_30, b_c cB cC cI cJ cZ oA rA σ_30, b_t cB cC cI cJ cZ oA rA σ_30, b_d cB cC cI cJ cZ oA rA σ_30] ++ [b_p cB cC cI cJ cZ oA rA u_34.2]) (bs' := [b_k cB cC cI cJ cZ oA rA (mrg (fun j => j == 9) σ_30 u_34.2), b_p cB cC cI cJ cZ oA rA (mrg (fun j => j == 9) σ_30 u_34.2), b_o cB cC cI cJ cZ oA rA (mrg (fun j => j == 9) σ_30 u_34.2), b_s cB cC cI cJ cZ oA rA (mrg (fun j => j == 9) σ_30 u_34.2), b_c cB cC cI cJ cZ oA rA (mrg (fun j => j == 9) σ_30 u_34.2), b_t cB cC cI cJ cZ oA rA (mrg (fun j => j == 9) σ_30 u_34.2), b_d cB cC cI cJ cZ oA rA (mrg (fun j => j == 9) σ_30 u_34.2)]) hP' (fl_a fl_6 fl_1) fl_7 [0, 6, 1, 2, 3, 4, 5] rfl
        clear hP' hD'
        have h9 := Option.some.inj hF_37
        subst h9
        exact W.vret hx hb hr (fun t ht hW => ⟨⟨(), rfl, trivial, m_end ht hP, hDD _⟩, hS.F ht⟩) hS.2.2 dX3_traitOp_74
      refine lv_icmp_ne (tgt := 70) hx hb dX3_traitOp_63 (by decide) (fun c_38 => ?_) (fun c_38 => ?_)
      · have hF_40 := ineg c_38 hF_32
        clear hF_32
        refine lv_iconst (v := 0) hx hb dX3_traitOp_70 (by decide +kernel) ?_
        exact Jj_31 0 σ_5 hF_40 _ _ hP hS ls (lv_sub hl [] rfl)
      · have hF_39 := ipos c_38 hF_32
        clear hF_32
        refine lv_iconst (v := 1) hx hb dX3_traitOp_66 (by decide +kernel) ?_
        refine lv_goto (tgt := 71) hx hb dX3_traitOp_67 (by decide) ?_
        exact Jj_31 1 σ_5 hF_39 _ _ hP hS ls (lv_sub hl [] rfl)
    · have hF_13 := ipos c_12 hF_11
      clear hF_11
      refine lv_aload_n hx hb dX3_traitOp_30 rfl (lv_at hl 1 rfl) ?_
      refine lv_aload_n hx hb dX3_traitOp_31 rfl (lv_at hl 1 rfl) ?_
      refine va_get (D := (dC, dI)) (ci := 3) (v := .ref (oA 9)) (C := RX3) (T := TX3) (N := 16) hx hb hts ii_X3 hown hK hP 0 rfl rfl 0 (by decide) (hts (.fieldLink RX3 29 "StoryHouse$Machine" "play" "LStoryHouse$Play;") wq_259) (fun _ h9 => h9) rfl dX3_traitOp_32 ?_
      refine lv_iload_n hx hb dX3_traitOp_35 rfl (lv_at hl 0 rfl) ?_
      refine lv_iload_n hx hb dX3_traitOp_36 rfl (lv_at hl 3 rfl) ?_
      obtain ⟨u_14, hu_14, hF_15⟩ := Option.bind_eq_some_iff.mp hF_13
      clear hF_13
      have hPc := bx_P (bs := [b_k cB cC cI cJ cZ oA rA σ_5, b_p cB cC cI cJ cZ oA rA σ_5, b_o cB cC cI cJ cZ oA rA σ_5, b_s cB cC cI cJ cZ oA rA σ_5, b_c cB cC cI cJ cZ oA rA σ_5, b_t cB cC cI cJ cZ oA rA σ_5, b_d cB cC cI cJ cZ oA rA σ_5]) (bs' := [b_p cB cC cI cJ cZ oA rA σ_5]) (ws' := (b_p cB cC cI cJ cZ oA rA σ_5)) hP fl_7 fl_1 [1] rfl
      have hDc := bx_D (bs := [b_k cB cC cI cJ cZ oA rA σ_5, b_p cB cC cI cJ cZ oA rA σ_5, b_o cB cC cI cJ cZ oA rA σ_5, b_s cB cC cI cJ cZ oA rA σ_5, b_c cB cC cI cJ cZ oA rA σ_5, b_t cB cC cI cJ cZ oA rA σ_5, b_d cB cC cI cJ cZ oA rA σ_5]) (bs' := [b_p cB cC cI cJ cZ oA rA σ_5]) (ws' := (b_p cB cC cI cJ cZ oA rA σ_5)) (hDD σ_5) fl_7 fl_1 [1] (by decide +kernel) rfl
      have hFc := bx_F (bs := [b_k cB cC cI cJ cZ oA rA σ_5, b_p cB cC cI cJ cZ oA rA σ_5, b_o cB cC cI cJ cZ oA rA σ_5, b_s cB cC cI cJ cZ oA rA σ_5, b_c cB cC cI cJ cZ oA rA σ_5, b_t cB cC cI cJ cZ oA rA σ_5, b_d cB cC cI cJ cZ oA rA σ_5]) (bs' := [b_p cB cC cI cJ cZ oA rA σ_5]) (wc := (b_p cB cC cI cJ cZ oA rA σ_5)) (hDD σ_5) hS hA fl_7 fl_1 [1] rfl
      refine g_ofi (wc := (b_p cB cC cI cJ cZ oA rA σ_5)) (wr := (b_k cB cC cI cJ cZ oA rA σ_5 ++ b_o cB cC cI cJ cZ oA rA σ_5 ++ b_s cB cC cI cJ cZ oA rA σ_5 ++ b_c cB cC cI cJ cZ oA rA σ_5 ++ b_t cB cC cI cJ cZ oA rA σ_5 ++ b_d cB cC cI cJ cZ oA rA σ_5)) hP (hDD σ_5) hS hFc (bx_ix [b_k cB cC cI cJ cZ oA rA σ_5, b_p cB cC cI cJ cZ oA rA σ_5, b_o cB cC cI cJ cZ oA rA σ_5, b_s cB cC cI cJ cZ oA rA σ_5, b_c cB cC cI cJ cZ oA rA σ_5, b_t cB cC cI cJ cZ oA rA σ_5, b_d cB cC cI cJ cZ oA rA σ_5] [1]) (bx_ix [b_k cB cC cI cJ cZ oA rA σ_5, b_p cB cC cI cJ cZ oA rA σ_5, b_o cB cC cI cJ cZ oA rA σ_5, b_s cB cC cI cJ cZ oA rA σ_5, b_c cB cC cI cJ cZ oA rA σ_5, b_t cB cC cI cJ cZ oA rA σ_5, b_d cB cC cI cJ cZ oA rA σ_5] [0, 2, 3, 4, 5, 6]) (bx_C (bs := [b_k cB cC cI cJ cZ oA rA σ_5, b_p cB cC cI cJ cZ oA rA σ_5, b_o cB cC cI cJ cZ oA rA σ_5, b_s cB cC cI cJ cZ oA rA σ_5, b_c cB cC cI cJ cZ oA rA σ_5, b_t cB cC cI cJ cZ oA rA σ_5, b_d cB cC cI cJ cZ oA rA σ_5]) (bs' := [b_p cB cC cI cJ cZ oA rA σ_5]) (is := [1]) fl_7 fl_1 rfl) (bx_C (bs := [b_k cB cC cI cJ cZ oA rA σ_5, b_p cB cC cI cJ cZ oA rA σ_5, b_o cB cC cI cJ cZ oA rA σ_5, b_s cB cC cI cJ cZ oA rA σ_5, b_c cB cC cI cJ cZ oA rA σ_5, b_t cB cC cI cJ cZ oA rA σ_5, b_d cB cC cI cJ cZ oA rA σ_5]) (bs' := [b_k cB cC cI cJ cZ oA rA σ_5, b_o cB cC cI cJ cZ oA rA σ_5, b_s cB cC cI cJ cZ oA rA σ_5, b_c cB cC cI cJ cZ oA rA σ_5, b_t cB cC cI cJ cZ oA rA σ_5, b_d cB cC cI cJ cZ oA rA σ_5]) (is := [0, 2, 3, 4, 5, 6]) fl_7 fl_6 rfl) (bx_n (by decide +kernel)) (bx_d (by decide +kernel)) (va_runV (As := [.int u_1.1, .int p1]) (rest := [.ref (oA 10)]) ⟨hx, hb, hml, hown, hts⟩ (k_X6_bears l dC dI cB cC cI cJ cZ cP oA rA H.size  u_1.1 p1 σ_5 _ hu_14) (cwV 2 hts (g_gV wq_1170 wq_987 wq_988 wq_10 wq_989) rfl rfl rfl (by decide +kernel) ⟨Nat.le_of_ble_eq_true rfl, Nat.le_of_ble_eq_true rfl⟩) (g_preV g_bl0 hK hPc hDc hS hE hFc g_to0 (q0 := 0) (ci := 6) rfl rfl) rfl rfl hl.1 rfl (lv_room (Nat.le_of_ble_eq_true rfl)) dX3_traitOp_37 ⟨Nat.le_of_ble_eq_true rfl, Nat.le_of_ble_eq_true rfl⟩) (fun r9 u9 H locs hw9 hP' hD' hS => ?_)
      clear hPc hDc hFc
      subst hw9
      obtain ⟨σ_16, eσ_16, hF_17⟩ := bnd_e hF_15
      clear hF_15
      have hP : va_P (dC, dI) vwCl (b_k cB cC cI cJ cZ oA rA σ_16 ++ b_p cB cC cI cJ cZ oA rA σ_16 ++ b_o cB cC cI cJ cZ oA rA σ_16 ++ b_s cB cC cI cJ cZ oA rA σ_16 ++ b_c cB cC cI cJ cZ oA rA σ_16 ++ b_t cB cC cI cJ cZ oA rA σ_16 ++ b_d cB cC cI cJ cZ oA rA σ_16) H := by rw [eσ_16]; exact bx_P (bs := [b_k cB cC cI cJ cZ oA rA σ_5, b_o cB cC cI cJ cZ oA rA σ_5, b_s cB cC cI cJ cZ oA rA σ_5, b_c cB cC cI cJ cZ oA rA σ_5, b_t cB cC cI cJ cZ oA rA σ_5, b_d cB cC cI cJ cZ oA rA σ_5] ++ [b_p cB cC cI cJ cZ oA rA u_14.2]) (bs' := [b_k cB cC cI cJ cZ oA rA (mrg (fun j => j == 9) σ_5 u_14.2), b_p cB cC cI cJ cZ oA rA (mrg (fun j => j == 9) σ_5 u_14.2), b_o cB cC cI cJ cZ oA rA (mrg (fun j => j == 9) σ_5 u_14.2), b_s cB cC cI cJ cZ oA rA (mrg (fun j => j == 9) σ_5 u_14.2), b_c cB cC cI cJ cZ oA rA (mrg (fun j => j == 9) σ_5 u_14.2), b_t cB cC cI cJ cZ oA rA (mrg (fun j => j == 9) σ_5 u_14.2), b_d cB cC cI cJ cZ oA rA (mrg (fun j => j == 9) σ_5 u_14.2)]) hP' (fl_a fl_6 fl_1) fl_7 [0, 6, 1, 2, 3, 4, 5] rfl
      clear hP' hD'
      obtain ⟨j_20, ej_20, hF_21⟩ := bnd_e hF_17
      clear hF_17
      have Jj_20 : ∀ (t_18 : Int32) (σ_19 : HS), j_20 t_18 σ_19 = some res → ∀ (H : Heap) (locs : List Loc), va_P (dC, dI) vwCl (b_k cB cC cI cJ cZ oA rA σ_19 ++ b_p cB cC cI cJ cZ oA rA σ_19 ++ b_o cB cC cI cJ cZ oA rA σ_19 ++ b_s cB cC cI cJ cZ oA rA σ_19 ++ b_c cB cC cI cJ cZ oA rA σ_19 ++ b_t cB cC cI cJ cZ oA rA σ_19 ++ b_d cB cC cI cJ cZ oA rA σ_19) H → va_S A s.heap H locs → ∀ ls : Array Slot, lv_has ls 4 [] → W p l e (headSpec (g_ws yX3_traitOp cX3_traitOp 4 none) { frames := 4, cells := 0, slots := 0, locals := 106 }).room s m ([.ref (oA 10), .int p0, .int p1] : List Value).toArray below meth c H locs 0 0 (MQ below (va_Qv (fun (_ : Unit) => True) (g_Bo (dC, dI) A (fun (_ : Unit) => (b_k cB cC cI cJ cZ oA rA res.2 ++ b_p cB cC cI cJ cZ oA rA res.2 ++ b_o cB cC cI cJ cZ oA rA res.2 ++ b_s cB cC cI cJ cZ oA rA res.2 ++ b_c cB cC cI cJ cZ oA rA res.2 ++ b_t cB cC cI cJ cZ oA rA res.2 ++ b_d cB cC cI cJ cZ oA rA res.2))) A) ([.ref (oA 10), .int p0, .int p1] : List Value).toArray s 0 0 A) (F0 m 48 ls [.int t_18, .ref (oA 10)]) := by
        intro t_18 σ_19 hF0 H locs hP hS ls hl
        subst ej_20
        have hF_22 := hF0
        clear hF0
        obtain ⟨u_23, hu_23, hF_24⟩ := Option.bind_eq_some_iff.mp hF_22
        clear hF_22
        have hPc := bx_P (bs := [b_k cB cC cI cJ cZ oA rA σ_19, b_p cB cC cI cJ cZ oA rA σ_19, b_o cB cC cI cJ cZ oA rA σ_19, b_s cB cC cI cJ cZ oA rA σ_19, b_c cB cC cI cJ cZ oA rA σ_19, b_t cB cC cI cJ cZ oA rA σ_19, b_d cB cC cI cJ cZ oA rA σ_19]) (bs' := [b_k cB cC cI cJ cZ oA rA σ_19, b_p cB cC cI cJ cZ oA rA σ_19, b_o cB cC cI cJ cZ oA rA σ_19, b_s cB cC cI cJ cZ oA rA σ_19, b_c cB cC cI cJ cZ oA rA σ_19, b_t cB cC cI cJ cZ oA rA σ_19, b_d cB cC cI cJ cZ oA rA σ_19]) (ws' := (b_k cB cC cI cJ cZ oA rA σ_19 ++ b_p cB cC cI cJ cZ oA rA σ_19 ++ b_o cB cC cI cJ cZ oA rA σ_19 ++ b_s cB cC cI cJ cZ oA rA σ_19 ++ b_c cB cC cI cJ cZ oA rA σ_19 ++ b_t cB cC cI cJ cZ oA rA σ_19 ++ b_d cB cC cI cJ cZ oA rA σ_19)) hP fl_7 fl_7 [0, 1, 2, 3, 4, 5, 6] rfl
        have hDc := bx_D (bs := [b_k cB cC cI cJ cZ oA rA σ_19, b_p cB cC cI cJ cZ oA rA σ_19, b_o cB cC cI cJ cZ oA rA σ_19, b_s cB cC cI cJ cZ oA rA σ_19, b_c cB cC cI cJ cZ oA rA σ_19, b_t cB cC cI cJ cZ oA rA σ_19, b_d cB cC cI cJ cZ oA rA σ_19]) (bs' := [b_k cB cC cI cJ cZ oA rA σ_19, b_p cB cC cI cJ cZ oA rA σ_19, b_o cB cC cI cJ cZ oA rA σ_19, b_s cB cC cI cJ cZ oA rA σ_19, b_c cB cC cI cJ cZ oA rA σ_19, b_t cB cC cI cJ cZ oA rA σ_19, b_d cB cC cI cJ cZ oA rA σ_19]) (ws' := (b_k cB cC cI cJ cZ oA rA σ_19 ++ b_p cB cC cI cJ cZ oA rA σ_19 ++ b_o cB cC cI cJ cZ oA rA σ_19 ++ b_s cB cC cI cJ cZ oA rA σ_19 ++ b_c cB cC cI cJ cZ oA rA σ_19 ++ b_t cB cC cI cJ cZ oA rA σ_19 ++ b_d cB cC cI cJ cZ oA rA σ_19)) (hDD σ_19) fl_7 fl_7 [0, 1, 2, 3, 4, 5, 6] (by decide +kernel) rfl
        have hFc := bx_F (bs := [b_k cB cC cI cJ cZ oA rA σ_19, b_p cB cC cI cJ cZ oA rA σ_19, b_o cB cC cI cJ cZ oA rA σ_19, b_s cB cC cI cJ cZ oA rA σ_19, b_c cB cC cI cJ cZ oA rA σ_19, b_t cB cC cI cJ cZ oA rA σ_19, b_d cB cC cI cJ cZ oA rA σ_19]) (bs' := [b_k cB cC cI cJ cZ oA rA σ_19, b_p cB cC cI cJ cZ oA rA σ_19, b_o cB cC cI cJ cZ oA rA σ_19, b_s cB cC cI cJ cZ oA rA σ_19, b_c cB cC cI cJ cZ oA rA σ_19, b_t cB cC cI cJ cZ oA rA σ_19, b_d cB cC cI cJ cZ oA rA σ_19]) (wc := (b_k cB cC cI cJ cZ oA rA σ_19 ++ b_p cB cC cI cJ cZ oA rA σ_19 ++ b_o cB cC cI cJ cZ oA rA σ_19 ++ b_s cB cC cI cJ cZ oA rA σ_19 ++ b_c cB cC cI cJ cZ oA rA σ_19 ++ b_t cB cC cI cJ cZ oA rA σ_19 ++ b_d cB cC cI cJ cZ oA rA σ_19)) (hDD σ_19) hS hA fl_7 fl_7 [0, 1, 2, 3, 4, 5, 6] rfl
        refine g_ofv (wc := (b_k cB cC cI cJ cZ oA rA σ_19 ++ b_p cB cC cI cJ cZ oA rA σ_19 ++ b_o cB cC cI cJ cZ oA rA σ_19 ++ b_s cB cC cI cJ cZ oA rA σ_19 ++ b_c cB cC cI cJ cZ oA rA σ_19 ++ b_t cB cC cI cJ cZ oA rA σ_19 ++ b_d cB cC cI cJ cZ oA rA σ_19)) (wr := ([] : va_W)) hP (hDD σ_19) hS hFc (bx_ix [b_k cB cC cI cJ cZ oA rA σ_19, b_p cB cC cI cJ cZ oA rA σ_19, b_o cB cC cI cJ cZ oA rA σ_19, b_s cB cC cI cJ cZ oA rA σ_19, b_c cB cC cI cJ cZ oA rA σ_19, b_t cB cC cI cJ cZ oA rA σ_19, b_d cB cC cI cJ cZ oA rA σ_19] [0, 1, 2, 3, 4, 5, 6]) (bx_ix [b_k cB cC cI cJ cZ oA rA σ_19, b_p cB cC cI cJ cZ oA rA σ_19, b_o cB cC cI cJ cZ oA rA σ_19, b_s cB cC cI cJ cZ oA rA σ_19, b_c cB cC cI cJ cZ oA rA σ_19, b_t cB cC cI cJ cZ oA rA σ_19, b_d cB cC cI cJ cZ oA rA σ_19] []) (bx_C (bs := [b_k cB cC cI cJ cZ oA rA σ_19, b_p cB cC cI cJ cZ oA rA σ_19, b_o cB cC cI cJ cZ oA rA σ_19, b_s cB cC cI cJ cZ oA rA σ_19, b_c cB cC cI cJ cZ oA rA σ_19, b_t cB cC cI cJ cZ oA rA σ_19, b_d cB cC cI cJ cZ oA rA σ_19]) (bs' := [b_k cB cC cI cJ cZ oA rA σ_19, b_p cB cC cI cJ cZ oA rA σ_19, b_o cB cC cI cJ cZ oA rA σ_19, b_s cB cC cI cJ cZ oA rA σ_19, b_c cB cC cI cJ cZ oA rA σ_19, b_t cB cC cI cJ cZ oA rA σ_19, b_d cB cC cI cJ cZ oA rA σ_19]) (is := [0, 1, 2, 3, 4, 5, 6]) fl_7 fl_7 rfl) (bx_C (bs := [b_k cB cC cI cJ cZ oA rA σ_19, b_p cB cC cI cJ cZ oA rA σ_19, b_o cB cC cI cJ cZ oA rA σ_19, b_s cB cC cI cJ cZ oA rA σ_19, b_c cB cC cI cJ cZ oA rA σ_19, b_t cB cC cI cJ cZ oA rA σ_19, b_d cB cC cI cJ cZ oA rA σ_19]) (bs' := []) (is := []) fl_7 fl_0 rfl) (bx_n (by decide +kernel)) (bx_d (by decide +kernel)) (va_runV (As := [.int t_18]) (rest := []) ⟨hx, hb, hml, hown, hts⟩ (k_X3_push l dC dI cB cC cI cJ cZ cP oA rA H.size  t_18 σ_19 _ hu_23) (cwV 1 hts (g_gV wq_1141 wq_1142 wq_2085 wq_11 wq_1143) rfl rfl rfl (by decide +kernel) ⟨Nat.le_of_ble_eq_true rfl, Nat.le_of_ble_eq_true rfl⟩) (g_preV g_bl0 hK hPc hDc hS hE hFc g_to0 (q0 := 0) (ci := 3) rfl rfl) rfl rfl hl.1 rfl (lv_room (Nat.le_of_ble_eq_true rfl)) dX3_traitOp_48 ⟨Nat.le_of_ble_eq_true rfl, Nat.le_of_ble_eq_true rfl⟩) (fun u9 H locs hw9 hP' hD' hS => ?_)
        clear hPc hDc hFc
        have hP : va_P (dC, dI) vwCl (b_k cB cC cI cJ cZ oA rA u_23.2 ++ b_p cB cC cI cJ cZ oA rA u_23.2 ++ b_o cB cC cI cJ cZ oA rA u_23.2 ++ b_s cB cC cI cJ cZ oA rA u_23.2 ++ b_c cB cC cI cJ cZ oA rA u_23.2 ++ b_t cB cC cI cJ cZ oA rA u_23.2 ++ b_d cB cC cI cJ cZ oA rA u_23.2) H := hP'
        clear hP' hD'
        refine lv_goto (tgt := 74) hx hb dX3_traitOp_51 (by decide) ?_
        have h9 := Option.some.inj hF_24
        subst h9
        exact W.vret hx hb hr (fun t ht hW => ⟨⟨(), rfl, trivial, m_end ht hP, hDD _⟩, hS.F ht⟩) hS.2.2 dX3_traitOp_74
      refine lv_if_eq (tgt := 47) hx hb dX3_traitOp_40 (by decide) (fun c_25 => ?_) (fun c_25 => ?_)
      · have hF_26 := ipos c_25 hF_21
        clear hF_21
        refine lv_iconst (v := 0) hx hb dX3_traitOp_47 (by decide +kernel) ?_
        exact Jj_20 0 σ_16 hF_26 _ _ hP hS ls (lv_sub hl [] rfl)
      · have hF_27 := ineg c_25 hF_21
        clear hF_21
        refine lv_iconst (v := 1) hx hb dX3_traitOp_43 (by decide +kernel) ?_
        refine lv_goto (tgt := 48) hx hb dX3_traitOp_44 (by decide) ?_
        exact Jj_20 1 σ_16 hF_27 _ _ hP hS ls (lv_sub hl [] rfl)
  · have hF_8 := ipos c_7 hF_6
    clear hF_6
    refine lv_aload_n hx hb dX3_traitOp_16 rfl (lv_at hl 1 rfl) ?_
    refine lv_iconst (v := 2) hx hb dX3_traitOp_17 (by decide +kernel) ?_
    obtain ⟨u_9, hu_9, hF_10⟩ := Option.bind_eq_some_iff.mp hF_8
    clear hF_8
    have hPc := bx_P (bs := [b_k cB cC cI cJ cZ oA rA σ_5, b_p cB cC cI cJ cZ oA rA σ_5, b_o cB cC cI cJ cZ oA rA σ_5, b_s cB cC cI cJ cZ oA rA σ_5, b_c cB cC cI cJ cZ oA rA σ_5, b_t cB cC cI cJ cZ oA rA σ_5, b_d cB cC cI cJ cZ oA rA σ_5]) (bs' := [b_k cB cC cI cJ cZ oA rA σ_5, b_p cB cC cI cJ cZ oA rA σ_5, b_o cB cC cI cJ cZ oA rA σ_5, b_s cB cC cI cJ cZ oA rA σ_5, b_c cB cC cI cJ cZ oA rA σ_5, b_t cB cC cI cJ cZ oA rA σ_5, b_d cB cC cI cJ cZ oA rA σ_5]) (ws' := (b_k cB cC cI cJ cZ oA rA σ_5 ++ b_p cB cC cI cJ cZ oA rA σ_5 ++ b_o cB cC cI cJ cZ oA rA σ_5 ++ b_s cB cC cI cJ cZ oA rA σ_5 ++ b_c cB cC cI cJ cZ oA rA σ_5 ++ b_t cB cC cI cJ cZ oA rA σ_5 ++ b_d cB cC cI cJ cZ oA rA σ_5)) hP fl_7 fl_7 [0, 1, 2, 3, 4, 5, 6] rfl
    have hDc := bx_D (bs := [b_k cB cC cI cJ cZ oA rA σ_5, b_p cB cC cI cJ cZ oA rA σ_5, b_o cB cC cI cJ cZ oA rA σ_5, b_s cB cC cI cJ cZ oA rA σ_5, b_c cB cC cI cJ cZ oA rA σ_5, b_t cB cC cI cJ cZ oA rA σ_5, b_d cB cC cI cJ cZ oA rA σ_5]) (bs' := [b_k cB cC cI cJ cZ oA rA σ_5, b_p cB cC cI cJ cZ oA rA σ_5, b_o cB cC cI cJ cZ oA rA σ_5, b_s cB cC cI cJ cZ oA rA σ_5, b_c cB cC cI cJ cZ oA rA σ_5, b_t cB cC cI cJ cZ oA rA σ_5, b_d cB cC cI cJ cZ oA rA σ_5]) (ws' := (b_k cB cC cI cJ cZ oA rA σ_5 ++ b_p cB cC cI cJ cZ oA rA σ_5 ++ b_o cB cC cI cJ cZ oA rA σ_5 ++ b_s cB cC cI cJ cZ oA rA σ_5 ++ b_c cB cC cI cJ cZ oA rA σ_5 ++ b_t cB cC cI cJ cZ oA rA σ_5 ++ b_d cB cC cI cJ cZ oA rA σ_5)) (hDD σ_5) fl_7 fl_7 [0, 1, 2, 3, 4, 5, 6] (by decide +kernel) rfl
    have hFc := bx_F (bs := [b_k cB cC cI cJ cZ oA rA σ_5, b_p cB cC cI cJ cZ oA rA σ_5, b_o cB cC cI cJ cZ oA rA σ_5, b_s cB cC cI cJ cZ oA rA σ_5, b_c cB cC cI cJ cZ oA rA σ_5, b_t cB cC cI cJ cZ oA rA σ_5, b_d cB cC cI cJ cZ oA rA σ_5]) (bs' := [b_k cB cC cI cJ cZ oA rA σ_5, b_p cB cC cI cJ cZ oA rA σ_5, b_o cB cC cI cJ cZ oA rA σ_5, b_s cB cC cI cJ cZ oA rA σ_5, b_c cB cC cI cJ cZ oA rA σ_5, b_t cB cC cI cJ cZ oA rA σ_5, b_d cB cC cI cJ cZ oA rA σ_5]) (wc := (b_k cB cC cI cJ cZ oA rA σ_5 ++ b_p cB cC cI cJ cZ oA rA σ_5 ++ b_o cB cC cI cJ cZ oA rA σ_5 ++ b_s cB cC cI cJ cZ oA rA σ_5 ++ b_c cB cC cI cJ cZ oA rA σ_5 ++ b_t cB cC cI cJ cZ oA rA σ_5 ++ b_d cB cC cI cJ cZ oA rA σ_5)) (hDD σ_5) hS hA fl_7 fl_7 [0, 1, 2, 3, 4, 5, 6] rfl
    refine g_ofv (wc := (b_k cB cC cI cJ cZ oA rA σ_5 ++ b_p cB cC cI cJ cZ oA rA σ_5 ++ b_o cB cC cI cJ cZ oA rA σ_5 ++ b_s cB cC cI cJ cZ oA rA σ_5 ++ b_c cB cC cI cJ cZ oA rA σ_5 ++ b_t cB cC cI cJ cZ oA rA σ_5 ++ b_d cB cC cI cJ cZ oA rA σ_5)) (wr := ([] : va_W)) hP (hDD σ_5) hS hFc (bx_ix [b_k cB cC cI cJ cZ oA rA σ_5, b_p cB cC cI cJ cZ oA rA σ_5, b_o cB cC cI cJ cZ oA rA σ_5, b_s cB cC cI cJ cZ oA rA σ_5, b_c cB cC cI cJ cZ oA rA σ_5, b_t cB cC cI cJ cZ oA rA σ_5, b_d cB cC cI cJ cZ oA rA σ_5] [0, 1, 2, 3, 4, 5, 6]) (bx_ix [b_k cB cC cI cJ cZ oA rA σ_5, b_p cB cC cI cJ cZ oA rA σ_5, b_o cB cC cI cJ cZ oA rA σ_5, b_s cB cC cI cJ cZ oA rA σ_5, b_c cB cC cI cJ cZ oA rA σ_5, b_t cB cC cI cJ cZ oA rA σ_5, b_d cB cC cI cJ cZ oA rA σ_5] []) (bx_C (bs := [b_k cB cC cI cJ cZ oA rA σ_5, b_p cB cC cI cJ cZ oA rA σ_5, b_o cB cC cI cJ cZ oA rA σ_5, b_s cB cC cI cJ cZ oA rA σ_5, b_c cB cC cI cJ cZ oA rA σ_5, b_t cB cC cI cJ cZ oA rA σ_5, b_d cB cC cI cJ cZ oA rA σ_5]) (bs' := [b_k cB cC cI cJ cZ oA rA σ_5, b_p cB cC cI cJ cZ oA rA σ_5, b_o cB cC cI cJ cZ oA rA σ_5, b_s cB cC cI cJ cZ oA rA σ_5, b_c cB cC cI cJ cZ oA rA σ_5, b_t cB cC cI cJ cZ oA rA σ_5, b_d cB cC cI cJ cZ oA rA σ_5]) (is := [0, 1, 2, 3, 4, 5, 6]) fl_7 fl_7 rfl) (bx_C (bs := [b_k cB cC cI cJ cZ oA rA σ_5, b_p cB cC cI cJ cZ oA rA σ_5, b_o cB cC cI cJ cZ oA rA σ_5, b_s cB cC cI cJ cZ oA rA σ_5, b_c cB cC cI cJ cZ oA rA σ_5, b_t cB cC cI cJ cZ oA rA σ_5, b_d cB cC cI cJ cZ oA rA σ_5]) (bs' := []) (is := []) fl_7 fl_0 rfl) (bx_n (by decide +kernel)) (bx_d (by decide +kernel)) (va_runV (As := [.int 2]) (rest := []) ⟨hx, hb, hml, hown, hts⟩ (k_X3_stop l dC dI cB cC cI cJ cZ cP oA rA H.size  2 σ_5 _ hu_9) (cwV 1 hts (g_gV wq_1154 wq_1155 wq_2088 wq_11 wq_1156) rfl rfl rfl (by decide +kernel) ⟨Nat.le_of_ble_eq_true rfl, Nat.le_of_ble_eq_true rfl⟩) (g_preV g_bl0 hK hPc hDc hS hE hFc g_to0 (q0 := 0) (ci := 3) rfl rfl) rfl rfl hl.1 rfl (lv_room (Nat.le_of_ble_eq_true rfl)) dX3_traitOp_18 ⟨Nat.le_of_ble_eq_true rfl, Nat.le_of_ble_eq_true rfl⟩) (fun u9 H locs hw9 hP' hD' hS => ?_)
    clear hPc hDc hFc
    have hP : va_P (dC, dI) vwCl (b_k cB cC cI cJ cZ oA rA u_9.2 ++ b_p cB cC cI cJ cZ oA rA u_9.2 ++ b_o cB cC cI cJ cZ oA rA u_9.2 ++ b_s cB cC cI cJ cZ oA rA u_9.2 ++ b_c cB cC cI cJ cZ oA rA u_9.2 ++ b_t cB cC cI cJ cZ oA rA u_9.2 ++ b_d cB cC cI cJ cZ oA rA u_9.2) H := hP'
    clear hP' hD'
    refine lv_goto (tgt := 74) hx hb dX3_traitOp_21 (by decide) ?_
    have h9 := Option.some.inj hF_10
    subst h9
    exact W.vret hx hb hr (fun t ht hW => ⟨⟨(), rfl, trivial, m_end ht hP, hDD _⟩, hS.F ht⟩) hS.2.2 dX3_traitOp_74
