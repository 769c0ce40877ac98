/-! methods of the class: what each does is its function -/
theorem dX9_isFaithful_0 : decode cX9_isFaithful 0 = .ok (.iconst 0, 1) := by decide +kernel
theorem dX9_isFaithful_1 : decode cX9_isFaithful 1 = .ok (.istore_n 1, 1) := by decide +kernel
theorem dX9_isFaithful_2 : decode cX9_isFaithful 2 = .ok (.iload_n 1, 1) := by decide +kernel
theorem dX9_isFaithful_3 : decode cX9_isFaithful 3 = .ok (.aload_n 0, 1) := by decide +kernel
theorem dX9_isFaithful_4 : decode cX9_isFaithful 4 = .ok (.getfield 33, 3) := by decide +kernel
theorem dX9_isFaithful_7 : decode cX9_isFaithful 7 = .ok (.if_icmp .ge 87, 3) := by decide +kernel
theorem dX9_isFaithful_10 : decode cX9_isFaithful 10 = .ok (.aload_n 0, 1) := by decide +kernel
theorem dX9_isFaithful_11 : decode cX9_isFaithful 11 = .ok (.iload_n 1, 1) := by decide +kernel
theorem dX9_isFaithful_12 : decode cX9_isFaithful 12 = .ok (.aload_n 0, 1) := by decide +kernel
theorem dX9_isFaithful_13 : decode cX9_isFaithful 13 = .ok (.getfield 26, 3) := by decide +kernel
theorem dX9_isFaithful_16 : decode cX9_isFaithful 16 = .ok (.invokevirtual 103, 3) := by decide +kernel
theorem dX9_isFaithful_19 : decode cX9_isFaithful 19 = .ok (.istore_n 2, 1) := by decide +kernel
theorem dX9_isFaithful_20 : decode cX9_isFaithful 20 = .ok (.aload_n 0, 1) := by decide +kernel
theorem dX9_isFaithful_21 : decode cX9_isFaithful 21 = .ok (.getfield 19, 3) := by decide +kernel
theorem dX9_isFaithful_24 : decode cX9_isFaithful 24 = .ok (.iload_n 1, 1) := by decide +kernel
theorem dX9_isFaithful_25 : decode cX9_isFaithful 25 = .ok (.invokestatic 107, 3) := by decide +kernel
theorem dX9_isFaithful_28 : decode cX9_isFaithful 28 = .ok (.istore_n 3, 1) := by decide +kernel
theorem dX9_isFaithful_29 : decode cX9_isFaithful 29 = .ok (.iconst 0, 1) := by decide +kernel
theorem dX9_isFaithful_30 : decode cX9_isFaithful 30 = .ok (.istore 4, 2) := by decide +kernel
theorem dX9_isFaithful_32 : decode cX9_isFaithful 32 = .ok (.iload 4, 2) := by decide +kernel
theorem dX9_isFaithful_34 : decode cX9_isFaithful 34 = .ok (.iload_n 2, 1) := by decide +kernel
theorem dX9_isFaithful_35 : decode cX9_isFaithful 35 = .ok (.if_icmp .ge 39, 3) := by decide +kernel
theorem dX9_isFaithful_38 : decode cX9_isFaithful 38 = .ok (.iload 4, 2) := by decide +kernel
theorem dX9_isFaithful_40 : decode cX9_isFaithful 40 = .ok (.aload_n 0, 1) := by decide +kernel
theorem dX9_isFaithful_41 : decode cX9_isFaithful 41 = .ok (.getfield 26, 3) := by decide +kernel
theorem dX9_isFaithful_44 : decode cX9_isFaithful 44 = .ok (.arraylength, 1) := by decide +kernel
theorem dX9_isFaithful_45 : decode cX9_isFaithful 45 = .ok (.if_icmp .ge 29, 3) := by decide +kernel
theorem dX9_isFaithful_48 : decode cX9_isFaithful 48 = .ok (.aload_n 0, 1) := by decide +kernel
theorem dX9_isFaithful_49 : decode cX9_isFaithful 49 = .ok (.getfield 26, 3) := by decide +kernel
theorem dX9_isFaithful_52 : decode cX9_isFaithful 52 = .ok (.iload 4, 2) := by decide +kernel
theorem dX9_isFaithful_54 : decode cX9_isFaithful 54 = .ok (.baload, 1) := by decide +kernel
theorem dX9_isFaithful_55 : decode cX9_isFaithful 55 = .ok (.aload_n 0, 1) := by decide +kernel
theorem dX9_isFaithful_56 : decode cX9_isFaithful 56 = .ok (.iload_n 3, 1) := by decide +kernel
theorem dX9_isFaithful_57 : decode cX9_isFaithful 57 = .ok (.iload 4, 2) := by decide +kernel
theorem dX9_isFaithful_59 : decode cX9_isFaithful 59 = .ok (.iadd, 1) := by decide +kernel
theorem dX9_isFaithful_60 : decode cX9_isFaithful 60 = .ok (.invokevirtual 78, 3) := by decide +kernel
theorem dX9_isFaithful_63 : decode cX9_isFaithful 63 = .ok (.if_icmp .eq 5, 3) := by decide +kernel
theorem dX9_isFaithful_66 : decode cX9_isFaithful 66 = .ok (.iconst 0, 1) := by decide +kernel
theorem dX9_isFaithful_67 : decode cX9_isFaithful 67 = .ok (.ireturn, 1) := by decide +kernel
theorem dX9_isFaithful_68 : decode cX9_isFaithful 68 = .ok (.iinc 4 1, 3) := by decide +kernel
theorem dX9_isFaithful_71 : decode cX9_isFaithful 71 = .ok (.goto (-39), 3) := by decide +kernel
theorem dX9_isFaithful_74 : decode cX9_isFaithful 74 = .ok (.aload_n 0, 1) := by decide +kernel
theorem dX9_isFaithful_75 : decode cX9_isFaithful 75 = .ok (.iload_n 3, 1) := by decide +kernel
theorem dX9_isFaithful_76 : decode cX9_isFaithful 76 = .ok (.iload_n 2, 1) := by decide +kernel
theorem dX9_isFaithful_77 : decode cX9_isFaithful 77 = .ok (.iadd, 1) := by decide +kernel
theorem dX9_isFaithful_78 : decode cX9_isFaithful 78 = .ok (.invokevirtual 78, 3) := by decide +kernel
theorem dX9_isFaithful_81 : decode cX9_isFaithful 81 = .ok (.bipush 34, 2) := by decide +kernel
theorem dX9_isFaithful_83 : decode cX9_isFaithful 83 = .ok (.if_icmp .eq 5, 3) := by decide +kernel
theorem dX9_isFaithful_86 : decode cX9_isFaithful 86 = .ok (.iconst 0, 1) := by decide +kernel
theorem dX9_isFaithful_87 : decode cX9_isFaithful 87 = .ok (.ireturn, 1) := by decide +kernel
theorem dX9_isFaithful_88 : decode cX9_isFaithful 88 = .ok (.iinc 1 1, 3) := by decide +kernel
theorem dX9_isFaithful_91 : decode cX9_isFaithful 91 = .ok (.goto (-89), 3) := by decide +kernel
theorem dX9_isFaithful_94 : decode cX9_isFaithful 94 = .ok (.iconst 1, 1) := by decide +kernel
theorem dX9_isFaithful_95 : decode cX9_isFaithful 95 = .ok (.ireturn, 1) := by decide +kernel
def F_X9_isFaithful  (Γ : HS) : HR :=
  loopF (fun (again_2 : (Int32 × HS) → HR) (s_1 : Int32 × HS) => (
    if ((s_1.2 6).1 6) ≤ s_1.1 then (
      some (1, s_1.2)
    ) else (
      (F_X9_unpack_t s_1.1 s_1.2).bind fun u_8 =>
      bnd ((g_at 8000 ((u_8.2 6).2.1 5) s_1.1)) fun (x_10 : Int32) =>
      loopF (fun (again_13 : (Int32 × HS) → HR) (s_12 : Int32 × HS) => (
        bnd (fun  (σ_16 : HS) => (
          (F_X9_signOf (x_10 + u_8.1) σ_16).bind fun u_20 =>
          if u_20.1 = 34 then (
            bnd (s_1.1 + 1) fun (x_24 : Int32) =>
            again_2 (x_24, u_20.2)
          ) else (
            some (0, u_20.2)
          )
        ) : HS → HR) fun j_17 =>
        if u_8.1 ≤ s_12.1 then (
          j_17  s_12.2
        ) else (
          if 200 ≤ s_12.1 then (
            j_17  s_12.2
          ) else (
            if s_12.1 < 0 ∨ 200 ≤ s_12.1.toNatClampNeg then none else
            (F_X9_signOf (x_10 + s_12.1) s_12.2).bind fun u_35 =>
            if ((s_12.2 6).2.1 8 s_12.1.toNatClampNeg) = u_35.1 then (
              bnd (s_12.1 + 1) fun (x_39 : Int32) =>
              again_13 (x_39, u_35.2)
            ) else (
              some (0, u_35.2)
            )
          )
        )
      )) FU (0, u_8.2)
    )
  )) FU (0, Γ)
set_option maxHeartbeats 4000000 in
set_option maxRecDepth 100000 in
theorem k_X9_isFaithful (l : Launch) (dC : Nat → ClassId) (dI : Nat → Nat → Nat) (cB cC cI cJ cZ cP : ClassId) (oA : Nat → Nat) (rA : Nat → Nat → Nat) (sz : Nat)   (Γ : HS) (res : Int32 × HS) (hF : F_X9_isFaithful  Γ = some res) : Met l yX9_isFaithful (g_ws yX9_isFaithful cX9_isFaithful 5 (some .boolean)) ({ frames := 6, cells := 0, slots := 0, locals := 154 }) (va_Pc [.ref (oA 6)] (g_B (dC, dI) [(cB, .byte), (cC, .char), (cI, .int), (cJ, .long), (cZ, .boolean), (cP, .object "StoryHouse$Play")] sz (b_t cB cC cI cJ cZ oA rA Γ) g_0)) (va_Qi (fun r (_ : Unit) => r = res.1) (g_Bo (dC, dI) (va_A (b_t cB cC cI cJ cZ oA rA Γ) sz) (fun (_ : Unit) => (b_t cB cC cI cJ cZ oA rA res.2))) (va_A (b_t cB cC cI cJ cZ oA rA Γ) sz)) 0 0 (va_A (b_t cB cC cI cJ cZ oA rA Γ) sz) := by
  refine Met.ofW (cc := cX9_isFaithful) (maxL := 5) (ret := (some .boolean)) (by decide) rfl ?_
  intro p e s m args below meth c s₁ B hml hv
  obtain ⟨rfl, hsz, hP, hK, hD0, hE, hX⟩ := hv
  have hx := B.exec
  have hb := B.bytes
  have hr := B.returns
  have hts0 := atoms_spec (ws := g_ws yX9_isFaithful cX9_isFaithful 5 (some .boolean)) B.pre
  have hts : ∀ w ∈ lw_good, w.before ([.ref (oA 6)] : List Value).toArray s = true := fun w z => hts0 w (List.mem_cons_of_mem _ z)
  have hown : s.vm.findClass RX9 = some m.cls := findClass_of_methodNamed B.named
  have hlocks := B.notSynchronized
  subst hsz
  have hD1 := hD0.self (sz := s.heap.size)
  generalize hAe : va_A (b_t cB cC cI cJ cZ oA rA Γ) s.heap.size = A at hD1 hE hX ⊢
  have hA : ∀ q : Nat, s.heap.size ≤ q → A q := fun q z => by rw [← hAe]; exact Or.inr z
  have hDD : ∀ Γ : HS, va_D A (b_t cB cC cI cJ cZ oA rA Γ) := fun Γ9 => va_D_fst (ws := (b_t cB cC cI cJ cZ oA rA Γ)) (ws' := (b_t cB cC cI cJ cZ oA rA Γ9)) rfl hD1
  have hN := hE.1
  have hS : va_S A s.heap s.heap [] := va_S.rf
  have hl := lv_entry ([.ref (oA 6)]) (n := 5) (Nat.le_of_ble_eq_true rfl)
  rw [lg_entry_eq]
  generalize (lg_sl ([.ref (oA 6)]) ++ List.replicate (5 - (lg_sl ([.ref (oA 6)])).length) Slot.unset).toArray = ls at hl ⊢
  have hl : lv_has ls 5 [(0, .ref (oA 6))] := hl
  unfold F_X9_isFaithful at hF
  refine lv_iconst (v := 0) hx hb dX9_isFaithful_0 (by decide +kernel) ?_
  refine lv_istore_n (lv' := [(1, .int 0), (0, .ref (oA 6))]) hx hb dX9_isFaithful_1 rfl hl (by decide) rfl (fun ls hl => ?_)
  refine loopF_ind (P := fun (s_1 : Int32 × HS) => ∀ (H : Heap) (locs : List Loc), va_P (dC, dI) vwCl (b_t cB cC cI cJ cZ oA rA s_1.2) H → va_S A s.heap H locs → ∀ ls : Array Slot, lv_has ls 5 [(0, .ref (oA 6)), (1, .int s_1.1)] → W p l e (headSpec (g_ws yX9_isFaithful cX9_isFaithful 5 (some .boolean)) { frames := 6, cells := 0, slots := 0, locals := 154 }).room s m ([.ref (oA 6)] : List Value).toArray below meth c H locs 0 0 (MQ below (va_Qi (fun r (_ : Unit) => r = res.1) (g_Bo (dC, dI) A (fun (_ : Unit) => (b_t cB cC cI cJ cZ oA rA res.2))) A) ([.ref (oA 6)] : List Value).toArray s 0 0 A) (F0 m 2 ls [])) ?_ _ _ hF _ _ hP hS ls (lv_sub hl [1, 0] rfl)
  intro again_2 s_1 ih_3 hF_4
  intro H locs hP hS ls hl
  refine lv_iload_n hx hb dX9_isFaithful_2 rfl (lv_at hl 1 rfl) ?_
  refine lv_aload_n hx hb dX9_isFaithful_3 rfl (lv_at hl 0 rfl) ?_
  refine va_get (D := (dC, dI)) (ci := 9) (v := .int ((s_1.2 6).1 6)) (C := RX9) (T := TX9) (N := 9) hx hb hts ii_X9 hown hK hP 0 rfl rfl 6 (by decide) (hts (.fieldLink RX9 33 "StoryHouse$Texts" "count" "I") wq_140) (fun _ h9 => h9) rfl dX9_isFaithful_4 ?_
  refine lv_icmp_ge (tgt := 94) hx hb dX9_isFaithful_7 (by decide) (fun c_5 => ?_) (fun c_5 => ?_)
  · have hF_6 := ipos c_5 hF_4
    clear hF_4
    refine lv_iconst (v := 1) hx hb dX9_isFaithful_94 (by decide +kernel) ?_
    have h9 := Option.some.inj hF_6
    subst h9
    exact W.zret (v := 1) hx hb hr (by decide +kernel) (fun t ht hW => ⟨⟨1, (), rfl, rfl, m_end ht hP, hDD _⟩, hS.F ht⟩) hS.2.2 dX9_isFaithful_95
  · have hF_7 := ineg c_5 hF_4
    clear hF_4
    refine lv_aload_n hx hb dX9_isFaithful_10 rfl (lv_at hl 0 rfl) ?_
    refine lv_iload_n hx hb dX9_isFaithful_11 rfl (lv_at hl 1 rfl) ?_
    refine lv_aload_n hx hb dX9_isFaithful_12 rfl (lv_at hl 0 rfl) ?_
    refine va_get (D := (dC, dI)) (ci := 9) (v := .ref (rA 6 8)) (C := RX9) (T := TX9) (N := 9) hx hb hts ii_X9 hown hK hP 0 rfl rfl 8 (by decide) (hts (.fieldLink RX9 26 "StoryHouse$Texts" "row" "[B") wq_142) (fun _ h9 => h9) rfl dX9_isFaithful_13 ?_
    obtain ⟨u_8, hu_8, hF_9⟩ := Option.bind_eq_some_iff.mp hF_7
    clear hF_7
    have hPc := bx_P (bs := [b_t cB cC cI cJ cZ oA rA s_1.2]) (bs' := [b_t cB cC cI cJ cZ oA rA s_1.2]) (ws' := (b_t cB cC cI cJ cZ oA rA s_1.2)) hP fl_1 fl_1 [0] rfl
    have hDc := bx_D (bs := [b_t cB cC cI cJ cZ oA rA s_1.2]) (bs' := [b_t cB cC cI cJ cZ oA rA s_1.2]) (ws' := (b_t cB cC cI cJ cZ oA rA s_1.2)) (hDD s_1.2) fl_1 fl_1 [0] (by decide +kernel) rfl
    have hFc := bx_F (bs := [b_t cB cC cI cJ cZ oA rA s_1.2]) (bs' := [b_t cB cC cI cJ cZ oA rA s_1.2]) (wc := (b_t cB cC cI cJ cZ oA rA s_1.2)) (hDD s_1.2) hS hA fl_1 fl_1 [0] rfl
    refine g_ofi (wc := (b_t cB cC cI cJ cZ oA rA s_1.2)) (wr := ([] : va_W)) hP (hDD s_1.2) hS hFc (bx_ix [b_t cB cC cI cJ cZ oA rA s_1.2] [0]) (bx_ix [b_t cB cC cI cJ cZ oA rA s_1.2] []) (bx_C (bs := [b_t cB cC cI cJ cZ oA rA s_1.2]) (bs' := [b_t cB cC cI cJ cZ oA rA s_1.2]) (is := [0]) fl_1 fl_1 rfl) (bx_C (bs := [b_t cB cC cI cJ cZ oA rA s_1.2]) (bs' := []) (is := []) fl_1 fl_0 rfl) (bx_n (by decide +kernel)) (bx_d (by decide +kernel)) (va_runV (As := [.int s_1.1, .ref (rA 6 8)]) (rest := []) ⟨hx, hb, hml, hown, hts⟩ (k_X9_unpack_t l dC dI cB cC cI cJ cZ cP oA rA H.size  s_1.1 s_1.2 _ hu_8) (cwV 2 hts (g_gV wq_899 wq_900 wq_901 wq_7 wq_902) rfl rfl rfl (by decide +kernel) ⟨Nat.le_of_ble_eq_true rfl, Nat.le_of_ble_eq_true rfl⟩) (g_preV g_bl0 hK hPc hDc hS hE hFc g_to0 (q0 := 0) (ci := 9) rfl rfl) rfl rfl hl.1 rfl (lv_room (Nat.le_of_ble_eq_true rfl)) dX9_isFaithful_16 ⟨Nat.le_of_ble_eq_true rfl, Nat.le_of_ble_eq_true rfl⟩) (fun r9 u9 H locs hw9 hP' hD' hS => ?_)
    clear hPc hDc hFc
    subst hw9
    have hP : va_P (dC, dI) vwCl (b_t cB cC cI cJ cZ oA rA u_8.2) H := hP'
    clear hP' hD'
    refine lv_istore_n (lv' := [(2, .int u_8.1), (0, .ref (oA 6)), (1, .int s_1.1)]) hx hb dX9_isFaithful_19 rfl hl (by decide) rfl (fun ls hl => ?_)
    refine lv_aload_n hx hb dX9_isFaithful_20 rfl (lv_at hl 1 rfl) ?_
    refine va_get (D := (dC, dI)) (ci := 9) (v := .ref (rA 6 5)) (C := RX9) (T := TX9) (N := 9) hx hb hts ii_X9 hown hK hP 0 rfl rfl 5 (by decide) (hts (.fieldLink RX9 19 "StoryHouse$Texts" "toldPlaces" "[I") wq_139) (fun _ h9 => h9) rfl dX9_isFaithful_21 ?_
    refine lv_iload_n hx hb dX9_isFaithful_24 rfl (lv_at hl 2 rfl) ?_
    have hq9 : ((b_t cB cC cI cJ cZ oA rA u_8.2))[3]? = some (rA 6 5, .inl (cI, 8000, .inl ((u_8.2 6).2.1 5))) := rfl
    have hPc := hP.sub (ws' := [(rA 6 5, .inl (cI, 8000, .inl ((u_8.2 6).2.1 5)))]) [3] (pk_fm (er_C hq9))
    have hDc := (hDD u_8.2).sub (ws' := [(rA 6 5, .inl (cI, 8000, .inl ((u_8.2 6).2.1 5)))]) [3] (by decide +kernel) (er_C hq9)
    have hFc := va_free (wc := [(rA 6 5, .inl (cI, 8000, .inl ((u_8.2 6).2.1 5)))]) (hDD u_8.2) hS hA [3] (er_C hq9)
    refine g_ofi (wc := [(rA 6 5, .inl (cI, 8000, .inl ((u_8.2 6).2.1 5)))]) (wr := (((b_t cB cC cI cJ cZ oA rA u_8.2)).eraseIdx 3)) hP (hDD u_8.2) hS hFc [3] ((List.range ((b_t cB cC cI cJ cZ oA rA u_8.2)).length).eraseIdx 3) (er_C hq9) er_R er_n er_d (va_runSN (As := [.ref (rA 6 5), .int s_1.1]) (rest := []) ⟨hx, hb, hml, hown, hts⟩ (c_X11_at l dC dI cB cC cI cJ cZ cP H.size (rA 6 5) s_1.1 8000 ((u_8.2 6).2.1 5) (by decide)) ⟨va_cnB 2 hts (g_gA wq_407) rfl rfl rfl (nw_27 hN) (hts (.initialized RX11) wq_1) (by decide +kernel) ⟨Nat.le_of_ble_eq_true rfl, Nat.le_of_ble_eq_true rfl⟩, (hts (.static yX11_at) wq_406), trivial⟩ (g_preS g_bl0 hK hPc hDc hS hE hFc g_to0) rfl rfl hl.1 rfl (lv_room (Nat.le_of_ble_eq_true rfl)) dX9_isFaithful_25 ⟨Nat.le_of_ble_eq_true rfl, Nat.le_of_ble_eq_true rfl⟩) (fun r9 u9 H locs hw9 hP' hD' hS => ?_)
    clear hPc hDc hFc hD'
    have hP : va_P (dC, dI) vwCl (b_t cB cC cI cJ cZ oA rA u_8.2) H := er_I hP' hq9
    clear hP' hq9
    subst hw9
    obtain ⟨x_10, ex_10, hF_11⟩ := bnd_e hF_9
    clear hF_9
    refine m_top ex_10 ?_
    refine lv_istore_n (lv' := [(3, .int x_10), (2, .int u_8.1), (0, .ref (oA 6)), (1, .int s_1.1)]) hx hb dX9_isFaithful_28 rfl hl (by decide) rfl (fun ls hl => ?_)
    refine lv_iconst (v := 0) hx hb dX9_isFaithful_29 (by decide +kernel) ?_
    refine lv_istore (lv' := [(4, .int 0), (3, .int x_10), (2, .int u_8.1), (0, .ref (oA 6)), (1, .int s_1.1)]) hx hb dX9_isFaithful_30 hl (by decide) rfl (fun ls hl => ?_)
    refine loopF_ind (P := fun (s_12 : Int32 × HS) => ∀ (H : Heap) (locs : List Loc), va_P (dC, dI) vwCl (b_t cB cC cI cJ cZ oA rA s_12.2) H → va_S A s.heap H locs → ∀ ls : Array Slot, lv_has ls 5 [(0, .ref (oA 6)), (1, .int s_1.1), (2, .int u_8.1), (3, .int x_10), (4, .int s_12.1)] → W p l e (headSpec (g_ws yX9_isFaithful cX9_isFaithful 5 (some .boolean)) { frames := 6, cells := 0, slots := 0, locals := 154 }).room s m ([.ref (oA 6)] : List Value).toArray below meth c H locs 0 0 (MQ below (va_Qi (fun r (_ : Unit) => r = res.1) (g_Bo (dC, dI) A (fun (_ : Unit) => (b_t cB cC cI cJ cZ oA rA res.2))) A) ([.ref (oA 6)] : List Value).toArray s 0 0 A) (F0 m 32 ls [])) ?_ _ _ hF_11 _ _ hP hS ls (lv_sub hl [3, 4, 2, 1, 0] rfl)
    intro again_13 s_12 ih_14 hF_15
    intro H locs hP hS ls hl
    refine lv_iload hx hb dX9_isFaithful_32 (lv_at hl 4 rfl) ?_
    refine lv_iload_n hx hb dX9_isFaithful_34 rfl (lv_at hl 2 rfl) ?_
    obtain ⟨j_17, ej_17, hF_18⟩ := bnd_e hF_15
    clear hF_15
    have Jj_17 : ∀  (σ_16 : HS), j_17  σ_16 = some res → ∀ (H : Heap) (locs : List Loc), va_P (dC, dI) vwCl (b_t cB cC cI cJ cZ oA rA σ_16) H → va_S A s.heap H locs → ∀ ls : Array Slot, lv_has ls 5 [(0, .ref (oA 6)), (1, .int s_1.1), (2, .int u_8.1), (3, .int x_10)] → W p l e (headSpec (g_ws yX9_isFaithful cX9_isFaithful 5 (some .boolean)) { frames := 6, cells := 0, slots := 0, locals := 154 }).room s m ([.ref (oA 6)] : List Value).toArray below meth c H locs 0 0 (MQ below (va_Qi (fun r (_ : Unit) => r = res.1) (g_Bo (dC, dI) A (fun (_ : Unit) => (b_t cB cC cI cJ cZ oA rA res.2))) A) ([.ref (oA 6)] : List Value).toArray s 0 0 A) (F0 m 74 ls []) := by
      intro  σ_16 hF0 H locs hP hS ls hl
      subst ej_17
      have hF_19 := hF0
      clear hF0
      refine lv_aload_n hx hb dX9_isFaithful_74 rfl (lv_at hl 0 rfl) ?_
      refine lv_iload_n hx hb dX9_isFaithful_75 rfl (lv_at hl 3 rfl) ?_
      refine lv_iload_n hx hb dX9_isFaithful_76 rfl (lv_at hl 2 rfl) ?_
      refine lv_iadd hx hb dX9_isFaithful_77 ?_
      obtain ⟨u_20, hu_20, hF_21⟩ := Option.bind_eq_some_iff.mp hF_19
      clear hF_19
      have hPc := bx_P (bs := [b_t cB cC cI cJ cZ oA rA σ_16]) (bs' := [b_t cB cC cI cJ cZ oA rA σ_16]) (ws' := (b_t cB cC cI cJ cZ oA rA σ_16)) hP fl_1 fl_1 [0] rfl
      have hDc := bx_D (bs := [b_t cB cC cI cJ cZ oA rA σ_16]) (bs' := [b_t cB cC cI cJ cZ oA rA σ_16]) (ws' := (b_t cB cC cI cJ cZ oA rA σ_16)) (hDD σ_16) fl_1 fl_1 [0] (by decide +kernel) rfl
      have hFc := bx_F (bs := [b_t cB cC cI cJ cZ oA rA σ_16]) (bs' := [b_t cB cC cI cJ cZ oA rA σ_16]) (wc := (b_t cB cC cI cJ cZ oA rA σ_16)) (hDD σ_16) hS hA fl_1 fl_1 [0] rfl
      refine g_ofi (wc := (b_t cB cC cI cJ cZ oA rA σ_16)) (wr := ([] : va_W)) hP (hDD σ_16) hS hFc (bx_ix [b_t cB cC cI cJ cZ oA rA σ_16] [0]) (bx_ix [b_t cB cC cI cJ cZ oA rA σ_16] []) (bx_C (bs := [b_t cB cC cI cJ cZ oA rA σ_16]) (bs' := [b_t cB cC cI cJ cZ oA rA σ_16]) (is := [0]) fl_1 fl_1 rfl) (bx_C (bs := [b_t cB cC cI cJ cZ oA rA σ_16]) (bs' := []) (is := []) fl_1 fl_0 rfl) (bx_n (by decide +kernel)) (bx_d (by decide +kernel)) (va_runV (As := [.int (x_10 + u_8.1)]) (rest := []) ⟨hx, hb, hml, hown, hts⟩ (k_X9_signOf l dC dI cB cC cI cJ cZ cP oA rA H.size  (x_10 + u_8.1) σ_16 _ hu_20) (cwV 1 hts (g_gV wq_855 wq_856 wq_2062 wq_7 wq_857) rfl rfl rfl (by decide +kernel) ⟨Nat.le_of_ble_eq_true rfl, Nat.le_of_ble_eq_true rfl⟩) (g_preV g_bl0 hK hPc hDc hS hE hFc g_to0 (q0 := 0) (ci := 9) rfl rfl) rfl rfl hl.1 rfl (lv_room (Nat.le_of_ble_eq_true rfl)) dX9_isFaithful_78 ⟨Nat.le_of_ble_eq_true rfl, Nat.le_of_ble_eq_true rfl⟩) (fun r9 u9 H locs hw9 hP' hD' hS => ?_)
      clear hPc hDc hFc
      subst hw9
      have hP : va_P (dC, dI) vwCl (b_t cB cC cI cJ cZ oA rA u_20.2) H := hP'
      clear hP' hD'
      refine lv_bipush (v := 34) hx hb dX9_isFaithful_81 (by decide +kernel) ?_
      refine lv_icmp_eq (tgt := 88) hx hb dX9_isFaithful_83 (by decide) (fun c_22 => ?_) (fun c_22 => ?_)
      · have hF_23 := ipos c_22 hF_21
        clear hF_21
        obtain ⟨x_24, ex_24, hF_25⟩ := bnd_e hF_23
        clear hF_23
        refine lv_iinc (v := x_24) (lv' := [(1, .int x_24), (0, .ref (oA 6)), (2, .int u_8.1), (3, .int x_10)]) hx hb dX9_isFaithful_88 hl (k := 1) rfl (by rw [ex_24]; rfl) (by decide) rfl (fun ls hl => ?_)
        refine lv_goto (tgt := 2) hx hb dX9_isFaithful_91 (by decide) ?_
        exact ih_3 (x_24, u_20.2) hF_25 _ _ hP hS ls (lv_sub hl [1, 0] rfl)
      · have hF_26 := ineg c_22 hF_21
        clear hF_21
        refine lv_iconst (v := 0) hx hb dX9_isFaithful_86 (by decide +kernel) ?_
        have h9 := Option.some.inj hF_26
        subst h9
        exact W.zret (v := 0) hx hb hr (by decide +kernel) (fun t ht hW => ⟨⟨0, (), rfl, rfl, m_end ht hP, hDD _⟩, hS.F ht⟩) hS.2.2 dX9_isFaithful_87
    refine lv_icmp_ge (tgt := 74) hx hb dX9_isFaithful_35 (by decide) (fun c_27 => ?_) (fun c_27 => ?_)
    · have hF_28 := ipos c_27 hF_18
      clear hF_18
      exact Jj_17  s_12.2 hF_28 _ _ hP hS ls (lv_sub hl [0, 1, 2, 3] rfl)
    · have hF_29 := ineg c_27 hF_18
      clear hF_18
      refine lv_iload hx hb dX9_isFaithful_38 (lv_at hl 4 rfl) ?_
      refine lv_aload_n hx hb dX9_isFaithful_40 rfl (lv_at hl 0 rfl) ?_
      refine va_get (D := (dC, dI)) (ci := 9) (v := .ref (rA 6 8)) (C := RX9) (T := TX9) (N := 9) hx hb hts ii_X9 hown hK hP 0 rfl rfl 8 (by decide) (hts (.fieldLink RX9 26 "StoryHouse$Texts" "row" "[B") wq_142) (fun _ h9 => h9) rfl dX9_isFaithful_41 ?_
      refine va_alen (v := 200) hx hb hK hP 5 0 rfl rfl (by first | rfl | decide +kernel) dX9_isFaithful_44 ?_
      refine lv_icmp_ge (tgt := 74) hx hb dX9_isFaithful_45 (by decide) (fun c_30 => ?_) (fun c_30 => ?_)
      · have hF_31 := ipos c_30 hF_29
        clear hF_29
        exact Jj_17  s_12.2 hF_31 _ _ hP hS ls (lv_sub hl [0, 1, 2, 3] rfl)
      · have hF_32 := ineg c_30 hF_29
        clear hF_29
        refine lv_aload_n hx hb dX9_isFaithful_48 rfl (lv_at hl 0 rfl) ?_
        refine va_get (D := (dC, dI)) (ci := 9) (v := .ref (rA 6 8)) (C := RX9) (T := TX9) (N := 9) hx hb hts ii_X9 hown hK hP 0 rfl rfl 8 (by decide) (hts (.fieldLink RX9 26 "StoryHouse$Texts" "row" "[B") wq_142) (fun _ h9 => h9) rfl dX9_isFaithful_49 ?_
        refine lv_iload hx hb dX9_isFaithful_52 (lv_at hl 4 rfl) ?_
        obtain ⟨g_33, hF_34⟩ := nif_e hF_32
        clear hF_32
        refine va_bald (f := (s_12.2 6).2.1 8) hx hb hK hP 5 0 rfl rfl g_33 dX9_isFaithful_54 ?_
        refine lv_aload_n hx hb dX9_isFaithful_55 rfl (lv_at hl 0 rfl) ?_
        refine lv_iload_n hx hb dX9_isFaithful_56 rfl (lv_at hl 3 rfl) ?_
        refine lv_iload hx hb dX9_isFaithful_57 (lv_at hl 4 rfl) ?_
        refine lv_iadd hx hb dX9_isFaithful_59 ?_
        obtain ⟨u_35, hu_35, hF_36⟩ := Option.bind_eq_some_iff.mp hF_34
        clear hF_34
        have hPc := bx_P (bs := [b_t cB cC cI cJ cZ oA rA s_12.2]) (bs' := [b_t cB cC cI cJ cZ oA rA s_12.2]) (ws' := (b_t cB cC cI cJ cZ oA rA s_12.2)) hP fl_1 fl_1 [0] rfl
        have hDc := bx_D (bs := [b_t cB cC cI cJ cZ oA rA s_12.2]) (bs' := [b_t cB cC cI cJ cZ oA rA s_12.2]) (ws' := (b_t cB cC cI cJ cZ oA rA s_12.2)) (hDD s_12.2) fl_1 fl_1 [0] (by decide +kernel) rfl
        have hFc := bx_F (bs := [b_t cB cC cI cJ cZ oA rA s_12.2]) (bs' := [b_t cB cC cI cJ cZ oA rA s_12.2]) (wc := (b_t cB cC cI cJ cZ oA rA s_12.2)) (hDD s_12.2) hS hA fl_1 fl_1 [0] rfl
        refine g_ofi (wc := (b_t cB cC cI cJ cZ oA rA s_12.2)) (wr := ([] : va_W)) hP (hDD s_12.2) hS hFc (bx_ix [b_t cB cC cI cJ cZ oA rA s_12.2] [0]) (bx_ix [b_t cB cC cI cJ cZ oA rA s_12.2] []) (bx_C (bs := [b_t cB cC cI cJ cZ oA rA s_12.2]) (bs' := [b_t cB cC cI cJ cZ oA rA s_12.2]) (is := [0]) fl_1 fl_1 rfl) (bx_C (bs := [b_t cB cC cI cJ cZ oA rA s_12.2]) (bs' := []) (is := []) fl_1 fl_0 rfl) (bx_n (by decide +kernel)) (bx_d (by decide +kernel)) (va_runV (As := [.int (x_10 + s_12.1)]) (rest := [.int ((s_12.2 6).2.1 8 s_12.1.toNatClampNeg)]) ⟨hx, hb, hml, hown, hts⟩ (k_X9_signOf l dC dI cB cC cI cJ cZ cP oA rA H.size  (x_10 + s_12.1) s_12.2 _ hu_35) (cwV 1 hts (g_gV wq_855 wq_856 wq_2062 wq_7 wq_857) rfl rfl rfl (by decide +kernel) ⟨Nat.le_of_ble_eq_true rfl, Nat.le_of_ble_eq_true rfl⟩) (g_preV g_bl0 hK hPc hDc hS hE hFc g_to0 (q0 := 0) (ci := 9) rfl rfl) rfl rfl hl.1 rfl (lv_room (Nat.le_of_ble_eq_true rfl)) dX9_isFaithful_60 ⟨Nat.le_of_ble_eq_true rfl, Nat.le_of_ble_eq_true rfl⟩) (fun r9 u9 H locs hw9 hP' hD' hS => ?_)
        clear hPc hDc hFc
        subst hw9
        have hP : va_P (dC, dI) vwCl (b_t cB cC cI cJ cZ oA rA u_35.2) H := hP'
        clear hP' hD'
        refine lv_icmp_eq (tgt := 68) hx hb dX9_isFaithful_63 (by decide) (fun c_37 => ?_) (fun c_37 => ?_)
        · have hF_38 := ipos c_37 hF_36
          clear hF_36
          obtain ⟨x_39, ex_39, hF_40⟩ := bnd_e hF_38
          clear hF_38
          refine lv_iinc (v := x_39) (lv' := [(4, .int x_39), (0, .ref (oA 6)), (1, .int s_1.1), (2, .int u_8.1), (3, .int x_10)]) hx hb dX9_isFaithful_68 hl (k := 4) rfl (by rw [ex_39]; rfl) (by decide) rfl (fun ls hl => ?_)
          refine lv_goto (tgt := 32) hx hb dX9_isFaithful_71 (by decide) ?_
          exact ih_14 (x_39, u_35.2) hF_40 _ _ hP hS ls (lv_sub hl [1, 2, 3, 4, 0] rfl)
        · have hF_41 := ineg c_37 hF_36
          clear hF_36
          refine lv_iconst (v := 0) hx hb dX9_isFaithful_66 (by decide +kernel) ?_
          have h9 := Option.some.inj hF_41
          subst h9
          exact W.zret (v := 0) hx hb hr (by decide +kernel) (fun t ht hW => ⟨⟨0, (), rfl, rfl, m_end ht hP, hDD _⟩, hS.F ht⟩) hS.2.2 dX9_isFaithful_67
theorem dX10_add_0 : decode cX10_add 0 = .ok (.aload_n 0, 1) := by decide +kernel
theorem dX10_add_1 : decode cX10_add 1 = .ok (.getfield 57, 3) := by decide +kernel
theorem dX10_add_4 : decode cX10_add 4 = .ok (.ifCond .lt 83, 3) := by decide +kernel
theorem dX10_add_7 : decode cX10_add 7 = .ok (.aload_n 0, 1) := by decide +kernel
theorem dX10_add_8 : decode cX10_add 8 = .ok (.getfield 57, 3) := by decide +kernel
theorem dX10_add_11 : decode cX10_add 11 = .ok (.aload_n 0, 1) := by decide +kernel
theorem dX10_add_12 : decode cX10_add 12 = .ok (.getfield 15, 3) := by decide +kernel
theorem dX10_add_15 : decode cX10_add 15 = .ok (.arraylength, 1) := by decide +kernel
theorem dX10_add_16 : decode cX10_add 16 = .ok (.if_icmp .ge 71, 3) := by decide +kernel
theorem dX10_add_19 : decode cX10_add 19 = .ok (.aload_n 0, 1) := by decide +kernel
theorem dX10_add_20 : decode cX10_add 20 = .ok (.getfield 15, 3) := by decide +kernel
theorem dX10_add_23 : decode cX10_add 23 = .ok (.aload_n 0, 1) := by decide +kernel
theorem dX10_add_24 : decode cX10_add 24 = .ok (.getfield 57, 3) := by decide +kernel
theorem dX10_add_27 : decode cX10_add 27 = .ok (.iload_n 1, 1) := by decide +kernel
theorem dX10_add_28 : decode cX10_add 28 = .ok (.iastore, 1) := by decide +kernel
theorem dX10_add_29 : decode cX10_add 29 = .ok (.aload_n 0, 1) := by decide +kernel
theorem dX10_add_30 : decode cX10_add 30 = .ok (.getfield 19, 3) := by decide +kernel
theorem dX10_add_33 : decode cX10_add 33 = .ok (.aload_n 0, 1) := by decide +kernel
theorem dX10_add_34 : decode cX10_add 34 = .ok (.getfield 57, 3) := by decide +kernel
theorem dX10_add_37 : decode cX10_add 37 = .ok (.iload_n 2, 1) := by decide +kernel
theorem dX10_add_38 : decode cX10_add 38 = .ok (.invokestatic 109, 3) := by decide +kernel
theorem dX10_add_41 : decode cX10_add 41 = .ok (.aload_n 0, 1) := by decide +kernel
theorem dX10_add_42 : decode cX10_add 42 = .ok (.getfield 22, 3) := by decide +kernel
theorem dX10_add_45 : decode cX10_add 45 = .ok (.aload_n 0, 1) := by decide +kernel
theorem dX10_add_46 : decode cX10_add 46 = .ok (.getfield 57, 3) := by decide +kernel
theorem dX10_add_49 : decode cX10_add 49 = .ok (.iload_n 3, 1) := by decide +kernel
theorem dX10_add_50 : decode cX10_add 50 = .ok (.invokestatic 109, 3) := by decide +kernel
theorem dX10_add_53 : decode cX10_add 53 = .ok (.aload_n 0, 1) := by decide +kernel
theorem dX10_add_54 : decode cX10_add 54 = .ok (.getfield 25, 3) := by decide +kernel
theorem dX10_add_57 : decode cX10_add 57 = .ok (.aload_n 0, 1) := by decide +kernel
theorem dX10_add_58 : decode cX10_add 58 = .ok (.getfield 57, 3) := by decide +kernel
theorem dX10_add_61 : decode cX10_add 61 = .ok (.iconst 0, 1) := by decide +kernel
theorem dX10_add_62 : decode cX10_add 62 = .ok (.invokestatic 109, 3) := by decide +kernel
theorem dX10_add_65 : decode cX10_add 65 = .ok (.aload_n 0, 1) := by decide +kernel
theorem dX10_add_66 : decode cX10_add 66 = .ok (.getfield 28, 3) := by decide +kernel
theorem dX10_add_69 : decode cX10_add 69 = .ok (.aload_n 0, 1) := by decide +kernel
theorem dX10_add_70 : decode cX10_add 70 = .ok (.getfield 57, 3) := by decide +kernel
theorem dX10_add_73 : decode cX10_add 73 = .ok (.iconst 0, 1) := by decide +kernel
theorem dX10_add_74 : decode cX10_add 74 = .ok (.invokestatic 109, 3) := by decide +kernel
theorem dX10_add_77 : decode cX10_add 77 = .ok (.aload_n 0, 1) := by decide +kernel
theorem dX10_add_78 : decode cX10_add 78 = .ok (.dup, 1) := by decide +kernel
theorem dX10_add_79 : decode cX10_add 79 = .ok (.getfield 57, 3) := by decide +kernel
theorem dX10_add_82 : decode cX10_add 82 = .ok (.iconst 1, 1) := by decide +kernel
theorem dX10_add_83 : decode cX10_add 83 = .ok (.iadd, 1) := by decide +kernel
theorem dX10_add_84 : decode cX10_add 84 = .ok (.putfield 57, 3) := by decide +kernel
theorem dX10_add_87 : decode cX10_add 87 = .ok (.iload_n 2, 1) := by decide +kernel
theorem dX10_add_88 : decode cX10_add 88 = .ok (.ireturn, 1) := by decide +kernel
def F_X10_add (p0 : Int32) (p1 : Int32) (p2 : Int32) (Γ : HS) : HR :=
  if ((Γ 1).1 2) < 0 then (
    some (p1, Γ)
  ) else (
    if 16001 ≤ ((Γ 1).1 2) then (
      some (p1, Γ)
    ) else (
      if ((Γ 1).1 2) < 0 ∨ 16001 ≤ ((Γ 1).1 2).toNatClampNeg then none else
      bnd (cA' Γ 1 3 (upd ((Γ 1).2.1 3) ((Γ 1).1 2).toNatClampNeg p0)) fun σ_9 =>
      bnd (cA' σ_9 1 4 (g_put 16001 ((σ_9 1).2.1 4) ((σ_9 1).1 2) p1)) fun σ_11 =>
      bnd (cA' σ_11 1 5 (g_put 16001 ((σ_11 1).2.1 5) ((σ_11 1).1 2) p2)) fun σ_13 =>
      bnd (cA' σ_13 1 6 (g_put 16001 ((σ_13 1).2.1 6) ((σ_13 1).1 2) 0)) fun σ_15 =>
      bnd (cA' σ_15 1 7 (g_put 16001 ((σ_15 1).2.1 7) ((σ_15 1).1 2) 0)) fun σ_17 =>
      bnd (cI' σ_17 1 2 (((σ_17 1).1 2) + 1)) fun σ_19 =>
      some (p1, σ_19)
    )
  )
set_option maxHeartbeats 4000000 in
set_option maxRecDepth 100000 in
theorem k_X10_add (l : Launch) (dC : Nat → ClassId) (dI : Nat → Nat → Nat) (cB cC cI cJ cZ cP : ClassId) (oA : Nat → Nat) (rA : Nat → Nat → Nat) (sz : Nat)  (p0 : Int32) (p1 : Int32) (p2 : Int32) (Γ : HS) (res : Int32 × HS) (hF : F_X10_add p0 p1 p2 Γ = some res) : Met l yX10_add (g_ws yX10_add cX10_add 4 (some .int)) ({ frames := 3, cells := 0, slots := 0, locals := 82 }) (va_Pc [.ref (oA 1), .int p0, .int p1, .int p2] (g_B (dC, dI) [(cB, .byte), (cC, .char), (cI, .int), (cJ, .long), (cZ, .boolean), (cP, .object "StoryHouse$Play")] sz (b_w cB cC cI cJ cZ oA rA Γ) g_0)) (va_Qi (fun r (_ : Unit) => r = res.1) (g_Bo (dC, dI) (va_A (b_w cB cC cI cJ cZ oA rA Γ) sz) (fun (_ : Unit) => (b_w cB cC cI cJ cZ oA rA res.2))) (va_A (b_w cB cC cI cJ cZ oA rA Γ) sz)) 0 0 (va_A (b_w cB cC cI cJ cZ oA rA Γ) sz) := by
  refine Met.ofW (cc := cX10_add) (maxL := 4) (ret := (some .int)) (by decide) rfl ?_
  intro p e s m args below meth c s₁ B hml hv
  obtain ⟨rfl, hsz, hP, hK, hD0, hE, hX⟩ := hv
  have hx := B.exec
  have hb := B.bytes
  have hr := B.returns
  have hts0 := atoms_spec (ws := g_ws yX10_add cX10_add 4 (some .int)) B.pre
  have hts : ∀ w ∈ lw_good, w.before ([.ref (oA 1), .int p0, .int p1, .int p2] : List Value).toArray s = true := fun w z => hts0 w (List.mem_cons_of_mem _ z)
  have hown : s.vm.findClass RX10 = some m.cls := findClass_of_methodNamed B.named
  have hlocks := B.notSynchronized
  subst hsz
  have hD1 := hD0.self (sz := s.heap.size)
  generalize hAe : va_A (b_w cB cC cI cJ cZ oA rA Γ) s.heap.size = A at hD1 hE hX ⊢
  have hA : ∀ q : Nat, s.heap.size ≤ q → A q := fun q z => by rw [← hAe]; exact Or.inr z
  have hDD : ∀ Γ : HS, va_D A (b_w cB cC cI cJ cZ oA rA Γ) := fun Γ9 => va_D_fst (ws := (b_w cB cC cI cJ cZ oA rA Γ)) (ws' := (b_w cB cC cI cJ cZ oA rA Γ9)) rfl hD1
  have hN := hE.1
  have hS : va_S A s.heap s.heap [] := va_S.rf
  have hl := lv_entry ([.ref (oA 1), .int p0, .int p1, .int p2]) (n := 4) (Nat.le_of_ble_eq_true rfl)
  rw [lg_entry_eq]
  generalize (lg_sl ([.ref (oA 1), .int p0, .int p1, .int p2]) ++ List.replicate (4 - (lg_sl ([.ref (oA 1), .int p0, .int p1, .int p2])).length) Slot.unset).toArray = ls at hl ⊢
  have hl : lv_has ls 4 [(0, .ref (oA 1)), (1, .int p0), (2, .int p1), (3, .int p2)] := hl
  unfold F_X10_add at hF
  refine lv_aload_n hx hb dX10_add_0 rfl (lv_at hl 0 rfl) ?_
  refine va_get (D := (dC, dI)) (ci := 10) (v := .int ((Γ 1).1 2)) (C := RX10) (T := TX10) (N := 12) hx hb hts ii_X10 hown hK hP 0 rfl rfl 2 (by decide) (hts (.fieldLink RX10 57 "StoryHouse$Words" "count" "I") wq_46) (fun _ h9 => h9) rfl dX10_add_1 ?_
  refine lv_if_lt (tgt := 87) hx hb dX10_add_4 (by decide) (fun c_1 => ?_) (fun c_1 => ?_)
  · have hF_2 := ipos c_1 hF
    clear hF
    refine lv_iload_n hx hb dX10_add_87 rfl (lv_at hl 2 rfl) ?_
    have h9 := Option.some.inj hF_2
    subst h9
    exact W.iret (v := p1) hx hb hr (fun t ht hW => ⟨⟨p1, (), rfl, rfl, m_end ht hP, hDD _⟩, hS.F ht⟩) hS.2.2 dX10_add_88
  · have hF_3 := ineg c_1 hF
    clear hF
    refine lv_aload_n hx hb dX10_add_7 rfl (lv_at hl 0 rfl) ?_
    refine va_get (D := (dC, dI)) (ci := 10) (v := .int ((Γ 1).1 2)) (C := RX10) (T := TX10) (N := 12) hx hb hts ii_X10 hown hK hP 0 rfl rfl 2 (by decide) (hts (.fieldLink RX10 57 "StoryHouse$Words" "count" "I") wq_46) (fun _ h9 => h9) rfl dX10_add_8 ?_
    refine lv_aload_n hx hb dX10_add_11 rfl (lv_at hl 0 rfl) ?_
    refine va_get (D := (dC, dI)) (ci := 10) (v := .ref (rA 1 3)) (C := RX10) (T := TX10) (N := 12) hx hb hts ii_X10 hown hK hP 0 rfl rfl 3 (by decide) (hts (.fieldLink RX10 15 "StoryHouse$Words" "kinds" "[I") wq_49) (fun _ h9 => h9) rfl dX10_add_12 ?_
    refine va_alen (v := 16001) hx hb hK hP 2 2 rfl rfl (by first | rfl | decide +kernel) dX10_add_15 ?_
    refine lv_icmp_ge (tgt := 87) hx hb dX10_add_16 (by decide) (fun c_4 => ?_) (fun c_4 => ?_)
    · have hF_5 := ipos c_4 hF_3
      clear hF_3
      refine lv_iload_n hx hb dX10_add_87 rfl (lv_at hl 2 rfl) ?_
      have h9 := Option.some.inj hF_5
      subst h9
      exact W.iret (v := p1) hx hb hr (fun t ht hW => ⟨⟨p1, (), rfl, rfl, m_end ht hP, hDD _⟩, hS.F ht⟩) hS.2.2 dX10_add_88
    · have hF_6 := ineg c_4 hF_3
      clear hF_3
      refine lv_aload_n hx hb dX10_add_19 rfl (lv_at hl 0 rfl) ?_
      refine va_get (D := (dC, dI)) (ci := 10) (v := .ref (rA 1 3)) (C := RX10) (T := TX10) (N := 12) hx hb hts ii_X10 hown hK hP 0 rfl rfl 3 (by decide) (hts (.fieldLink RX10 15 "StoryHouse$Words" "kinds" "[I") wq_49) (fun _ h9 => h9) rfl dX10_add_20 ?_
      refine lv_aload_n hx hb dX10_add_23 rfl (lv_at hl 0 rfl) ?_
      refine va_get (D := (dC, dI)) (ci := 10) (v := .int ((Γ 1).1 2)) (C := RX10) (T := TX10) (N := 12) hx hb hts ii_X10 hown hK hP 0 rfl rfl 2 (by decide) (hts (.fieldLink RX10 57 "StoryHouse$Words" "count" "I") wq_46) (fun _ h9 => h9) rfl dX10_add_24 ?_
      refine lv_iload_n hx hb dX10_add_27 rfl (lv_at hl 1 rfl) ?_
      obtain ⟨g_7, hF_8⟩ := nif_e hF_6
      clear hF_6
      obtain ⟨σ_9, eσ_9, hF_10⟩ := bnd_e hF_8
      clear hF_8
      refine va_iast (f := (Γ 1).2.1 3) hx hb hK hP (hDD _) hS 2 2 rfl rfl g_7 dX10_add_28 (fun H locs hP' _ hS => ?_)
      have hP : va_P (dC, dI) vwCl (b_w cB cC cI cJ cZ oA rA σ_9) H := by rw [eσ_9]; exact cs_w_w_3 ▸ hP'
      clear hP'
      refine lv_aload_n hx hb dX10_add_29 rfl (lv_at hl 0 rfl) ?_
      refine va_get (D := (dC, dI)) (ci := 10) (v := .ref (rA 1 4)) (C := RX10) (T := TX10) (N := 12) hx hb hts ii_X10 hown hK hP 0 rfl rfl 4 (by decide) (hts (.fieldLink RX10 19 "StoryHouse$Words" "places" "[I") wq_50) (fun _ h9 => h9) rfl dX10_add_30 ?_
      refine lv_aload_n hx hb dX10_add_33 rfl (lv_at hl 0 rfl) ?_
      refine va_get (D := (dC, dI)) (ci := 10) (v := .int ((σ_9 1).1 2)) (C := RX10) (T := TX10) (N := 12) hx hb hts ii_X10 hown hK hP 0 rfl rfl 2 (by decide) (hts (.fieldLink RX10 57 "StoryHouse$Words" "count" "I") wq_46) (fun _ h9 => h9) rfl dX10_add_34 ?_
      refine lv_iload_n hx hb dX10_add_37 rfl (lv_at hl 2 rfl) ?_
      have hq9 : ((b_w cB cC cI cJ cZ oA rA σ_9))[3]? = some (rA 1 4, .inl (cI, 16001, .inl ((σ_9 1).2.1 4))) := rfl
      have hPc := hP.sub (ws' := [(rA 1 4, .inl (cI, 16001, .inl ((σ_9 1).2.1 4)))]) [3] (pk_fm (er_C hq9))
      have hDc := (hDD σ_9).sub (ws' := [(rA 1 4, .inl (cI, 16001, .inl ((σ_9 1).2.1 4)))]) [3] (by decide +kernel) (er_C hq9)
      have hFc := va_free (wc := [(rA 1 4, .inl (cI, 16001, .inl ((σ_9 1).2.1 4)))]) (hDD σ_9) hS hA [3] (er_C hq9)
      refine g_ofv (wc := [(rA 1 4, .inl (cI, 16001, .inl ((σ_9 1).2.1 4)))]) (wr := (((b_w cB cC cI cJ cZ oA rA σ_9)).eraseIdx 3)) hP (hDD σ_9) hS hFc [3] ((List.range ((b_w cB cC cI cJ cZ oA rA σ_9)).length).eraseIdx 3) (er_C hq9) er_R er_n er_d (va_runSN (As := [.ref (rA 1 4), .int ((σ_9 1).1 2), .int p1]) (rest := []) ⟨hx, hb, hml, hown, hts⟩ (c_X11_put l dC dI cB cC cI cJ cZ cP H.size (rA 1 4) ((σ_9 1).1 2) p1 16001 ((σ_9 1).2.1 4) (by decide)) ⟨va_cnB 3 hts (g_gA wq_412) rfl rfl rfl (nw_10 hN) (hts (.initialized RX11) wq_1) (by decide +kernel) ⟨Nat.le_of_ble_eq_true rfl, Nat.le_of_ble_eq_true rfl⟩, (hts (.static yX11_put) wq_411), trivial⟩ (g_preS g_bl0 hK hPc hDc hS hE hFc g_to0) rfl rfl hl.1 rfl (lv_room (Nat.le_of_ble_eq_true rfl)) dX10_add_38 ⟨Nat.le_of_ble_eq_true rfl, Nat.le_of_ble_eq_true rfl⟩) (fun g9 H locs hw9 hP' hD' hS => ?_)
      clear hPc hDc hFc hD'
      obtain ⟨σ_11, eσ_11, hF_12⟩ := bnd_e hF_10
      clear hF_10
      subst hw9
      have hP : va_P (dC, dI) vwCl (b_w cB cC cI cJ cZ oA rA σ_11) H := by rw [eσ_11]; exact cs_w_w_4 ▸ er_P hP' (er_lt hq9)
      clear hP' hq9
      refine lv_aload_n hx hb dX10_add_41 rfl (lv_at hl 0 rfl) ?_
      refine va_get (D := (dC, dI)) (ci := 10) (v := .ref (rA 1 5)) (C := RX10) (T := TX10) (N := 12) hx hb hts ii_X10 hown hK hP 0 rfl rfl 5 (by decide) (hts (.fieldLink RX10 22 "StoryHouse$Words" "values" "[I") wq_51) (fun _ h9 => h9) rfl dX10_add_42 ?_
      refine lv_aload_n hx hb dX10_add_45 rfl (lv_at hl 0 rfl) ?_
      refine va_get (D := (dC, dI)) (ci := 10) (v := .int ((σ_11 1).1 2)) (C := RX10) (T := TX10) (N := 12) hx hb hts ii_X10 hown hK hP 0 rfl rfl 2 (by decide) (hts (.fieldLink RX10 57 "StoryHouse$Words" "count" "I") wq_46) (fun _ h9 => h9) rfl dX10_add_46 ?_
      refine lv_iload_n hx hb dX10_add_49 rfl (lv_at hl 3 rfl) ?_
      have hq9 : ((b_w cB cC cI cJ cZ oA rA σ_11))[4]? = some (rA 1 5, .inl (cI, 16001, .inl ((σ_11 1).2.1 5))) := rfl
      have hPc := hP.sub (ws' := [(rA 1 5, .inl (cI, 16001, .inl ((σ_11 1).2.1 5)))]) [4] (pk_fm (er_C hq9))
      have hDc := (hDD σ_11).sub (ws' := [(rA 1 5, .inl (cI, 16001, .inl ((σ_11 1).2.1 5)))]) [4] (by decide +kernel) (er_C hq9)
      have hFc := va_free (wc := [(rA 1 5, .inl (cI, 16001, .inl ((σ_11 1).2.1 5)))]) (hDD σ_11) hS hA [4] (er_C hq9)
      refine g_ofv (wc := [(rA 1 5, .inl (cI, 16001, .inl ((σ_11 1).2.1 5)))]) (wr := (((b_w cB cC cI cJ cZ oA rA σ_11)).eraseIdx 4)) hP (hDD σ_11) hS hFc [4] ((List.range ((b_w cB cC cI cJ cZ oA rA σ_11)).length).eraseIdx 4) (er_C hq9) er_R er_n er_d (va_runSN (As := [.ref (rA 1 5), .int ((σ_11 1).1 2), .int p2]) (rest := []) ⟨hx, hb, hml, hown, hts⟩ (c_X11_put l dC dI cB cC cI cJ cZ cP H.size (rA 1 5) ((σ_11 1).1 2) p2 16001 ((σ_11 1).2.1 5) (by decide)) ⟨va_cnB 3 hts (g_gA wq_412) rfl rfl rfl (nw_10 hN) (hts (.initialized RX11) wq_1) (by decide +kernel) ⟨Nat.le_of_ble_eq_true rfl, Nat.le_of_ble_eq_true rfl⟩, (hts (.static yX11_put) wq_411), trivial⟩ (g_preS g_bl0 hK hPc hDc hS hE hFc g_to0) rfl rfl hl.1 rfl (lv_room (Nat.le_of_ble_eq_true rfl)) dX10_add_50 ⟨Nat.le_of_ble_eq_true rfl, Nat.le_of_ble_eq_true rfl⟩) (fun g9 H locs hw9 hP' hD' hS => ?_)
      clear hPc hDc hFc hD'
      obtain ⟨σ_13, eσ_13, hF_14⟩ := bnd_e hF_12
      clear hF_12
      subst hw9
      have hP : va_P (dC, dI) vwCl (b_w cB cC cI cJ cZ oA rA σ_13) H := by rw [eσ_13]; exact cs_w_w_5 ▸ er_P hP' (er_lt hq9)
      clear hP' hq9
      refine lv_aload_n hx hb dX10_add_53 rfl (lv_at hl 0 rfl) ?_
      refine va_get (D := (dC, dI)) (ci := 10) (v := .ref (rA 1 6)) (C := RX10) (T := TX10) (N := 12) hx hb hts ii_X10 hown hK hP 0 rfl rfl 6 (by decide) (hts (.fieldLink RX10 25 "StoryHouse$Words" "notes" "[I") wq_52) (fun _ h9 => h9) rfl dX10_add_54 ?_
      refine lv_aload_n hx hb dX10_add_57 rfl (lv_at hl 0 rfl) ?_
      refine va_get (D := (dC, dI)) (ci := 10) (v := .int ((σ_13 1).1 2)) (C := RX10) (T := TX10) (N := 12) hx hb hts ii_X10 hown hK hP 0 rfl rfl 2 (by decide) (hts (.fieldLink RX10 57 "StoryHouse$Words" "count" "I") wq_46) (fun _ h9 => h9) rfl dX10_add_58 ?_
      refine lv_iconst (v := 0) hx hb dX10_add_61 (by decide +kernel) ?_
      have hq9 : ((b_w cB cC cI cJ cZ oA rA σ_13))[5]? = some (rA 1 6, .inl (cI, 16001, .inl ((σ_13 1).2.1 6))) := rfl
      have hPc := hP.sub (ws' := [(rA 1 6, .inl (cI, 16001, .inl ((σ_13 1).2.1 6)))]) [5] (pk_fm (er_C hq9))
      have hDc := (hDD σ_13).sub (ws' := [(rA 1 6, .inl (cI, 16001, .inl ((σ_13 1).2.1 6)))]) [5] (by decide +kernel) (er_C hq9)
      have hFc := va_free (wc := [(rA 1 6, .inl (cI, 16001, .inl ((σ_13 1).2.1 6)))]) (hDD σ_13) hS hA [5] (er_C hq9)
      refine g_ofv (wc := [(rA 1 6, .inl (cI, 16001, .inl ((σ_13 1).2.1 6)))]) (wr := (((b_w cB cC cI cJ cZ oA rA σ_13)).eraseIdx 5)) hP (hDD σ_13) hS hFc [5] ((List.range ((b_w cB cC cI cJ cZ oA rA σ_13)).length).eraseIdx 5) (er_C hq9) er_R er_n er_d (va_runSN (As := [.ref (rA 1 6), .int ((σ_13 1).1 2), .int 0]) (rest := []) ⟨hx, hb, hml, hown, hts⟩ (c_X11_put l dC dI cB cC cI cJ cZ cP H.size (rA 1 6) ((σ_13 1).1 2) 0 16001 ((σ_13 1).2.1 6) (by decide)) ⟨va_cnB 3 hts (g_gA wq_412) rfl rfl rfl (nw_10 hN) (hts (.initialized RX11) wq_1) (by decide +kernel) ⟨Nat.le_of_ble_eq_true rfl, Nat.le_of_ble_eq_true rfl⟩, (hts (.static yX11_put) wq_411), trivial⟩ (g_preS g_bl0 hK hPc hDc hS hE hFc g_to0) rfl rfl hl.1 rfl (lv_room (Nat.le_of_ble_eq_true rfl)) dX10_add_62 ⟨Nat.le_of_ble_eq_true rfl, Nat.le_of_ble_eq_true rfl⟩) (fun g9 H locs hw9 hP' hD' hS => ?_)
      clear hPc hDc hFc hD'
      obtain ⟨σ_15, eσ_15, hF_16⟩ := bnd_e hF_14
      clear hF_14
      subst hw9
      have hP : va_P (dC, dI) vwCl (b_w cB cC cI cJ cZ oA rA σ_15) H := by rw [eσ_15]; exact cs_w_w_6 ▸ er_P hP' (er_lt hq9)
      clear hP' hq9
      refine lv_aload_n hx hb dX10_add_65 rfl (lv_at hl 0 rfl) ?_
      refine va_get (D := (dC, dI)) (ci := 10) (v := .ref (rA 1 7)) (C := RX10) (T := TX10) (N := 12) hx hb hts ii_X10 hown hK hP 0 rfl rfl 7 (by decide) (hts (.fieldLink RX10 28 "StoryHouse$Words" "meanings" "[I") wq_55) (fun _ h9 => h9) rfl dX10_add_66 ?_
      refine lv_aload_n hx hb dX10_add_69 rfl (lv_at hl 0 rfl) ?_
      refine va_get (D := (dC, dI)) (ci := 10) (v := .int ((σ_15 1).1 2)) (C := RX10) (T := TX10) (N := 12) hx hb hts ii_X10 hown hK hP 0 rfl rfl 2 (by decide) (hts (.fieldLink RX10 57 "StoryHouse$Words" "count" "I") wq_46) (fun _ h9 => h9) rfl dX10_add_70 ?_
      refine lv_iconst (v := 0) hx hb dX10_add_73 (by decide +kernel) ?_
      have hq9 : ((b_w cB cC cI cJ cZ oA rA σ_15))[6]? = some (rA 1 7, .inl (cI, 16001, .inl ((σ_15 1).2.1 7))) := rfl
      have hPc := hP.sub (ws' := [(rA 1 7, .inl (cI, 16001, .inl ((σ_15 1).2.1 7)))]) [6] (pk_fm (er_C hq9))
      have hDc := (hDD σ_15).sub (ws' := [(rA 1 7, .inl (cI, 16001, .inl ((σ_15 1).2.1 7)))]) [6] (by decide +kernel) (er_C hq9)
      have hFc := va_free (wc := [(rA 1 7, .inl (cI, 16001, .inl ((σ_15 1).2.1 7)))]) (hDD σ_15) hS hA [6] (er_C hq9)
      refine g_ofv (wc := [(rA 1 7, .inl (cI, 16001, .inl ((σ_15 1).2.1 7)))]) (wr := (((b_w cB cC cI cJ cZ oA rA σ_15)).eraseIdx 6)) hP (hDD σ_15) hS hFc [6] ((List.range ((b_w cB cC cI cJ cZ oA rA σ_15)).length).eraseIdx 6) (er_C hq9) er_R er_n er_d (va_runSN (As := [.ref (rA 1 7), .int ((σ_15 1).1 2), .int 0]) (rest := []) ⟨hx, hb, hml, hown, hts⟩ (c_X11_put l dC dI cB cC cI cJ cZ cP H.size (rA 1 7) ((σ_15 1).1 2) 0 16001 ((σ_15 1).2.1 7) (by decide)) ⟨va_cnB 3 hts (g_gA wq_412) rfl rfl rfl (nw_10 hN) (hts (.initialized RX11) wq_1) (by decide +kernel) ⟨Nat.le_of_ble_eq_true rfl, Nat.le_of_ble_eq_true rfl⟩, (hts (.static yX11_put) wq_411), trivial⟩ (g_preS g_bl0 hK hPc hDc hS hE hFc g_to0) rfl rfl hl.1 rfl (lv_room (Nat.le_of_ble_eq_true rfl)) dX10_add_74 ⟨Nat.le_of_ble_eq_true rfl, Nat.le_of_ble_eq_true rfl⟩) (fun g9 H locs hw9 hP' hD' hS => ?_)
      clear hPc hDc hFc hD'
      obtain ⟨σ_17, eσ_17, hF_18⟩ := bnd_e hF_16
      clear hF_16
      subst hw9
      have hP : va_P (dC, dI) vwCl (b_w cB cC cI cJ cZ oA rA σ_17) H := by rw [eσ_17]; exact cs_w_w_7 ▸ er_P hP' (er_lt hq9)
      clear hP' hq9
      refine lv_aload_n hx hb dX10_add_77 rfl (lv_at hl 0 rfl) ?_
      refine lv_dup hx hb dX10_add_78 rfl ?_
      refine va_get (D := (dC, dI)) (ci := 10) (v := .int ((σ_17 1).1 2)) (C := RX10) (T := TX10) (N := 12) hx hb hts ii_X10 hown hK hP 0 rfl rfl 2 (by decide) (hts (.fieldLink RX10 57 "StoryHouse$Words" "count" "I") wq_46) (fun _ h9 => h9) rfl dX10_add_79 ?_
      refine lv_iconst (v := 1) hx hb dX10_add_82 (by decide +kernel) ?_
      refine lv_iadd hx hb dX10_add_83 ?_
      obtain ⟨σ_19, eσ_19, hF_20⟩ := bnd_e hF_18
      clear hF_18
      refine va_put (D := (dC, dI)) (ci := 10) (v := .int (((σ_17 1).1 2) + 1)) (ty := .int) (C := RX10) (T := TX10) (N := 12) hx hb hts ii_X10 tyX10 tyX10_ok nmX10 hown hK hP (hDD _) hS 0 rfl rfl 2 (by decide) (hts (.fieldLink RX10 57 "StoryHouse$Words" "count" "I") wq_46) (fun _ h9 => h9) rfl (by decide +kernel) rfl rfl (Nat.le_of_ble_eq_true rfl) dX10_add_84 (fun H locs hP' _ hS => ?_)
      have hP : va_P (dC, dI) vwCl (b_w cB cC cI cJ cZ oA rA σ_19) H := by rw [eσ_19]; exact cs_w_w_2 ▸ hP'
      clear hP'
      refine lv_iload_n hx hb dX10_add_87 rfl (lv_at hl 2 rfl) ?_
      have h9 := Option.some.inj hF_20
      subst h9
      exact W.iret (v := p1) hx hb hr (fun t ht hW => ⟨⟨p1, (), rfl, rfl, m_end ht hP, hDD _⟩, hS.F ht⟩) hS.2.2 dX10_add_88
theorem dX10_learn_0 : decode cX10_learn 0 = .ok (.iconst 0, 1) := by decide +kernel
theorem dX10_learn_1 : decode cX10_learn 1 = .ok (.istore_n 2, 1) := by decide +kernel
theorem dX10_learn_2 : decode cX10_learn 2 = .ok (.iconst 0, 1) := by decide +kernel
theorem dX10_learn_3 : decode cX10_learn 3 = .ok (.istore_n 3, 1) := by decide +kernel
theorem dX10_learn_4 : decode cX10_learn 4 = .ok (.iload_n 3, 1) := by decide +kernel
theorem dX10_learn_5 : decode cX10_learn 5 = .ok (.aload_n 1, 1) := by decide +kernel
theorem dX10_learn_6 : decode cX10_learn 6 = .ok (.invokevirtual 113, 3) := by decide +kernel
theorem dX10_learn_9 : decode cX10_learn 9 = .ok (.if_icmp .ge 43, 3) := by decide +kernel
theorem dX10_learn_12 : decode cX10_learn 12 = .ok (.iload_n 2, 1) := by decide +kernel
theorem dX10_learn_13 : decode cX10_learn 13 = .ok (.aload_n 1, 1) := by decide +kernel
theorem dX10_learn_14 : decode cX10_learn 14 = .ok (.invokevirtual 113, 3) := by decide +kernel
theorem dX10_learn_17 : decode cX10_learn 17 = .ok (.if_icmp .ge 35, 3) := by decide +kernel
theorem dX10_learn_20 : decode cX10_learn 20 = .ok (.aload_n 1, 1) := by decide +kernel
theorem dX10_learn_21 : decode cX10_learn 21 = .ok (.iload_n 2, 1) := by decide +kernel
theorem dX10_learn_22 : decode cX10_learn 22 = .ok (.invokestatic 118, 3) := by decide +kernel
theorem dX10_learn_25 : decode cX10_learn 25 = .ok (.istore 4, 2) := by decide +kernel
theorem dX10_learn_27 : decode cX10_learn 27 = .ok (.aload_n 0, 1) := by decide +kernel
theorem dX10_learn_28 : decode cX10_learn 28 = .ok (.aload_n 1, 1) := by decide +kernel
theorem dX10_learn_29 : decode cX10_learn 29 = .ok (.iload_n 2, 1) := by decide +kernel
theorem dX10_learn_30 : decode cX10_learn 30 = .ok (.iload 4, 2) := by decide +kernel
theorem dX10_learn_32 : decode cX10_learn 32 = .ok (.bipush 12, 2) := by decide +kernel
theorem dX10_learn_34 : decode cX10_learn 34 = .ok (.invokestatic 122, 3) := by decide +kernel
theorem dX10_learn_37 : decode cX10_learn 37 = .ok (.invokevirtual 126, 3) := by decide +kernel
theorem dX10_learn_40 : decode cX10_learn 40 = .ok (.pop, 1) := by decide +kernel
theorem dX10_learn_41 : decode cX10_learn 41 = .ok (.iload 4, 2) := by decide +kernel
theorem dX10_learn_43 : decode cX10_learn 43 = .ok (.iconst 1, 1) := by decide +kernel
theorem dX10_learn_44 : decode cX10_learn 44 = .ok (.iadd, 1) := by decide +kernel
theorem dX10_learn_45 : decode cX10_learn 45 = .ok (.istore_n 2, 1) := by decide +kernel
theorem dX10_learn_46 : decode cX10_learn 46 = .ok (.iinc 3 1, 3) := by decide +kernel
theorem dX10_learn_49 : decode cX10_learn 49 = .ok (.goto (-45), 3) := by decide +kernel
theorem dX10_learn_52 : decode cX10_learn 52 = .ok (.return_, 1) := by decide +kernel
def F_X10_learn (b0 : List Int32) (Γ : HS) : HR :=
  loopF (fun (again_2 : (Int32 × Int32 × HS) → HR) (s_1 : Int32 × Int32 × HS) => (
    bnd ((Int32.ofNat (b0).length)) fun (x_5 : Int32) =>
    if x_5 ≤ s_1.2.1 then (
      some (0, s_1.2.2)
    ) else (
      bnd ((Int32.ofNat (b0).length)) fun (x_10 : Int32) =>
      if x_10 ≤ s_1.1 then (
        some (0, s_1.2.2)
      ) else (
        (F_X11_wordEnd b0 s_1.1 s_1.2.2).bind fun u_15 =>
        (F_X11_packed b0 s_1.1 u_15.1 12 s_1.2.2).bind fun u_17 =>
        (F_X10_numberOf u_17.1 s_1.2.2).bind fun u_19 =>
        bnd ((u_15.1 + 1)) fun (x_21 : Int32) =>
        bnd (s_1.2.1 + 1) fun (x_23 : Int32) =>
        again_2 (x_21, x_23, u_19.2)
      )
    )
  )) FU (0, 0, Γ)
set_option maxHeartbeats 4000000 in
set_option maxRecDepth 100000 in
theorem k_X10_learn (l : Launch) (dC : Nat → ClassId) (dI : Nat → Nat → Nat) (cB cC cI cJ cZ cP : ClassId) (oA : Nat → Nat) (rA : Nat → Nat → Nat) (sz : Nat) (q0 vq0 : Nat) (b0 : List Int32) (Γ : HS) (res : Int32 × HS) (hF : F_X10_learn b0 Γ = some res) : Met l yX10_learn (g_ws yX10_learn cX10_learn 5 none) ({ frames := 6, cells := 0, slots := 0, locals := 153 }) (va_Pc [.ref (oA 1), .ref q0] (g_B (dC, dI) [(cB, .byte), (cC, .char), (cI, .int), (cJ, .long), (cZ, .boolean), (cP, .object "StoryHouse$Play")] sz (b_w cB cC cI cJ cZ oA rA Γ) (fun U : State => g_S q0 vq0 b0 (va_A (b_w cB cC cI cJ cZ oA rA Γ) sz) U U.heap))) (va_Qv (fun (_ : Unit) => True) (g_Bo (dC, dI) (va_A (b_w cB cC cI cJ cZ oA rA Γ) sz) (fun (_ : Unit) => (b_w cB cC cI cJ cZ oA rA res.2))) (va_A (b_w cB cC cI cJ cZ oA rA Γ) sz)) 0 0 (va_A (b_w cB cC cI cJ cZ oA rA Γ) sz) := by
  refine Met.ofW (cc := cX10_learn) (maxL := 5) (ret := none) (by decide) rfl ?_
  intro p e s m args below meth c s₁ B hml hv
  obtain ⟨rfl, hsz, hP, hK, hD0, hE, hX⟩ := hv
  have hx := B.exec
  have hb := B.bytes
  have hr := B.returns
  have hts0 := atoms_spec (ws := g_ws yX10_learn cX10_learn 5 none) B.pre
  have hts : ∀ w ∈ lw_good, w.before ([.ref (oA 1), .ref q0] : List Value).toArray s = true := fun w z => hts0 w (List.mem_cons_of_mem _ z)
  have hown : s.vm.findClass RX10 = some m.cls := findClass_of_methodNamed B.named
  have hlocks := B.notSynchronized
  subst hsz
  have hD1 := hD0.self (sz := s.heap.size)
  generalize hAe : va_A (b_w cB cC cI cJ cZ oA rA Γ) s.heap.size = A at hD1 hE hX ⊢
  have hA : ∀ q : Nat, s.heap.size ≤ q → A q := fun q z => by rw [← hAe]; exact Or.inr z
  have hDD : ∀ Γ : HS, va_D A (b_w cB cC cI cJ cZ oA rA Γ) := fun Γ9 => va_D_fst (ws := (b_w cB cC cI cJ cZ oA rA Γ)) (ws' := (b_w cB cC cI cJ cZ oA rA Γ9)) rfl hD1
  have hN := hE.1
  have hStr_q0 := hX
  have hS : va_S A s.heap s.heap [] := va_S.rf
  have hl := lv_entry ([.ref (oA 1), .ref q0]) (n := 5) (Nat.le_of_ble_eq_true rfl)
  rw [lg_entry_eq]
  generalize (lg_sl ([.ref (oA 1), .ref q0]) ++ List.replicate (5 - (lg_sl ([.ref (oA 1), .ref q0])).length) Slot.unset).toArray = ls at hl ⊢
  have hl : lv_has ls 5 [(0, .ref (oA 1)), (1, .ref q0)] := hl
  unfold F_X10_learn at hF
  refine lv_iconst (v := 0) hx hb dX10_learn_0 (by decide +kernel) ?_
  refine lv_istore_n (lv' := [(2, .int 0), (0, .ref (oA 1)), (1, .ref q0)]) hx hb dX10_learn_1 rfl hl (by decide) rfl (fun ls hl => ?_)
  refine lv_iconst (v := 0) hx hb dX10_learn_2 (by decide +kernel) ?_
  refine lv_istore_n (lv' := [(3, .int 0), (2, .int 0), (0, .ref (oA 1)), (1, .ref q0)]) hx hb dX10_learn_3 rfl hl (by decide) rfl (fun ls hl => ?_)
  refine loopF_ind (P := fun (s_1 : Int32 × Int32 × HS) => ∀ (H : Heap) (locs : List Loc), va_P (dC, dI) vwCl (b_w cB cC cI cJ cZ oA rA s_1.2.2) H → va_S A s.heap H locs → ∀ ls : Array Slot, lv_has ls 5 [(0, .ref (oA 1)), (1, .ref q0), (2, .int s_1.1), (3, .int s_1.2.1)] → W p l e (headSpec (g_ws yX10_learn cX10_learn 5 none) { frames := 6, cells := 0, slots := 0, locals := 153 }).room s m ([.ref (oA 1), .ref q0] : List Value).toArray below meth c H locs 0 0 (MQ below (va_Qv (fun (_ : Unit) => True) (g_Bo (dC, dI) A (fun (_ : Unit) => (b_w cB cC cI cJ cZ oA rA res.2))) A) ([.ref (oA 1), .ref q0] : List Value).toArray s 0 0 A) (F0 m 4 ls [])) ?_ _ _ hF _ _ hP hS ls (lv_sub hl [2, 3, 1, 0] rfl)
  intro again_2 s_1 ih_3 hF_4
  intro H locs hP hS ls hl
  refine lv_iload_n hx hb dX10_learn_4 rfl (lv_at hl 3 rfl) ?_
  refine lv_aload_n hx hb dX10_learn_5 rfl (lv_at hl 1 rfl) ?_
  refine c_cs (v := Int32.ofNat (b0).length) hA hP hS (va_runV (As := []) (rest := [.int s_1.2.1]) ⟨hx, hb, hml, hown, hts⟩ (c_J0_length_8abf5 l dC dI cB cC cI cJ cZ cP H.size q0  _ b0 ) (cwV 0 hts (g_gV wq_345 wq_346 wq_347 wq_22 wq_348) rfl rfl rfl (by decide +kernel) ⟨Nat.le_of_ble_eq_true rfl, Nat.le_of_ble_eq_true rfl⟩) (g_preVs g_blS hK (wc := []) (A := A) (fun k q z => by simp at z) ⟨fun i j p q z => by simp at z, fun k q z => by simp at z⟩ hS hE (c_nil hA hS) (g_toS hStr_q0 hS (c_nil hA hS)) (va_Orecv hStr_q0.1 hS)) rfl rfl hl.1 rfl (lv_room (Nat.le_of_ble_eq_true rfl)) dX10_learn_6 ⟨Nat.le_of_ble_eq_true rfl, Nat.le_of_ble_eq_true rfl⟩) (fun H locs hP hS => ?_)
  obtain ⟨x_5, ex_5, hF_6⟩ := bnd_e hF_4
  clear hF_4
  refine m_top ex_5 ?_
  refine lv_icmp_ge (tgt := 52) hx hb dX10_learn_9 (by decide) (fun c_7 => ?_) (fun c_7 => ?_)
  · have hF_8 := ipos c_7 hF_6
    clear hF_6
    have h9 := Option.some.inj hF_8
    subst h9
    exact W.vret hx hb hr (fun t ht hW => ⟨⟨(), rfl, trivial, m_end ht hP, hDD _⟩, hS.F ht⟩) hS.2.2 dX10_learn_52
  · have hF_9 := ineg c_7 hF_6
    clear hF_6
    refine lv_iload_n hx hb dX10_learn_12 rfl (lv_at hl 2 rfl) ?_
    refine lv_aload_n hx hb dX10_learn_13 rfl (lv_at hl 1 rfl) ?_
    refine c_cs (v := Int32.ofNat (b0).length) hA hP hS (va_runV (As := []) (rest := [.int s_1.1]) ⟨hx, hb, hml, hown, hts⟩ (c_J0_length_8abf5 l dC dI cB cC cI cJ cZ cP H.size q0  _ b0 ) (cwV 0 hts (g_gV wq_345 wq_346 wq_347 wq_22 wq_348) rfl rfl rfl (by decide +kernel) ⟨Nat.le_of_ble_eq_true rfl, Nat.le_of_ble_eq_true rfl⟩) (g_preVs g_blS hK (wc := []) (A := A) (fun k q z => by simp at z) ⟨fun i j p q z => by simp at z, fun k q z => by simp at z⟩ hS hE (c_nil hA hS) (g_toS hStr_q0 hS (c_nil hA hS)) (va_Orecv hStr_q0.1 hS)) rfl rfl hl.1 rfl (lv_room (Nat.le_of_ble_eq_true rfl)) dX10_learn_14 ⟨Nat.le_of_ble_eq_true rfl, Nat.le_of_ble_eq_true rfl⟩) (fun H locs hP hS => ?_)
    obtain ⟨x_10, ex_10, hF_11⟩ := bnd_e hF_9
    clear hF_9
    refine m_top ex_10 ?_
    refine lv_icmp_ge (tgt := 52) hx hb dX10_learn_17 (by decide) (fun c_12 => ?_) (fun c_12 => ?_)
    · have hF_13 := ipos c_12 hF_11
      clear hF_11
      have h9 := Option.some.inj hF_13
      subst h9
      exact W.vret hx hb hr (fun t ht hW => ⟨⟨(), rfl, trivial, m_end ht hP, hDD _⟩, hS.F ht⟩) hS.2.2 dX10_learn_52
    · have hF_14 := ineg c_12 hF_11
      clear hF_11
      refine lv_aload_n hx hb dX10_learn_20 rfl (lv_at hl 1 rfl) ?_
      refine lv_iload_n hx hb dX10_learn_21 rfl (lv_at hl 2 rfl) ?_
      obtain ⟨u_15, hu_15, hF_16⟩ := Option.bind_eq_some_iff.mp hF_14
      clear hF_14
      have hPc : va_P (dC, dI) vwCl [] H := fun k q z => by simp at z
      have hDc : va_D A [] := ⟨fun i j p q z => by simp at z, fun k q z => by simp at z⟩
      have hFc := c_nil hA hS
      refine c_cs (v := u_15.1) hA hP hS (va_runSN (As := [.ref q0, .int s_1.1]) (rest := []) ⟨hx, hb, hml, hown, hts⟩ (k_X11_wordEnd l dC dI cB cC cI cJ cZ cP oA rA H.size q0 _ b0 s_1.1 s_1.2.2 _ hu_15) ⟨va_cnB 2 hts (g_gA wq_355) rfl rfl rfl (nw_7 hN) (hts (.initialized RX11) wq_1) (by decide +kernel) ⟨Nat.le_of_ble_eq_true rfl, Nat.le_of_ble_eq_true rfl⟩, (hts (.static yX11_wordEnd) wq_354), trivial⟩ (g_preS g_blS hK hPc hDc hS hE hFc (g_toS hStr_q0 hS hFc)) rfl rfl hl.1 rfl (lv_room (Nat.le_of_ble_eq_true rfl)) dX10_learn_22 ⟨Nat.le_of_ble_eq_true rfl, Nat.le_of_ble_eq_true rfl⟩) (fun H locs hP hS => ?_)
      clear hPc hDc hFc
      refine lv_istore (lv' := [(4, .int u_15.1), (0, .ref (oA 1)), (1, .ref q0), (2, .int s_1.1), (3, .int s_1.2.1)]) hx hb dX10_learn_25 hl (by decide) rfl (fun ls hl => ?_)
      refine lv_aload_n hx hb dX10_learn_27 rfl (lv_at hl 1 rfl) ?_
      refine lv_aload_n hx hb dX10_learn_28 rfl (lv_at hl 2 rfl) ?_
      refine lv_iload_n hx hb dX10_learn_29 rfl (lv_at hl 3 rfl) ?_
      refine lv_iload hx hb dX10_learn_30 (lv_at hl 0 rfl) ?_
      refine lv_bipush (v := 12) hx hb dX10_learn_32 (by decide +kernel) ?_
      obtain ⟨u_17, hu_17, hF_18⟩ := Option.bind_eq_some_iff.mp hF_16
      clear hF_16
      have hPc : va_P (dC, dI) vwCl [] H := fun k q z => by simp at z
      have hDc : va_D A [] := ⟨fun i j p q z => by simp at z, fun k q z => by simp at z⟩
      have hFc := c_nil hA hS
      refine c_csl (v := u_17.1) hA hP hS (va_runSN (As := [.ref q0, .int s_1.1, .int u_15.1, .int 12]) (rest := [.ref (oA 1)]) ⟨hx, hb, hml, hown, hts⟩ (k_X11_packed l dC dI cB cC cI cJ cZ cP oA rA H.size q0 _ b0 s_1.1 u_15.1 12 s_1.2.2 _ hu_17) ⟨va_cnB 4 hts (g_gA wq_393) rfl rfl rfl (nw_8 hN) (hts (.initialized RX11) wq_1) (by decide +kernel) ⟨Nat.le_of_ble_eq_true rfl, Nat.le_of_ble_eq_true rfl⟩, (hts (.static yX11_packed) wq_392), trivial⟩ (g_preS g_blS hK hPc hDc hS hE hFc (g_toS hStr_q0 hS hFc)) rfl rfl hl.1 rfl (lv_room (Nat.le_of_ble_eq_true rfl)) dX10_learn_34 ⟨Nat.le_of_ble_eq_true rfl, Nat.le_of_ble_eq_true rfl⟩) (fun H locs hP hS => ?_)
      clear hPc hDc hFc
      obtain ⟨u_19, hu_19, hF_20⟩ := Option.bind_eq_some_iff.mp hF_18
      clear hF_18
      have hPc := bx_P (bs := [b_w cB cC cI cJ cZ oA rA s_1.2.2]) (bs' := [b_w cB cC cI cJ cZ oA rA s_1.2.2]) (ws' := (b_w cB cC cI cJ cZ oA rA s_1.2.2)) hP fl_1 fl_1 [0] rfl
      have hDc := bx_D (bs := [b_w cB cC cI cJ cZ oA rA s_1.2.2]) (bs' := [b_w cB cC cI cJ cZ oA rA s_1.2.2]) (ws' := (b_w cB cC cI cJ cZ oA rA s_1.2.2)) (hDD s_1.2.2) fl_1 fl_1 [0] (by decide +kernel) rfl
      have hFc := bx_F (bs := [b_w cB cC cI cJ cZ oA rA s_1.2.2]) (bs' := [b_w cB cC cI cJ cZ oA rA s_1.2.2]) (wc := (b_w cB cC cI cJ cZ oA rA s_1.2.2)) (hDD s_1.2.2) hS hA fl_1 fl_1 [0] rfl
      refine g_ofi (wc := (b_w cB cC cI cJ cZ oA rA s_1.2.2)) (wr := ([] : va_W)) hP (hDD s_1.2.2) hS hFc (bx_ix [b_w cB cC cI cJ cZ oA rA s_1.2.2] [0]) (bx_ix [b_w cB cC cI cJ cZ oA rA s_1.2.2] []) (bx_C (bs := [b_w cB cC cI cJ cZ oA rA s_1.2.2]) (bs' := [b_w cB cC cI cJ cZ oA rA s_1.2.2]) (is := [0]) fl_1 fl_1 rfl) (bx_C (bs := [b_w cB cC cI cJ cZ oA rA s_1.2.2]) (bs' := []) (is := []) fl_1 fl_0 rfl) (bx_n (by decide +kernel)) (bx_d (by decide +kernel)) (va_runV (As := [.long u_17.1]) (rest := []) ⟨hx, hb, hml, hown, hts⟩ (k_X10_numberOf l dC dI cB cC cI cJ cZ cP oA rA H.size  u_17.1 s_1.2.2 _ hu_19) (cwV 1 hts (g_gV wq_401 wq_402 wq_403 wq_2 wq_404) rfl rfl rfl (by decide +kernel) ⟨Nat.le_of_ble_eq_true rfl, Nat.le_of_ble_eq_true rfl⟩) (g_preV g_bl0 hK hPc hDc hS hE hFc g_to0 (q0 := 0) (ci := 10) rfl rfl) rfl rfl hl.1 rfl (lv_room (Nat.le_of_ble_eq_true rfl)) dX10_learn_37 ⟨Nat.le_of_ble_eq_true rfl, Nat.le_of_ble_eq_true rfl⟩) (fun r9 u9 H locs hw9 hP' hD' hS => ?_)
      clear hPc hDc hFc
      subst hw9
      have hP : va_P (dC, dI) vwCl (b_w cB cC cI cJ cZ oA rA u_19.2) H := hP'
      clear hP' hD'
      refine lv_pop hx hb dX10_learn_40 rfl ?_
      refine lv_iload hx hb dX10_learn_41 (lv_at hl 0 rfl) ?_
      refine lv_iconst (v := 1) hx hb dX10_learn_43 (by decide +kernel) ?_
      refine lv_iadd hx hb dX10_learn_44 ?_
      obtain ⟨x_21, ex_21, hF_22⟩ := bnd_e hF_20
      clear hF_20
      refine m_top ex_21 ?_
      refine lv_istore_n (lv' := [(2, .int x_21), (4, .int u_15.1), (0, .ref (oA 1)), (1, .ref q0), (3, .int s_1.2.1)]) hx hb dX10_learn_45 rfl hl (by decide) rfl (fun ls hl => ?_)
      obtain ⟨x_23, ex_23, hF_24⟩ := bnd_e hF_22
      clear hF_22
      refine lv_iinc (v := x_23) (lv' := [(3, .int x_23), (2, .int x_21), (4, .int u_15.1), (0, .ref (oA 1)), (1, .ref q0)]) hx hb dX10_learn_46 hl (k := 4) rfl (by rw [ex_23]; rfl) (by decide) rfl (fun ls hl => ?_)
      refine lv_goto (tgt := 4) hx hb dX10_learn_49 (by decide) ?_
      exact ih_3 (x_21, x_23, u_19.2) hF_24 _ _ hP hS ls (lv_sub hl [3, 4, 1, 0] rfl)
theorem dX10_skip_0 : decode cX10_skip 0 = .ok (.iconst 0, 1) := by decide +kernel
theorem dX10_skip_1 : decode cX10_skip 1 = .ok (.istore_n 2, 1) := by decide +kernel
theorem dX10_skip_2 : decode cX10_skip 2 = .ok (.iconst 0, 1) := by decide +kernel
theorem dX10_skip_3 : decode cX10_skip 3 = .ok (.iload_n 1, 1) := by decide +kernel
theorem dX10_skip_4 : decode cX10_skip 4 = .ok (.invokestatic 44, 3) := by decide +kernel
theorem dX10_skip_7 : decode cX10_skip 7 = .ok (.istore_n 3, 1) := by decide +kernel
theorem dX10_skip_8 : decode cX10_skip 8 = .ok (.iload_n 3, 1) := by decide +kernel
theorem dX10_skip_9 : decode cX10_skip 9 = .ok (.aload_n 0, 1) := by decide +kernel
theorem dX10_skip_10 : decode cX10_skip 10 = .ok (.getfield 47, 3) := by decide +kernel
theorem dX10_skip_13 : decode cX10_skip 13 = .ok (.if_icmp .ge 63, 3) := by decide +kernel
theorem dX10_skip_16 : decode cX10_skip 16 = .ok (.iload_n 3, 1) := by decide +kernel
theorem dX10_skip_17 : decode cX10_skip 17 = .ok (.aload_n 0, 1) := by decide +kernel
theorem dX10_skip_18 : decode cX10_skip 18 = .ok (.getfield 9, 3) := by decide +kernel
theorem dX10_skip_21 : decode cX10_skip 21 = .ok (.arraylength, 1) := by decide +kernel
theorem dX10_skip_22 : decode cX10_skip 22 = .ok (.if_icmp .ge 54, 3) := by decide +kernel
theorem dX10_skip_25 : decode cX10_skip 25 = .ok (.aload_n 0, 1) := by decide +kernel
theorem dX10_skip_26 : decode cX10_skip 26 = .ok (.getfield 9, 3) := by decide +kernel
theorem dX10_skip_29 : decode cX10_skip 29 = .ok (.iload_n 3, 1) := by decide +kernel
theorem dX10_skip_30 : decode cX10_skip 30 = .ok (.baload, 1) := by decide +kernel
theorem dX10_skip_31 : decode cX10_skip 31 = .ok (.istore 4, 2) := by decide +kernel
theorem dX10_skip_33 : decode cX10_skip 33 = .ok (.iload 4, 2) := by decide +kernel
theorem dX10_skip_35 : decode cX10_skip 35 = .ok (.bipush 10, 2) := by decide +kernel
theorem dX10_skip_37 : decode cX10_skip 37 = .ok (.if_icmp .ne 8, 3) := by decide +kernel
theorem dX10_skip_40 : decode cX10_skip 40 = .ok (.iconst 0, 1) := by decide +kernel
theorem dX10_skip_41 : decode cX10_skip 41 = .ok (.istore_n 2, 1) := by decide +kernel
theorem dX10_skip_42 : decode cX10_skip 42 = .ok (.goto 28, 3) := by decide +kernel
theorem dX10_skip_45 : decode cX10_skip 45 = .ok (.iload 4, 2) := by decide +kernel
theorem dX10_skip_47 : decode cX10_skip 47 = .ok (.bipush 35, 2) := by decide +kernel
theorem dX10_skip_49 : decode cX10_skip 49 = .ok (.if_icmp .ne 8, 3) := by decide +kernel
theorem dX10_skip_52 : decode cX10_skip 52 = .ok (.iconst 1, 1) := by decide +kernel
theorem dX10_skip_53 : decode cX10_skip 53 = .ok (.istore_n 2, 1) := by decide +kernel
theorem dX10_skip_54 : decode cX10_skip 54 = .ok (.goto 16, 3) := by decide +kernel
theorem dX10_skip_57 : decode cX10_skip 57 = .ok (.iload 4, 2) := by decide +kernel
theorem dX10_skip_59 : decode cX10_skip 59 = .ok (.bipush 32, 2) := by decide +kernel
theorem dX10_skip_61 : decode cX10_skip 61 = .ok (.if_icmp .eq 9, 3) := by decide +kernel
theorem dX10_skip_64 : decode cX10_skip 64 = .ok (.iload_n 2, 1) := by decide +kernel
theorem dX10_skip_65 : decode cX10_skip 65 = .ok (.ifCond .ne 5, 3) := by decide +kernel
theorem dX10_skip_68 : decode cX10_skip 68 = .ok (.iload_n 3, 1) := by decide +kernel
theorem dX10_skip_69 : decode cX10_skip 69 = .ok (.ireturn, 1) := by decide +kernel
theorem dX10_skip_70 : decode cX10_skip 70 = .ok (.iinc 3 1, 3) := by decide +kernel
theorem dX10_skip_73 : decode cX10_skip 73 = .ok (.goto (-65), 3) := by decide +kernel
theorem dX10_skip_76 : decode cX10_skip 76 = .ok (.aload_n 0, 1) := by decide +kernel
theorem dX10_skip_77 : decode cX10_skip 77 = .ok (.getfield 47, 3) := by decide +kernel
theorem dX10_skip_80 : decode cX10_skip 80 = .ok (.ireturn, 1) := by decide +kernel
def F_X10_skip (p0 : Int32) (Γ : HS) : HR :=
  bnd ((if 0 < p0 then p0 else 0)) fun (x_1 : Int32) =>
  loopF (fun (again_4 : (Int32 × Int32 × HS) → HR) (s_3 : Int32 × Int32 × HS) => (
    if ((s_3.2.2 1).1 1) ≤ s_3.2.1 then (
      some (((s_3.2.2 1).1 1), s_3.2.2)
    ) else (
      if 16000 ≤ s_3.2.1 then (
        some (((s_3.2.2 1).1 1), s_3.2.2)
      ) else (
        if s_3.2.1 < 0 ∨ 16000 ≤ s_3.2.1.toNatClampNeg then none else
        bnd (((s_3.2.2 1).2.1 0 s_3.2.1.toNatClampNeg)) fun (x_15 : Int32) =>
        bnd (fun (v2_17 : Int32) (σ_18 : HS) => (
          bnd (s_3.2.1 + 1) fun (x_22 : Int32) =>
          again_4 (v2_17, x_22, σ_18)
        ) : Int32 → HS → HR) fun j_19 =>
        if x_15 = 10 then (
          j_19 0 s_3.2.2
        ) else (
          if x_15 = 35 then (
            j_19 1 s_3.2.2
          ) else (
            if x_15 = 32 then (
              j_19 s_3.1 s_3.2.2
            ) else (
              if s_3.1 = 0 then (
                some (s_3.2.1, s_3.2.2)
              ) else (
                j_19 s_3.1 s_3.2.2
              )
            )
          )
        )
      )
    )
  )) FU (0, x_1, Γ)
set_option maxHeartbeats 4000000 in
set_option maxRecDepth 100000 in
theorem k_X10_skip (l : Launch) (dC : Nat → ClassId) (dI : Nat → Nat → Nat) (cB cC cI cJ cZ cP : ClassId) (oA : Nat → Nat) (rA : Nat → Nat → Nat) (sz : Nat)  (p0 : Int32) (Γ : HS) (res : Int32 × HS) (hF : F_X10_skip p0 Γ = some res) : Met l yX10_skip (g_ws yX10_skip cX10_skip 5 (some .int)) ({ frames := 1, cells := 0, slots := 0, locals := 40 }) (va_Pc [.ref (oA 1), .int p0] (g_B (dC, dI) [(cB, .byte), (cC, .char), (cI, .int), (cJ, .long), (cZ, .boolean), (cP, .object "StoryHouse$Play")] sz (b_w cB cC cI cJ cZ oA rA Γ) g_0)) (va_Qi (fun r (_ : Unit) => r = res.1) (g_Bo (dC, dI) (va_A (b_w cB cC cI cJ cZ oA rA Γ) sz) (fun (_ : Unit) => (b_w cB cC cI cJ cZ oA rA res.2))) (va_A (b_w cB cC cI cJ cZ oA rA Γ) sz)) 0 0 (va_A (b_w cB cC cI cJ cZ oA rA Γ) sz) := by
  refine Met.ofW (cc := cX10_skip) (maxL := 5) (ret := (some .int)) (by decide) rfl ?_
  intro p e s m args below meth c s₁ B hml hv
  obtain ⟨rfl, hsz, hP, hK, hD0, hE, hX⟩ := hv
  have hx := B.exec
  have hb := B.bytes
  have hr := B.returns
  have hts0 := atoms_spec (ws := g_ws yX10_skip cX10_skip 5 (some .int)) B.pre
  have hts : ∀ w ∈ lw_good, w.before ([.ref (oA 1), .int p0] : List Value).toArray s = true := fun w z => hts0 w (List.mem_cons_of_mem _ z)
  have hown : s.vm.findClass RX10 = some m.cls := findClass_of_methodNamed B.named
  have hlocks := B.notSynchronized
  subst hsz
  have hD1 := hD0.self (sz := s.heap.size)
  generalize hAe : va_A (b_w cB cC cI cJ cZ oA rA Γ) s.heap.size = A at hD1 hE hX ⊢
  have hA : ∀ q : Nat, s.heap.size ≤ q → A q := fun q z => by rw [← hAe]; exact Or.inr z
  have hDD : ∀ Γ : HS, va_D A (b_w cB cC cI cJ cZ oA rA Γ) := fun Γ9 => va_D_fst (ws := (b_w cB cC cI cJ cZ oA rA Γ)) (ws' := (b_w cB cC cI cJ cZ oA rA Γ9)) rfl hD1
  have hN := hE.1
  have hS : va_S A s.heap s.heap [] := va_S.rf
  have hl := lv_entry ([.ref (oA 1), .int p0]) (n := 5) (Nat.le_of_ble_eq_true rfl)
  rw [lg_entry_eq]
  generalize (lg_sl ([.ref (oA 1), .int p0]) ++ List.replicate (5 - (lg_sl ([.ref (oA 1), .int p0])).length) Slot.unset).toArray = ls at hl ⊢
  have hl : lv_has ls 5 [(0, .ref (oA 1)), (1, .int p0)] := hl
  unfold F_X10_skip at hF
  refine lv_iconst (v := 0) hx hb dX10_skip_0 (by decide +kernel) ?_
  refine lv_istore_n (lv' := [(2, .int 0), (0, .ref (oA 1)), (1, .int p0)]) hx hb dX10_skip_1 rfl hl (by decide) rfl (fun ls hl => ?_)
  refine lv_iconst (v := 0) hx hb dX10_skip_2 (by decide +kernel) ?_
  refine lv_iload_n hx hb dX10_skip_3 rfl (lv_at hl 2 rfl) ?_
  refine va_mmax hx hb (hml.trans hl.1.symm) hown (hts (.methodLink RX10 44 yJ9_max_7cf53) wq_333) (hts (.static yJ9_max_7cf53) wq_334) (hts (.initialized RJ9) wq_19) (hts (.code yJ9_max_7cf53 cJ9_max_7cf53 2 (some .int)) wq_335) (Nat.le_of_ble_eq_true rfl) (Nat.le_of_ble_eq_true rfl) (Nat.le_of_ble_eq_true rfl) (Nat.le_of_ble_eq_true rfl) dX10_skip_4 ?_
  obtain ⟨x_1, ex_1, hF_2⟩ := bnd_e hF
  clear hF
  refine m_top ex_1 ?_
  refine lv_istore_n (lv' := [(3, .int x_1), (2, .int 0), (0, .ref (oA 1)), (1, .int p0)]) hx hb dX10_skip_7 rfl hl (by decide) rfl (fun ls hl => ?_)
  refine loopF_ind (P := fun (s_3 : Int32 × Int32 × HS) => ∀ (H : Heap) (locs : List Loc), va_P (dC, dI) vwCl (b_w cB cC cI cJ cZ oA rA s_3.2.2) H → va_S A s.heap H locs → ∀ ls : Array Slot, lv_has ls 5 [(0, .ref (oA 1)), (2, .int s_3.1), (3, .int s_3.2.1)] → W p l e (headSpec (g_ws yX10_skip cX10_skip 5 (some .int)) { frames := 1, cells := 0, slots := 0, locals := 40 }).room s m ([.ref (oA 1), .int p0] : List Value).toArray below meth c H locs 0 0 (MQ below (va_Qi (fun r (_ : Unit) => r = res.1) (g_Bo (dC, dI) A (fun (_ : Unit) => (b_w cB cC cI cJ cZ oA rA res.2))) A) ([.ref (oA 1), .int p0] : List Value).toArray s 0 0 A) (F0 m 8 ls [])) ?_ _ _ hF_2 _ _ hP hS ls (lv_sub hl [2, 1, 0] rfl)
  intro again_4 s_3 ih_5 hF_6
  intro H locs hP hS ls hl
  refine lv_iload_n hx hb dX10_skip_8 rfl (lv_at hl 2 rfl) ?_
  refine lv_aload_n hx hb dX10_skip_9 rfl (lv_at hl 0 rfl) ?_
  refine va_get (D := (dC, dI)) (ci := 10) (v := .int ((s_3.2.2 1).1 1)) (C := RX10) (T := TX10) (N := 12) hx hb hts ii_X10 hown hK hP 0 rfl rfl 1 (by decide) (hts (.fieldLink RX10 47 "StoryHouse$Words" "length" "I") wq_43) (fun _ h9 => h9) rfl dX10_skip_10 ?_
  refine lv_icmp_ge (tgt := 76) hx hb dX10_skip_13 (by decide) (fun c_7 => ?_) (fun c_7 => ?_)
  · have hF_8 := ipos c_7 hF_6
    clear hF_6
    refine lv_aload_n hx hb dX10_skip_76 rfl (lv_at hl 0 rfl) ?_
    refine va_get (D := (dC, dI)) (ci := 10) (v := .int ((s_3.2.2 1).1 1)) (C := RX10) (T := TX10) (N := 12) hx hb hts ii_X10 hown hK hP 0 rfl rfl 1 (by decide) (hts (.fieldLink RX10 47 "StoryHouse$Words" "length" "I") wq_43) (fun _ h9 => h9) rfl dX10_skip_77 ?_
    have h9 := Option.some.inj hF_8
    subst h9
    exact W.iret (v := ((s_3.2.2 1).1 1)) hx hb hr (fun t ht hW => ⟨⟨((s_3.2.2 1).1 1), (), rfl, rfl, m_end ht hP, hDD _⟩, hS.F ht⟩) hS.2.2 dX10_skip_80
  · have hF_9 := ineg c_7 hF_6
    clear hF_6
    refine lv_iload_n hx hb dX10_skip_16 rfl (lv_at hl 2 rfl) ?_
    refine lv_aload_n hx hb dX10_skip_17 rfl (lv_at hl 0 rfl) ?_
    refine va_get (D := (dC, dI)) (ci := 10) (v := .ref (rA 1 0)) (C := RX10) (T := TX10) (N := 12) hx hb hts ii_X10 hown hK hP 0 rfl rfl 0 (by decide) (hts (.fieldLink RX10 9 "StoryHouse$Words" "source" "[B") wq_41) (fun _ h9 => h9) rfl dX10_skip_18 ?_
    refine va_alen (v := 16000) hx hb hK hP 1 0 rfl rfl (by first | rfl | decide +kernel) dX10_skip_21 ?_
    refine lv_icmp_ge (tgt := 76) hx hb dX10_skip_22 (by decide) (fun c_10 => ?_) (fun c_10 => ?_)
    · have hF_11 := ipos c_10 hF_9
      clear hF_9
      refine lv_aload_n hx hb dX10_skip_76 rfl (lv_at hl 0 rfl) ?_
      refine va_get (D := (dC, dI)) (ci := 10) (v := .int ((s_3.2.2 1).1 1)) (C := RX10) (T := TX10) (N := 12) hx hb hts ii_X10 hown hK hP 0 rfl rfl 1 (by decide) (hts (.fieldLink RX10 47 "StoryHouse$Words" "length" "I") wq_43) (fun _ h9 => h9) rfl dX10_skip_77 ?_
      have h9 := Option.some.inj hF_11
      subst h9
      exact W.iret (v := ((s_3.2.2 1).1 1)) hx hb hr (fun t ht hW => ⟨⟨((s_3.2.2 1).1 1), (), rfl, rfl, m_end ht hP, hDD _⟩, hS.F ht⟩) hS.2.2 dX10_skip_80
    · have hF_12 := ineg c_10 hF_9
      clear hF_9
      refine lv_aload_n hx hb dX10_skip_25 rfl (lv_at hl 0 rfl) ?_
      refine va_get (D := (dC, dI)) (ci := 10) (v := .ref (rA 1 0)) (C := RX10) (T := TX10) (N := 12) hx hb hts ii_X10 hown hK hP 0 rfl rfl 0 (by decide) (hts (.fieldLink RX10 9 "StoryHouse$Words" "source" "[B") wq_41) (fun _ h9 => h9) rfl dX10_skip_26 ?_
      refine lv_iload_n hx hb dX10_skip_29 rfl (lv_at hl 2 rfl) ?_
      obtain ⟨g_13, hF_14⟩ := nif_e hF_12
      clear hF_12
      refine va_bald (f := (s_3.2.2 1).2.1 0) hx hb hK hP 1 0 rfl rfl g_13 dX10_skip_30 ?_
      obtain ⟨x_15, ex_15, hF_16⟩ := bnd_e hF_14
      clear hF_14
      refine m_top ex_15 ?_
      refine lv_istore (lv' := [(4, .int x_15), (0, .ref (oA 1)), (2, .int s_3.1), (3, .int s_3.2.1)]) hx hb dX10_skip_31 hl (by decide) rfl (fun ls hl => ?_)
      refine lv_iload hx hb dX10_skip_33 (lv_at hl 0 rfl) ?_
      refine lv_bipush (v := 10) hx hb dX10_skip_35 (by decide +kernel) ?_
      obtain ⟨j_19, ej_19, hF_20⟩ := bnd_e hF_16
      clear hF_16
      have Jj_19 : ∀ (v2_17 : Int32) (σ_18 : HS), j_19 v2_17 σ_18 = some res → ∀ (H : Heap) (locs : List Loc), va_P (dC, dI) vwCl (b_w cB cC cI cJ cZ oA rA σ_18) H → va_S A s.heap H locs → ∀ ls : Array Slot, lv_has ls 5 [(0, .ref (oA 1)), (2, .int v2_17), (3, .int s_3.2.1)] → W p l e (headSpec (g_ws yX10_skip cX10_skip 5 (some .int)) { frames := 1, cells := 0, slots := 0, locals := 40 }).room s m ([.ref (oA 1), .int p0] : List Value).toArray below meth c H locs 0 0 (MQ below (va_Qi (fun r (_ : Unit) => r = res.1) (g_Bo (dC, dI) A (fun (_ : Unit) => (b_w cB cC cI cJ cZ oA rA res.2))) A) ([.ref (oA 1), .int p0] : List Value).toArray s 0 0 A) (F0 m 70 ls []) := by
        intro v2_17 σ_18 hF0 H locs hP hS ls hl
        subst ej_19
        have hF_21 := hF0
        clear hF0
        obtain ⟨x_22, ex_22, hF_23⟩ := bnd_e hF_21
        clear hF_21
        refine lv_iinc (v := x_22) (lv' := [(3, .int x_22), (0, .ref (oA 1)), (2, .int v2_17)]) hx hb dX10_skip_70 hl (k := 2) rfl (by rw [ex_22]; rfl) (by decide) rfl (fun ls hl => ?_)
        refine lv_goto (tgt := 8) hx hb dX10_skip_73 (by decide) ?_
        exact ih_5 (v2_17, x_22, σ_18) hF_23 _ _ hP hS ls (lv_sub hl [1, 2, 0] rfl)
      refine lv_icmp_ne (tgt := 45) hx hb dX10_skip_37 (by decide) (fun c_24 => ?_) (fun c_24 => ?_)
      · have hF_26 := ineg c_24 hF_20
        clear hF_20
        refine lv_iload hx hb dX10_skip_45 (lv_at hl 0 rfl) ?_
        refine lv_bipush (v := 35) hx hb dX10_skip_47 (by decide +kernel) ?_
        refine lv_icmp_ne (tgt := 57) hx hb dX10_skip_49 (by decide) (fun c_27 => ?_) (fun c_27 => ?_)
        · have hF_29 := ineg c_27 hF_26
          clear hF_26
          refine lv_iload hx hb dX10_skip_57 (lv_at hl 0 rfl) ?_
          refine lv_bipush (v := 32) hx hb dX10_skip_59 (by decide +kernel) ?_
          refine lv_icmp_eq (tgt := 70) hx hb dX10_skip_61 (by decide) (fun c_30 => ?_) (fun c_30 => ?_)
          · have hF_31 := ipos c_30 hF_29
            clear hF_29
            exact Jj_19 s_3.1 s_3.2.2 hF_31 _ _ hP hS ls (lv_sub hl [1, 2, 3] rfl)
          · have hF_32 := ineg c_30 hF_29
            clear hF_29
            refine lv_iload_n hx hb dX10_skip_64 rfl (lv_at hl 2 rfl) ?_
            refine lv_if_ne (tgt := 70) hx hb dX10_skip_65 (by decide) (fun c_33 => ?_) (fun c_33 => ?_)
            · have hF_35 := ineg c_33 hF_32
              clear hF_32
              exact Jj_19 s_3.1 s_3.2.2 hF_35 _ _ hP hS ls (lv_sub hl [1, 2, 3] rfl)
            · have hF_34 := ipos c_33 hF_32
              clear hF_32
              refine lv_iload_n hx hb dX10_skip_68 rfl (lv_at hl 3 rfl) ?_
              have h9 := Option.some.inj hF_34
              subst h9
              exact W.iret (v := s_3.2.1) hx hb hr (fun t ht hW => ⟨⟨s_3.2.1, (), rfl, rfl, m_end ht hP, hDD _⟩, hS.F ht⟩) hS.2.2 dX10_skip_69
        · have hF_28 := ipos c_27 hF_26
          clear hF_26
          refine lv_iconst (v := 1) hx hb dX10_skip_52 (by decide +kernel) ?_
          refine lv_istore_n (lv' := [(2, .int 1), (4, .int x_15), (0, .ref (oA 1)), (3, .int s_3.2.1)]) hx hb dX10_skip_53 rfl hl (by decide) rfl (fun ls hl => ?_)
          refine lv_goto (tgt := 70) hx hb dX10_skip_54 (by decide) ?_
          exact Jj_19 1 s_3.2.2 hF_28 _ _ hP hS ls (lv_sub hl [2, 0, 3] rfl)
      · have hF_25 := ipos c_24 hF_20
        clear hF_20
        refine lv_iconst (v := 0) hx hb dX10_skip_40 (by decide +kernel) ?_
        refine lv_istore_n (lv' := [(2, .int 0), (4, .int x_15), (0, .ref (oA 1)), (3, .int s_3.2.1)]) hx hb dX10_skip_41 rfl hl (by decide) rfl (fun ls hl => ?_)
        refine lv_goto (tgt := 70) hx hb dX10_skip_42 (by decide) ?_
        exact Jj_19 0 s_3.2.2 hF_25 _ _ hP hS ls (lv_sub hl [2, 0, 3] rfl)
theorem dX10_bad_0 : decode cX10_bad 0 = .ok (.aload_n 0, 1) := by decide +kernel
theorem dX10_bad_1 : decode cX10_bad 1 = .ok (.iconst 1, 1) := by decide +kernel
theorem dX10_bad_2 : decode cX10_bad 2 = .ok (.iload_n 1, 1) := by decide +kernel
theorem dX10_bad_3 : decode cX10_bad 3 = .ok (.iconst 0, 1) := by decide +kernel
theorem dX10_bad_4 : decode cX10_bad 4 = .ok (.invokevirtual 93, 3) := by decide +kernel
theorem dX10_bad_7 : decode cX10_bad 7 = .ok (.pop, 1) := by decide +kernel
theorem dX10_bad_8 : decode cX10_bad 8 = .ok (.aload_n 0, 1) := by decide +kernel
theorem dX10_bad_9 : decode cX10_bad 9 = .ok (.getfield 47, 3) := by decide +kernel
theorem dX10_bad_12 : decode cX10_bad 12 = .ok (.ireturn, 1) := by decide +kernel
def F_X10_bad (p0 : Int32) (Γ : HS) : HR :=
  (F_X10_add 1 p0 0 Γ).bind fun u_1 =>
  some (((u_1.2 1).1 1), u_1.2)
set_option maxHeartbeats 4000000 in
set_option maxRecDepth 100000 in
theorem k_X10_bad (l : Launch) (dC : Nat → ClassId) (dI : Nat → Nat → Nat) (cB cC cI cJ cZ cP : ClassId) (oA : Nat → Nat) (rA : Nat → Nat → Nat) (sz : Nat)  (p0 : Int32) (Γ : HS) (res : Int32 × HS) (hF : F_X10_bad p0 Γ = some res) : Met l yX10_bad (g_ws yX10_bad cX10_bad 2 (some .int)) ({ frames := 4, cells := 0, slots := 0, locals := 105 }) (va_Pc [.ref (oA 1), .int p0] (g_B (dC, dI) [(cB, .byte), (cC, .char), (cI, .int), (cJ, .long), (cZ, .boolean), (cP, .object "StoryHouse$Play")] sz (b_w cB cC cI cJ cZ oA rA Γ) g_0)) (va_Qi (fun r (_ : Unit) => r = res.1) (g_Bo (dC, dI) (va_A (b_w cB cC cI cJ cZ oA rA Γ) sz) (fun (_ : Unit) => (b_w cB cC cI cJ cZ oA rA res.2))) (va_A (b_w cB cC cI cJ cZ oA rA Γ) sz)) 0 0 (va_A (b_w cB cC cI cJ cZ oA rA Γ) sz) := by
  refine Met.ofW (cc := cX10_bad) (maxL := 2) (ret := (some .int)) (by decide) rfl ?_
  intro p e s m args below meth c s₁ B hml hv
  obtain ⟨rfl, hsz, hP, hK, hD0, hE, hX⟩ := hv
  have hx := B.exec
  have hb := B.bytes
  have hr := B.returns
  have hts0 := atoms_spec (ws := g_ws yX10_bad cX10_bad 2 (some .int)) B.pre
  have hts : ∀ w ∈ lw_good, w.before ([.ref (oA 1), .int p0] : List Value).toArray s = true := fun w z => hts0 w (List.mem_cons_of_mem _ z)
  have hown : s.vm.findClass RX10 = some m.cls := findClass_of_methodNamed B.named
  have hlocks := B.notSynchronized
  subst hsz
  have hD1 := hD0.self (sz := s.heap.size)
  generalize hAe : va_A (b_w cB cC cI cJ cZ oA rA Γ) s.heap.size = A at hD1 hE hX ⊢
  have hA : ∀ q : Nat, s.heap.size ≤ q → A q := fun q z => by rw [← hAe]; exact Or.inr z
  have hDD : ∀ Γ : HS, va_D A (b_w cB cC cI cJ cZ oA rA Γ) := fun Γ9 => va_D_fst (ws := (b_w cB cC cI cJ cZ oA rA Γ)) (ws' := (b_w cB cC cI cJ cZ oA rA Γ9)) rfl hD1
  have hN := hE.1
  have hS : va_S A s.heap s.heap [] := va_S.rf
  have hl := lv_entry ([.ref (oA 1), .int p0]) (n := 2) (Nat.le_of_ble_eq_true rfl)
  rw [lg_entry_eq]
  generalize (lg_sl ([.ref (oA 1), .int p0]) ++ List.replicate (2 - (lg_sl ([.ref (oA 1), .int p0])).length) Slot.unset).toArray = ls at hl ⊢
  have hl : lv_has ls 2 [(0, .ref (oA 1)), (1, .int p0)] := hl
  unfold F_X10_bad at hF
  refine lv_aload_n hx hb dX10_bad_0 rfl (lv_at hl 0 rfl) ?_
  refine lv_iconst (v := 1) hx hb dX10_bad_1 (by decide +kernel) ?_
  refine lv_iload_n hx hb dX10_bad_2 rfl (lv_at hl 1 rfl) ?_
  refine lv_iconst (v := 0) hx hb dX10_bad_3 (by decide +kernel) ?_
  obtain ⟨u_1, hu_1, hF_2⟩ := Option.bind_eq_some_iff.mp hF
  clear hF
  have hPc := bx_P (bs := [b_w cB cC cI cJ cZ oA rA Γ]) (bs' := [b_w cB cC cI cJ cZ oA rA Γ]) (ws' := (b_w cB cC cI cJ cZ oA rA Γ)) hP fl_1 fl_1 [0] rfl
  have hDc := bx_D (bs := [b_w cB cC cI cJ cZ oA rA Γ]) (bs' := [b_w cB cC cI cJ cZ oA rA Γ]) (ws' := (b_w cB cC cI cJ cZ oA rA Γ)) (hDD Γ) fl_1 fl_1 [0] (by decide +kernel) rfl
  have hFc := bx_F (bs := [b_w cB cC cI cJ cZ oA rA Γ]) (bs' := [b_w cB cC cI cJ cZ oA rA Γ]) (wc := (b_w cB cC cI cJ cZ oA rA Γ)) (hDD Γ) hS hA fl_1 fl_1 [0] rfl
  refine g_ofi (wc := (b_w cB cC cI cJ cZ oA rA Γ)) (wr := ([] : va_W)) hP (hDD Γ) hS hFc (bx_ix [b_w cB cC cI cJ cZ oA rA Γ] [0]) (bx_ix [b_w cB cC cI cJ cZ oA rA Γ] []) (bx_C (bs := [b_w cB cC cI cJ cZ oA rA Γ]) (bs' := [b_w cB cC cI cJ cZ oA rA Γ]) (is := [0]) fl_1 fl_1 rfl) (bx_C (bs := [b_w cB cC cI cJ cZ oA rA Γ]) (bs' := []) (is := []) fl_1 fl_0 rfl) (bx_n (by decide +kernel)) (bx_d (by decide +kernel)) (va_runV (As := [.int 1, .int p0, .int 0]) (rest := []) ⟨hx, hb, hml, hown, hts⟩ (k_X10_add l dC dI cB cC cI cJ cZ cP oA rA s.heap.size  1 p0 0 Γ _ hu_1) (cwV 3 hts (g_gV wq_431 wq_432 wq_1986 wq_2 wq_433) rfl rfl rfl (by decide +kernel) ⟨Nat.le_of_ble_eq_true rfl, Nat.le_of_ble_eq_true rfl⟩) (g_preV g_bl0 hK hPc hDc hS hE hFc g_to0 (q0 := 0) (ci := 10) rfl rfl) rfl rfl hl.1 rfl (lv_room (Nat.le_of_ble_eq_true rfl)) dX10_bad_4 ⟨Nat.le_of_ble_eq_true rfl, Nat.le_of_ble_eq_true rfl⟩) (fun r9 u9 H locs hw9 hP' hD' hS => ?_)
  clear hPc hDc hFc
  subst hw9
  have hP : va_P (dC, dI) vwCl (b_w cB cC cI cJ cZ oA rA u_1.2) H := hP'
  clear hP' hD'
  refine lv_pop hx hb dX10_bad_7 rfl ?_
  refine lv_aload_n hx hb dX10_bad_8 rfl (lv_at hl 0 rfl) ?_
  refine va_get (D := (dC, dI)) (ci := 10) (v := .int ((u_1.2 1).1 1)) (C := RX10) (T := TX10) (N := 12) hx hb hts ii_X10 hown hK hP 0 rfl rfl 1 (by decide) (hts (.fieldLink RX10 47 "StoryHouse$Words" "length" "I") wq_43) (fun _ h9 => h9) rfl dX10_bad_9 ?_
  have h9 := Option.some.inj hF_2
  subst h9
  exact W.iret (v := ((u_1.2 1).1 1)) hx hb hr (fun t ht hW => ⟨⟨((u_1.2 1).1 1), (), rfl, rfl, m_end ht hP, hDD _⟩, hS.F ht⟩) hS.2.2 dX10_bad_12
theorem dX10_signAt_0 : decode cX10_signAt 0 = .ok (.iload_n 1, 1) := by decide +kernel
theorem dX10_signAt_1 : decode cX10_signAt 1 = .ok (.ifCond .lt 29, 3) := by decide +kernel
theorem dX10_signAt_4 : decode cX10_signAt 4 = .ok (.iload_n 1, 1) := by decide +kernel
theorem dX10_signAt_5 : decode cX10_signAt 5 = .ok (.aload_n 0, 1) := by decide +kernel
theorem dX10_signAt_6 : decode cX10_signAt 6 = .ok (.getfield 47, 3) := by decide +kernel
theorem dX10_signAt_9 : decode cX10_signAt 9 = .ok (.if_icmp .ge 21, 3) := by decide +kernel
theorem dX10_signAt_12 : decode cX10_signAt 12 = .ok (.iload_n 1, 1) := by decide +kernel
theorem dX10_signAt_13 : decode cX10_signAt 13 = .ok (.aload_n 0, 1) := by decide +kernel
theorem dX10_signAt_14 : decode cX10_signAt 14 = .ok (.getfield 9, 3) := by decide +kernel
theorem dX10_signAt_17 : decode cX10_signAt 17 = .ok (.arraylength, 1) := by decide +kernel
theorem dX10_signAt_18 : decode cX10_signAt 18 = .ok (.if_icmp .ge 12, 3) := by decide +kernel
theorem dX10_signAt_21 : decode cX10_signAt 21 = .ok (.aload_n 0, 1) := by decide +kernel
theorem dX10_signAt_22 : decode cX10_signAt 22 = .ok (.getfield 9, 3) := by decide +kernel
theorem dX10_signAt_25 : decode cX10_signAt 25 = .ok (.iload_n 1, 1) := by decide +kernel
theorem dX10_signAt_26 : decode cX10_signAt 26 = .ok (.baload, 1) := by decide +kernel
theorem dX10_signAt_27 : decode cX10_signAt 27 = .ok (.goto 4, 3) := by decide +kernel
theorem dX10_signAt_30 : decode cX10_signAt 30 = .ok (.iconst 0, 1) := by decide +kernel
theorem dX10_signAt_31 : decode cX10_signAt 31 = .ok (.ireturn, 1) := by decide +kernel
def F_X10_signAt (p0 : Int32) (Γ : HS) : HR :=
  if p0 < 0 then (
    some (0, Γ)
  ) else (
    if ((Γ 1).1 1) ≤ p0 then (
      some (0, Γ)
    ) else (
      if 16000 ≤ p0 then (
        some (0, Γ)
      ) else (
        if p0 < 0 ∨ 16000 ≤ p0.toNatClampNeg then none else
        some (((Γ 1).2.1 0 p0.toNatClampNeg), Γ)
      )
    )
  )
set_option maxHeartbeats 4000000 in
set_option maxRecDepth 100000 in
theorem k_X10_signAt (l : Launch) (dC : Nat → ClassId) (dI : Nat → Nat → Nat) (cB cC cI cJ cZ cP : ClassId) (oA : Nat → Nat) (rA : Nat → Nat → Nat) (sz : Nat)  (p0 : Int32) (Γ : HS) (res : Int32 × HS) (hF : F_X10_signAt p0 Γ = some res) : Met l yX10_signAt (g_ws yX10_signAt cX10_signAt 2 (some .int)) ({ frames := 1, cells := 0, slots := 0, locals := 40 }) (va_Pc [.ref (oA 1), .int p0] (g_B (dC, dI) [(cB, .byte), (cC, .char), (cI, .int), (cJ, .long), (cZ, .boolean), (cP, .object "StoryHouse$Play")] sz (b_w cB cC cI cJ cZ oA rA Γ) g_0)) (va_Qi (fun r (_ : Unit) => r = res.1) (g_Bo (dC, dI) (va_A (b_w cB cC cI cJ cZ oA rA Γ) sz) (fun (_ : Unit) => (b_w cB cC cI cJ cZ oA rA res.2))) (va_A (b_w cB cC cI cJ cZ oA rA Γ) sz)) 0 0 (va_A (b_w cB cC cI cJ cZ oA rA Γ) sz) := by
  refine Met.ofW (cc := cX10_signAt) (maxL := 2) (ret := (some .int)) (by decide) rfl ?_
  intro p e s m args below meth c s₁ B hml hv
  obtain ⟨rfl, hsz, hP, hK, hD0, hE, hX⟩ := hv
  have hx := B.exec
  have hb := B.bytes
  have hr := B.returns
  have hts0 := atoms_spec (ws := g_ws yX10_signAt cX10_signAt 2 (some .int)) B.pre
  have hts : ∀ w ∈ lw_good, w.before ([.ref (oA 1), .int p0] : List Value).toArray s = true := fun w z => hts0 w (List.mem_cons_of_mem _ z)
  have hown : s.vm.findClass RX10 = some m.cls := findClass_of_methodNamed B.named
  have hlocks := B.notSynchronized
  subst hsz
  have hD1 := hD0.self (sz := s.heap.size)
  generalize hAe : va_A (b_w cB cC cI cJ cZ oA rA Γ) s.heap.size = A at hD1 hE hX ⊢
  have hA : ∀ q : Nat, s.heap.size ≤ q → A q := fun q z => by rw [← hAe]; exact Or.inr z
  have hDD : ∀ Γ : HS, va_D A (b_w cB cC cI cJ cZ oA rA Γ) := fun Γ9 => va_D_fst (ws := (b_w cB cC cI cJ cZ oA rA Γ)) (ws' := (b_w cB cC cI cJ cZ oA rA Γ9)) rfl hD1
  have hN := hE.1
  have hS : va_S A s.heap s.heap [] := va_S.rf
  have hl := lv_entry ([.ref (oA 1), .int p0]) (n := 2) (Nat.le_of_ble_eq_true rfl)
  rw [lg_entry_eq]
  generalize (lg_sl ([.ref (oA 1), .int p0]) ++ List.replicate (2 - (lg_sl ([.ref (oA 1), .int p0])).length) Slot.unset).toArray = ls at hl ⊢
  have hl : lv_has ls 2 [(0, .ref (oA 1)), (1, .int p0)] := hl
  unfold F_X10_signAt at hF
  refine lv_iload_n hx hb dX10_signAt_0 rfl (lv_at hl 1 rfl) ?_
  refine lv_if_lt (tgt := 30) hx hb dX10_signAt_1 (by decide) (fun c_1 => ?_) (fun c_1 => ?_)
  · have hF_2 := ipos c_1 hF
    clear hF
    refine lv_iconst (v := 0) hx hb dX10_signAt_30 (by decide +kernel) ?_
    have h9 := Option.some.inj hF_2
    subst h9
    exact W.iret (v := 0) hx hb hr (fun t ht hW => ⟨⟨0, (), rfl, rfl, m_end ht hP, hDD _⟩, hS.F ht⟩) hS.2.2 dX10_signAt_31
  · have hF_3 := ineg c_1 hF
    clear hF
    refine lv_iload_n hx hb dX10_signAt_4 rfl (lv_at hl 1 rfl) ?_
    refine lv_aload_n hx hb dX10_signAt_5 rfl (lv_at hl 0 rfl) ?_
    refine va_get (D := (dC, dI)) (ci := 10) (v := .int ((Γ 1).1 1)) (C := RX10) (T := TX10) (N := 12) hx hb hts ii_X10 hown hK hP 0 rfl rfl 1 (by decide) (hts (.fieldLink RX10 47 "StoryHouse$Words" "length" "I") wq_43) (fun _ h9 => h9) rfl dX10_signAt_6 ?_
    refine lv_icmp_ge (tgt := 30) hx hb dX10_signAt_9 (by decide) (fun c_4 => ?_) (fun c_4 => ?_)
    · have hF_5 := ipos c_4 hF_3
      clear hF_3
      refine lv_iconst (v := 0) hx hb dX10_signAt_30 (by decide +kernel) ?_
      have h9 := Option.some.inj hF_5
      subst h9
      exact W.iret (v := 0) hx hb hr (fun t ht hW => ⟨⟨0, (), rfl, rfl, m_end ht hP, hDD _⟩, hS.F ht⟩) hS.2.2 dX10_signAt_31
    · have hF_6 := ineg c_4 hF_3
      clear hF_3
      refine lv_iload_n hx hb dX10_signAt_12 rfl (lv_at hl 1 rfl) ?_
      refine lv_aload_n hx hb dX10_signAt_13 rfl (lv_at hl 0 rfl) ?_
      refine va_get (D := (dC, dI)) (ci := 10) (v := .ref (rA 1 0)) (C := RX10) (T := TX10) (N := 12) hx hb hts ii_X10 hown hK hP 0 rfl rfl 0 (by decide) (hts (.fieldLink RX10 9 "StoryHouse$Words" "source" "[B") wq_41) (fun _ h9 => h9) rfl dX10_signAt_14 ?_
      refine va_alen (v := 16000) hx hb hK hP 1 0 rfl rfl (by first | rfl | decide +kernel) dX10_signAt_17 ?_
      refine lv_icmp_ge (tgt := 30) hx hb dX10_signAt_18 (by decide) (fun c_7 => ?_) (fun c_7 => ?_)
      · have hF_8 := ipos c_7 hF_6
        clear hF_6
        refine lv_iconst (v := 0) hx hb dX10_signAt_30 (by decide +kernel) ?_
        have h9 := Option.some.inj hF_8
        subst h9
        exact W.iret (v := 0) hx hb hr (fun t ht hW => ⟨⟨0, (), rfl, rfl, m_end ht hP, hDD _⟩, hS.F ht⟩) hS.2.2 dX10_signAt_31
      · have hF_9 := ineg c_7 hF_6
        clear hF_6
        refine lv_aload_n hx hb dX10_signAt_21 rfl (lv_at hl 0 rfl) ?_
        refine va_get (D := (dC, dI)) (ci := 10) (v := .ref (rA 1 0)) (C := RX10) (T := TX10) (N := 12) hx hb hts ii_X10 hown hK hP 0 rfl rfl 0 (by decide) (hts (.fieldLink RX10 9 "StoryHouse$Words" "source" "[B") wq_41) (fun _ h9 => h9) rfl dX10_signAt_22 ?_
        refine lv_iload_n hx hb dX10_signAt_25 rfl (lv_at hl 1 rfl) ?_
        obtain ⟨g_10, hF_11⟩ := nif_e hF_9
        clear hF_9
        refine va_bald (f := (Γ 1).2.1 0) hx hb hK hP 1 0 rfl rfl g_10 dX10_signAt_26 ?_
        refine lv_goto (tgt := 31) hx hb dX10_signAt_27 (by decide) ?_
        have h9 := Option.some.inj hF_11
        subst h9
        exact W.iret (v := ((Γ 1).2.1 0 p0.toNatClampNeg)) hx hb hr (fun t ht hW => ⟨⟨((Γ 1).2.1 0 p0.toNatClampNeg), (), rfl, rfl, m_end ht hP, hDD _⟩, hS.F ht⟩) hS.2.2 dX10_signAt_31
theorem dX10_name_0 : decode cX10_name 0 = .ok (.iload_n 1, 1) := by decide +kernel
theorem dX10_name_1 : decode cX10_name 1 = .ok (.istore_n 2, 1) := by decide +kernel
theorem dX10_name_2 : decode cX10_name 2 = .ok (.lconst 0, 1) := by decide +kernel
theorem dX10_name_3 : decode cX10_name 3 = .ok (.lstore_n 3, 1) := by decide +kernel
theorem dX10_name_4 : decode cX10_name 4 = .ok (.iload_n 2, 1) := by decide +kernel
theorem dX10_name_5 : decode cX10_name 5 = .ok (.aload_n 0, 1) := by decide +kernel
theorem dX10_name_6 : decode cX10_name 6 = .ok (.getfield 47, 3) := by decide +kernel
theorem dX10_name_9 : decode cX10_name 9 = .ok (.if_icmp .ge 47, 3) := by decide +kernel
theorem dX10_name_12 : decode cX10_name 12 = .ok (.aload_n 0, 1) := by decide +kernel
theorem dX10_name_13 : decode cX10_name 13 = .ok (.iload_n 2, 1) := by decide +kernel
theorem dX10_name_14 : decode cX10_name 14 = .ok (.invokevirtual 130, 3) := by decide +kernel
theorem dX10_name_17 : decode cX10_name 17 = .ok (.invokestatic 133, 3) := by decide +kernel
theorem dX10_name_20 : decode cX10_name 20 = .ok (.ifCond .ne 14, 3) := by decide +kernel
theorem dX10_name_23 : decode cX10_name 23 = .ok (.aload_n 0, 1) := by decide +kernel
theorem dX10_name_24 : decode cX10_name 24 = .ok (.iload_n 2, 1) := by decide +kernel
theorem dX10_name_25 : decode cX10_name 25 = .ok (.invokevirtual 130, 3) := by decide +kernel
theorem dX10_name_28 : decode cX10_name 28 = .ok (.invokestatic 140, 3) := by decide +kernel
theorem dX10_name_31 : decode cX10_name 31 = .ok (.ifCond .eq 25, 3) := by decide +kernel
theorem dX10_name_34 : decode cX10_name 34 = .ok (.lload_n 3, 1) := by decide +kernel
theorem dX10_name_35 : decode cX10_name 35 = .ok (.ldc2_w 152, 3) := by decide +kernel
theorem dX10_name_38 : decode cX10_name 38 = .ok (.lmul, 1) := by decide +kernel
theorem dX10_name_39 : decode cX10_name 39 = .ok (.aload_n 0, 1) := by decide +kernel
theorem dX10_name_40 : decode cX10_name 40 = .ok (.iload_n 2, 1) := by decide +kernel
theorem dX10_name_41 : decode cX10_name 41 = .ok (.invokevirtual 130, 3) := by decide +kernel
theorem dX10_name_44 : decode cX10_name 44 = .ok (.invokestatic 154, 3) := by decide +kernel
theorem dX10_name_47 : decode cX10_name 47 = .ok (.i2l, 1) := by decide +kernel
theorem dX10_name_48 : decode cX10_name 48 = .ok (.ladd, 1) := by decide +kernel
theorem dX10_name_49 : decode cX10_name 49 = .ok (.lstore_n 3, 1) := by decide +kernel
theorem dX10_name_50 : decode cX10_name 50 = .ok (.iinc 2 1, 3) := by decide +kernel
theorem dX10_name_53 : decode cX10_name 53 = .ok (.goto (-49), 3) := by decide +kernel
theorem dX10_name_56 : decode cX10_name 56 = .ok (.iload_n 2, 1) := by decide +kernel
theorem dX10_name_57 : decode cX10_name 57 = .ok (.iload_n 1, 1) := by decide +kernel
theorem dX10_name_58 : decode cX10_name 58 = .ok (.isub, 1) := by decide +kernel
theorem dX10_name_59 : decode cX10_name 59 = .ok (.bipush 12, 2) := by decide +kernel
theorem dX10_name_61 : decode cX10_name 61 = .ok (.if_icmp .le 9, 3) := by decide +kernel
theorem dX10_name_64 : decode cX10_name 64 = .ok (.aload_n 0, 1) := by decide +kernel
theorem dX10_name_65 : decode cX10_name 65 = .ok (.iload_n 1, 1) := by decide +kernel
theorem dX10_name_66 : decode cX10_name 66 = .ok (.invokevirtual 157, 3) := by decide +kernel
theorem dX10_name_69 : decode cX10_name 69 = .ok (.ireturn, 1) := by decide +kernel
theorem dX10_name_70 : decode cX10_name 70 = .ok (.iload_n 2, 1) := by decide +kernel
theorem dX10_name_71 : decode cX10_name 71 = .ok (.iload_n 1, 1) := by decide +kernel
theorem dX10_name_72 : decode cX10_name 72 = .ok (.isub, 1) := by decide +kernel
theorem dX10_name_73 : decode cX10_name 73 = .ok (.istore 5, 2) := by decide +kernel
theorem dX10_name_75 : decode cX10_name 75 = .ok (.iload 5, 2) := by decide +kernel
theorem dX10_name_77 : decode cX10_name 77 = .ok (.bipush 12, 2) := by decide +kernel
theorem dX10_name_79 : decode cX10_name 79 = .ok (.if_icmp .ge 15, 3) := by decide +kernel
theorem dX10_name_82 : decode cX10_name 82 = .ok (.lload_n 3, 1) := by decide +kernel
theorem dX10_name_83 : decode cX10_name 83 = .ok (.ldc2_w 152, 3) := by decide +kernel
theorem dX10_name_86 : decode cX10_name 86 = .ok (.lmul, 1) := by decide +kernel
theorem dX10_name_87 : decode cX10_name 87 = .ok (.lstore_n 3, 1) := by decide +kernel
theorem dX10_name_88 : decode cX10_name 88 = .ok (.iinc 5 1, 3) := by decide +kernel
theorem dX10_name_91 : decode cX10_name 91 = .ok (.goto (-16), 3) := by decide +kernel
theorem dX10_name_94 : decode cX10_name 94 = .ok (.aload_n 0, 1) := by decide +kernel
theorem dX10_name_95 : decode cX10_name 95 = .ok (.lload_n 3, 1) := by decide +kernel
theorem dX10_name_96 : decode cX10_name 96 = .ok (.invokevirtual 126, 3) := by decide +kernel
theorem dX10_name_99 : decode cX10_name 99 = .ok (.istore 5, 2) := by decide +kernel
theorem dX10_name_101 : decode cX10_name 101 = .ok (.aload_n 0, 1) := by decide +kernel
theorem dX10_name_102 : decode cX10_name 102 = .ok (.iload 5, 2) := by decide +kernel
theorem dX10_name_104 : decode cX10_name 104 = .ok (.bipush 57, 2) := by decide +kernel
theorem dX10_name_106 : decode cX10_name 106 = .ok (.if_icmp .ge 12, 3) := by decide +kernel
theorem dX10_name_109 : decode cX10_name 109 = .ok (.sipush 200, 3) := by decide +kernel
theorem dX10_name_112 : decode cX10_name 112 = .ok (.iload 5, 2) := by decide +kernel
theorem dX10_name_114 : decode cX10_name 114 = .ok (.iadd, 1) := by decide +kernel
theorem dX10_name_115 : decode cX10_name 115 = .ok (.goto 4, 3) := by decide +kernel
theorem dX10_name_118 : decode cX10_name 118 = .ok (.iconst 2, 1) := by decide +kernel
theorem dX10_name_119 : decode cX10_name 119 = .ok (.iload_n 1, 1) := by decide +kernel
theorem dX10_name_120 : decode cX10_name 120 = .ok (.iload 5, 2) := by decide +kernel
theorem dX10_name_122 : decode cX10_name 122 = .ok (.invokevirtual 93, 3) := by decide +kernel
theorem dX10_name_125 : decode cX10_name 125 = .ok (.iload_n 2, 1) := by decide +kernel
theorem dX10_name_126 : decode cX10_name 126 = .ok (.iadd, 1) := by decide +kernel
theorem dX10_name_127 : decode cX10_name 127 = .ok (.iload_n 1, 1) := by decide +kernel
theorem dX10_name_128 : decode cX10_name 128 = .ok (.isub, 1) := by decide +kernel
theorem dX10_name_129 : decode cX10_name 129 = .ok (.ireturn, 1) := by decide +kernel
def F_X10_name (p0 : Int32) (Γ : HS) : HR :=
  loopF (fun (again_2 : (Int32 × Int64 × HS) → HR) (s_1 : Int32 × Int64 × HS) => (
    bnd (fun  (σ_5 : HS) => (
      if (s_1.1 - p0) ≤ 12 then (
        bnd ((s_1.1 - p0)) fun (x_11 : Int32) =>
        loopF (fun (again_14 : (Int64 × Int32 × HS) → HR) (s_13 : Int64 × Int32 × HS) => (
          if 12 ≤ s_13.2.1 then (
            (F_X10_numberOf s_13.1 s_13.2.2).bind fun u_19 =>
            bnd (fun (t_21 : Int32) (σ_22 : HS) => (
              (F_X10_add t_21 p0 u_19.1 σ_22).bind fun u_26 =>
              some (((u_26.1 + s_1.1) - p0), u_26.2)
            ) : Int32 → HS → HR) fun j_23 =>
            if 57 ≤ u_19.1 then (
              j_23 2 u_19.2
            ) else (
              j_23 (200 + u_19.1) u_19.2
            )
          ) else (
            bnd ((s_13.1 * 37)) fun (y_32 : Int64) =>
            bnd (s_13.2.1 + 1) fun (x_34 : Int32) =>
            again_14 (y_32, x_34, s_13.2.2)
          )
        )) FU (s_1.2.1, x_11, σ_5)
      ) else (
        (F_X10_bad p0 σ_5).bind fun u_37 =>
        some (u_37.1, u_37.2)
      )
    ) : HS → HR) fun j_6 =>
    if ((s_1.2.2 1).1 1) ≤ s_1.1 then (
      j_6  s_1.2.2
    ) else (
      (F_X10_signAt s_1.1 s_1.2.2).bind fun u_42 =>
      (F_X11_isLetter u_42.1 u_42.2).bind fun u_44 =>
      bnd (fun  (σ_46 : HS) => (
        (F_X10_signAt s_1.1 σ_46).bind fun u_50 =>
        (F_X11_nameSign u_50.1 u_50.2).bind fun u_52 =>
        bnd (((s_1.2.1 * 37) + u_52.1.toInt64)) fun (y_54 : Int64) =>
        bnd (s_1.1 + 1) fun (x_56 : Int32) =>
        again_2 (x_56, y_54, u_50.2)
      ) : HS → HR) fun j_47 =>
      if u_44.1 = 0 then (
        (F_X10_signAt s_1.1 u_42.2).bind fun u_60 =>
        (F_X11_isFigure u_60.1 u_60.2).bind fun u_62 =>
        if u_62.1 = 0 then (
          j_6  u_60.2
        ) else (
          j_47  u_60.2
        )
      ) else (
        j_47  u_42.2
      )
    )
  )) FU (p0, 0, Γ)
set_option maxHeartbeats 4000000 in
set_option maxRecDepth 100000 in
theorem k_X10_name (l : Launch) (dC : Nat → ClassId) (dI : Nat → Nat → Nat) (cB cC cI cJ cZ cP : ClassId) (oA : Nat → Nat) (rA : Nat → Nat → Nat) (sz : Nat)  (p0 : Int32) (Γ : HS) (res : Int32 × HS) (hF : F_X10_name p0 Γ = some res) : Met l yX10_name (g_ws yX10_name cX10_name 6 (some .int)) ({ frames := 5, cells := 0, slots := 0, locals := 131 }) (va_Pc [.ref (oA 1), .int p0] (g_B (dC, dI) [(cB, .byte), (cC, .char), (cI, .int), (cJ, .long), (cZ, .boolean), (cP, .object "StoryHouse$Play")] sz (b_w cB cC cI cJ cZ oA rA Γ) g_0)) (va_Qi (fun r (_ : Unit) => r = res.1) (g_Bo (dC, dI) (va_A (b_w cB cC cI cJ cZ oA rA Γ) sz) (fun (_ : Unit) => (b_w cB cC cI cJ cZ oA rA res.2))) (va_A (b_w cB cC cI cJ cZ oA rA Γ) sz)) 0 0 (va_A (b_w cB cC cI cJ cZ oA rA Γ) sz) := by
  refine Met.ofW (cc := cX10_name) (maxL := 6) (ret := (some .int)) (by decide) rfl ?_
  intro p e s m args below meth c s₁ B hml hv
  obtain ⟨rfl, hsz, hP, hK, hD0, hE, hX⟩ := hv
  have hx := B.exec
  have hb := B.bytes
  have hr := B.returns
  have hts0 := atoms_spec (ws := g_ws yX10_name cX10_name 6 (some .int)) B.pre
  have hts : ∀ w ∈ lw_good, w.before ([.ref (oA 1), .int p0] : List Value).toArray s = true := fun w z => hts0 w (List.mem_cons_of_mem _ z)
  have hown : s.vm.findClass RX10 = some m.cls := findClass_of_methodNamed B.named
  have hlocks := B.notSynchronized
  subst hsz
  have hD1 := hD0.self (sz := s.heap.size)
  generalize hAe : va_A (b_w cB cC cI cJ cZ oA rA Γ) s.heap.size = A at hD1 hE hX ⊢
  have hA : ∀ q : Nat, s.heap.size ≤ q → A q := fun q z => by rw [← hAe]; exact Or.inr z
  have hDD : ∀ Γ : HS, va_D A (b_w cB cC cI cJ cZ oA rA Γ) := fun Γ9 => va_D_fst (ws := (b_w cB cC cI cJ cZ oA rA Γ)) (ws' := (b_w cB cC cI cJ cZ oA rA Γ9)) rfl hD1
  have hN := hE.1
  have hS : va_S A s.heap s.heap [] := va_S.rf
  have hl := lv_entry ([.ref (oA 1), .int p0]) (n := 6) (Nat.le_of_ble_eq_true rfl)
  rw [lg_entry_eq]
  generalize (lg_sl ([.ref (oA 1), .int p0]) ++ List.replicate (6 - (lg_sl ([.ref (oA 1), .int p0])).length) Slot.unset).toArray = ls at hl ⊢
  have hl : lv_has ls 6 [(0, .ref (oA 1)), (1, .int p0)] := hl
  unfold F_X10_name at hF
  refine lv_iload_n hx hb dX10_name_0 rfl (lv_at hl 1 rfl) ?_
  refine lv_istore_n (lv' := [(2, .int p0), (0, .ref (oA 1)), (1, .int p0)]) hx hb dX10_name_1 rfl hl (by decide) rfl (fun ls hl => ?_)
  refine lv_lconst (v := 0) hx hb dX10_name_2 (by decide +kernel) ?_
  refine lv_lstore_n (lv' := [(3, .long 0), (2, .int p0), (0, .ref (oA 1)), (1, .int p0)]) hx hb dX10_name_3 rfl hl (by decide) rfl (fun ls hl => ?_)
  refine loopF_ind (P := fun (s_1 : Int32 × Int64 × HS) => ∀ (H : Heap) (locs : List Loc), va_P (dC, dI) vwCl (b_w cB cC cI cJ cZ oA rA s_1.2.2) H → va_S A s.heap H locs → ∀ ls : Array Slot, lv_has ls 6 [(0, .ref (oA 1)), (1, .int p0), (2, .int s_1.1), (3, .long s_1.2.1)] → W p l e (headSpec (g_ws yX10_name cX10_name 6 (some .int)) { frames := 5, cells := 0, slots := 0, locals := 131 }).room s m ([.ref (oA 1), .int p0] : List Value).toArray below meth c H locs 0 0 (MQ below (va_Qi (fun r (_ : Unit) => r = res.1) (g_Bo (dC, dI) A (fun (_ : Unit) => (b_w cB cC cI cJ cZ oA rA res.2))) A) ([.ref (oA 1), .int p0] : List Value).toArray s 0 0 A) (F0 m 4 ls [])) ?_ _ _ hF _ _ hP hS ls (lv_sub hl [2, 3, 1, 0] rfl)
  intro again_2 s_1 ih_3 hF_4
  intro H locs hP hS ls hl
  refine lv_iload_n hx hb dX10_name_4 rfl (lv_at hl 2 rfl) ?_
  refine lv_aload_n hx hb dX10_name_5 rfl (lv_at hl 0 rfl) ?_
  refine va_get (D := (dC, dI)) (ci := 10) (v := .int ((s_1.2.2 1).1 1)) (C := RX10) (T := TX10) (N := 12) hx hb hts ii_X10 hown hK hP 0 rfl rfl 1 (by decide) (hts (.fieldLink RX10 47 "StoryHouse$Words" "length" "I") wq_43) (fun _ h9 => h9) rfl dX10_name_6 ?_
  obtain ⟨j_6, ej_6, hF_7⟩ := bnd_e hF_4
  clear hF_4
  have Jj_6 : ∀  (σ_5 : HS), j_6  σ_5 = some res → ∀ (H : Heap) (locs : List Loc), va_P (dC, dI) vwCl (b_w cB cC cI cJ cZ oA rA σ_5) H → va_S A s.heap H locs → ∀ ls : Array Slot, lv_has ls 6 [(0, .ref (oA 1)), (1, .int p0), (2, .int s_1.1), (3, .long s_1.2.1)] → W p l e (headSpec (g_ws yX10_name cX10_name 6 (some .int)) { frames := 5, cells := 0, slots := 0, locals := 131 }).room s m ([.ref (oA 1), .int p0] : List Value).toArray below meth c H locs 0 0 (MQ below (va_Qi (fun r (_ : Unit) => r = res.1) (g_Bo (dC, dI) A (fun (_ : Unit) => (b_w cB cC cI cJ cZ oA rA res.2))) A) ([.ref (oA 1), .int p0] : List Value).toArray s 0 0 A) (F0 m 56 ls []) := by
    intro  σ_5 hF0 H locs hP hS ls hl
    subst ej_6
    have hF_8 := hF0
    clear hF0
    refine lv_iload_n hx hb dX10_name_56 rfl (lv_at hl 2 rfl) ?_
    refine lv_iload_n hx hb dX10_name_57 rfl (lv_at hl 1 rfl) ?_
    refine lv_isub hx hb dX10_name_58 ?_
    refine lv_bipush (v := 12) hx hb dX10_name_59 (by decide +kernel) ?_
    refine lv_icmp_le (tgt := 70) hx hb dX10_name_61 (by decide) (fun c_9 => ?_) (fun c_9 => ?_)
    · have hF_10 := ipos c_9 hF_8
      clear hF_8
      refine lv_iload_n hx hb dX10_name_70 rfl (lv_at hl 2 rfl) ?_
      refine lv_iload_n hx hb dX10_name_71 rfl (lv_at hl 1 rfl) ?_
      refine lv_isub hx hb dX10_name_72 ?_
      obtain ⟨x_11, ex_11, hF_12⟩ := bnd_e hF_10
      clear hF_10
      refine m_top ex_11 ?_
      refine lv_istore (lv' := [(5, .int x_11), (0, .ref (oA 1)), (1, .int p0), (2, .int s_1.1), (3, .long s_1.2.1)]) hx hb dX10_name_73 hl (by decide) rfl (fun ls hl => ?_)
      refine loopF_ind (P := fun (s_13 : Int64 × Int32 × HS) => ∀ (H : Heap) (locs : List Loc), va_P (dC, dI) vwCl (b_w cB cC cI cJ cZ oA rA s_13.2.2) H → va_S A s.heap H locs → ∀ ls : Array Slot, lv_has ls 6 [(0, .ref (oA 1)), (1, .int p0), (2, .int s_1.1), (3, .long s_13.1), (5, .int s_13.2.1)] → W p l e (headSpec (g_ws yX10_name cX10_name 6 (some .int)) { frames := 5, cells := 0, slots := 0, locals := 131 }).room s m ([.ref (oA 1), .int p0] : List Value).toArray below meth c H locs 0 0 (MQ below (va_Qi (fun r (_ : Unit) => r = res.1) (g_Bo (dC, dI) A (fun (_ : Unit) => (b_w cB cC cI cJ cZ oA rA res.2))) A) ([.ref (oA 1), .int p0] : List Value).toArray s 0 0 A) (F0 m 75 ls [])) ?_ _ _ hF_12 _ _ hP hS ls (lv_sub hl [1, 2, 3, 4, 0] rfl)
      intro again_14 s_13 ih_15 hF_16
      intro H locs hP hS ls hl
      refine lv_iload hx hb dX10_name_75 (lv_at hl 4 rfl) ?_
      refine lv_bipush (v := 12) hx hb dX10_name_77 (by decide +kernel) ?_
      refine lv_icmp_ge (tgt := 94) hx hb dX10_name_79 (by decide) (fun c_17 => ?_) (fun c_17 => ?_)
      · have hF_18 := ipos c_17 hF_16
        clear hF_16
        refine lv_aload_n hx hb dX10_name_94 rfl (lv_at hl 0 rfl) ?_
        refine lv_lload_n hx hb dX10_name_95 rfl (lv_at hl 3 rfl) ?_
        obtain ⟨u_19, hu_19, hF_20⟩ := Option.bind_eq_some_iff.mp hF_18
        clear hF_18
        have hPc := bx_P (bs := [b_w cB cC cI cJ cZ oA rA s_13.2.2]) (bs' := [b_w cB cC cI cJ cZ oA rA s_13.2.2]) (ws' := (b_w cB cC cI cJ cZ oA rA s_13.2.2)) hP fl_1 fl_1 [0] rfl
        have hDc := bx_D (bs := [b_w cB cC cI cJ cZ oA rA s_13.2.2]) (bs' := [b_w cB cC cI cJ cZ oA rA s_13.2.2]) (ws' := (b_w cB cC cI cJ cZ oA rA s_13.2.2)) (hDD s_13.2.2) fl_1 fl_1 [0] (by decide +kernel) rfl
        have hFc := bx_F (bs := [b_w cB cC cI cJ cZ oA rA s_13.2.2]) (bs' := [b_w cB cC cI cJ cZ oA rA s_13.2.2]) (wc := (b_w cB cC cI cJ cZ oA rA s_13.2.2)) (hDD s_13.2.2) hS hA fl_1 fl_1 [0] rfl
        refine g_ofi (wc := (b_w cB cC cI cJ cZ oA rA s_13.2.2)) (wr := ([] : va_W)) hP (hDD s_13.2.2) hS hFc (bx_ix [b_w cB cC cI cJ cZ oA rA s_13.2.2] [0]) (bx_ix [b_w cB cC cI cJ cZ oA rA s_13.2.2] []) (bx_C (bs := [b_w cB cC cI cJ cZ oA rA s_13.2.2]) (bs' := [b_w cB cC cI cJ cZ oA rA s_13.2.2]) (is := [0]) fl_1 fl_1 rfl) (bx_C (bs := [b_w cB cC cI cJ cZ oA rA s_13.2.2]) (bs' := []) (is := []) fl_1 fl_0 rfl) (bx_n (by decide +kernel)) (bx_d (by decide +kernel)) (va_runV (As := [.long s_13.1]) (rest := []) ⟨hx, hb, hml, hown, hts⟩ (k_X10_numberOf l dC dI cB cC cI cJ cZ cP oA rA H.size  s_13.1 s_13.2.2 _ hu_19) (cwV 1 hts (g_gV wq_401 wq_402 wq_403 wq_2 wq_404) rfl rfl rfl (by decide +kernel) ⟨Nat.le_of_ble_eq_true rfl, Nat.le_of_ble_eq_true rfl⟩) (g_preV g_bl0 hK hPc hDc hS hE hFc g_to0 (q0 := 0) (ci := 10) rfl rfl) rfl rfl hl.1 rfl (lv_room (Nat.le_of_ble_eq_true rfl)) dX10_name_96 ⟨Nat.le_of_ble_eq_true rfl, Nat.le_of_ble_eq_true rfl⟩) (fun r9 u9 H locs hw9 hP' hD' hS => ?_)
        clear hPc hDc hFc
        subst hw9
        have hP : va_P (dC, dI) vwCl (b_w cB cC cI cJ cZ oA rA u_19.2) H := hP'
        clear hP' hD'
        refine lv_istore (lv' := [(5, .int u_19.1), (0, .ref (oA 1)), (1, .int p0), (2, .int s_1.1), (3, .long s_13.1)]) hx hb dX10_name_99 hl (by decide) rfl (fun ls hl => ?_)
        refine lv_aload_n hx hb dX10_name_101 rfl (lv_at hl 1 rfl) ?_
        refine lv_iload hx hb dX10_name_102 (lv_at hl 0 rfl) ?_
        refine lv_bipush (v := 57) hx hb dX10_name_104 (by decide +kernel) ?_
        obtain ⟨j_23, ej_23, hF_24⟩ := bnd_e hF_20
        clear hF_20
        have Jj_23 : ∀ (t_21 : Int32) (σ_22 : HS), j_23 t_21 σ_22 = some res → ∀ (H : Heap) (locs : List Loc), va_P (dC, dI) vwCl (b_w cB cC cI cJ cZ oA rA σ_22) H → va_S A s.heap H locs → ∀ ls : Array Slot, lv_has ls 6 [(1, .int p0), (2, .int s_1.1), (5, .int u_19.1)] → W p l e (headSpec (g_ws yX10_name cX10_name 6 (some .int)) { frames := 5, cells := 0, slots := 0, locals := 131 }).room s m ([.ref (oA 1), .int p0] : List Value).toArray below meth c H locs 0 0 (MQ below (va_Qi (fun r (_ : Unit) => r = res.1) (g_Bo (dC, dI) A (fun (_ : Unit) => (b_w cB cC cI cJ cZ oA rA res.2))) A) ([.ref (oA 1), .int p0] : List Value).toArray s 0 0 A) (F0 m 119 ls [.int t_21, .ref (oA 1)]) := by
          intro t_21 σ_22 hF0 H locs hP hS ls hl
          subst ej_23
          have hF_25 := hF0
          clear hF0
          refine lv_iload_n hx hb dX10_name_119 rfl (lv_at hl 0 rfl) ?_
          refine lv_iload hx hb dX10_name_120 (lv_at hl 2 rfl) ?_
          obtain ⟨u_26, hu_26, hF_27⟩ := Option.bind_eq_some_iff.mp hF_25
          clear hF_25
          have hPc := bx_P (bs := [b_w cB cC cI cJ cZ oA rA σ_22]) (bs' := [b_w cB cC cI cJ cZ oA rA σ_22]) (ws' := (b_w cB cC cI cJ cZ oA rA σ_22)) hP fl_1 fl_1 [0] rfl
          have hDc := bx_D (bs := [b_w cB cC cI cJ cZ oA rA σ_22]) (bs' := [b_w cB cC cI cJ cZ oA rA σ_22]) (ws' := (b_w cB cC cI cJ cZ oA rA σ_22)) (hDD σ_22) fl_1 fl_1 [0] (by decide +kernel) rfl
          have hFc := bx_F (bs := [b_w cB cC cI cJ cZ oA rA σ_22]) (bs' := [b_w cB cC cI cJ cZ oA rA σ_22]) (wc := (b_w cB cC cI cJ cZ oA rA σ_22)) (hDD σ_22) hS hA fl_1 fl_1 [0] rfl
          refine g_ofi (wc := (b_w cB cC cI cJ cZ oA rA σ_22)) (wr := ([] : va_W)) hP (hDD σ_22) hS hFc (bx_ix [b_w cB cC cI cJ cZ oA rA σ_22] [0]) (bx_ix [b_w cB cC cI cJ cZ oA rA σ_22] []) (bx_C (bs := [b_w cB cC cI cJ cZ oA rA σ_22]) (bs' := [b_w cB cC cI cJ cZ oA rA σ_22]) (is := [0]) fl_1 fl_1 rfl) (bx_C (bs := [b_w cB cC cI cJ cZ oA rA σ_22]) (bs' := []) (is := []) fl_1 fl_0 rfl) (bx_n (by decide +kernel)) (bx_d (by decide +kernel)) (va_runV (As := [.int t_21, .int p0, .int u_19.1]) (rest := []) ⟨hx, hb, hml, hown, hts⟩ (k_X10_add l dC dI cB cC cI cJ cZ cP oA rA H.size  t_21 p0 u_19.1 σ_22 _ hu_26) (cwV 3 hts (g_gV wq_431 wq_432 wq_1986 wq_2 wq_433) rfl rfl rfl (by decide +kernel) ⟨Nat.le_of_ble_eq_true rfl, Nat.le_of_ble_eq_true rfl⟩) (g_preV g_bl0 hK hPc hDc hS hE hFc g_to0 (q0 := 0) (ci := 10) rfl rfl) rfl rfl hl.1 rfl (lv_room (Nat.le_of_ble_eq_true rfl)) dX10_name_122 ⟨Nat.le_of_ble_eq_true rfl, Nat.le_of_ble_eq_true rfl⟩) (fun r9 u9 H locs hw9 hP' hD' hS => ?_)
          clear hPc hDc hFc
          subst hw9
          have hP : va_P (dC, dI) vwCl (b_w cB cC cI cJ cZ oA rA u_26.2) H := hP'
          clear hP' hD'
          refine lv_iload_n hx hb dX10_name_125 rfl (lv_at hl 1 rfl) ?_
          refine lv_iadd hx hb dX10_name_126 ?_
          refine lv_iload_n hx hb dX10_name_127 rfl (lv_at hl 0 rfl) ?_
          refine lv_isub hx hb dX10_name_128 ?_
          have h9 := Option.some.inj hF_27
          subst h9
          exact W.iret (v := ((u_26.1 + s_1.1) - p0)) hx hb hr (fun t ht hW => ⟨⟨((u_26.1 + s_1.1) - p0), (), rfl, rfl, m_end ht hP, hDD _⟩, hS.F ht⟩) hS.2.2 dX10_name_129
        refine lv_icmp_ge (tgt := 118) hx hb dX10_name_106 (by decide) (fun c_28 => ?_) (fun c_28 => ?_)
        · have hF_29 := ipos c_28 hF_24
          clear hF_24
          refine lv_iconst (v := 2) hx hb dX10_name_118 (by decide +kernel) ?_
          exact Jj_23 2 u_19.2 hF_29 _ _ hP hS ls (lv_sub hl [2, 3, 0] rfl)
        · have hF_30 := ineg c_28 hF_24
          clear hF_24
          refine lv_sipush (v := 200) hx hb dX10_name_109 (by decide +kernel) ?_
          refine lv_iload hx hb dX10_name_112 (lv_at hl 0 rfl) ?_
          refine lv_iadd hx hb dX10_name_114 ?_
          refine lv_goto (tgt := 119) hx hb dX10_name_115 (by decide) ?_
          exact Jj_23 (200 + u_19.1) u_19.2 hF_30 _ _ hP hS ls (lv_sub hl [2, 3, 0] rfl)
      · have hF_31 := ineg c_17 hF_16
        clear hF_16
        refine lv_lload_n hx hb dX10_name_82 rfl (lv_at hl 3 rfl) ?_
        refine lv_ldc2 (v := 37) hx hb hown (hts (.constantLong RX10 152 (37)) wq_427) dX10_name_83 ?_
        refine lv_lmul hx hb dX10_name_86 ?_
        obtain ⟨y_32, ey_32, hF_33⟩ := bnd_e hF_31
        clear hF_31
        refine c_topl ey_32 ?_
        refine lv_lstore_n (lv' := [(3, .long y_32), (0, .ref (oA 1)), (1, .int p0), (2, .int s_1.1), (5, .int s_13.2.1)]) hx hb dX10_name_87 rfl hl (by decide) rfl (fun ls hl => ?_)
        obtain ⟨x_34, ex_34, hF_35⟩ := bnd_e hF_33
        clear hF_33
        refine lv_iinc (v := x_34) (lv' := [(5, .int x_34), (3, .long y_32), (0, .ref (oA 1)), (1, .int p0), (2, .int s_1.1)]) hx hb dX10_name_88 hl (k := 4) rfl (by rw [ex_34]; rfl) (by decide) rfl (fun ls hl => ?_)
        refine lv_goto (tgt := 75) hx hb dX10_name_91 (by decide) ?_
        exact ih_15 (y_32, x_34, s_13.2.2) hF_35 _ _ hP hS ls (lv_sub hl [2, 3, 4, 1, 0] rfl)
    · have hF_36 := ineg c_9 hF_8
      clear hF_8
      refine lv_aload_n hx hb dX10_name_64 rfl (lv_at hl 0 rfl) ?_
      refine lv_iload_n hx hb dX10_name_65 rfl (lv_at hl 1 rfl) ?_
      obtain ⟨u_37, hu_37, hF_38⟩ := Option.bind_eq_some_iff.mp hF_36
      clear hF_36
      have hPc := bx_P (bs := [b_w cB cC cI cJ cZ oA rA σ_5]) (bs' := [b_w cB cC cI cJ cZ oA rA σ_5]) (ws' := (b_w cB cC cI cJ cZ oA rA σ_5)) hP fl_1 fl_1 [0] rfl
      have hDc := bx_D (bs := [b_w cB cC cI cJ cZ oA rA σ_5]) (bs' := [b_w cB cC cI cJ cZ oA rA σ_5]) (ws' := (b_w cB cC cI cJ cZ oA rA σ_5)) (hDD σ_5) fl_1 fl_1 [0] (by decide +kernel) rfl
      have hFc := bx_F (bs := [b_w cB cC cI cJ cZ oA rA σ_5]) (bs' := [b_w cB cC cI cJ cZ oA rA σ_5]) (wc := (b_w cB cC cI cJ cZ oA rA σ_5)) (hDD σ_5) hS hA fl_1 fl_1 [0] rfl
      refine g_ofi (wc := (b_w cB cC cI cJ cZ oA rA σ_5)) (wr := ([] : va_W)) hP (hDD σ_5) hS hFc (bx_ix [b_w cB cC cI cJ cZ oA rA σ_5] [0]) (bx_ix [b_w cB cC cI cJ cZ oA rA σ_5] []) (bx_C (bs := [b_w cB cC cI cJ cZ oA rA σ_5]) (bs' := [b_w cB cC cI cJ cZ oA rA σ_5]) (is := [0]) fl_1 fl_1 rfl) (bx_C (bs := [b_w cB cC cI cJ cZ oA rA σ_5]) (bs' := []) (is := []) fl_1 fl_0 rfl) (bx_n (by decide +kernel)) (bx_d (by decide +kernel)) (va_runV (As := [.int p0]) (rest := []) ⟨hx, hb, hml, hown, hts⟩ (k_X10_bad l dC dI cB cC cI cJ cZ cP oA rA H.size  p0 σ_5 _ hu_37) (cwV 1 hts (g_gV wq_428 wq_429 wq_1985 wq_2 wq_430) rfl rfl rfl (by decide +kernel) ⟨Nat.le_of_ble_eq_true rfl, Nat.le_of_ble_eq_true rfl⟩) (g_preV g_bl0 hK hPc hDc hS hE hFc g_to0 (q0 := 0) (ci := 10) rfl rfl) rfl rfl hl.1 rfl (lv_room (Nat.le_of_ble_eq_true rfl)) dX10_name_66 ⟨Nat.le_of_ble_eq_true rfl, Nat.le_of_ble_eq_true rfl⟩) (fun r9 u9 H locs hw9 hP' hD' hS => ?_)
      clear hPc hDc hFc
      subst hw9
      have hP : va_P (dC, dI) vwCl (b_w cB cC cI cJ cZ oA rA u_37.2) H := hP'
      clear hP' hD'
      have h9 := Option.some.inj hF_38
      subst h9
      exact W.iret (v := u_37.1) hx hb hr (fun t ht hW => ⟨⟨u_37.1, (), rfl, rfl, m_end ht hP, hDD _⟩, hS.F ht⟩) hS.2.2 dX10_name_69
  refine lv_icmp_ge (tgt := 56) hx hb dX10_name_9 (by decide) (fun c_39 => ?_) (fun c_39 => ?_)
  · have hF_40 := ipos c_39 hF_7
    clear hF_7
    exact Jj_6  s_1.2.2 hF_40 _ _ hP hS ls (lv_sub hl [0, 1, 2, 3] rfl)
  · have hF_41 := ineg c_39 hF_7
    clear hF_7
    refine lv_aload_n hx hb dX10_name_12 rfl (lv_at hl 0 rfl) ?_
    refine lv_iload_n hx hb dX10_name_13 rfl (lv_at hl 2 rfl) ?_
    obtain ⟨u_42, hu_42, hF_43⟩ := Option.bind_eq_some_iff.mp hF_41
    clear hF_41
    have hPc := bx_P (bs := [b_w cB cC cI cJ cZ oA rA s_1.2.2]) (bs' := [b_w cB cC cI cJ cZ oA rA s_1.2.2]) (ws' := (b_w cB cC cI cJ cZ oA rA s_1.2.2)) hP fl_1 fl_1 [0] rfl
    have hDc := bx_D (bs := [b_w cB cC cI cJ cZ oA rA s_1.2.2]) (bs' := [b_w cB cC cI cJ cZ oA rA s_1.2.2]) (ws' := (b_w cB cC cI cJ cZ oA rA s_1.2.2)) (hDD s_1.2.2) fl_1 fl_1 [0] (by decide +kernel) rfl
    have hFc := bx_F (bs := [b_w cB cC cI cJ cZ oA rA s_1.2.2]) (bs' := [b_w cB cC cI cJ cZ oA rA s_1.2.2]) (wc := (b_w cB cC cI cJ cZ oA rA s_1.2.2)) (hDD s_1.2.2) hS hA fl_1 fl_1 [0] rfl
    refine g_ofi (wc := (b_w cB cC cI cJ cZ oA rA s_1.2.2)) (wr := ([] : va_W)) hP (hDD s_1.2.2) hS hFc (bx_ix [b_w cB cC cI cJ cZ oA rA s_1.2.2] [0]) (bx_ix [b_w cB cC cI cJ cZ oA rA s_1.2.2] []) (bx_C (bs := [b_w cB cC cI cJ cZ oA rA s_1.2.2]) (bs' := [b_w cB cC cI cJ cZ oA rA s_1.2.2]) (is := [0]) fl_1 fl_1 rfl) (bx_C (bs := [b_w cB cC cI cJ cZ oA rA s_1.2.2]) (bs' := []) (is := []) fl_1 fl_0 rfl) (bx_n (by decide +kernel)) (bx_d (by decide +kernel)) (va_runV (As := [.int s_1.1]) (rest := []) ⟨hx, hb, hml, hown, hts⟩ (k_X10_signAt l dC dI cB cC cI cJ cZ cP oA rA H.size  s_1.1 s_1.2.2 _ hu_42) (cwV 1 hts (g_gV wq_419 wq_420 wq_1983 wq_2 wq_421) rfl rfl rfl (by decide +kernel) ⟨Nat.le_of_ble_eq_true rfl, Nat.le_of_ble_eq_true rfl⟩) (g_preV g_bl0 hK hPc hDc hS hE hFc g_to0 (q0 := 0) (ci := 10) rfl rfl) rfl rfl hl.1 rfl (lv_room (Nat.le_of_ble_eq_true rfl)) dX10_name_14 ⟨Nat.le_of_ble_eq_true rfl, Nat.le_of_ble_eq_true rfl⟩) (fun r9 u9 H locs hw9 hP' hD' hS => ?_)
    clear hPc hDc hFc
    subst hw9
    have hP : va_P (dC, dI) vwCl (b_w cB cC cI cJ cZ oA rA u_42.2) H := hP'
    clear hP' hD'
    obtain ⟨u_44, hu_44, hF_45⟩ := Option.bind_eq_some_iff.mp hF_43
    clear hF_43
    have hPc : va_P (dC, dI) vwCl [] H := fun k q z => by simp at z
    have hDc : va_D A [] := ⟨fun i j p q z => by simp at z, fun k q z => by simp at z⟩
    have hFc := c_nil hA hS
    refine c_cs (v := u_44.1) hA hP hS (va_runSN (As := [.int u_42.1]) (rest := []) ⟨hx, hb, hml, hown, hts⟩ (k_X11_isLetter l dC dI cB cC cI cJ cZ cP oA rA H.size  u_42.1 u_42.2 _ hu_44) ⟨va_cnB 1 hts (g_gA wq_400) rfl rfl rfl (nw_11 hN) (hts (.initialized RX11) wq_1) (by decide +kernel) ⟨Nat.le_of_ble_eq_true rfl, Nat.le_of_ble_eq_true rfl⟩, (hts (.static yX11_isLetter) wq_399), trivial⟩ (g_preS g_bl0 hK hPc hDc hS hE hFc g_to0) rfl rfl hl.1 rfl (lv_room (Nat.le_of_ble_eq_true rfl)) dX10_name_17 ⟨Nat.le_of_ble_eq_true rfl, Nat.le_of_ble_eq_true rfl⟩) (fun H locs hP hS => ?_)
    clear hPc hDc hFc
    obtain ⟨j_47, ej_47, hF_48⟩ := bnd_e hF_45
    clear hF_45
    have Jj_47 : ∀  (σ_46 : HS), j_47  σ_46 = some res → ∀ (H : Heap) (locs : List Loc), va_P (dC, dI) vwCl (b_w cB cC cI cJ cZ oA rA σ_46) H → va_S A s.heap H locs → ∀ ls : Array Slot, lv_has ls 6 [(0, .ref (oA 1)), (1, .int p0), (2, .int s_1.1), (3, .long s_1.2.1)] → W p l e (headSpec (g_ws yX10_name cX10_name 6 (some .int)) { frames := 5, cells := 0, slots := 0, locals := 131 }).room s m ([.ref (oA 1), .int p0] : List Value).toArray below meth c H locs 0 0 (MQ below (va_Qi (fun r (_ : Unit) => r = res.1) (g_Bo (dC, dI) A (fun (_ : Unit) => (b_w cB cC cI cJ cZ oA rA res.2))) A) ([.ref (oA 1), .int p0] : List Value).toArray s 0 0 A) (F0 m 34 ls []) := by
      intro  σ_46 hF0 H locs hP hS ls hl
      subst ej_47
      have hF_49 := hF0
      clear hF0
      refine lv_lload_n hx hb dX10_name_34 rfl (lv_at hl 3 rfl) ?_
      refine lv_ldc2 (v := 37) hx hb hown (hts (.constantLong RX10 152 (37)) wq_427) dX10_name_35 ?_
      refine lv_lmul hx hb dX10_name_38 ?_
      refine lv_aload_n hx hb dX10_name_39 rfl (lv_at hl 0 rfl) ?_
      refine lv_iload_n hx hb dX10_name_40 rfl (lv_at hl 2 rfl) ?_
      obtain ⟨u_50, hu_50, hF_51⟩ := Option.bind_eq_some_iff.mp hF_49
      clear hF_49
      have hPc := bx_P (bs := [b_w cB cC cI cJ cZ oA rA σ_46]) (bs' := [b_w cB cC cI cJ cZ oA rA σ_46]) (ws' := (b_w cB cC cI cJ cZ oA rA σ_46)) hP fl_1 fl_1 [0] rfl
      have hDc := bx_D (bs := [b_w cB cC cI cJ cZ oA rA σ_46]) (bs' := [b_w cB cC cI cJ cZ oA rA σ_46]) (ws' := (b_w cB cC cI cJ cZ oA rA σ_46)) (hDD σ_46) fl_1 fl_1 [0] (by decide +kernel) rfl
      have hFc := bx_F (bs := [b_w cB cC cI cJ cZ oA rA σ_46]) (bs' := [b_w cB cC cI cJ cZ oA rA σ_46]) (wc := (b_w cB cC cI cJ cZ oA rA σ_46)) (hDD σ_46) hS hA fl_1 fl_1 [0] rfl
      refine g_ofi (wc := (b_w cB cC cI cJ cZ oA rA σ_46)) (wr := ([] : va_W)) hP (hDD σ_46) hS hFc (bx_ix [b_w cB cC cI cJ cZ oA rA σ_46] [0]) (bx_ix [b_w cB cC cI cJ cZ oA rA σ_46] []) (bx_C (bs := [b_w cB cC cI cJ cZ oA rA σ_46]) (bs' := [b_w cB cC cI cJ cZ oA rA σ_46]) (is := [0]) fl_1 fl_1 rfl) (bx_C (bs := [b_w cB cC cI cJ cZ oA rA σ_46]) (bs' := []) (is := []) fl_1 fl_0 rfl) (bx_n (by decide +kernel)) (bx_d (by decide +kernel)) (va_runV (As := [.int s_1.1]) (rest := [.long (s_1.2.1 * 37)]) ⟨hx, hb, hml, hown, hts⟩ (k_X10_signAt l dC dI cB cC cI cJ cZ cP oA rA H.size  s_1.1 σ_46 _ hu_50) (cwV 1 hts (g_gV wq_419 wq_420 wq_1983 wq_2 wq_421) rfl rfl rfl (by decide +kernel) ⟨Nat.le_of_ble_eq_true rfl, Nat.le_of_ble_eq_true rfl⟩) (g_preV g_bl0 hK hPc hDc hS hE hFc g_to0 (q0 := 0) (ci := 10) rfl rfl) rfl rfl hl.1 rfl (lv_room (Nat.le_of_ble_eq_true rfl)) dX10_name_41 ⟨Nat.le_of_ble_eq_true rfl, Nat.le_of_ble_eq_true rfl⟩) (fun r9 u9 H locs hw9 hP' hD' hS => ?_)
      clear hPc hDc hFc
      subst hw9
      have hP : va_P (dC, dI) vwCl (b_w cB cC cI cJ cZ oA rA u_50.2) H := hP'
      clear hP' hD'
      obtain ⟨u_52, hu_52, hF_53⟩ := Option.bind_eq_some_iff.mp hF_51
      clear hF_51
      have hPc : va_P (dC, dI) vwCl [] H := fun k q z => by simp at z
      have hDc : va_D A [] := ⟨fun i j p q z => by simp at z, fun k q z => by simp at z⟩
      have hFc := c_nil hA hS
      refine c_cs (v := u_52.1) hA hP hS (va_runSN (As := [.int u_50.1]) (rest := [.long (s_1.2.1 * 37)]) ⟨hx, hb, hml, hown, hts⟩ (k_X11_nameSign l dC dI cB cC cI cJ cZ cP oA rA H.size  u_50.1 u_50.2 _ hu_52) ⟨va_cnB 1 hts (g_gA wq_397) rfl rfl rfl (nw_13 hN) (hts (.initialized RX11) wq_1) (by decide +kernel) ⟨Nat.le_of_ble_eq_true rfl, Nat.le_of_ble_eq_true rfl⟩, (hts (.static yX11_nameSign) wq_396), trivial⟩ (g_preS g_bl0 hK hPc hDc hS hE hFc g_to0) rfl rfl hl.1 rfl (lv_room (Nat.le_of_ble_eq_true rfl)) dX10_name_44 ⟨Nat.le_of_ble_eq_true rfl, Nat.le_of_ble_eq_true rfl⟩) (fun H locs hP hS => ?_)
      clear hPc hDc hFc
      refine lv_i2l hx hb dX10_name_47 rfl ?_
      refine lv_ladd hx hb dX10_name_48 ?_
      obtain ⟨y_54, ey_54, hF_55⟩ := bnd_e hF_53
      clear hF_53
      refine c_topl ey_54 ?_
      refine lv_lstore_n (lv' := [(3, .long y_54), (0, .ref (oA 1)), (1, .int p0), (2, .int s_1.1)]) hx hb dX10_name_49 rfl hl (by decide) rfl (fun ls hl => ?_)
      obtain ⟨x_56, ex_56, hF_57⟩ := bnd_e hF_55
      clear hF_55
      refine lv_iinc (v := x_56) (lv' := [(2, .int x_56), (3, .long y_54), (0, .ref (oA 1)), (1, .int p0)]) hx hb dX10_name_50 hl (k := 3) rfl (by rw [ex_56]; rfl) (by decide) rfl (fun ls hl => ?_)
      refine lv_goto (tgt := 4) hx hb dX10_name_53 (by decide) ?_
      exact ih_3 (x_56, y_54, u_50.2) hF_57 _ _ hP hS ls (lv_sub hl [2, 3, 0, 1] rfl)
    refine lv_if_ne (tgt := 34) hx hb dX10_name_20 (by decide) (fun c_58 => ?_) (fun c_58 => ?_)
    · have hF_67 := ineg c_58 hF_48
      clear hF_48
      exact Jj_47  u_42.2 hF_67 _ _ hP hS ls (lv_sub hl [0, 1, 2, 3] rfl)
    · have hF_59 := ipos c_58 hF_48
      clear hF_48
      refine lv_aload_n hx hb dX10_name_23 rfl (lv_at hl 0 rfl) ?_
      refine lv_iload_n hx hb dX10_name_24 rfl (lv_at hl 2 rfl) ?_
      obtain ⟨u_60, hu_60, hF_61⟩ := Option.bind_eq_some_iff.mp hF_59
      clear hF_59
      have hPc := bx_P (bs := [b_w cB cC cI cJ cZ oA rA u_42.2]) (bs' := [b_w cB cC cI cJ cZ oA rA u_42.2]) (ws' := (b_w cB cC cI cJ cZ oA rA u_42.2)) hP fl_1 fl_1 [0] rfl
      have hDc := bx_D (bs := [b_w cB cC cI cJ cZ oA rA u_42.2]) (bs' := [b_w cB cC cI cJ cZ oA rA u_42.2]) (ws' := (b_w cB cC cI cJ cZ oA rA u_42.2)) (hDD u_42.2) fl_1 fl_1 [0] (by decide +kernel) rfl
      have hFc := bx_F (bs := [b_w cB cC cI cJ cZ oA rA u_42.2]) (bs' := [b_w cB cC cI cJ cZ oA rA u_42.2]) (wc := (b_w cB cC cI cJ cZ oA rA u_42.2)) (hDD u_42.2) hS hA fl_1 fl_1 [0] rfl
      refine g_ofi (wc := (b_w cB cC cI cJ cZ oA rA u_42.2)) (wr := ([] : va_W)) hP (hDD u_42.2) hS hFc (bx_ix [b_w cB cC cI cJ cZ oA rA u_42.2] [0]) (bx_ix [b_w cB cC cI cJ cZ oA rA u_42.2] []) (bx_C (bs := [b_w cB cC cI cJ cZ oA rA u_42.2]) (bs' := [b_w cB cC cI cJ cZ oA rA u_42.2]) (is := [0]) fl_1 fl_1 rfl) (bx_C (bs := [b_w cB cC cI cJ cZ oA rA u_42.2]) (bs' := []) (is := []) fl_1 fl_0 rfl) (bx_n (by decide +kernel)) (bx_d (by decide +kernel)) (va_runV (As := [.int s_1.1]) (rest := []) ⟨hx, hb, hml, hown, hts⟩ (k_X10_signAt l dC dI cB cC cI cJ cZ cP oA rA H.size  s_1.1 u_42.2 _ hu_60) (cwV 1 hts (g_gV wq_419 wq_420 wq_1983 wq_2 wq_421) rfl rfl rfl (by decide +kernel) ⟨Nat.le_of_ble_eq_true rfl, Nat.le_of_ble_eq_true rfl⟩) (g_preV g_bl0 hK hPc hDc hS hE hFc g_to0 (q0 := 0) (ci := 10) rfl rfl) rfl rfl hl.1 rfl (lv_room (Nat.le_of_ble_eq_true rfl)) dX10_name_25 ⟨Nat.le_of_ble_eq_true rfl, Nat.le_of_ble_eq_true rfl⟩) (fun r9 u9 H locs hw9 hP' hD' hS => ?_)
      clear hPc hDc hFc
      subst hw9
      have hP : va_P (dC, dI) vwCl (b_w cB cC cI cJ cZ oA rA u_60.2) H := hP'
      clear hP' hD'
      obtain ⟨u_62, hu_62, hF_63⟩ := Option.bind_eq_some_iff.mp hF_61
      clear hF_61
      have hPc : va_P (dC, dI) vwCl [] H := fun k q z => by simp at z
      have hDc : va_D A [] := ⟨fun i j p q z => by simp at z, fun k q z => by simp at z⟩
      have hFc := c_nil hA hS
      refine c_cs (v := u_62.1) hA hP hS (va_runSN (As := [.int u_60.1]) (rest := []) ⟨hx, hb, hml, hown, hts⟩ (k_X11_isFigure l dC dI cB cC cI cJ cZ cP oA rA H.size  u_60.1 u_60.2 _ hu_62) ⟨va_cnB 1 hts (g_gA wq_426) rfl rfl rfl (nw_12 hN) (hts (.initialized RX11) wq_1) (by decide +kernel) ⟨Nat.le_of_ble_eq_true rfl, Nat.le_of_ble_eq_true rfl⟩, (hts (.static yX11_isFigure) wq_425), trivial⟩ (g_preS g_bl0 hK hPc hDc hS hE hFc g_to0) rfl rfl hl.1 rfl (lv_room (Nat.le_of_ble_eq_true rfl)) dX10_name_28 ⟨Nat.le_of_ble_eq_true rfl, Nat.le_of_ble_eq_true rfl⟩) (fun H locs hP hS => ?_)
      clear hPc hDc hFc
      refine lv_if_eq (tgt := 56) hx hb dX10_name_31 (by decide) (fun c_64 => ?_) (fun c_64 => ?_)
      · have hF_65 := ipos c_64 hF_63
        clear hF_63
        exact Jj_6  u_60.2 hF_65 _ _ hP hS ls (lv_sub hl [0, 1, 2, 3] rfl)
      · have hF_66 := ineg c_64 hF_63
        clear hF_63
        exact Jj_47  u_60.2 hF_66 _ _ hP hS ls (lv_sub hl [0, 1, 2, 3] rfl)
