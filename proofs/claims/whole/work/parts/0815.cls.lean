/-! methods of the class: what each does is its function -/
theorem dX3_moveOp_0 : decode cX3_moveOp 0 = .ok (.aload_n 0, 1) := by decide +kernel
theorem dX3_moveOp_1 : decode cX3_moveOp 1 = .ok (.invokevirtual 102, 3) := by decide +kernel
theorem dX3_moveOp_4 : decode cX3_moveOp 4 = .ok (.istore_n 1, 1) := by decide +kernel
theorem dX3_moveOp_5 : decode cX3_moveOp 5 = .ok (.aload_n 0, 1) := by decide +kernel
theorem dX3_moveOp_6 : decode cX3_moveOp 6 = .ok (.invokevirtual 102, 3) := by decide +kernel
theorem dX3_moveOp_9 : decode cX3_moveOp 9 = .ok (.istore_n 2, 1) := by decide +kernel
theorem dX3_moveOp_10 : decode cX3_moveOp 10 = .ok (.aload_n 0, 1) := by decide +kernel
theorem dX3_moveOp_11 : decode cX3_moveOp 11 = .ok (.getfield 52, 3) := by decide +kernel
theorem dX3_moveOp_14 : decode cX3_moveOp 14 = .ok (.iload_n 2, 1) := by decide +kernel
theorem dX3_moveOp_15 : decode cX3_moveOp 15 = .ok (.invokevirtual 171, 3) := by decide +kernel
theorem dX3_moveOp_18 : decode cX3_moveOp 18 = .ok (.ifCond .eq 41, 3) := by decide +kernel
theorem dX3_moveOp_21 : decode cX3_moveOp 21 = .ok (.aload_n 0, 1) := by decide +kernel
theorem dX3_moveOp_22 : decode cX3_moveOp 22 = .ok (.getfield 52, 3) := by decide +kernel
theorem dX3_moveOp_25 : decode cX3_moveOp 25 = .ok (.iload_n 1, 1) := by decide +kernel
theorem dX3_moveOp_26 : decode cX3_moveOp 26 = .ok (.invokevirtual 171, 3) := by decide +kernel
theorem dX3_moveOp_29 : decode cX3_moveOp 29 = .ok (.ifCond .eq 30, 3) := by decide +kernel
theorem dX3_moveOp_32 : decode cX3_moveOp 32 = .ok (.aload_n 0, 1) := by decide +kernel
theorem dX3_moveOp_33 : decode cX3_moveOp 33 = .ok (.getfield 52, 3) := by decide +kernel
theorem dX3_moveOp_36 : decode cX3_moveOp 36 = .ok (.iload_n 2, 1) := by decide +kernel
theorem dX3_moveOp_37 : decode cX3_moveOp 37 = .ok (.invokevirtual 202, 3) := by decide +kernel
theorem dX3_moveOp_40 : decode cX3_moveOp 40 = .ok (.ifCond .ne 19, 3) := by decide +kernel
theorem dX3_moveOp_43 : decode cX3_moveOp 43 = .ok (.iload_n 2, 1) := by decide +kernel
theorem dX3_moveOp_44 : decode cX3_moveOp 44 = .ok (.iconst 1, 1) := by decide +kernel
theorem dX3_moveOp_45 : decode cX3_moveOp 45 = .ok (.if_icmp .ne 22, 3) := by decide +kernel
theorem dX3_moveOp_48 : decode cX3_moveOp 48 = .ok (.aload_n 0, 1) := by decide +kernel
theorem dX3_moveOp_49 : decode cX3_moveOp 49 = .ok (.getfield 52, 3) := by decide +kernel
theorem dX3_moveOp_52 : decode cX3_moveOp 52 = .ok (.iload_n 1, 1) := by decide +kernel
theorem dX3_moveOp_53 : decode cX3_moveOp 53 = .ok (.invokevirtual 202, 3) := by decide +kernel
theorem dX3_moveOp_56 : decode cX3_moveOp 56 = .ok (.ifCond .ne 11, 3) := by decide +kernel
theorem dX3_moveOp_59 : decode cX3_moveOp 59 = .ok (.aload_n 0, 1) := by decide +kernel
theorem dX3_moveOp_60 : decode cX3_moveOp 60 = .ok (.iconst 2, 1) := by decide +kernel
theorem dX3_moveOp_61 : decode cX3_moveOp 61 = .ok (.invokevirtual 106, 3) := by decide +kernel
theorem dX3_moveOp_64 : decode cX3_moveOp 64 = .ok (.goto 32, 3) := by decide +kernel
theorem dX3_moveOp_67 : decode cX3_moveOp 67 = .ok (.aload_n 0, 1) := by decide +kernel
theorem dX3_moveOp_68 : decode cX3_moveOp 68 = .ok (.getfield 29, 3) := by decide +kernel
theorem dX3_moveOp_71 : decode cX3_moveOp 71 = .ok (.iload_n 1, 1) := by decide +kernel
theorem dX3_moveOp_72 : decode cX3_moveOp 72 = .ok (.iload_n 2, 1) := by decide +kernel
theorem dX3_moveOp_73 : decode cX3_moveOp 73 = .ok (.invokevirtual 205, 3) := by decide +kernel
theorem dX3_moveOp_76 : decode cX3_moveOp 76 = .ok (.ifCond .eq 11, 3) := by decide +kernel
theorem dX3_moveOp_79 : decode cX3_moveOp 79 = .ok (.aload_n 0, 1) := by decide +kernel
theorem dX3_moveOp_80 : decode cX3_moveOp 80 = .ok (.iconst 3, 1) := by decide +kernel
theorem dX3_moveOp_81 : decode cX3_moveOp 81 = .ok (.invokevirtual 106, 3) := by decide +kernel
theorem dX3_moveOp_84 : decode cX3_moveOp 84 = .ok (.goto 12, 3) := by decide +kernel
theorem dX3_moveOp_87 : decode cX3_moveOp 87 = .ok (.aload_n 0, 1) := by decide +kernel
theorem dX3_moveOp_88 : decode cX3_moveOp 88 = .ok (.getfield 29, 3) := by decide +kernel
theorem dX3_moveOp_91 : decode cX3_moveOp 91 = .ok (.iload_n 2, 1) := by decide +kernel
theorem dX3_moveOp_92 : decode cX3_moveOp 92 = .ok (.iload_n 1, 1) := by decide +kernel
theorem dX3_moveOp_93 : decode cX3_moveOp 93 = .ok (.invokevirtual 208, 3) := by decide +kernel
theorem dX3_moveOp_96 : decode cX3_moveOp 96 = .ok (.return_, 1) := by decide +kernel
def F_X3_moveOp  (Γ : HS) : HR :=
  (F_X3_pop Γ).bind fun u_1 =>
  (F_X3_pop u_1.2).bind fun u_3 =>
  (F_X7_isObject u_3.1 u_3.2).bind fun u_5 =>
  bnd (mrg (fun j => j == 4 || j == 5 || j == 6 || j == 7) u_3.2 u_5.2) fun σ_7 =>
  bnd (fun  (σ_9 : HS) => (
    (F_X3_stop 2 σ_9).bind fun u_13 =>
    some (0, u_13.2)
  ) : HS → HR) fun j_10 =>
  if u_5.1 = 0 then (
    j_10  σ_7
  ) else (
    (F_X7_isObject u_1.1 σ_7).bind fun u_18 =>
    bnd (mrg (fun j => j == 4 || j == 5 || j == 6 || j == 7) σ_7 u_18.2) fun σ_20 =>
    if u_18.1 = 0 then (
      j_10  σ_20
    ) else (
      (F_X7_isRoom u_3.1 σ_20).bind fun u_25 =>
      bnd (mrg (fun j => j == 4 || j == 5 || j == 6 || j == 7) σ_20 u_25.2) fun σ_27 =>
      if u_25.1 = 0 then (
        bnd (fun  (σ_31 : HS) => (
          (F_X6_isWithin u_1.1 u_3.1 σ_31).bind fun u_35 =>
          bnd (mrg (fun j => j == 9) σ_31 u_35.2) fun σ_37 =>
          if u_35.1 = 0 then (
            (F_X6_moveInto u_3.1 u_1.1 σ_37).bind fun u_41 =>
            bnd (mrg (fun j => j == 9) σ_37 u_41.2) fun σ_43 =>
            some (0, σ_43)
          ) else (
            (F_X3_stop 3 σ_37).bind fun u_46 =>
            some (0, u_46.2)
          )
        ) : HS → HR) fun j_32 =>
        if u_3.1 = 1 then (
          (F_X7_isRoom u_1.1 σ_27).bind fun u_50 =>
          bnd (mrg (fun j => j == 4 || j == 5 || j == 6 || j == 7) σ_27 u_50.2) fun σ_52 =>
          if u_50.1 = 0 then (
            j_10  σ_52
          ) else (
            j_32  σ_52
          )
        ) else (
          j_32  σ_27
        )
      ) else (
        j_10  σ_27
      )
    )
  )
set_option maxHeartbeats 4000000 in
set_option maxRecDepth 100000 in
theorem k_X3_moveOp (l : Launch) (dC : Nat → ClassId) (dI : Nat → Nat → Nat) (cB cC cI cJ cZ cP : ClassId) (oA : Nat → Nat) (rA : Nat → Nat → Nat) (sz : Nat)   (Γ : HS) (res : Int32 × HS) (hF : F_X3_moveOp  Γ = some res) : Met l yX3_moveOp (g_ws yX3_moveOp cX3_moveOp 3 none) ({ frames := 5, cells := 0, slots := 0, locals := 128 }) (va_Pc [.ref (oA 10)] (g_B (dC, dI) [(cB, .byte), (cC, .char), (cI, .int), (cJ, .long), (cZ, .boolean), (cP, .object "StoryHouse$Play")] sz (b_k cB cC cI cJ cZ oA rA Γ ++ b_p cB cC cI cJ cZ oA rA Γ ++ b_o cB cC cI cJ cZ oA rA Γ ++ b_s cB cC cI cJ cZ oA rA Γ ++ b_c cB cC cI cJ cZ oA rA Γ ++ b_t cB cC cI cJ cZ oA rA Γ ++ b_d cB cC cI cJ cZ oA rA Γ) g_0)) (va_Qv (fun (_ : Unit) => True) (g_Bo (dC, dI) (va_A (b_k cB cC cI cJ cZ oA rA Γ ++ b_p cB cC cI cJ cZ oA rA Γ ++ b_o cB cC cI cJ cZ oA rA Γ ++ b_s cB cC cI cJ cZ oA rA Γ ++ b_c cB cC cI cJ cZ oA rA Γ ++ b_t cB cC cI cJ cZ oA rA Γ ++ b_d cB cC cI cJ cZ oA rA Γ) sz) (fun (_ : Unit) => (b_k cB cC cI cJ cZ oA rA res.2 ++ b_p cB cC cI cJ cZ oA rA res.2 ++ b_o cB cC cI cJ cZ oA rA res.2 ++ b_s cB cC cI cJ cZ oA rA res.2 ++ b_c cB cC cI cJ cZ oA rA res.2 ++ b_t cB cC cI cJ cZ oA rA res.2 ++ b_d cB cC cI cJ cZ oA rA res.2))) (va_A (b_k cB cC cI cJ cZ oA rA Γ ++ b_p cB cC cI cJ cZ oA rA Γ ++ b_o cB cC cI cJ cZ oA rA Γ ++ b_s cB cC cI cJ cZ oA rA Γ ++ b_c cB cC cI cJ cZ oA rA Γ ++ b_t cB cC cI cJ cZ oA rA Γ ++ b_d cB cC cI cJ cZ oA rA Γ) sz)) 0 0 (va_A (b_k cB cC cI cJ cZ oA rA Γ ++ b_p cB cC cI cJ cZ oA rA Γ ++ b_o cB cC cI cJ cZ oA rA Γ ++ b_s cB cC cI cJ cZ oA rA Γ ++ b_c cB cC cI cJ cZ oA rA Γ ++ b_t cB cC cI cJ cZ oA rA Γ ++ b_d cB cC cI cJ cZ oA rA Γ) sz) := by
  refine Met.ofW (cc := cX3_moveOp) (maxL := 3) (ret := none) (by decide) rfl ?_
  intro p e s m args below meth c s₁ B hml hv
  obtain ⟨rfl, hsz, hP, hK, hD0, hE, hX⟩ := hv
  have hx := B.exec
  have hb := B.bytes
  have hr := B.returns
  have hts0 := atoms_spec (ws := g_ws yX3_moveOp cX3_moveOp 3 none) B.pre
  have hts : ∀ w ∈ lw_good, w.before ([.ref (oA 10)] : List Value).toArray s = true := fun w z => hts0 w (List.mem_cons_of_mem _ z)
  have hown : s.vm.findClass RX3 = some m.cls := findClass_of_methodNamed B.named
  have hlocks := B.notSynchronized
  subst hsz
  have hD1 := hD0.self (sz := s.heap.size)
  generalize hAe : va_A (b_k cB cC cI cJ cZ oA rA Γ ++ b_p cB cC cI cJ cZ oA rA Γ ++ b_o cB cC cI cJ cZ oA rA Γ ++ b_s cB cC cI cJ cZ oA rA Γ ++ b_c cB cC cI cJ cZ oA rA Γ ++ b_t cB cC cI cJ cZ oA rA Γ ++ b_d cB cC cI cJ cZ oA rA Γ) s.heap.size = A at hD1 hE hX ⊢
  have hA : ∀ q : Nat, s.heap.size ≤ q → A q := fun q z => by rw [← hAe]; exact Or.inr z
  have hDD : ∀ Γ : HS, va_D A (b_k cB cC cI cJ cZ oA rA Γ ++ b_p cB cC cI cJ cZ oA rA Γ ++ b_o cB cC cI cJ cZ oA rA Γ ++ b_s cB cC cI cJ cZ oA rA Γ ++ b_c cB cC cI cJ cZ oA rA Γ ++ b_t cB cC cI cJ cZ oA rA Γ ++ b_d cB cC cI cJ cZ oA rA Γ) := fun Γ9 => va_D_fst (ws := (b_k cB cC cI cJ cZ oA rA Γ ++ b_p cB cC cI cJ cZ oA rA Γ ++ b_o cB cC cI cJ cZ oA rA Γ ++ b_s cB cC cI cJ cZ oA rA Γ ++ b_c cB cC cI cJ cZ oA rA Γ ++ b_t cB cC cI cJ cZ oA rA Γ ++ b_d cB cC cI cJ cZ oA rA Γ)) (ws' := (b_k cB cC cI cJ cZ oA rA Γ9 ++ b_p cB cC cI cJ cZ oA rA Γ9 ++ b_o cB cC cI cJ cZ oA rA Γ9 ++ b_s cB cC cI cJ cZ oA rA Γ9 ++ b_c cB cC cI cJ cZ oA rA Γ9 ++ b_t cB cC cI cJ cZ oA rA Γ9 ++ b_d cB cC cI cJ cZ oA rA Γ9)) rfl hD1
  have hN := hE.1
  have hS : va_S A s.heap s.heap [] := va_S.rf
  have hl := lv_entry ([.ref (oA 10)]) (n := 3) (Nat.le_of_ble_eq_true rfl)
  rw [lg_entry_eq]
  generalize (lg_sl ([.ref (oA 10)]) ++ List.replicate (3 - (lg_sl ([.ref (oA 10)])).length) Slot.unset).toArray = ls at hl ⊢
  have hl : lv_has ls 3 [(0, .ref (oA 10))] := hl
  unfold F_X3_moveOp at hF
  refine lv_aload_n hx hb dX3_moveOp_0 rfl (lv_at hl 0 rfl) ?_
  obtain ⟨u_1, hu_1, hF_2⟩ := Option.bind_eq_some_iff.mp hF
  clear hF
  have hPc := bx_P (bs := [b_k cB cC cI cJ cZ oA rA Γ, b_p cB cC cI cJ cZ oA rA Γ, b_o cB cC cI cJ cZ oA rA Γ, b_s cB cC cI cJ cZ oA rA Γ, b_c cB cC cI cJ cZ oA rA Γ, b_t cB cC cI cJ cZ oA rA Γ, b_d cB cC cI cJ cZ oA rA Γ]) (bs' := [b_k cB cC cI cJ cZ oA rA Γ, b_p cB cC cI cJ cZ oA rA Γ, b_o cB cC cI cJ cZ oA rA Γ, b_s cB cC cI cJ cZ oA rA Γ, b_c cB cC cI cJ cZ oA rA Γ, b_t cB cC cI cJ cZ oA rA Γ, b_d cB cC cI cJ cZ oA rA Γ]) (ws' := (b_k cB cC cI cJ cZ oA rA Γ ++ b_p cB cC cI cJ cZ oA rA Γ ++ b_o cB cC cI cJ cZ oA rA Γ ++ b_s cB cC cI cJ cZ oA rA Γ ++ b_c cB cC cI cJ cZ oA rA Γ ++ b_t cB cC cI cJ cZ oA rA Γ ++ b_d cB cC cI cJ cZ oA rA Γ)) hP fl_7 fl_7 [0, 1, 2, 3, 4, 5, 6] rfl
  have hDc := bx_D (bs := [b_k cB cC cI cJ cZ oA rA Γ, b_p cB cC cI cJ cZ oA rA Γ, b_o cB cC cI cJ cZ oA rA Γ, b_s cB cC cI cJ cZ oA rA Γ, b_c cB cC cI cJ cZ oA rA Γ, b_t cB cC cI cJ cZ oA rA Γ, b_d cB cC cI cJ cZ oA rA Γ]) (bs' := [b_k cB cC cI cJ cZ oA rA Γ, b_p cB cC cI cJ cZ oA rA Γ, b_o cB cC cI cJ cZ oA rA Γ, b_s cB cC cI cJ cZ oA rA Γ, b_c cB cC cI cJ cZ oA rA Γ, b_t cB cC cI cJ cZ oA rA Γ, b_d cB cC cI cJ cZ oA rA Γ]) (ws' := (b_k cB cC cI cJ cZ oA rA Γ ++ b_p cB cC cI cJ cZ oA rA Γ ++ b_o cB cC cI cJ cZ oA rA Γ ++ b_s cB cC cI cJ cZ oA rA Γ ++ b_c cB cC cI cJ cZ oA rA Γ ++ b_t cB cC cI cJ cZ oA rA Γ ++ b_d cB cC cI cJ cZ oA rA Γ)) (hDD Γ) fl_7 fl_7 [0, 1, 2, 3, 4, 5, 6] (by decide +kernel) rfl
  have hFc := bx_F (bs := [b_k cB cC cI cJ cZ oA rA Γ, b_p cB cC cI cJ cZ oA rA Γ, b_o cB cC cI cJ cZ oA rA Γ, b_s cB cC cI cJ cZ oA rA Γ, b_c cB cC cI cJ cZ oA rA Γ, b_t cB cC cI cJ cZ oA rA Γ, b_d cB cC cI cJ cZ oA rA Γ]) (bs' := [b_k cB cC cI cJ cZ oA rA Γ, b_p cB cC cI cJ cZ oA rA Γ, b_o cB cC cI cJ cZ oA rA Γ, b_s cB cC cI cJ cZ oA rA Γ, b_c cB cC cI cJ cZ oA rA Γ, b_t cB cC cI cJ cZ oA rA Γ, b_d cB cC cI cJ cZ oA rA Γ]) (wc := (b_k cB cC cI cJ cZ oA rA Γ ++ b_p cB cC cI cJ cZ oA rA Γ ++ b_o cB cC cI cJ cZ oA rA Γ ++ b_s cB cC cI cJ cZ oA rA Γ ++ b_c cB cC cI cJ cZ oA rA Γ ++ b_t cB cC cI cJ cZ oA rA Γ ++ b_d cB cC cI cJ cZ oA rA Γ)) (hDD Γ) hS hA fl_7 fl_7 [0, 1, 2, 3, 4, 5, 6] rfl
  refine g_ofi (wc := (b_k cB cC cI cJ cZ oA rA Γ ++ b_p cB cC cI cJ cZ oA rA Γ ++ b_o cB cC cI cJ cZ oA rA Γ ++ b_s cB cC cI cJ cZ oA rA Γ ++ b_c cB cC cI cJ cZ oA rA Γ ++ b_t cB cC cI cJ cZ oA rA Γ ++ b_d cB cC cI cJ cZ oA rA Γ)) (wr := ([] : va_W)) hP (hDD Γ) hS hFc (bx_ix [b_k cB cC cI cJ cZ oA rA Γ, b_p cB cC cI cJ cZ oA rA Γ, b_o cB cC cI cJ cZ oA rA Γ, b_s cB cC cI cJ cZ oA rA Γ, b_c cB cC cI cJ cZ oA rA Γ, b_t cB cC cI cJ cZ oA rA Γ, b_d cB cC cI cJ cZ oA rA Γ] [0, 1, 2, 3, 4, 5, 6]) (bx_ix [b_k cB cC cI cJ cZ oA rA Γ, b_p cB cC cI cJ cZ oA rA Γ, b_o cB cC cI cJ cZ oA rA Γ, b_s cB cC cI cJ cZ oA rA Γ, b_c cB cC cI cJ cZ oA rA Γ, b_t cB cC cI cJ cZ oA rA Γ, b_d cB cC cI cJ cZ oA rA Γ] []) (bx_C (bs := [b_k cB cC cI cJ cZ oA rA Γ, b_p cB cC cI cJ cZ oA rA Γ, b_o cB cC cI cJ cZ oA rA Γ, b_s cB cC cI cJ cZ oA rA Γ, b_c cB cC cI cJ cZ oA rA Γ, b_t cB cC cI cJ cZ oA rA Γ, b_d cB cC cI cJ cZ oA rA Γ]) (bs' := [b_k cB cC cI cJ cZ oA rA Γ, b_p cB cC cI cJ cZ oA rA Γ, b_o cB cC cI cJ cZ oA rA Γ, b_s cB cC cI cJ cZ oA rA Γ, b_c cB cC cI cJ cZ oA rA Γ, b_t cB cC cI cJ cZ oA rA Γ, b_d cB cC cI cJ cZ oA rA Γ]) (is := [0, 1, 2, 3, 4, 5, 6]) fl_7 fl_7 rfl) (bx_C (bs := [b_k cB cC cI cJ cZ oA rA Γ, b_p cB cC cI cJ cZ oA rA Γ, b_o cB cC cI cJ cZ oA rA Γ, b_s cB cC cI cJ cZ oA rA Γ, b_c cB cC cI cJ cZ oA rA Γ, b_t cB cC cI cJ cZ oA rA Γ, b_d cB cC cI cJ cZ oA rA Γ]) (bs' := []) (is := []) fl_7 fl_0 rfl) (bx_n (by decide +kernel)) (bx_d (by decide +kernel)) (va_runV (As := []) (rest := []) ⟨hx, hb, hml, hown, hts⟩ (k_X3_pop l dC dI cB cC cI cJ cZ cP oA rA s.heap.size  Γ _ hu_1) (cwV 0 hts (g_gV wq_1144 wq_1145 wq_2086 wq_11 wq_1146) rfl rfl rfl (by decide +kernel) ⟨Nat.le_of_ble_eq_true rfl, Nat.le_of_ble_eq_true rfl⟩) (g_preV g_bl0 hK hPc hDc hS hE hFc g_to0 (q0 := 0) (ci := 3) rfl rfl) rfl rfl hl.1 rfl (lv_room (Nat.le_of_ble_eq_true rfl)) dX3_moveOp_1 ⟨Nat.le_of_ble_eq_true rfl, Nat.le_of_ble_eq_true rfl⟩) (fun r9 u9 H locs hw9 hP' hD' hS => ?_)
  clear hPc hDc hFc
  subst hw9
  have hP : va_P (dC, dI) vwCl (b_k cB cC cI cJ cZ oA rA u_1.2 ++ b_p cB cC cI cJ cZ oA rA u_1.2 ++ b_o cB cC cI cJ cZ oA rA u_1.2 ++ b_s cB cC cI cJ cZ oA rA u_1.2 ++ b_c cB cC cI cJ cZ oA rA u_1.2 ++ b_t cB cC cI cJ cZ oA rA u_1.2 ++ b_d cB cC cI cJ cZ oA rA u_1.2) H := hP'
  clear hP' hD'
  refine lv_istore_n (lv' := [(1, .int u_1.1), (0, .ref (oA 10))]) hx hb dX3_moveOp_4 rfl hl (by decide) rfl (fun ls hl => ?_)
  refine lv_aload_n hx hb dX3_moveOp_5 rfl (lv_at hl 1 rfl) ?_
  obtain ⟨u_3, hu_3, hF_4⟩ := Option.bind_eq_some_iff.mp hF_2
  clear hF_2
  have hPc := bx_P (bs := [b_k cB cC cI cJ cZ oA rA u_1.2, b_p cB cC cI cJ cZ oA rA u_1.2, b_o cB cC cI cJ cZ oA rA u_1.2, b_s cB cC cI cJ cZ oA rA u_1.2, b_c cB cC cI cJ cZ oA rA u_1.2, b_t cB cC cI cJ cZ oA rA u_1.2, b_d cB cC cI cJ cZ oA rA u_1.2]) (bs' := [b_k cB cC cI cJ cZ oA rA u_1.2, b_p cB cC cI cJ cZ oA rA u_1.2, b_o cB cC cI cJ cZ oA rA u_1.2, b_s cB cC cI cJ cZ oA rA u_1.2, b_c cB cC cI cJ cZ oA rA u_1.2, b_t cB cC cI cJ cZ oA rA u_1.2, b_d cB cC cI cJ cZ oA rA u_1.2]) (ws' := (b_k cB cC cI cJ cZ oA rA u_1.2 ++ b_p cB cC cI cJ cZ oA rA u_1.2 ++ b_o cB cC cI cJ cZ oA rA u_1.2 ++ b_s cB cC cI cJ cZ oA rA u_1.2 ++ b_c cB cC cI cJ cZ oA rA u_1.2 ++ b_t cB cC cI cJ cZ oA rA u_1.2 ++ b_d cB cC cI cJ cZ oA rA u_1.2)) hP fl_7 fl_7 [0, 1, 2, 3, 4, 5, 6] rfl
  have hDc := bx_D (bs := [b_k cB cC cI cJ cZ oA rA u_1.2, b_p cB cC cI cJ cZ oA rA u_1.2, b_o cB cC cI cJ cZ oA rA u_1.2, b_s cB cC cI cJ cZ oA rA u_1.2, b_c cB cC cI cJ cZ oA rA u_1.2, b_t cB cC cI cJ cZ oA rA u_1.2, b_d cB cC cI cJ cZ oA rA u_1.2]) (bs' := [b_k cB cC cI cJ cZ oA rA u_1.2, b_p cB cC cI cJ cZ oA rA u_1.2, b_o cB cC cI cJ cZ oA rA u_1.2, b_s cB cC cI cJ cZ oA rA u_1.2, b_c cB cC cI cJ cZ oA rA u_1.2, b_t cB cC cI cJ cZ oA rA u_1.2, b_d cB cC cI cJ cZ oA rA u_1.2]) (ws' := (b_k cB cC cI cJ cZ oA rA u_1.2 ++ b_p cB cC cI cJ cZ oA rA u_1.2 ++ b_o cB cC cI cJ cZ oA rA u_1.2 ++ b_s cB cC cI cJ cZ oA rA u_1.2 ++ b_c cB cC cI cJ cZ oA rA u_1.2 ++ b_t cB cC cI cJ cZ oA rA u_1.2 ++ b_d cB cC cI cJ cZ oA rA u_1.2)) (hDD u_1.2) fl_7 fl_7 [0, 1, 2, 3, 4, 5, 6] (by decide +kernel) rfl
  have hFc := bx_F (bs := [b_k cB cC cI cJ cZ oA rA u_1.2, b_p cB cC cI cJ cZ oA rA u_1.2, b_o cB cC cI cJ cZ oA rA u_1.2, b_s cB cC cI cJ cZ oA rA u_1.2, b_c cB cC cI cJ cZ oA rA u_1.2, b_t cB cC cI cJ cZ oA rA u_1.2, b_d cB cC cI cJ cZ oA rA u_1.2]) (bs' := [b_k cB cC cI cJ cZ oA rA u_1.2, b_p cB cC cI cJ cZ oA rA u_1.2, b_o cB cC cI cJ cZ oA rA u_1.2, b_s cB cC cI cJ cZ oA rA u_1.2, b_c cB cC cI cJ cZ oA rA u_1.2, b_t cB cC cI cJ cZ oA rA u_1.2, b_d cB cC cI cJ cZ oA rA u_1.2]) (wc := (b_k cB cC cI cJ cZ oA rA u_1.2 ++ b_p cB cC cI cJ cZ oA rA u_1.2 ++ b_o cB cC cI cJ cZ oA rA u_1.2 ++ b_s cB cC cI cJ cZ oA rA u_1.2 ++ b_c cB cC cI cJ cZ oA rA u_1.2 ++ b_t cB cC cI cJ cZ oA rA u_1.2 ++ b_d cB cC cI cJ cZ oA rA u_1.2)) (hDD u_1.2) hS hA fl_7 fl_7 [0, 1, 2, 3, 4, 5, 6] rfl
  refine g_ofi (wc := (b_k cB cC cI cJ cZ oA rA u_1.2 ++ b_p cB cC cI cJ cZ oA rA u_1.2 ++ b_o cB cC cI cJ cZ oA rA u_1.2 ++ b_s cB cC cI cJ cZ oA rA u_1.2 ++ b_c cB cC cI cJ cZ oA rA u_1.2 ++ b_t cB cC cI cJ cZ oA rA u_1.2 ++ b_d cB cC cI cJ cZ oA rA u_1.2)) (wr := ([] : va_W)) hP (hDD u_1.2) hS hFc (bx_ix [b_k cB cC cI cJ cZ oA rA u_1.2, b_p cB cC cI cJ cZ oA rA u_1.2, b_o cB cC cI cJ cZ oA rA u_1.2, b_s cB cC cI cJ cZ oA rA u_1.2, b_c cB cC cI cJ cZ oA rA u_1.2, b_t cB cC cI cJ cZ oA rA u_1.2, b_d cB cC cI cJ cZ oA rA u_1.2] [0, 1, 2, 3, 4, 5, 6]) (bx_ix [b_k cB cC cI cJ cZ oA rA u_1.2, b_p cB cC cI cJ cZ oA rA u_1.2, b_o cB cC cI cJ cZ oA rA u_1.2, b_s cB cC cI cJ cZ oA rA u_1.2, b_c cB cC cI cJ cZ oA rA u_1.2, b_t cB cC cI cJ cZ oA rA u_1.2, b_d cB cC cI cJ cZ oA rA u_1.2] []) (bx_C (bs := [b_k cB cC cI cJ cZ oA rA u_1.2, b_p cB cC cI cJ cZ oA rA u_1.2, b_o cB cC cI cJ cZ oA rA u_1.2, b_s cB cC cI cJ cZ oA rA u_1.2, b_c cB cC cI cJ cZ oA rA u_1.2, b_t cB cC cI cJ cZ oA rA u_1.2, b_d cB cC cI cJ cZ oA rA u_1.2]) (bs' := [b_k cB cC cI cJ cZ oA rA u_1.2, b_p cB cC cI cJ cZ oA rA u_1.2, b_o cB cC cI cJ cZ oA rA u_1.2, b_s cB cC cI cJ cZ oA rA u_1.2, b_c cB cC cI cJ cZ oA rA u_1.2, b_t cB cC cI cJ cZ oA rA u_1.2, b_d cB cC cI cJ cZ oA rA u_1.2]) (is := [0, 1, 2, 3, 4, 5, 6]) fl_7 fl_7 rfl) (bx_C (bs := [b_k cB cC cI cJ cZ oA rA u_1.2, b_p cB cC cI cJ cZ oA rA u_1.2, b_o cB cC cI cJ cZ oA rA u_1.2, b_s cB cC cI cJ cZ oA rA u_1.2, b_c cB cC cI cJ cZ oA rA u_1.2, b_t cB cC cI cJ cZ oA rA u_1.2, b_d cB cC cI cJ cZ oA rA u_1.2]) (bs' := []) (is := []) fl_7 fl_0 rfl) (bx_n (by decide +kernel)) (bx_d (by decide +kernel)) (va_runV (As := []) (rest := []) ⟨hx, hb, hml, hown, hts⟩ (k_X3_pop l dC dI cB cC cI cJ cZ cP oA rA H.size  u_1.2 _ hu_3) (cwV 0 hts (g_gV wq_1144 wq_1145 wq_2086 wq_11 wq_1146) rfl rfl rfl (by decide +kernel) ⟨Nat.le_of_ble_eq_true rfl, Nat.le_of_ble_eq_true rfl⟩) (g_preV g_bl0 hK hPc hDc hS hE hFc g_to0 (q0 := 0) (ci := 3) rfl rfl) rfl rfl hl.1 rfl (lv_room (Nat.le_of_ble_eq_true rfl)) dX3_moveOp_6 ⟨Nat.le_of_ble_eq_true rfl, Nat.le_of_ble_eq_true rfl⟩) (fun r9 u9 H locs hw9 hP' hD' hS => ?_)
  clear hPc hDc hFc
  subst hw9
  have hP : va_P (dC, dI) vwCl (b_k cB cC cI cJ cZ oA rA u_3.2 ++ b_p cB cC cI cJ cZ oA rA u_3.2 ++ b_o cB cC cI cJ cZ oA rA u_3.2 ++ b_s cB cC cI cJ cZ oA rA u_3.2 ++ b_c cB cC cI cJ cZ oA rA u_3.2 ++ b_t cB cC cI cJ cZ oA rA u_3.2 ++ b_d cB cC cI cJ cZ oA rA u_3.2) H := hP'
  clear hP' hD'
  refine lv_istore_n (lv' := [(2, .int u_3.1), (1, .int u_1.1), (0, .ref (oA 10))]) hx hb dX3_moveOp_9 rfl hl (by decide) rfl (fun ls hl => ?_)
  refine lv_aload_n hx hb dX3_moveOp_10 rfl (lv_at hl 2 rfl) ?_
  refine va_get (D := (dC, dI)) (ci := 3) (v := .ref (oA 4)) (C := RX3) (T := TX3) (N := 16) hx hb hts ii_X3 hown hK hP 0 rfl rfl 2 (by decide) (hts (.fieldLink RX3 52 "StoryHouse$Machine" "story" "LStoryHouse$Story;") wq_262) (fun _ h9 => h9) rfl dX3_moveOp_11 ?_
  refine lv_iload_n hx hb dX3_moveOp_14 rfl (lv_at hl 0 rfl) ?_
  obtain ⟨u_5, hu_5, hF_6⟩ := Option.bind_eq_some_iff.mp hF_4
  clear hF_4
  have hPc := bx_P (bs := [b_k cB cC cI cJ cZ oA rA u_3.2, b_p cB cC cI cJ cZ oA rA u_3.2, b_o cB cC cI cJ cZ oA rA u_3.2, b_s cB cC cI cJ cZ oA rA u_3.2, b_c cB cC cI cJ cZ oA rA u_3.2, b_t cB cC cI cJ cZ oA rA u_3.2, b_d cB cC cI cJ cZ oA rA u_3.2]) (bs' := [b_s cB cC cI cJ cZ oA rA u_3.2, b_c cB cC cI cJ cZ oA rA u_3.2, b_t cB cC cI cJ cZ oA rA u_3.2, b_d cB cC cI cJ cZ oA rA u_3.2]) (ws' := (b_s cB cC cI cJ cZ oA rA u_3.2 ++ b_c cB cC cI cJ cZ oA rA u_3.2 ++ b_t cB cC cI cJ cZ oA rA u_3.2 ++ b_d cB cC cI cJ cZ oA rA u_3.2)) hP fl_7 fl_4 [3, 4, 5, 6] rfl
  have hDc := bx_D (bs := [b_k cB cC cI cJ cZ oA rA u_3.2, b_p cB cC cI cJ cZ oA rA u_3.2, b_o cB cC cI cJ cZ oA rA u_3.2, b_s cB cC cI cJ cZ oA rA u_3.2, b_c cB cC cI cJ cZ oA rA u_3.2, b_t cB cC cI cJ cZ oA rA u_3.2, b_d cB cC cI cJ cZ oA rA u_3.2]) (bs' := [b_s cB cC cI cJ cZ oA rA u_3.2, b_c cB cC cI cJ cZ oA rA u_3.2, b_t cB cC cI cJ cZ oA rA u_3.2, b_d cB cC cI cJ cZ oA rA u_3.2]) (ws' := (b_s cB cC cI cJ cZ oA rA u_3.2 ++ b_c cB cC cI cJ cZ oA rA u_3.2 ++ b_t cB cC cI cJ cZ oA rA u_3.2 ++ b_d cB cC cI cJ cZ oA rA u_3.2)) (hDD u_3.2) fl_7 fl_4 [3, 4, 5, 6] (by decide +kernel) rfl
  have hFc := bx_F (bs := [b_k cB cC cI cJ cZ oA rA u_3.2, b_p cB cC cI cJ cZ oA rA u_3.2, b_o cB cC cI cJ cZ oA rA u_3.2, b_s cB cC cI cJ cZ oA rA u_3.2, b_c cB cC cI cJ cZ oA rA u_3.2, b_t cB cC cI cJ cZ oA rA u_3.2, b_d cB cC cI cJ cZ oA rA u_3.2]) (bs' := [b_s cB cC cI cJ cZ oA rA u_3.2, b_c cB cC cI cJ cZ oA rA u_3.2, b_t cB cC cI cJ cZ oA rA u_3.2, b_d cB cC cI cJ cZ oA rA u_3.2]) (wc := (b_s cB cC cI cJ cZ oA rA u_3.2 ++ b_c cB cC cI cJ cZ oA rA u_3.2 ++ b_t cB cC cI cJ cZ oA rA u_3.2 ++ b_d cB cC cI cJ cZ oA rA u_3.2)) (hDD u_3.2) hS hA fl_7 fl_4 [3, 4, 5, 6] rfl
  refine g_ofi (wc := (b_s cB cC cI cJ cZ oA rA u_3.2 ++ b_c cB cC cI cJ cZ oA rA u_3.2 ++ b_t cB cC cI cJ cZ oA rA u_3.2 ++ b_d cB cC cI cJ cZ oA rA u_3.2)) (wr := (b_k cB cC cI cJ cZ oA rA u_3.2 ++ b_p cB cC cI cJ cZ oA rA u_3.2 ++ b_o cB cC cI cJ cZ oA rA u_3.2)) hP (hDD u_3.2) hS hFc (bx_ix [b_k cB cC cI cJ cZ oA rA u_3.2, b_p cB cC cI cJ cZ oA rA u_3.2, b_o cB cC cI cJ cZ oA rA u_3.2, b_s cB cC cI cJ cZ oA rA u_3.2, b_c cB cC cI cJ cZ oA rA u_3.2, b_t cB cC cI cJ cZ oA rA u_3.2, b_d cB cC cI cJ cZ oA rA u_3.2] [3, 4, 5, 6]) (bx_ix [b_k cB cC cI cJ cZ oA rA u_3.2, b_p cB cC cI cJ cZ oA rA u_3.2, b_o cB cC cI cJ cZ oA rA u_3.2, b_s cB cC cI cJ cZ oA rA u_3.2, b_c cB cC cI cJ cZ oA rA u_3.2, b_t cB cC cI cJ cZ oA rA u_3.2, b_d cB cC cI cJ cZ oA rA u_3.2] [0, 1, 2]) (bx_C (bs := [b_k cB cC cI cJ cZ oA rA u_3.2, b_p cB cC cI cJ cZ oA rA u_3.2, b_o cB cC cI cJ cZ oA rA u_3.2, b_s cB cC cI cJ cZ oA rA u_3.2, b_c cB cC cI cJ cZ oA rA u_3.2, b_t cB cC cI cJ cZ oA rA u_3.2, b_d cB cC cI cJ cZ oA rA u_3.2]) (bs' := [b_s cB cC cI cJ cZ oA rA u_3.2, b_c cB cC cI cJ cZ oA rA u_3.2, b_t cB cC cI cJ cZ oA rA u_3.2, b_d cB cC cI cJ cZ oA rA u_3.2]) (is := [3, 4, 5, 6]) fl_7 fl_4 rfl) (bx_C (bs := [b_k cB cC cI cJ cZ oA rA u_3.2, b_p cB cC cI cJ cZ oA rA u_3.2, b_o cB cC cI cJ cZ oA rA u_3.2, b_s cB cC cI cJ cZ oA rA u_3.2, b_c cB cC cI cJ cZ oA rA u_3.2, b_t cB cC cI cJ cZ oA rA u_3.2, b_d cB cC cI cJ cZ oA rA u_3.2]) (bs' := [b_k cB cC cI cJ cZ oA rA u_3.2, b_p cB cC cI cJ cZ oA rA u_3.2, b_o cB cC cI cJ cZ oA rA u_3.2]) (is := [0, 1, 2]) fl_7 fl_3 rfl) (bx_n (by decide +kernel)) (bx_d (by decide +kernel)) (va_runV (As := [.int u_3.1]) (rest := []) ⟨hx, hb, hml, hown, hts⟩ (k_X7_isObject l dC dI cB cC cI cJ cZ cP oA rA H.size  u_3.1 u_3.2 _ hu_5) (cwV 1 hts (g_gV wq_1169 wq_971 wq_972 wq_5 wq_973) rfl rfl rfl (by decide +kernel) ⟨Nat.le_of_ble_eq_true rfl, Nat.le_of_ble_eq_true rfl⟩) (g_preV g_bl0 hK hPc hDc hS hE hFc g_to0 (q0 := 0) (ci := 7) rfl rfl) rfl rfl hl.1 rfl (lv_room (Nat.le_of_ble_eq_true rfl)) dX3_moveOp_15 ⟨Nat.le_of_ble_eq_true rfl, Nat.le_of_ble_eq_true rfl⟩) (fun r9 u9 H locs hw9 hP' hD' hS => ?_)
  clear hPc hDc hFc
  subst hw9
  obtain ⟨σ_7, eσ_7, hF_8⟩ := bnd_e hF_6
  clear hF_6
  have hP : va_P (dC, dI) vwCl (b_k cB cC cI cJ cZ oA rA σ_7 ++ b_p cB cC cI cJ cZ oA rA σ_7 ++ b_o cB cC cI cJ cZ oA rA σ_7 ++ b_s cB cC cI cJ cZ oA rA σ_7 ++ b_c cB cC cI cJ cZ oA rA σ_7 ++ b_t cB cC cI cJ cZ oA rA σ_7 ++ b_d cB cC cI cJ cZ oA rA σ_7) H := by rw [eσ_7]; exact bx_P (bs := [b_k cB cC cI cJ cZ oA rA u_3.2, b_p cB cC cI cJ cZ oA rA u_3.2, b_o cB cC cI cJ cZ oA rA u_3.2] ++ [b_s cB cC cI cJ cZ oA rA u_5.2, b_c cB cC cI cJ cZ oA rA u_5.2, b_t cB cC cI cJ cZ oA rA u_5.2, b_d cB cC cI cJ cZ oA rA u_5.2]) (bs' := [b_k cB cC cI cJ cZ oA rA (mrg (fun j => j == 4 || j == 5 || j == 6 || j == 7) u_3.2 u_5.2), b_p cB cC cI cJ cZ oA rA (mrg (fun j => j == 4 || j == 5 || j == 6 || j == 7) u_3.2 u_5.2), b_o cB cC cI cJ cZ oA rA (mrg (fun j => j == 4 || j == 5 || j == 6 || j == 7) u_3.2 u_5.2), b_s cB cC cI cJ cZ oA rA (mrg (fun j => j == 4 || j == 5 || j == 6 || j == 7) u_3.2 u_5.2), b_c cB cC cI cJ cZ oA rA (mrg (fun j => j == 4 || j == 5 || j == 6 || j == 7) u_3.2 u_5.2), b_t cB cC cI cJ cZ oA rA (mrg (fun j => j == 4 || j == 5 || j == 6 || j == 7) u_3.2 u_5.2), b_d cB cC cI cJ cZ oA rA (mrg (fun j => j == 4 || j == 5 || j == 6 || j == 7) u_3.2 u_5.2)]) hP' (fl_a fl_3 fl_4) fl_7 [0, 1, 2, 3, 4, 5, 6] rfl
  clear hP' hD'
  obtain ⟨j_10, ej_10, hF_11⟩ := bnd_e hF_8
  clear hF_8
  have Jj_10 : ∀  (σ_9 : HS), j_10  σ_9 = some res → ∀ (H : Heap) (locs : List Loc), va_P (dC, dI) vwCl (b_k cB cC cI cJ cZ oA rA σ_9 ++ b_p cB cC cI cJ cZ oA rA σ_9 ++ b_o cB cC cI cJ cZ oA rA σ_9 ++ b_s cB cC cI cJ cZ oA rA σ_9 ++ b_c cB cC cI cJ cZ oA rA σ_9 ++ b_t cB cC cI cJ cZ oA rA σ_9 ++ b_d cB cC cI cJ cZ oA rA σ_9) H → va_S A s.heap H locs → ∀ ls : Array Slot, lv_has ls 3 [(0, .ref (oA 10))] → W p l e (headSpec (g_ws yX3_moveOp cX3_moveOp 3 none) { frames := 5, cells := 0, slots := 0, locals := 128 }).room s m ([.ref (oA 10)] : List Value).toArray below meth c H locs 0 0 (MQ below (va_Qv (fun (_ : Unit) => True) (g_Bo (dC, dI) A (fun (_ : Unit) => (b_k cB cC cI cJ cZ oA rA res.2 ++ b_p cB cC cI cJ cZ oA rA res.2 ++ b_o cB cC cI cJ cZ oA rA res.2 ++ b_s cB cC cI cJ cZ oA rA res.2 ++ b_c cB cC cI cJ cZ oA rA res.2 ++ b_t cB cC cI cJ cZ oA rA res.2 ++ b_d cB cC cI cJ cZ oA rA res.2))) A) ([.ref (oA 10)] : List Value).toArray s 0 0 A) (F0 m 59 ls []) := by
    intro  σ_9 hF0 H locs hP hS ls hl
    subst ej_10
    have hF_12 := hF0
    clear hF0
    refine lv_aload_n hx hb dX3_moveOp_59 rfl (lv_at hl 0 rfl) ?_
    refine lv_iconst (v := 2) hx hb dX3_moveOp_60 (by decide +kernel) ?_
    obtain ⟨u_13, hu_13, hF_14⟩ := Option.bind_eq_some_iff.mp hF_12
    clear hF_12
    have hPc := bx_P (bs := [b_k cB cC cI cJ cZ oA rA σ_9, b_p cB cC cI cJ cZ oA rA σ_9, b_o cB cC cI cJ cZ oA rA σ_9, b_s cB cC cI cJ cZ oA rA σ_9, b_c cB cC cI cJ cZ oA rA σ_9, b_t cB cC cI cJ cZ oA rA σ_9, b_d cB cC cI cJ cZ oA rA σ_9]) (bs' := [b_k cB cC cI cJ cZ oA rA σ_9, b_p cB cC cI cJ cZ oA rA σ_9, b_o cB cC cI cJ cZ oA rA σ_9, b_s cB cC cI cJ cZ oA rA σ_9, b_c cB cC cI cJ cZ oA rA σ_9, b_t cB cC cI cJ cZ oA rA σ_9, b_d cB cC cI cJ cZ oA rA σ_9]) (ws' := (b_k cB cC cI cJ cZ oA rA σ_9 ++ b_p cB cC cI cJ cZ oA rA σ_9 ++ b_o cB cC cI cJ cZ oA rA σ_9 ++ b_s cB cC cI cJ cZ oA rA σ_9 ++ b_c cB cC cI cJ cZ oA rA σ_9 ++ b_t cB cC cI cJ cZ oA rA σ_9 ++ b_d cB cC cI cJ cZ oA rA σ_9)) hP fl_7 fl_7 [0, 1, 2, 3, 4, 5, 6] rfl
    have hDc := bx_D (bs := [b_k cB cC cI cJ cZ oA rA σ_9, b_p cB cC cI cJ cZ oA rA σ_9, b_o cB cC cI cJ cZ oA rA σ_9, b_s cB cC cI cJ cZ oA rA σ_9, b_c cB cC cI cJ cZ oA rA σ_9, b_t cB cC cI cJ cZ oA rA σ_9, b_d cB cC cI cJ cZ oA rA σ_9]) (bs' := [b_k cB cC cI cJ cZ oA rA σ_9, b_p cB cC cI cJ cZ oA rA σ_9, b_o cB cC cI cJ cZ oA rA σ_9, b_s cB cC cI cJ cZ oA rA σ_9, b_c cB cC cI cJ cZ oA rA σ_9, b_t cB cC cI cJ cZ oA rA σ_9, b_d cB cC cI cJ cZ oA rA σ_9]) (ws' := (b_k cB cC cI cJ cZ oA rA σ_9 ++ b_p cB cC cI cJ cZ oA rA σ_9 ++ b_o cB cC cI cJ cZ oA rA σ_9 ++ b_s cB cC cI cJ cZ oA rA σ_9 ++ b_c cB cC cI cJ cZ oA rA σ_9 ++ b_t cB cC cI cJ cZ oA rA σ_9 ++ b_d cB cC cI cJ cZ oA rA σ_9)) (hDD σ_9) fl_7 fl_7 [0, 1, 2, 3, 4, 5, 6] (by decide +kernel) rfl
    have hFc := bx_F (bs := [b_k cB cC cI cJ cZ oA rA σ_9, b_p cB cC cI cJ cZ oA rA σ_9, b_o cB cC cI cJ cZ oA rA σ_9, b_s cB cC cI cJ cZ oA rA σ_9, b_c cB cC cI cJ cZ oA rA σ_9, b_t cB cC cI cJ cZ oA rA σ_9, b_d cB cC cI cJ cZ oA rA σ_9]) (bs' := [b_k cB cC cI cJ cZ oA rA σ_9, b_p cB cC cI cJ cZ oA rA σ_9, b_o cB cC cI cJ cZ oA rA σ_9, b_s cB cC cI cJ cZ oA rA σ_9, b_c cB cC cI cJ cZ oA rA σ_9, b_t cB cC cI cJ cZ oA rA σ_9, b_d cB cC cI cJ cZ oA rA σ_9]) (wc := (b_k cB cC cI cJ cZ oA rA σ_9 ++ b_p cB cC cI cJ cZ oA rA σ_9 ++ b_o cB cC cI cJ cZ oA rA σ_9 ++ b_s cB cC cI cJ cZ oA rA σ_9 ++ b_c cB cC cI cJ cZ oA rA σ_9 ++ b_t cB cC cI cJ cZ oA rA σ_9 ++ b_d cB cC cI cJ cZ oA rA σ_9)) (hDD σ_9) hS hA fl_7 fl_7 [0, 1, 2, 3, 4, 5, 6] rfl
    refine g_ofv (wc := (b_k cB cC cI cJ cZ oA rA σ_9 ++ b_p cB cC cI cJ cZ oA rA σ_9 ++ b_o cB cC cI cJ cZ oA rA σ_9 ++ b_s cB cC cI cJ cZ oA rA σ_9 ++ b_c cB cC cI cJ cZ oA rA σ_9 ++ b_t cB cC cI cJ cZ oA rA σ_9 ++ b_d cB cC cI cJ cZ oA rA σ_9)) (wr := ([] : va_W)) hP (hDD σ_9) hS hFc (bx_ix [b_k cB cC cI cJ cZ oA rA σ_9, b_p cB cC cI cJ cZ oA rA σ_9, b_o cB cC cI cJ cZ oA rA σ_9, b_s cB cC cI cJ cZ oA rA σ_9, b_c cB cC cI cJ cZ oA rA σ_9, b_t cB cC cI cJ cZ oA rA σ_9, b_d cB cC cI cJ cZ oA rA σ_9] [0, 1, 2, 3, 4, 5, 6]) (bx_ix [b_k cB cC cI cJ cZ oA rA σ_9, b_p cB cC cI cJ cZ oA rA σ_9, b_o cB cC cI cJ cZ oA rA σ_9, b_s cB cC cI cJ cZ oA rA σ_9, b_c cB cC cI cJ cZ oA rA σ_9, b_t cB cC cI cJ cZ oA rA σ_9, b_d cB cC cI cJ cZ oA rA σ_9] []) (bx_C (bs := [b_k cB cC cI cJ cZ oA rA σ_9, b_p cB cC cI cJ cZ oA rA σ_9, b_o cB cC cI cJ cZ oA rA σ_9, b_s cB cC cI cJ cZ oA rA σ_9, b_c cB cC cI cJ cZ oA rA σ_9, b_t cB cC cI cJ cZ oA rA σ_9, b_d cB cC cI cJ cZ oA rA σ_9]) (bs' := [b_k cB cC cI cJ cZ oA rA σ_9, b_p cB cC cI cJ cZ oA rA σ_9, b_o cB cC cI cJ cZ oA rA σ_9, b_s cB cC cI cJ cZ oA rA σ_9, b_c cB cC cI cJ cZ oA rA σ_9, b_t cB cC cI cJ cZ oA rA σ_9, b_d cB cC cI cJ cZ oA rA σ_9]) (is := [0, 1, 2, 3, 4, 5, 6]) fl_7 fl_7 rfl) (bx_C (bs := [b_k cB cC cI cJ cZ oA rA σ_9, b_p cB cC cI cJ cZ oA rA σ_9, b_o cB cC cI cJ cZ oA rA σ_9, b_s cB cC cI cJ cZ oA rA σ_9, b_c cB cC cI cJ cZ oA rA σ_9, b_t cB cC cI cJ cZ oA rA σ_9, b_d cB cC cI cJ cZ oA rA σ_9]) (bs' := []) (is := []) fl_7 fl_0 rfl) (bx_n (by decide +kernel)) (bx_d (by decide +kernel)) (va_runV (As := [.int 2]) (rest := []) ⟨hx, hb, hml, hown, hts⟩ (k_X3_stop l dC dI cB cC cI cJ cZ cP oA rA H.size  2 σ_9 _ hu_13) (cwV 1 hts (g_gV wq_1154 wq_1155 wq_2088 wq_11 wq_1156) rfl rfl rfl (by decide +kernel) ⟨Nat.le_of_ble_eq_true rfl, Nat.le_of_ble_eq_true rfl⟩) (g_preV g_bl0 hK hPc hDc hS hE hFc g_to0 (q0 := 0) (ci := 3) rfl rfl) rfl rfl hl.1 rfl (lv_room (Nat.le_of_ble_eq_true rfl)) dX3_moveOp_61 ⟨Nat.le_of_ble_eq_true rfl, Nat.le_of_ble_eq_true rfl⟩) (fun u9 H locs hw9 hP' hD' hS => ?_)
    clear hPc hDc hFc
    have hP : va_P (dC, dI) vwCl (b_k cB cC cI cJ cZ oA rA u_13.2 ++ b_p cB cC cI cJ cZ oA rA u_13.2 ++ b_o cB cC cI cJ cZ oA rA u_13.2 ++ b_s cB cC cI cJ cZ oA rA u_13.2 ++ b_c cB cC cI cJ cZ oA rA u_13.2 ++ b_t cB cC cI cJ cZ oA rA u_13.2 ++ b_d cB cC cI cJ cZ oA rA u_13.2) H := hP'
    clear hP' hD'
    refine lv_goto (tgt := 96) hx hb dX3_moveOp_64 (by decide) ?_
    have h9 := Option.some.inj hF_14
    subst h9
    exact W.vret hx hb hr (fun t ht hW => ⟨⟨(), rfl, trivial, m_end ht hP, hDD _⟩, hS.F ht⟩) hS.2.2 dX3_moveOp_96
  refine lv_if_eq (tgt := 59) hx hb dX3_moveOp_18 (by decide) (fun c_15 => ?_) (fun c_15 => ?_)
  · have hF_16 := ipos c_15 hF_11
    clear hF_11
    exact Jj_10  σ_7 hF_16 _ _ hP hS ls (lv_sub hl [2] rfl)
  · have hF_17 := ineg c_15 hF_11
    clear hF_11
    refine lv_aload_n hx hb dX3_moveOp_21 rfl (lv_at hl 2 rfl) ?_
    refine va_get (D := (dC, dI)) (ci := 3) (v := .ref (oA 4)) (C := RX3) (T := TX3) (N := 16) hx hb hts ii_X3 hown hK hP 0 rfl rfl 2 (by decide) (hts (.fieldLink RX3 52 "StoryHouse$Machine" "story" "LStoryHouse$Story;") wq_262) (fun _ h9 => h9) rfl dX3_moveOp_22 ?_
    refine lv_iload_n hx hb dX3_moveOp_25 rfl (lv_at hl 1 rfl) ?_
    obtain ⟨u_18, hu_18, hF_19⟩ := Option.bind_eq_some_iff.mp hF_17
    clear hF_17
    have hPc := bx_P (bs := [b_k cB cC cI cJ cZ oA rA σ_7, b_p cB cC cI cJ cZ oA rA σ_7, b_o cB cC cI cJ cZ oA rA σ_7, b_s cB cC cI cJ cZ oA rA σ_7, b_c cB cC cI cJ cZ oA rA σ_7, b_t cB cC cI cJ cZ oA rA σ_7, b_d cB cC cI cJ cZ oA rA σ_7]) (bs' := [b_s cB cC cI cJ cZ oA rA σ_7, b_c cB cC cI cJ cZ oA rA σ_7, b_t cB cC cI cJ cZ oA rA σ_7, b_d cB cC cI cJ cZ oA rA σ_7]) (ws' := (b_s cB cC cI cJ cZ oA rA σ_7 ++ b_c cB cC cI cJ cZ oA rA σ_7 ++ b_t cB cC cI cJ cZ oA rA σ_7 ++ b_d cB cC cI cJ cZ oA rA σ_7)) hP fl_7 fl_4 [3, 4, 5, 6] rfl
    have hDc := bx_D (bs := [b_k cB cC cI cJ cZ oA rA σ_7, b_p cB cC cI cJ cZ oA rA σ_7, b_o cB cC cI cJ cZ oA rA σ_7, b_s cB cC cI cJ cZ oA rA σ_7, b_c cB cC cI cJ cZ oA rA σ_7, b_t cB cC cI cJ cZ oA rA σ_7, b_d cB cC cI cJ cZ oA rA σ_7]) (bs' := [b_s cB cC cI cJ cZ oA rA σ_7, b_c cB cC cI cJ cZ oA rA σ_7, b_t cB cC cI cJ cZ oA rA σ_7, b_d cB cC cI cJ cZ oA rA σ_7]) (ws' := (b_s cB cC cI cJ cZ oA rA σ_7 ++ b_c cB cC cI cJ cZ oA rA σ_7 ++ b_t cB cC cI cJ cZ oA rA σ_7 ++ b_d cB cC cI cJ cZ oA rA σ_7)) (hDD σ_7) fl_7 fl_4 [3, 4, 5, 6] (by decide +kernel) rfl
    have hFc := bx_F (bs := [b_k cB cC cI cJ cZ oA rA σ_7, b_p cB cC cI cJ cZ oA rA σ_7, b_o cB cC cI cJ cZ oA rA σ_7, b_s cB cC cI cJ cZ oA rA σ_7, b_c cB cC cI cJ cZ oA rA σ_7, b_t cB cC cI cJ cZ oA rA σ_7, b_d cB cC cI cJ cZ oA rA σ_7]) (bs' := [b_s cB cC cI cJ cZ oA rA σ_7, b_c cB cC cI cJ cZ oA rA σ_7, b_t cB cC cI cJ cZ oA rA σ_7, b_d cB cC cI cJ cZ oA rA σ_7]) (wc := (b_s cB cC cI cJ cZ oA rA σ_7 ++ b_c cB cC cI cJ cZ oA rA σ_7 ++ b_t cB cC cI cJ cZ oA rA σ_7 ++ b_d cB cC cI cJ cZ oA rA σ_7)) (hDD σ_7) hS hA fl_7 fl_4 [3, 4, 5, 6] rfl
    refine g_ofi (wc := (b_s cB cC cI cJ cZ oA rA σ_7 ++ b_c cB cC cI cJ cZ oA rA σ_7 ++ b_t cB cC cI cJ cZ oA rA σ_7 ++ b_d cB cC cI cJ cZ oA rA σ_7)) (wr := (b_k cB cC cI cJ cZ oA rA σ_7 ++ b_p cB cC cI cJ cZ oA rA σ_7 ++ b_o cB cC cI cJ cZ oA rA σ_7)) hP (hDD σ_7) hS hFc (bx_ix [b_k cB cC cI cJ cZ oA rA σ_7, b_p cB cC cI cJ cZ oA rA σ_7, b_o cB cC cI cJ cZ oA rA σ_7, b_s cB cC cI cJ cZ oA rA σ_7, b_c cB cC cI cJ cZ oA rA σ_7, b_t cB cC cI cJ cZ oA rA σ_7, b_d cB cC cI cJ cZ oA rA σ_7] [3, 4, 5, 6]) (bx_ix [b_k cB cC cI cJ cZ oA rA σ_7, b_p cB cC cI cJ cZ oA rA σ_7, b_o cB cC cI cJ cZ oA rA σ_7, b_s cB cC cI cJ cZ oA rA σ_7, b_c cB cC cI cJ cZ oA rA σ_7, b_t cB cC cI cJ cZ oA rA σ_7, b_d cB cC cI cJ cZ oA rA σ_7] [0, 1, 2]) (bx_C (bs := [b_k cB cC cI cJ cZ oA rA σ_7, b_p cB cC cI cJ cZ oA rA σ_7, b_o cB cC cI cJ cZ oA rA σ_7, b_s cB cC cI cJ cZ oA rA σ_7, b_c cB cC cI cJ cZ oA rA σ_7, b_t cB cC cI cJ cZ oA rA σ_7, b_d cB cC cI cJ cZ oA rA σ_7]) (bs' := [b_s cB cC cI cJ cZ oA rA σ_7, b_c cB cC cI cJ cZ oA rA σ_7, b_t cB cC cI cJ cZ oA rA σ_7, b_d cB cC cI cJ cZ oA rA σ_7]) (is := [3, 4, 5, 6]) fl_7 fl_4 rfl) (bx_C (bs := [b_k cB cC cI cJ cZ oA rA σ_7, b_p cB cC cI cJ cZ oA rA σ_7, b_o cB cC cI cJ cZ oA rA σ_7, b_s cB cC cI cJ cZ oA rA σ_7, b_c cB cC cI cJ cZ oA rA σ_7, b_t cB cC cI cJ cZ oA rA σ_7, b_d cB cC cI cJ cZ oA rA σ_7]) (bs' := [b_k cB cC cI cJ cZ oA rA σ_7, b_p cB cC cI cJ cZ oA rA σ_7, b_o cB cC cI cJ cZ oA rA σ_7]) (is := [0, 1, 2]) fl_7 fl_3 rfl) (bx_n (by decide +kernel)) (bx_d (by decide +kernel)) (va_runV (As := [.int u_1.1]) (rest := []) ⟨hx, hb, hml, hown, hts⟩ (k_X7_isObject l dC dI cB cC cI cJ cZ cP oA rA H.size  u_1.1 σ_7 _ hu_18) (cwV 1 hts (g_gV wq_1169 wq_971 wq_972 wq_5 wq_973) rfl rfl rfl (by decide +kernel) ⟨Nat.le_of_ble_eq_true rfl, Nat.le_of_ble_eq_true rfl⟩) (g_preV g_bl0 hK hPc hDc hS hE hFc g_to0 (q0 := 0) (ci := 7) rfl rfl) rfl rfl hl.1 rfl (lv_room (Nat.le_of_ble_eq_true rfl)) dX3_moveOp_26 ⟨Nat.le_of_ble_eq_true rfl, Nat.le_of_ble_eq_true rfl⟩) (fun r9 u9 H locs hw9 hP' hD' hS => ?_)
    clear hPc hDc hFc
    subst hw9
    obtain ⟨σ_20, eσ_20, hF_21⟩ := bnd_e hF_19
    clear hF_19
    have hP : va_P (dC, dI) vwCl (b_k cB cC cI cJ cZ oA rA σ_20 ++ b_p cB cC cI cJ cZ oA rA σ_20 ++ b_o cB cC cI cJ cZ oA rA σ_20 ++ b_s cB cC cI cJ cZ oA rA σ_20 ++ b_c cB cC cI cJ cZ oA rA σ_20 ++ b_t cB cC cI cJ cZ oA rA σ_20 ++ b_d cB cC cI cJ cZ oA rA σ_20) H := by rw [eσ_20]; exact bx_P (bs := [b_k cB cC cI cJ cZ oA rA σ_7, b_p cB cC cI cJ cZ oA rA σ_7, b_o cB cC cI cJ cZ oA rA σ_7] ++ [b_s cB cC cI cJ cZ oA rA u_18.2, b_c cB cC cI cJ cZ oA rA u_18.2, b_t cB cC cI cJ cZ oA rA u_18.2, b_d cB cC cI cJ cZ oA rA u_18.2]) (bs' := [b_k cB cC cI cJ cZ oA rA (mrg (fun j => j == 4 || j == 5 || j == 6 || j == 7) σ_7 u_18.2), b_p cB cC cI cJ cZ oA rA (mrg (fun j => j == 4 || j == 5 || j == 6 || j == 7) σ_7 u_18.2), b_o cB cC cI cJ cZ oA rA (mrg (fun j => j == 4 || j == 5 || j == 6 || j == 7) σ_7 u_18.2), b_s cB cC cI cJ cZ oA rA (mrg (fun j => j == 4 || j == 5 || j == 6 || j == 7) σ_7 u_18.2), b_c cB cC cI cJ cZ oA rA (mrg (fun j => j == 4 || j == 5 || j == 6 || j == 7) σ_7 u_18.2), b_t cB cC cI cJ cZ oA rA (mrg (fun j => j == 4 || j == 5 || j == 6 || j == 7) σ_7 u_18.2), b_d cB cC cI cJ cZ oA rA (mrg (fun j => j == 4 || j == 5 || j == 6 || j == 7) σ_7 u_18.2)]) hP' (fl_a fl_3 fl_4) fl_7 [0, 1, 2, 3, 4, 5, 6] rfl
    clear hP' hD'
    refine lv_if_eq (tgt := 59) hx hb dX3_moveOp_29 (by decide) (fun c_22 => ?_) (fun c_22 => ?_)
    · have hF_23 := ipos c_22 hF_21
      clear hF_21
      exact Jj_10  σ_20 hF_23 _ _ hP hS ls (lv_sub hl [2] rfl)
    · have hF_24 := ineg c_22 hF_21
      clear hF_21
      refine lv_aload_n hx hb dX3_moveOp_32 rfl (lv_at hl 2 rfl) ?_
      refine va_get (D := (dC, dI)) (ci := 3) (v := .ref (oA 4)) (C := RX3) (T := TX3) (N := 16) hx hb hts ii_X3 hown hK hP 0 rfl rfl 2 (by decide) (hts (.fieldLink RX3 52 "StoryHouse$Machine" "story" "LStoryHouse$Story;") wq_262) (fun _ h9 => h9) rfl dX3_moveOp_33 ?_
      refine lv_iload_n hx hb dX3_moveOp_36 rfl (lv_at hl 0 rfl) ?_
      obtain ⟨u_25, hu_25, hF_26⟩ := Option.bind_eq_some_iff.mp hF_24
      clear hF_24
      have hPc := bx_P (bs := [b_k cB cC cI cJ cZ oA rA σ_20, b_p cB cC cI cJ cZ oA rA σ_20, b_o cB cC cI cJ cZ oA rA σ_20, b_s cB cC cI cJ cZ oA rA σ_20, b_c cB cC cI cJ cZ oA rA σ_20, b_t cB cC cI cJ cZ oA rA σ_20, b_d cB cC cI cJ cZ oA rA σ_20]) (bs' := [b_s cB cC cI cJ cZ oA rA σ_20, b_c cB cC cI cJ cZ oA rA σ_20, b_t cB cC cI cJ cZ oA rA σ_20, b_d cB cC cI cJ cZ oA rA σ_20]) (ws' := (b_s cB cC cI cJ cZ oA rA σ_20 ++ b_c cB cC cI cJ cZ oA rA σ_20 ++ b_t cB cC cI cJ cZ oA rA σ_20 ++ b_d cB cC cI cJ cZ oA rA σ_20)) hP fl_7 fl_4 [3, 4, 5, 6] rfl
      have hDc := bx_D (bs := [b_k cB cC cI cJ cZ oA rA σ_20, b_p cB cC cI cJ cZ oA rA σ_20, b_o cB cC cI cJ cZ oA rA σ_20, b_s cB cC cI cJ cZ oA rA σ_20, b_c cB cC cI cJ cZ oA rA σ_20, b_t cB cC cI cJ cZ oA rA σ_20, b_d cB cC cI cJ cZ oA rA σ_20]) (bs' := [b_s cB cC cI cJ cZ oA rA σ_20, b_c cB cC cI cJ cZ oA rA σ_20, b_t cB cC cI cJ cZ oA rA σ_20, b_d cB cC cI cJ cZ oA rA σ_20]) (ws' := (b_s cB cC cI cJ cZ oA rA σ_20 ++ b_c cB cC cI cJ cZ oA rA σ_20 ++ b_t cB cC cI cJ cZ oA rA σ_20 ++ b_d cB cC cI cJ cZ oA rA σ_20)) (hDD σ_20) fl_7 fl_4 [3, 4, 5, 6] (by decide +kernel) rfl
      have hFc := bx_F (bs := [b_k cB cC cI cJ cZ oA rA σ_20, b_p cB cC cI cJ cZ oA rA σ_20, b_o cB cC cI cJ cZ oA rA σ_20, b_s cB cC cI cJ cZ oA rA σ_20, b_c cB cC cI cJ cZ oA rA σ_20, b_t cB cC cI cJ cZ oA rA σ_20, b_d cB cC cI cJ cZ oA rA σ_20]) (bs' := [b_s cB cC cI cJ cZ oA rA σ_20, b_c cB cC cI cJ cZ oA rA σ_20, b_t cB cC cI cJ cZ oA rA σ_20, b_d cB cC cI cJ cZ oA rA σ_20]) (wc := (b_s cB cC cI cJ cZ oA rA σ_20 ++ b_c cB cC cI cJ cZ oA rA σ_20 ++ b_t cB cC cI cJ cZ oA rA σ_20 ++ b_d cB cC cI cJ cZ oA rA σ_20)) (hDD σ_20) hS hA fl_7 fl_4 [3, 4, 5, 6] rfl
      refine g_ofi (wc := (b_s cB cC cI cJ cZ oA rA σ_20 ++ b_c cB cC cI cJ cZ oA rA σ_20 ++ b_t cB cC cI cJ cZ oA rA σ_20 ++ b_d cB cC cI cJ cZ oA rA σ_20)) (wr := (b_k cB cC cI cJ cZ oA rA σ_20 ++ b_p cB cC cI cJ cZ oA rA σ_20 ++ b_o cB cC cI cJ cZ oA rA σ_20)) hP (hDD σ_20) hS hFc (bx_ix [b_k cB cC cI cJ cZ oA rA σ_20, b_p cB cC cI cJ cZ oA rA σ_20, b_o cB cC cI cJ cZ oA rA σ_20, b_s cB cC cI cJ cZ oA rA σ_20, b_c cB cC cI cJ cZ oA rA σ_20, b_t cB cC cI cJ cZ oA rA σ_20, b_d cB cC cI cJ cZ oA rA σ_20] [3, 4, 5, 6]) (bx_ix [b_k cB cC cI cJ cZ oA rA σ_20, b_p cB cC cI cJ cZ oA rA σ_20, b_o cB cC cI cJ cZ oA rA σ_20, b_s cB cC cI cJ cZ oA rA σ_20, b_c cB cC cI cJ cZ oA rA σ_20, b_t cB cC cI cJ cZ oA rA σ_20, b_d cB cC cI cJ cZ oA rA σ_20] [0, 1, 2]) (bx_C (bs := [b_k cB cC cI cJ cZ oA rA σ_20, b_p cB cC cI cJ cZ oA rA σ_20, b_o cB cC cI cJ cZ oA rA σ_20, b_s cB cC cI cJ cZ oA rA σ_20, b_c cB cC cI cJ cZ oA rA σ_20, b_t cB cC cI cJ cZ oA rA σ_20, b_d cB cC cI cJ cZ oA rA σ_20]) (bs' := [b_s cB cC cI cJ cZ oA rA σ_20, b_c cB cC cI cJ cZ oA rA σ_20, b_t cB cC cI cJ cZ oA rA σ_20, b_d cB cC cI cJ cZ oA rA σ_20]) (is := [3, 4, 5, 6]) fl_7 fl_4 rfl) (bx_C (bs := [b_k cB cC cI cJ cZ oA rA σ_20, b_p cB cC cI cJ cZ oA rA σ_20, b_o cB cC cI cJ cZ oA rA σ_20, b_s cB cC cI cJ cZ oA rA σ_20, b_c cB cC cI cJ cZ oA rA σ_20, b_t cB cC cI cJ cZ oA rA σ_20, b_d cB cC cI cJ cZ oA rA σ_20]) (bs' := [b_k cB cC cI cJ cZ oA rA σ_20, b_p cB cC cI cJ cZ oA rA σ_20, b_o cB cC cI cJ cZ oA rA σ_20]) (is := [0, 1, 2]) fl_7 fl_3 rfl) (bx_n (by decide +kernel)) (bx_d (by decide +kernel)) (va_runV (As := [.int u_3.1]) (rest := []) ⟨hx, hb, hml, hown, hts⟩ (k_X7_isRoom l dC dI cB cC cI cJ cZ cP oA rA H.size  u_3.1 σ_20 _ hu_25) (cwV 1 hts (g_gV wq_1178 wq_816 wq_817 wq_5 wq_818) rfl rfl rfl (by decide +kernel) ⟨Nat.le_of_ble_eq_true rfl, Nat.le_of_ble_eq_true rfl⟩) (g_preV g_bl0 hK hPc hDc hS hE hFc g_to0 (q0 := 0) (ci := 7) rfl rfl) rfl rfl hl.1 rfl (lv_room (Nat.le_of_ble_eq_true rfl)) dX3_moveOp_37 ⟨Nat.le_of_ble_eq_true rfl, Nat.le_of_ble_eq_true rfl⟩) (fun r9 u9 H locs hw9 hP' hD' hS => ?_)
      clear hPc hDc hFc
      subst hw9
      obtain ⟨σ_27, eσ_27, hF_28⟩ := bnd_e hF_26
      clear hF_26
      have hP : va_P (dC, dI) vwCl (b_k cB cC cI cJ cZ oA rA σ_27 ++ b_p cB cC cI cJ cZ oA rA σ_27 ++ b_o cB cC cI cJ cZ oA rA σ_27 ++ b_s cB cC cI cJ cZ oA rA σ_27 ++ b_c cB cC cI cJ cZ oA rA σ_27 ++ b_t cB cC cI cJ cZ oA rA σ_27 ++ b_d cB cC cI cJ cZ oA rA σ_27) H := by rw [eσ_27]; exact bx_P (bs := [b_k cB cC cI cJ cZ oA rA σ_20, b_p cB cC cI cJ cZ oA rA σ_20, b_o cB cC cI cJ cZ oA rA σ_20] ++ [b_s cB cC cI cJ cZ oA rA u_25.2, b_c cB cC cI cJ cZ oA rA u_25.2, b_t cB cC cI cJ cZ oA rA u_25.2, b_d cB cC cI cJ cZ oA rA u_25.2]) (bs' := [b_k cB cC cI cJ cZ oA rA (mrg (fun j => j == 4 || j == 5 || j == 6 || j == 7) σ_20 u_25.2), b_p cB cC cI cJ cZ oA rA (mrg (fun j => j == 4 || j == 5 || j == 6 || j == 7) σ_20 u_25.2), b_o cB cC cI cJ cZ oA rA (mrg (fun j => j == 4 || j == 5 || j == 6 || j == 7) σ_20 u_25.2), b_s cB cC cI cJ cZ oA rA (mrg (fun j => j == 4 || j == 5 || j == 6 || j == 7) σ_20 u_25.2), b_c cB cC cI cJ cZ oA rA (mrg (fun j => j == 4 || j == 5 || j == 6 || j == 7) σ_20 u_25.2), b_t cB cC cI cJ cZ oA rA (mrg (fun j => j == 4 || j == 5 || j == 6 || j == 7) σ_20 u_25.2), b_d cB cC cI cJ cZ oA rA (mrg (fun j => j == 4 || j == 5 || j == 6 || j == 7) σ_20 u_25.2)]) hP' (fl_a fl_3 fl_4) fl_7 [0, 1, 2, 3, 4, 5, 6] rfl
      clear hP' hD'
      refine lv_if_ne (tgt := 59) hx hb dX3_moveOp_40 (by decide) (fun c_29 => ?_) (fun c_29 => ?_)
      · have hF_58 := ineg c_29 hF_28
        clear hF_28
        exact Jj_10  σ_27 hF_58 _ _ hP hS ls (lv_sub hl [2] rfl)
      · have hF_30 := ipos c_29 hF_28
        clear hF_28
        refine lv_iload_n hx hb dX3_moveOp_43 rfl (lv_at hl 0 rfl) ?_
        refine lv_iconst (v := 1) hx hb dX3_moveOp_44 (by decide +kernel) ?_
        obtain ⟨j_32, ej_32, hF_33⟩ := bnd_e hF_30
        clear hF_30
        have Jj_32 : ∀  (σ_31 : HS), j_32  σ_31 = some res → ∀ (H : Heap) (locs : List Loc), va_P (dC, dI) vwCl (b_k cB cC cI cJ cZ oA rA σ_31 ++ b_p cB cC cI cJ cZ oA rA σ_31 ++ b_o cB cC cI cJ cZ oA rA σ_31 ++ b_s cB cC cI cJ cZ oA rA σ_31 ++ b_c cB cC cI cJ cZ oA rA σ_31 ++ b_t cB cC cI cJ cZ oA rA σ_31 ++ b_d cB cC cI cJ cZ oA rA σ_31) H → va_S A s.heap H locs → ∀ ls : Array Slot, lv_has ls 3 [(0, .ref (oA 10)), (1, .int u_1.1), (2, .int u_3.1)] → W p l e (headSpec (g_ws yX3_moveOp cX3_moveOp 3 none) { frames := 5, cells := 0, slots := 0, locals := 128 }).room s m ([.ref (oA 10)] : List Value).toArray below meth c H locs 0 0 (MQ below (va_Qv (fun (_ : Unit) => True) (g_Bo (dC, dI) A (fun (_ : Unit) => (b_k cB cC cI cJ cZ oA rA res.2 ++ b_p cB cC cI cJ cZ oA rA res.2 ++ b_o cB cC cI cJ cZ oA rA res.2 ++ b_s cB cC cI cJ cZ oA rA res.2 ++ b_c cB cC cI cJ cZ oA rA res.2 ++ b_t cB cC cI cJ cZ oA rA res.2 ++ b_d cB cC cI cJ cZ oA rA res.2))) A) ([.ref (oA 10)] : List Value).toArray s 0 0 A) (F0 m 67 ls []) := by
          intro  σ_31 hF0 H locs hP hS ls hl
          subst ej_32
          have hF_34 := hF0
          clear hF0
          refine lv_aload_n hx hb dX3_moveOp_67 rfl (lv_at hl 0 rfl) ?_
          refine va_get (D := (dC, dI)) (ci := 3) (v := .ref (oA 9)) (C := RX3) (T := TX3) (N := 16) hx hb hts ii_X3 hown hK hP 0 rfl rfl 0 (by decide) (hts (.fieldLink RX3 29 "StoryHouse$Machine" "play" "LStoryHouse$Play;") wq_259) (fun _ h9 => h9) rfl dX3_moveOp_68 ?_
          refine lv_iload_n hx hb dX3_moveOp_71 rfl (lv_at hl 1 rfl) ?_
          refine lv_iload_n hx hb dX3_moveOp_72 rfl (lv_at hl 2 rfl) ?_
          obtain ⟨u_35, hu_35, hF_36⟩ := Option.bind_eq_some_iff.mp hF_34
          clear hF_34
          have hPc := bx_P (bs := [b_k cB cC cI cJ cZ oA rA σ_31, b_p cB cC cI cJ cZ oA rA σ_31, b_o cB cC cI cJ cZ oA rA σ_31, b_s cB cC cI cJ cZ oA rA σ_31, b_c cB cC cI cJ cZ oA rA σ_31, b_t cB cC cI cJ cZ oA rA σ_31, b_d cB cC cI cJ cZ oA rA σ_31]) (bs' := [b_p cB cC cI cJ cZ oA rA σ_31]) (ws' := (b_p cB cC cI cJ cZ oA rA σ_31)) hP fl_7 fl_1 [1] rfl
          have hDc := bx_D (bs := [b_k cB cC cI cJ cZ oA rA σ_31, b_p cB cC cI cJ cZ oA rA σ_31, b_o cB cC cI cJ cZ oA rA σ_31, b_s cB cC cI cJ cZ oA rA σ_31, b_c cB cC cI cJ cZ oA rA σ_31, b_t cB cC cI cJ cZ oA rA σ_31, b_d cB cC cI cJ cZ oA rA σ_31]) (bs' := [b_p cB cC cI cJ cZ oA rA σ_31]) (ws' := (b_p cB cC cI cJ cZ oA rA σ_31)) (hDD σ_31) fl_7 fl_1 [1] (by decide +kernel) rfl
          have hFc := bx_F (bs := [b_k cB cC cI cJ cZ oA rA σ_31, b_p cB cC cI cJ cZ oA rA σ_31, b_o cB cC cI cJ cZ oA rA σ_31, b_s cB cC cI cJ cZ oA rA σ_31, b_c cB cC cI cJ cZ oA rA σ_31, b_t cB cC cI cJ cZ oA rA σ_31, b_d cB cC cI cJ cZ oA rA σ_31]) (bs' := [b_p cB cC cI cJ cZ oA rA σ_31]) (wc := (b_p cB cC cI cJ cZ oA rA σ_31)) (hDD σ_31) hS hA fl_7 fl_1 [1] rfl
          refine g_ofi (wc := (b_p cB cC cI cJ cZ oA rA σ_31)) (wr := (b_k cB cC cI cJ cZ oA rA σ_31 ++ b_o cB cC cI cJ cZ oA rA σ_31 ++ b_s cB cC cI cJ cZ oA rA σ_31 ++ b_c cB cC cI cJ cZ oA rA σ_31 ++ b_t cB cC cI cJ cZ oA rA σ_31 ++ b_d cB cC cI cJ cZ oA rA σ_31)) hP (hDD σ_31) hS hFc (bx_ix [b_k cB cC cI cJ cZ oA rA σ_31, b_p cB cC cI cJ cZ oA rA σ_31, b_o cB cC cI cJ cZ oA rA σ_31, b_s cB cC cI cJ cZ oA rA σ_31, b_c cB cC cI cJ cZ oA rA σ_31, b_t cB cC cI cJ cZ oA rA σ_31, b_d cB cC cI cJ cZ oA rA σ_31] [1]) (bx_ix [b_k cB cC cI cJ cZ oA rA σ_31, b_p cB cC cI cJ cZ oA rA σ_31, b_o cB cC cI cJ cZ oA rA σ_31, b_s cB cC cI cJ cZ oA rA σ_31, b_c cB cC cI cJ cZ oA rA σ_31, b_t cB cC cI cJ cZ oA rA σ_31, b_d cB cC cI cJ cZ oA rA σ_31] [0, 2, 3, 4, 5, 6]) (bx_C (bs := [b_k cB cC cI cJ cZ oA rA σ_31, b_p cB cC cI cJ cZ oA rA σ_31, b_o cB cC cI cJ cZ oA rA σ_31, b_s cB cC cI cJ cZ oA rA σ_31, b_c cB cC cI cJ cZ oA rA σ_31, b_t cB cC cI cJ cZ oA rA σ_31, b_d cB cC cI cJ cZ oA rA σ_31]) (bs' := [b_p cB cC cI cJ cZ oA rA σ_31]) (is := [1]) fl_7 fl_1 rfl) (bx_C (bs := [b_k cB cC cI cJ cZ oA rA σ_31, b_p cB cC cI cJ cZ oA rA σ_31, b_o cB cC cI cJ cZ oA rA σ_31, b_s cB cC cI cJ cZ oA rA σ_31, b_c cB cC cI cJ cZ oA rA σ_31, b_t cB cC cI cJ cZ oA rA σ_31, b_d cB cC cI cJ cZ oA rA σ_31]) (bs' := [b_k cB cC cI cJ cZ oA rA σ_31, b_o cB cC cI cJ cZ oA rA σ_31, b_s cB cC cI cJ cZ oA rA σ_31, b_c cB cC cI cJ cZ oA rA σ_31, b_t cB cC cI cJ cZ oA rA σ_31, b_d cB cC cI cJ cZ oA rA σ_31]) (is := [0, 2, 3, 4, 5, 6]) fl_7 fl_6 rfl) (bx_n (by decide +kernel)) (bx_d (by decide +kernel)) (va_runV (As := [.int u_1.1, .int u_3.1]) (rest := []) ⟨hx, hb, hml, hown, hts⟩ (k_X6_isWithin l dC dI cB cC cI cJ cZ cP oA rA H.size  u_1.1 u_3.1 σ_31 _ hu_35) (cwV 2 hts (g_gV wq_1179 wq_1180 wq_1181 wq_10 wq_1182) rfl rfl rfl (by decide +kernel) ⟨Nat.le_of_ble_eq_true rfl, Nat.le_of_ble_eq_true rfl⟩) (g_preV g_bl0 hK hPc hDc hS hE hFc g_to0 (q0 := 0) (ci := 6) rfl rfl) rfl rfl hl.1 rfl (lv_room (Nat.le_of_ble_eq_true rfl)) dX3_moveOp_73 ⟨Nat.le_of_ble_eq_true rfl, Nat.le_of_ble_eq_true rfl⟩) (fun r9 u9 H locs hw9 hP' hD' hS => ?_)
          clear hPc hDc hFc
          subst hw9
          obtain ⟨σ_37, eσ_37, hF_38⟩ := bnd_e hF_36
          clear hF_36
          have hP : va_P (dC, dI) vwCl (b_k cB cC cI cJ cZ oA rA σ_37 ++ b_p cB cC cI cJ cZ oA rA σ_37 ++ b_o cB cC cI cJ cZ oA rA σ_37 ++ b_s cB cC cI cJ cZ oA rA σ_37 ++ b_c cB cC cI cJ cZ oA rA σ_37 ++ b_t cB cC cI cJ cZ oA rA σ_37 ++ b_d cB cC cI cJ cZ oA rA σ_37) H := by rw [eσ_37]; exact bx_P (bs := [b_k cB cC cI cJ cZ oA rA σ_31, b_o cB cC cI cJ cZ oA rA σ_31, b_s cB cC cI cJ cZ oA rA σ_31, b_c cB cC cI cJ cZ oA rA σ_31, b_t cB cC cI cJ cZ oA rA σ_31, b_d cB cC cI cJ cZ oA rA σ_31] ++ [b_p cB cC cI cJ cZ oA rA u_35.2]) (bs' := [b_k cB cC cI cJ cZ oA rA (mrg (fun j => j == 9) σ_31 u_35.2), b_p cB cC cI cJ cZ oA rA (mrg (fun j => j == 9) σ_31 u_35.2), b_o cB cC cI cJ cZ oA rA (mrg (fun j => j == 9) σ_31 u_35.2), b_s cB cC cI cJ cZ oA rA (mrg (fun j => j == 9) σ_31 u_35.2), b_c cB cC cI cJ cZ oA rA (mrg (fun j => j == 9) σ_31 u_35.2), b_t cB cC cI cJ cZ oA rA (mrg (fun j => j == 9) σ_31 u_35.2), b_d cB cC cI cJ cZ oA rA (mrg (fun j => j == 9) σ_31 u_35.2)]) hP' (fl_a fl_6 fl_1) fl_7 [0, 6, 1, 2, 3, 4, 5] rfl
          clear hP' hD'
          refine lv_if_eq (tgt := 87) hx hb dX3_moveOp_76 (by decide) (fun c_39 => ?_) (fun c_39 => ?_)
          · have hF_40 := ipos c_39 hF_38
            clear hF_38
            refine lv_aload_n hx hb dX3_moveOp_87 rfl (lv_at hl 0 rfl) ?_
            refine va_get (D := (dC, dI)) (ci := 3) (v := .ref (oA 9)) (C := RX3) (T := TX3) (N := 16) hx hb hts ii_X3 hown hK hP 0 rfl rfl 0 (by decide) (hts (.fieldLink RX3 29 "StoryHouse$Machine" "play" "LStoryHouse$Play;") wq_259) (fun _ h9 => h9) rfl dX3_moveOp_88 ?_
            refine lv_iload_n hx hb dX3_moveOp_91 rfl (lv_at hl 2 rfl) ?_
            refine lv_iload_n hx hb dX3_moveOp_92 rfl (lv_at hl 1 rfl) ?_
            obtain ⟨u_41, hu_41, hF_42⟩ := Option.bind_eq_some_iff.mp hF_40
            clear hF_40
            have hPc := bx_P (bs := [b_k cB cC cI cJ cZ oA rA σ_37, b_p cB cC cI cJ cZ oA rA σ_37, b_o cB cC cI cJ cZ oA rA σ_37, b_s cB cC cI cJ cZ oA rA σ_37, b_c cB cC cI cJ cZ oA rA σ_37, b_t cB cC cI cJ cZ oA rA σ_37, b_d cB cC cI cJ cZ oA rA σ_37]) (bs' := [b_p cB cC cI cJ cZ oA rA σ_37]) (ws' := (b_p cB cC cI cJ cZ oA rA σ_37)) hP fl_7 fl_1 [1] rfl
            have hDc := bx_D (bs := [b_k cB cC cI cJ cZ oA rA σ_37, b_p cB cC cI cJ cZ oA rA σ_37, b_o cB cC cI cJ cZ oA rA σ_37, b_s cB cC cI cJ cZ oA rA σ_37, b_c cB cC cI cJ cZ oA rA σ_37, b_t cB cC cI cJ cZ oA rA σ_37, b_d cB cC cI cJ cZ oA rA σ_37]) (bs' := [b_p cB cC cI cJ cZ oA rA σ_37]) (ws' := (b_p cB cC cI cJ cZ oA rA σ_37)) (hDD σ_37) fl_7 fl_1 [1] (by decide +kernel) rfl
            have hFc := bx_F (bs := [b_k cB cC cI cJ cZ oA rA σ_37, b_p cB cC cI cJ cZ oA rA σ_37, b_o cB cC cI cJ cZ oA rA σ_37, b_s cB cC cI cJ cZ oA rA σ_37, b_c cB cC cI cJ cZ oA rA σ_37, b_t cB cC cI cJ cZ oA rA σ_37, b_d cB cC cI cJ cZ oA rA σ_37]) (bs' := [b_p cB cC cI cJ cZ oA rA σ_37]) (wc := (b_p cB cC cI cJ cZ oA rA σ_37)) (hDD σ_37) hS hA fl_7 fl_1 [1] rfl
            refine g_ofv (wc := (b_p cB cC cI cJ cZ oA rA σ_37)) (wr := (b_k cB cC cI cJ cZ oA rA σ_37 ++ b_o cB cC cI cJ cZ oA rA σ_37 ++ b_s cB cC cI cJ cZ oA rA σ_37 ++ b_c cB cC cI cJ cZ oA rA σ_37 ++ b_t cB cC cI cJ cZ oA rA σ_37 ++ b_d cB cC cI cJ cZ oA rA σ_37)) hP (hDD σ_37) hS hFc (bx_ix [b_k cB cC cI cJ cZ oA rA σ_37, b_p cB cC cI cJ cZ oA rA σ_37, b_o cB cC cI cJ cZ oA rA σ_37, b_s cB cC cI cJ cZ oA rA σ_37, b_c cB cC cI cJ cZ oA rA σ_37, b_t cB cC cI cJ cZ oA rA σ_37, b_d cB cC cI cJ cZ oA rA σ_37] [1]) (bx_ix [b_k cB cC cI cJ cZ oA rA σ_37, b_p cB cC cI cJ cZ oA rA σ_37, b_o cB cC cI cJ cZ oA rA σ_37, b_s cB cC cI cJ cZ oA rA σ_37, b_c cB cC cI cJ cZ oA rA σ_37, b_t cB cC cI cJ cZ oA rA σ_37, b_d cB cC cI cJ cZ oA rA σ_37] [0, 2, 3, 4, 5, 6]) (bx_C (bs := [b_k cB cC cI cJ cZ oA rA σ_37, b_p cB cC cI cJ cZ oA rA σ_37, b_o cB cC cI cJ cZ oA rA σ_37, b_s cB cC cI cJ cZ oA rA σ_37, b_c cB cC cI cJ cZ oA rA σ_37, b_t cB cC cI cJ cZ oA rA σ_37, b_d cB cC cI cJ cZ oA rA σ_37]) (bs' := [b_p cB cC cI cJ cZ oA rA σ_37]) (is := [1]) fl_7 fl_1 rfl) (bx_C (bs := [b_k cB cC cI cJ cZ oA rA σ_37, b_p cB cC cI cJ cZ oA rA σ_37, b_o cB cC cI cJ cZ oA rA σ_37, b_s cB cC cI cJ cZ oA rA σ_37, b_c cB cC cI cJ cZ oA rA σ_37, b_t cB cC cI cJ cZ oA rA σ_37, b_d cB cC cI cJ cZ oA rA σ_37]) (bs' := [b_k cB cC cI cJ cZ oA rA σ_37, b_o cB cC cI cJ cZ oA rA σ_37, b_s cB cC cI cJ cZ oA rA σ_37, b_c cB cC cI cJ cZ oA rA σ_37, b_t cB cC cI cJ cZ oA rA σ_37, b_d cB cC cI cJ cZ oA rA σ_37]) (is := [0, 2, 3, 4, 5, 6]) fl_7 fl_6 rfl) (bx_n (by decide +kernel)) (bx_d (by decide +kernel)) (va_runV (As := [.int u_3.1, .int u_1.1]) (rest := []) ⟨hx, hb, hml, hown, hts⟩ (k_X6_moveInto l dC dI cB cC cI cJ cZ cP oA rA H.size  u_3.1 u_1.1 σ_37 _ hu_41) (cwV 2 hts (g_gV wq_1183 wq_963 wq_964 wq_10 wq_965) rfl rfl rfl (by decide +kernel) ⟨Nat.le_of_ble_eq_true rfl, Nat.le_of_ble_eq_true rfl⟩) (g_preV g_bl0 hK hPc hDc hS hE hFc g_to0 (q0 := 0) (ci := 6) rfl rfl) rfl rfl hl.1 rfl (lv_room (Nat.le_of_ble_eq_true rfl)) dX3_moveOp_93 ⟨Nat.le_of_ble_eq_true rfl, Nat.le_of_ble_eq_true rfl⟩) (fun u9 H locs hw9 hP' hD' hS => ?_)
            clear hPc hDc hFc
            obtain ⟨σ_43, eσ_43, hF_44⟩ := bnd_e hF_42
            clear hF_42
            have hP : va_P (dC, dI) vwCl (b_k cB cC cI cJ cZ oA rA σ_43 ++ b_p cB cC cI cJ cZ oA rA σ_43 ++ b_o cB cC cI cJ cZ oA rA σ_43 ++ b_s cB cC cI cJ cZ oA rA σ_43 ++ b_c cB cC cI cJ cZ oA rA σ_43 ++ b_t cB cC cI cJ cZ oA rA σ_43 ++ b_d cB cC cI cJ cZ oA rA σ_43) H := by rw [eσ_43]; exact bx_P (bs := [b_k cB cC cI cJ cZ oA rA σ_37, b_o cB cC cI cJ cZ oA rA σ_37, b_s cB cC cI cJ cZ oA rA σ_37, b_c cB cC cI cJ cZ oA rA σ_37, b_t cB cC cI cJ cZ oA rA σ_37, b_d cB cC cI cJ cZ oA rA σ_37] ++ [b_p cB cC cI cJ cZ oA rA u_41.2]) (bs' := [b_k cB cC cI cJ cZ oA rA (mrg (fun j => j == 9) σ_37 u_41.2), b_p cB cC cI cJ cZ oA rA (mrg (fun j => j == 9) σ_37 u_41.2), b_o cB cC cI cJ cZ oA rA (mrg (fun j => j == 9) σ_37 u_41.2), b_s cB cC cI cJ cZ oA rA (mrg (fun j => j == 9) σ_37 u_41.2), b_c cB cC cI cJ cZ oA rA (mrg (fun j => j == 9) σ_37 u_41.2), b_t cB cC cI cJ cZ oA rA (mrg (fun j => j == 9) σ_37 u_41.2), b_d cB cC cI cJ cZ oA rA (mrg (fun j => j == 9) σ_37 u_41.2)]) hP' (fl_a fl_6 fl_1) fl_7 [0, 6, 1, 2, 3, 4, 5] rfl
            clear hP' hD'
            have h9 := Option.some.inj hF_44
            subst h9
            exact W.vret hx hb hr (fun t ht hW => ⟨⟨(), rfl, trivial, m_end ht hP, hDD _⟩, hS.F ht⟩) hS.2.2 dX3_moveOp_96
          · have hF_45 := ineg c_39 hF_38
            clear hF_38
            refine lv_aload_n hx hb dX3_moveOp_79 rfl (lv_at hl 0 rfl) ?_
            refine lv_iconst (v := 3) hx hb dX3_moveOp_80 (by decide +kernel) ?_
            obtain ⟨u_46, hu_46, hF_47⟩ := Option.bind_eq_some_iff.mp hF_45
            clear hF_45
            have hPc := bx_P (bs := [b_k cB cC cI cJ cZ oA rA σ_37, b_p cB cC cI cJ cZ oA rA σ_37, b_o cB cC cI cJ cZ oA rA σ_37, b_s cB cC cI cJ cZ oA rA σ_37, b_c cB cC cI cJ cZ oA rA σ_37, b_t cB cC cI cJ cZ oA rA σ_37, b_d cB cC cI cJ cZ oA rA σ_37]) (bs' := [b_k cB cC cI cJ cZ oA rA σ_37, b_p cB cC cI cJ cZ oA rA σ_37, b_o cB cC cI cJ cZ oA rA σ_37, b_s cB cC cI cJ cZ oA rA σ_37, b_c cB cC cI cJ cZ oA rA σ_37, b_t cB cC cI cJ cZ oA rA σ_37, b_d cB cC cI cJ cZ oA rA σ_37]) (ws' := (b_k cB cC cI cJ cZ oA rA σ_37 ++ b_p cB cC cI cJ cZ oA rA σ_37 ++ b_o cB cC cI cJ cZ oA rA σ_37 ++ b_s cB cC cI cJ cZ oA rA σ_37 ++ b_c cB cC cI cJ cZ oA rA σ_37 ++ b_t cB cC cI cJ cZ oA rA σ_37 ++ b_d cB cC cI cJ cZ oA rA σ_37)) hP fl_7 fl_7 [0, 1, 2, 3, 4, 5, 6] rfl
            have hDc := bx_D (bs := [b_k cB cC cI cJ cZ oA rA σ_37, b_p cB cC cI cJ cZ oA rA σ_37, b_o cB cC cI cJ cZ oA rA σ_37, b_s cB cC cI cJ cZ oA rA σ_37, b_c cB cC cI cJ cZ oA rA σ_37, b_t cB cC cI cJ cZ oA rA σ_37, b_d cB cC cI cJ cZ oA rA σ_37]) (bs' := [b_k cB cC cI cJ cZ oA rA σ_37, b_p cB cC cI cJ cZ oA rA σ_37, b_o cB cC cI cJ cZ oA rA σ_37, b_s cB cC cI cJ cZ oA rA σ_37, b_c cB cC cI cJ cZ oA rA σ_37, b_t cB cC cI cJ cZ oA rA σ_37, b_d cB cC cI cJ cZ oA rA σ_37]) (ws' := (b_k cB cC cI cJ cZ oA rA σ_37 ++ b_p cB cC cI cJ cZ oA rA σ_37 ++ b_o cB cC cI cJ cZ oA rA σ_37 ++ b_s cB cC cI cJ cZ oA rA σ_37 ++ b_c cB cC cI cJ cZ oA rA σ_37 ++ b_t cB cC cI cJ cZ oA rA σ_37 ++ b_d cB cC cI cJ cZ oA rA σ_37)) (hDD σ_37) fl_7 fl_7 [0, 1, 2, 3, 4, 5, 6] (by decide +kernel) rfl
            have hFc := bx_F (bs := [b_k cB cC cI cJ cZ oA rA σ_37, b_p cB cC cI cJ cZ oA rA σ_37, b_o cB cC cI cJ cZ oA rA σ_37, b_s cB cC cI cJ cZ oA rA σ_37, b_c cB cC cI cJ cZ oA rA σ_37, b_t cB cC cI cJ cZ oA rA σ_37, b_d cB cC cI cJ cZ oA rA σ_37]) (bs' := [b_k cB cC cI cJ cZ oA rA σ_37, b_p cB cC cI cJ cZ oA rA σ_37, b_o cB cC cI cJ cZ oA rA σ_37, b_s cB cC cI cJ cZ oA rA σ_37, b_c cB cC cI cJ cZ oA rA σ_37, b_t cB cC cI cJ cZ oA rA σ_37, b_d cB cC cI cJ cZ oA rA σ_37]) (wc := (b_k cB cC cI cJ cZ oA rA σ_37 ++ b_p cB cC cI cJ cZ oA rA σ_37 ++ b_o cB cC cI cJ cZ oA rA σ_37 ++ b_s cB cC cI cJ cZ oA rA σ_37 ++ b_c cB cC cI cJ cZ oA rA σ_37 ++ b_t cB cC cI cJ cZ oA rA σ_37 ++ b_d cB cC cI cJ cZ oA rA σ_37)) (hDD σ_37) hS hA fl_7 fl_7 [0, 1, 2, 3, 4, 5, 6] rfl
            refine g_ofv (wc := (b_k cB cC cI cJ cZ oA rA σ_37 ++ b_p cB cC cI cJ cZ oA rA σ_37 ++ b_o cB cC cI cJ cZ oA rA σ_37 ++ b_s cB cC cI cJ cZ oA rA σ_37 ++ b_c cB cC cI cJ cZ oA rA σ_37 ++ b_t cB cC cI cJ cZ oA rA σ_37 ++ b_d cB cC cI cJ cZ oA rA σ_37)) (wr := ([] : va_W)) hP (hDD σ_37) hS hFc (bx_ix [b_k cB cC cI cJ cZ oA rA σ_37, b_p cB cC cI cJ cZ oA rA σ_37, b_o cB cC cI cJ cZ oA rA σ_37, b_s cB cC cI cJ cZ oA rA σ_37, b_c cB cC cI cJ cZ oA rA σ_37, b_t cB cC cI cJ cZ oA rA σ_37, b_d cB cC cI cJ cZ oA rA σ_37] [0, 1, 2, 3, 4, 5, 6]) (bx_ix [b_k cB cC cI cJ cZ oA rA σ_37, b_p cB cC cI cJ cZ oA rA σ_37, b_o cB cC cI cJ cZ oA rA σ_37, b_s cB cC cI cJ cZ oA rA σ_37, b_c cB cC cI cJ cZ oA rA σ_37, b_t cB cC cI cJ cZ oA rA σ_37, b_d cB cC cI cJ cZ oA rA σ_37] []) (bx_C (bs := [b_k cB cC cI cJ cZ oA rA σ_37, b_p cB cC cI cJ cZ oA rA σ_37, b_o cB cC cI cJ cZ oA rA σ_37, b_s cB cC cI cJ cZ oA rA σ_37, b_c cB cC cI cJ cZ oA rA σ_37, b_t cB cC cI cJ cZ oA rA σ_37, b_d cB cC cI cJ cZ oA rA σ_37]) (bs' := [b_k cB cC cI cJ cZ oA rA σ_37, b_p cB cC cI cJ cZ oA rA σ_37, b_o cB cC cI cJ cZ oA rA σ_37, b_s cB cC cI cJ cZ oA rA σ_37, b_c cB cC cI cJ cZ oA rA σ_37, b_t cB cC cI cJ cZ oA rA σ_37, b_d cB cC cI cJ cZ oA rA σ_37]) (is := [0, 1, 2, 3, 4, 5, 6]) fl_7 fl_7 rfl) (bx_C (bs := [b_k cB cC cI cJ cZ oA rA σ_37, b_p cB cC cI cJ cZ oA rA σ_37, b_o cB cC cI cJ cZ oA rA σ_37, b_s cB cC cI cJ cZ oA rA σ_37, b_c cB cC cI cJ cZ oA rA σ_37, b_t cB cC cI cJ cZ oA rA σ_37, b_d cB cC cI cJ cZ oA rA σ_37]) (bs' := []) (is := []) fl_7 fl_0 rfl) (bx_n (by decide +kernel)) (bx_d (by decide +kernel)) (va_runV (As := [.int 3]) (rest := []) ⟨hx, hb, hml, hown, hts⟩ (k_X3_stop l dC dI cB cC cI cJ cZ cP oA rA H.size  3 σ_37 _ hu_46) (cwV 1 hts (g_gV wq_1154 wq_1155 wq_2088 wq_11 wq_1156) rfl rfl rfl (by decide +kernel) ⟨Nat.le_of_ble_eq_true rfl, Nat.le_of_ble_eq_true rfl⟩) (g_preV g_bl0 hK hPc hDc hS hE hFc g_to0 (q0 := 0) (ci := 3) rfl rfl) rfl rfl hl.1 rfl (lv_room (Nat.le_of_ble_eq_true rfl)) dX3_moveOp_81 ⟨Nat.le_of_ble_eq_true rfl, Nat.le_of_ble_eq_true rfl⟩) (fun u9 H locs hw9 hP' hD' hS => ?_)
            clear hPc hDc hFc
            have hP : va_P (dC, dI) vwCl (b_k cB cC cI cJ cZ oA rA u_46.2 ++ b_p cB cC cI cJ cZ oA rA u_46.2 ++ b_o cB cC cI cJ cZ oA rA u_46.2 ++ b_s cB cC cI cJ cZ oA rA u_46.2 ++ b_c cB cC cI cJ cZ oA rA u_46.2 ++ b_t cB cC cI cJ cZ oA rA u_46.2 ++ b_d cB cC cI cJ cZ oA rA u_46.2) H := hP'
            clear hP' hD'
            refine lv_goto (tgt := 96) hx hb dX3_moveOp_84 (by decide) ?_
            have h9 := Option.some.inj hF_47
            subst h9
            exact W.vret hx hb hr (fun t ht hW => ⟨⟨(), rfl, trivial, m_end ht hP, hDD _⟩, hS.F ht⟩) hS.2.2 dX3_moveOp_96
        refine lv_icmp_ne (tgt := 67) hx hb dX3_moveOp_45 (by decide) (fun c_48 => ?_) (fun c_48 => ?_)
        · have hF_57 := ineg c_48 hF_33
          clear hF_33
          exact Jj_32  σ_27 hF_57 _ _ hP hS ls (lv_sub hl [2, 1, 0] rfl)
        · have hF_49 := ipos c_48 hF_33
          clear hF_33
          refine lv_aload_n hx hb dX3_moveOp_48 rfl (lv_at hl 2 rfl) ?_
          refine va_get (D := (dC, dI)) (ci := 3) (v := .ref (oA 4)) (C := RX3) (T := TX3) (N := 16) hx hb hts ii_X3 hown hK hP 0 rfl rfl 2 (by decide) (hts (.fieldLink RX3 52 "StoryHouse$Machine" "story" "LStoryHouse$Story;") wq_262) (fun _ h9 => h9) rfl dX3_moveOp_49 ?_
          refine lv_iload_n hx hb dX3_moveOp_52 rfl (lv_at hl 1 rfl) ?_
          obtain ⟨u_50, hu_50, hF_51⟩ := Option.bind_eq_some_iff.mp hF_49
          clear hF_49
          have hPc := bx_P (bs := [b_k cB cC cI cJ cZ oA rA σ_27, b_p cB cC cI cJ cZ oA rA σ_27, b_o cB cC cI cJ cZ oA rA σ_27, b_s cB cC cI cJ cZ oA rA σ_27, b_c cB cC cI cJ cZ oA rA σ_27, b_t cB cC cI cJ cZ oA rA σ_27, b_d cB cC cI cJ cZ oA rA σ_27]) (bs' := [b_s cB cC cI cJ cZ oA rA σ_27, b_c cB cC cI cJ cZ oA rA σ_27, b_t cB cC cI cJ cZ oA rA σ_27, b_d cB cC cI cJ cZ oA rA σ_27]) (ws' := (b_s cB cC cI cJ cZ oA rA σ_27 ++ b_c cB cC cI cJ cZ oA rA σ_27 ++ b_t cB cC cI cJ cZ oA rA σ_27 ++ b_d cB cC cI cJ cZ oA rA σ_27)) hP fl_7 fl_4 [3, 4, 5, 6] rfl
          have hDc := bx_D (bs := [b_k cB cC cI cJ cZ oA rA σ_27, b_p cB cC cI cJ cZ oA rA σ_27, b_o cB cC cI cJ cZ oA rA σ_27, b_s cB cC cI cJ cZ oA rA σ_27, b_c cB cC cI cJ cZ oA rA σ_27, b_t cB cC cI cJ cZ oA rA σ_27, b_d cB cC cI cJ cZ oA rA σ_27]) (bs' := [b_s cB cC cI cJ cZ oA rA σ_27, b_c cB cC cI cJ cZ oA rA σ_27, b_t cB cC cI cJ cZ oA rA σ_27, b_d cB cC cI cJ cZ oA rA σ_27]) (ws' := (b_s cB cC cI cJ cZ oA rA σ_27 ++ b_c cB cC cI cJ cZ oA rA σ_27 ++ b_t cB cC cI cJ cZ oA rA σ_27 ++ b_d cB cC cI cJ cZ oA rA σ_27)) (hDD σ_27) fl_7 fl_4 [3, 4, 5, 6] (by decide +kernel) rfl
          have hFc := bx_F (bs := [b_k cB cC cI cJ cZ oA rA σ_27, b_p cB cC cI cJ cZ oA rA σ_27, b_o cB cC cI cJ cZ oA rA σ_27, b_s cB cC cI cJ cZ oA rA σ_27, b_c cB cC cI cJ cZ oA rA σ_27, b_t cB cC cI cJ cZ oA rA σ_27, b_d cB cC cI cJ cZ oA rA σ_27]) (bs' := [b_s cB cC cI cJ cZ oA rA σ_27, b_c cB cC cI cJ cZ oA rA σ_27, b_t cB cC cI cJ cZ oA rA σ_27, b_d cB cC cI cJ cZ oA rA σ_27]) (wc := (b_s cB cC cI cJ cZ oA rA σ_27 ++ b_c cB cC cI cJ cZ oA rA σ_27 ++ b_t cB cC cI cJ cZ oA rA σ_27 ++ b_d cB cC cI cJ cZ oA rA σ_27)) (hDD σ_27) hS hA fl_7 fl_4 [3, 4, 5, 6] rfl
          refine g_ofi (wc := (b_s cB cC cI cJ cZ oA rA σ_27 ++ b_c cB cC cI cJ cZ oA rA σ_27 ++ b_t cB cC cI cJ cZ oA rA σ_27 ++ b_d cB cC cI cJ cZ oA rA σ_27)) (wr := (b_k cB cC cI cJ cZ oA rA σ_27 ++ b_p cB cC cI cJ cZ oA rA σ_27 ++ b_o cB cC cI cJ cZ oA rA σ_27)) hP (hDD σ_27) hS hFc (bx_ix [b_k cB cC cI cJ cZ oA rA σ_27, b_p cB cC cI cJ cZ oA rA σ_27, b_o cB cC cI cJ cZ oA rA σ_27, b_s cB cC cI cJ cZ oA rA σ_27, b_c cB cC cI cJ cZ oA rA σ_27, b_t cB cC cI cJ cZ oA rA σ_27, b_d cB cC cI cJ cZ oA rA σ_27] [3, 4, 5, 6]) (bx_ix [b_k cB cC cI cJ cZ oA rA σ_27, b_p cB cC cI cJ cZ oA rA σ_27, b_o cB cC cI cJ cZ oA rA σ_27, b_s cB cC cI cJ cZ oA rA σ_27, b_c cB cC cI cJ cZ oA rA σ_27, b_t cB cC cI cJ cZ oA rA σ_27, b_d cB cC cI cJ cZ oA rA σ_27] [0, 1, 2]) (bx_C (bs := [b_k cB cC cI cJ cZ oA rA σ_27, b_p cB cC cI cJ cZ oA rA σ_27, b_o cB cC cI cJ cZ oA rA σ_27, b_s cB cC cI cJ cZ oA rA σ_27, b_c cB cC cI cJ cZ oA rA σ_27, b_t cB cC cI cJ cZ oA rA σ_27, b_d cB cC cI cJ cZ oA rA σ_27]) (bs' := [b_s cB cC cI cJ cZ oA rA σ_27, b_c cB cC cI cJ cZ oA rA σ_27, b_t cB cC cI cJ cZ oA rA σ_27, b_d cB cC cI cJ cZ oA rA σ_27]) (is := [3, 4, 5, 6]) fl_7 fl_4 rfl) (bx_C (bs := [b_k cB cC cI cJ cZ oA rA σ_27, b_p cB cC cI cJ cZ oA rA σ_27, b_o cB cC cI cJ cZ oA rA σ_27, b_s cB cC cI cJ cZ oA rA σ_27, b_c cB cC cI cJ cZ oA rA σ_27, b_t cB cC cI cJ cZ oA rA σ_27, b_d cB cC cI cJ cZ oA rA σ_27]) (bs' := [b_k cB cC cI cJ cZ oA rA σ_27, b_p cB cC cI cJ cZ oA rA σ_27, b_o cB cC cI cJ cZ oA rA σ_27]) (is := [0, 1, 2]) fl_7 fl_3 rfl) (bx_n (by decide +kernel)) (bx_d (by decide +kernel)) (va_runV (As := [.int u_1.1]) (rest := []) ⟨hx, hb, hml, hown, hts⟩ (k_X7_isRoom l dC dI cB cC cI cJ cZ cP oA rA H.size  u_1.1 σ_27 _ hu_50) (cwV 1 hts (g_gV wq_1178 wq_816 wq_817 wq_5 wq_818) rfl rfl rfl (by decide +kernel) ⟨Nat.le_of_ble_eq_true rfl, Nat.le_of_ble_eq_true rfl⟩) (g_preV g_bl0 hK hPc hDc hS hE hFc g_to0 (q0 := 0) (ci := 7) rfl rfl) rfl rfl hl.1 rfl (lv_room (Nat.le_of_ble_eq_true rfl)) dX3_moveOp_53 ⟨Nat.le_of_ble_eq_true rfl, Nat.le_of_ble_eq_true rfl⟩) (fun r9 u9 H locs hw9 hP' hD' hS => ?_)
          clear hPc hDc hFc
          subst hw9
          obtain ⟨σ_52, eσ_52, hF_53⟩ := bnd_e hF_51
          clear hF_51
          have hP : va_P (dC, dI) vwCl (b_k cB cC cI cJ cZ oA rA σ_52 ++ b_p cB cC cI cJ cZ oA rA σ_52 ++ b_o cB cC cI cJ cZ oA rA σ_52 ++ b_s cB cC cI cJ cZ oA rA σ_52 ++ b_c cB cC cI cJ cZ oA rA σ_52 ++ b_t cB cC cI cJ cZ oA rA σ_52 ++ b_d cB cC cI cJ cZ oA rA σ_52) H := by rw [eσ_52]; exact bx_P (bs := [b_k cB cC cI cJ cZ oA rA σ_27, b_p cB cC cI cJ cZ oA rA σ_27, b_o cB cC cI cJ cZ oA rA σ_27] ++ [b_s cB cC cI cJ cZ oA rA u_50.2, b_c cB cC cI cJ cZ oA rA u_50.2, b_t cB cC cI cJ cZ oA rA u_50.2, b_d cB cC cI cJ cZ oA rA u_50.2]) (bs' := [b_k cB cC cI cJ cZ oA rA (mrg (fun j => j == 4 || j == 5 || j == 6 || j == 7) σ_27 u_50.2), b_p cB cC cI cJ cZ oA rA (mrg (fun j => j == 4 || j == 5 || j == 6 || j == 7) σ_27 u_50.2), b_o cB cC cI cJ cZ oA rA (mrg (fun j => j == 4 || j == 5 || j == 6 || j == 7) σ_27 u_50.2), b_s cB cC cI cJ cZ oA rA (mrg (fun j => j == 4 || j == 5 || j == 6 || j == 7) σ_27 u_50.2), b_c cB cC cI cJ cZ oA rA (mrg (fun j => j == 4 || j == 5 || j == 6 || j == 7) σ_27 u_50.2), b_t cB cC cI cJ cZ oA rA (mrg (fun j => j == 4 || j == 5 || j == 6 || j == 7) σ_27 u_50.2), b_d cB cC cI cJ cZ oA rA (mrg (fun j => j == 4 || j == 5 || j == 6 || j == 7) σ_27 u_50.2)]) hP' (fl_a fl_3 fl_4) fl_7 [0, 1, 2, 3, 4, 5, 6] rfl
          clear hP' hD'
          refine lv_if_ne (tgt := 67) hx hb dX3_moveOp_56 (by decide) (fun c_54 => ?_) (fun c_54 => ?_)
          · have hF_56 := ineg c_54 hF_53
            clear hF_53
            exact Jj_32  σ_52 hF_56 _ _ hP hS ls (lv_sub hl [2, 1, 0] rfl)
          · have hF_55 := ipos c_54 hF_53
            clear hF_53
            exact Jj_10  σ_52 hF_55 _ _ hP hS ls (lv_sub hl [2] rfl)
theorem dX3_worth_0 : decode cX3_worth 0 = .ok (.iload_n 0, 1) := by decide +kernel
theorem dX3_worth_1 : decode cX3_worth 1 = .ok (.tableswitch 151 10 19 #[55, 60, 65, 70, 83, 96, 107, 118, 129, 140], 55) := by decide +kernel
theorem dX3_worth_56 : decode cX3_worth 56 = .ok (.iload_n 1, 1) := by decide +kernel
theorem dX3_worth_57 : decode cX3_worth 57 = .ok (.iload_n 2, 1) := by decide +kernel
theorem dX3_worth_58 : decode cX3_worth 58 = .ok (.iadd, 1) := by decide +kernel
theorem dX3_worth_59 : decode cX3_worth 59 = .ok (.i2s, 1) := by decide +kernel
theorem dX3_worth_60 : decode cX3_worth 60 = .ok (.ireturn, 1) := by decide +kernel
theorem dX3_worth_61 : decode cX3_worth 61 = .ok (.iload_n 1, 1) := by decide +kernel
theorem dX3_worth_62 : decode cX3_worth 62 = .ok (.iload_n 2, 1) := by decide +kernel
theorem dX3_worth_63 : decode cX3_worth 63 = .ok (.isub, 1) := by decide +kernel
theorem dX3_worth_64 : decode cX3_worth 64 = .ok (.i2s, 1) := by decide +kernel
theorem dX3_worth_65 : decode cX3_worth 65 = .ok (.ireturn, 1) := by decide +kernel
theorem dX3_worth_66 : decode cX3_worth 66 = .ok (.iload_n 1, 1) := by decide +kernel
theorem dX3_worth_67 : decode cX3_worth 67 = .ok (.iload_n 2, 1) := by decide +kernel
theorem dX3_worth_68 : decode cX3_worth 68 = .ok (.imul, 1) := by decide +kernel
theorem dX3_worth_69 : decode cX3_worth 69 = .ok (.i2s, 1) := by decide +kernel
theorem dX3_worth_70 : decode cX3_worth 70 = .ok (.ireturn, 1) := by decide +kernel
theorem dX3_worth_71 : decode cX3_worth 71 = .ok (.iload_n 2, 1) := by decide +kernel
theorem dX3_worth_72 : decode cX3_worth 72 = .ok (.ifCond .ne 7, 3) := by decide +kernel
theorem dX3_worth_75 : decode cX3_worth 75 = .ok (.iconst 0, 1) := by decide +kernel
theorem dX3_worth_76 : decode cX3_worth 76 = .ok (.goto 7, 3) := by decide +kernel
theorem dX3_worth_79 : decode cX3_worth 79 = .ok (.iload_n 1, 1) := by decide +kernel
theorem dX3_worth_80 : decode cX3_worth 80 = .ok (.iload_n 2, 1) := by decide +kernel
theorem dX3_worth_81 : decode cX3_worth 81 = .ok (.idiv, 1) := by decide +kernel
theorem dX3_worth_82 : decode cX3_worth 82 = .ok (.i2s, 1) := by decide +kernel
theorem dX3_worth_83 : decode cX3_worth 83 = .ok (.ireturn, 1) := by decide +kernel
theorem dX3_worth_84 : decode cX3_worth 84 = .ok (.iload_n 2, 1) := by decide +kernel
theorem dX3_worth_85 : decode cX3_worth 85 = .ok (.ifCond .ne 7, 3) := by decide +kernel
theorem dX3_worth_88 : decode cX3_worth 88 = .ok (.iconst 0, 1) := by decide +kernel
theorem dX3_worth_89 : decode cX3_worth 89 = .ok (.goto 7, 3) := by decide +kernel
theorem dX3_worth_92 : decode cX3_worth 92 = .ok (.iload_n 1, 1) := by decide +kernel
theorem dX3_worth_93 : decode cX3_worth 93 = .ok (.iload_n 2, 1) := by decide +kernel
theorem dX3_worth_94 : decode cX3_worth 94 = .ok (.irem, 1) := by decide +kernel
theorem dX3_worth_95 : decode cX3_worth 95 = .ok (.i2s, 1) := by decide +kernel
theorem dX3_worth_96 : decode cX3_worth 96 = .ok (.ireturn, 1) := by decide +kernel
theorem dX3_worth_97 : decode cX3_worth 97 = .ok (.iload_n 1, 1) := by decide +kernel
theorem dX3_worth_98 : decode cX3_worth 98 = .ok (.iload_n 2, 1) := by decide +kernel
theorem dX3_worth_99 : decode cX3_worth 99 = .ok (.if_icmp .ne 7, 3) := by decide +kernel
theorem dX3_worth_102 : decode cX3_worth 102 = .ok (.iconst 1, 1) := by decide +kernel
theorem dX3_worth_103 : decode cX3_worth 103 = .ok (.goto 4, 3) := by decide +kernel
theorem dX3_worth_106 : decode cX3_worth 106 = .ok (.iconst 0, 1) := by decide +kernel
theorem dX3_worth_107 : decode cX3_worth 107 = .ok (.ireturn, 1) := by decide +kernel
theorem dX3_worth_108 : decode cX3_worth 108 = .ok (.iload_n 1, 1) := by decide +kernel
theorem dX3_worth_109 : decode cX3_worth 109 = .ok (.iload_n 2, 1) := by decide +kernel
theorem dX3_worth_110 : decode cX3_worth 110 = .ok (.if_icmp .eq 7, 3) := by decide +kernel
theorem dX3_worth_113 : decode cX3_worth 113 = .ok (.iconst 1, 1) := by decide +kernel
theorem dX3_worth_114 : decode cX3_worth 114 = .ok (.goto 4, 3) := by decide +kernel
theorem dX3_worth_117 : decode cX3_worth 117 = .ok (.iconst 0, 1) := by decide +kernel
theorem dX3_worth_118 : decode cX3_worth 118 = .ok (.ireturn, 1) := by decide +kernel
theorem dX3_worth_119 : decode cX3_worth 119 = .ok (.iload_n 1, 1) := by decide +kernel
theorem dX3_worth_120 : decode cX3_worth 120 = .ok (.iload_n 2, 1) := by decide +kernel
theorem dX3_worth_121 : decode cX3_worth 121 = .ok (.if_icmp .ge 7, 3) := by decide +kernel
theorem dX3_worth_124 : decode cX3_worth 124 = .ok (.iconst 1, 1) := by decide +kernel
theorem dX3_worth_125 : decode cX3_worth 125 = .ok (.goto 4, 3) := by decide +kernel
theorem dX3_worth_128 : decode cX3_worth 128 = .ok (.iconst 0, 1) := by decide +kernel
theorem dX3_worth_129 : decode cX3_worth 129 = .ok (.ireturn, 1) := by decide +kernel
theorem dX3_worth_130 : decode cX3_worth 130 = .ok (.iload_n 1, 1) := by decide +kernel
theorem dX3_worth_131 : decode cX3_worth 131 = .ok (.iload_n 2, 1) := by decide +kernel
theorem dX3_worth_132 : decode cX3_worth 132 = .ok (.if_icmp .gt 7, 3) := by decide +kernel
theorem dX3_worth_135 : decode cX3_worth 135 = .ok (.iconst 1, 1) := by decide +kernel
theorem dX3_worth_136 : decode cX3_worth 136 = .ok (.goto 4, 3) := by decide +kernel
theorem dX3_worth_139 : decode cX3_worth 139 = .ok (.iconst 0, 1) := by decide +kernel
theorem dX3_worth_140 : decode cX3_worth 140 = .ok (.ireturn, 1) := by decide +kernel
theorem dX3_worth_141 : decode cX3_worth 141 = .ok (.iload_n 1, 1) := by decide +kernel
theorem dX3_worth_142 : decode cX3_worth 142 = .ok (.iload_n 2, 1) := by decide +kernel
theorem dX3_worth_143 : decode cX3_worth 143 = .ok (.if_icmp .le 7, 3) := by decide +kernel
theorem dX3_worth_146 : decode cX3_worth 146 = .ok (.iconst 1, 1) := by decide +kernel
theorem dX3_worth_147 : decode cX3_worth 147 = .ok (.goto 4, 3) := by decide +kernel
theorem dX3_worth_150 : decode cX3_worth 150 = .ok (.iconst 0, 1) := by decide +kernel
theorem dX3_worth_151 : decode cX3_worth 151 = .ok (.ireturn, 1) := by decide +kernel
theorem dX3_worth_152 : decode cX3_worth 152 = .ok (.iload_n 1, 1) := by decide +kernel
theorem dX3_worth_153 : decode cX3_worth 153 = .ok (.iload_n 2, 1) := by decide +kernel
theorem dX3_worth_154 : decode cX3_worth 154 = .ok (.if_icmp .lt 7, 3) := by decide +kernel
theorem dX3_worth_157 : decode cX3_worth 157 = .ok (.iconst 1, 1) := by decide +kernel
theorem dX3_worth_158 : decode cX3_worth 158 = .ok (.goto 4, 3) := by decide +kernel
theorem dX3_worth_161 : decode cX3_worth 161 = .ok (.iconst 0, 1) := by decide +kernel
theorem dX3_worth_162 : decode cX3_worth 162 = .ok (.ireturn, 1) := by decide +kernel
def F_X3_worth (p0 : Int32) (p1 : Int32) (p2 : Int32) (Γ : HS) : HR :=
  if p0 = 10 then (
    bnd ((p1 + p2).toInt16.toInt32) fun (x_3 : Int32) =>
    some (x_3, Γ)
  ) else
  if p0 = 11 then (
    bnd ((p1 - p2).toInt16.toInt32) fun (x_8 : Int32) =>
    some (x_8, Γ)
  ) else
  if p0 = 12 then (
    bnd ((p1 * p2).toInt16.toInt32) fun (x_13 : Int32) =>
    some (x_13, Γ)
  ) else
  if p0 = 13 then (
    if p2 = 0 then (
      some (0, Γ)
    ) else (
      if p2 = 0 then none else
      bnd ((p1 / p2)) fun (x_23 : Int32) =>
      bnd (x_23.toInt16.toInt32) fun (x_25 : Int32) =>
      some (x_25, Γ)
    )
  ) else
  if p0 = 14 then (
    if p2 = 0 then (
      some (0, Γ)
    ) else (
      if p2 = 0 then none else
      bnd ((p1 - p1 / p2 * p2)) fun (x_35 : Int32) =>
      bnd (x_35.toInt16.toInt32) fun (x_37 : Int32) =>
      some (x_37, Γ)
    )
  ) else
  if p0 = 15 then (
    if p1 = p2 then (
      some (1, Γ)
    ) else (
      some (0, Γ)
    )
  ) else
  if p0 = 16 then (
    if p1 = p2 then (
      some (0, Γ)
    ) else (
      some (1, Γ)
    )
  ) else
  if p0 = 17 then (
    if p2 ≤ p1 then (
      some (0, Γ)
    ) else (
      some (1, Γ)
    )
  ) else
  if p0 = 18 then (
    if p2 < p1 then (
      some (0, Γ)
    ) else (
      some (1, Γ)
    )
  ) else
  if p0 = 19 then (
    if p1 ≤ p2 then (
      some (0, Γ)
    ) else (
      some (1, Γ)
    )
  ) else
  (
    if p1 < p2 then (
      some (0, Γ)
    ) else (
      some (1, Γ)
    )
  )
set_option maxHeartbeats 4000000 in
set_option maxRecDepth 100000 in
theorem k_X3_worth (l : Launch) (dC : Nat → ClassId) (dI : Nat → Nat → Nat) (cB cC cI cJ cZ cP : ClassId) (oA : Nat → Nat) (rA : Nat → Nat → Nat) (sz : Nat)  (p0 : Int32) (p1 : Int32) (p2 : Int32) (Γ : HS) (res : Int32 × HS) (hF : F_X3_worth p0 p1 p2 Γ = some res) : Met l yX3_worth (g_ws yX3_worth cX3_worth 3 (some .int)) ({ frames := 1, cells := 0, slots := 0, locals := 40 }) (va_Pc [.int p0, .int p1, .int p2] (g_B (dC, dI) [(cB, .byte), (cC, .char), (cI, .int), (cJ, .long), (cZ, .boolean), (cP, .object "StoryHouse$Play")] sz ([] : va_W) g_0)) (va_Qi (fun r (_ : Unit) => r = res.1) (g_Bo (dC, dI) (va_A ([] : va_W) sz) (fun (_ : Unit) => ([] : va_W))) (va_A ([] : va_W) sz)) 0 0 (va_A ([] : va_W) sz) := by
  refine Met.ofW (cc := cX3_worth) (maxL := 3) (ret := (some .int)) (by decide) rfl ?_
  intro p e s m args below meth c s₁ B hml hv
  obtain ⟨rfl, hsz, hP, hK, hD0, hE, hX⟩ := hv
  have hx := B.exec
  have hb := B.bytes
  have hr := B.returns
  have hts0 := atoms_spec (ws := g_ws yX3_worth cX3_worth 3 (some .int)) B.pre
  have hts : ∀ w ∈ lw_good, w.before ([.int p0, .int p1, .int p2] : List Value).toArray s = true := fun w z => hts0 w (List.mem_cons_of_mem _ z)
  have hown : s.vm.findClass RX3 = some m.cls := findClass_of_methodNamed B.named
  have hlocks := B.notSynchronized
  subst hsz
  have hD1 := hD0.self (sz := s.heap.size)
  generalize hAe : va_A ([] : va_W) s.heap.size = A at hD1 hE hX ⊢
  have hA : ∀ q : Nat, s.heap.size ≤ q → A q := fun q z => by rw [← hAe]; exact Or.inr z
  have hDD : ∀ Γ : HS, va_D A ([] : va_W) := fun Γ9 => va_D_fst (ws := ([] : va_W)) (ws' := ([] : va_W)) rfl hD1
  have hN := hE.1
  have hS : va_S A s.heap s.heap [] := va_S.rf
  have hl := lv_entry ([.int p0, .int p1, .int p2]) (n := 3) (Nat.le_of_ble_eq_true rfl)
  rw [lg_entry_eq]
  generalize (lg_sl ([.int p0, .int p1, .int p2]) ++ List.replicate (3 - (lg_sl ([.int p0, .int p1, .int p2])).length) Slot.unset).toArray = ls at hl ⊢
  have hl : lv_has ls 3 [(0, .int p0), (1, .int p1), (2, .int p2)] := hl
  unfold F_X3_worth at hF
  refine lv_iload_n hx hb dX3_worth_0 rfl (lv_at hl 0 rfl) ?_
  by_cases c_1 : p0 = 10
  · have hF_2 := ipos c_1 hF
    clear hF
    refine lv_tableIn (off := 55) (tgt := 56) hx hb dX3_worth_1 (by rw [c_1]; decide +kernel) (by rw [c_1]; decide +kernel) (by rw [c_1]; decide +kernel) (by decide) ?_
    refine lv_iload_n hx hb dX3_worth_56 rfl (lv_at hl 1 rfl) ?_
    refine lv_iload_n hx hb dX3_worth_57 rfl (lv_at hl 2 rfl) ?_
    refine lv_iadd hx hb dX3_worth_58 ?_
    refine lv_i2s hx hb dX3_worth_59 rfl ?_
    obtain ⟨x_3, ex_3, hF_4⟩ := bnd_e hF_2
    clear hF_2
    refine m_top ex_3 ?_
    have h9 := Option.some.inj hF_4
    subst h9
    exact W.iret (v := x_3) hx hb hr (fun t ht hW => ⟨⟨x_3, (), rfl, rfl, m_end ht hP, hDD Γ⟩, hS.F ht⟩) hS.2.2 dX3_worth_60
  have hF_5 := ineg c_1 hF
  clear hF
  by_cases c_6 : p0 = 11
  · have hF_7 := ipos c_6 hF_5
    clear hF_5
    refine lv_tableIn (off := 60) (tgt := 61) hx hb dX3_worth_1 (by rw [c_6]; decide +kernel) (by rw [c_6]; decide +kernel) (by rw [c_6]; decide +kernel) (by decide) ?_
    refine lv_iload_n hx hb dX3_worth_61 rfl (lv_at hl 1 rfl) ?_
    refine lv_iload_n hx hb dX3_worth_62 rfl (lv_at hl 2 rfl) ?_
    refine lv_isub hx hb dX3_worth_63 ?_
    refine lv_i2s hx hb dX3_worth_64 rfl ?_
    obtain ⟨x_8, ex_8, hF_9⟩ := bnd_e hF_7
    clear hF_7
    refine m_top ex_8 ?_
    have h9 := Option.some.inj hF_9
    subst h9
    exact W.iret (v := x_8) hx hb hr (fun t ht hW => ⟨⟨x_8, (), rfl, rfl, m_end ht hP, hDD Γ⟩, hS.F ht⟩) hS.2.2 dX3_worth_65
  have hF_10 := ineg c_6 hF_5
  clear hF_5
  by_cases c_11 : p0 = 12
  · have hF_12 := ipos c_11 hF_10
    clear hF_10
    refine lv_tableIn (off := 65) (tgt := 66) hx hb dX3_worth_1 (by rw [c_11]; decide +kernel) (by rw [c_11]; decide +kernel) (by rw [c_11]; decide +kernel) (by decide) ?_
    refine lv_iload_n hx hb dX3_worth_66 rfl (lv_at hl 1 rfl) ?_
    refine lv_iload_n hx hb dX3_worth_67 rfl (lv_at hl 2 rfl) ?_
    refine lv_imul hx hb dX3_worth_68 ?_
    refine lv_i2s hx hb dX3_worth_69 rfl ?_
    obtain ⟨x_13, ex_13, hF_14⟩ := bnd_e hF_12
    clear hF_12
    refine m_top ex_13 ?_
    have h9 := Option.some.inj hF_14
    subst h9
    exact W.iret (v := x_13) hx hb hr (fun t ht hW => ⟨⟨x_13, (), rfl, rfl, m_end ht hP, hDD Γ⟩, hS.F ht⟩) hS.2.2 dX3_worth_70
  have hF_15 := ineg c_11 hF_10
  clear hF_10
  by_cases c_16 : p0 = 13
  · have hF_17 := ipos c_16 hF_15
    clear hF_15
    refine lv_tableIn (off := 70) (tgt := 71) hx hb dX3_worth_1 (by rw [c_16]; decide +kernel) (by rw [c_16]; decide +kernel) (by rw [c_16]; decide +kernel) (by decide) ?_
    refine lv_iload_n hx hb dX3_worth_71 rfl (lv_at hl 2 rfl) ?_
    refine lv_if_ne (tgt := 79) hx hb dX3_worth_72 (by decide) (fun c_18 => ?_) (fun c_18 => ?_)
    · have hF_20 := ineg c_18 hF_17
      clear hF_17
      refine lv_iload_n hx hb dX3_worth_79 rfl (lv_at hl 1 rfl) ?_
      refine lv_iload_n hx hb dX3_worth_80 rfl (lv_at hl 2 rfl) ?_
      obtain ⟨g_21, hF_22⟩ := nif_e hF_20
      clear hF_20
      refine lv_idiv hx hb dX3_worth_81 g_21 ?_
      obtain ⟨x_23, ex_23, hF_24⟩ := bnd_e hF_22
      clear hF_22
      refine m_top ex_23 ?_
      refine lv_i2s hx hb dX3_worth_82 rfl ?_
      obtain ⟨x_25, ex_25, hF_26⟩ := bnd_e hF_24
      clear hF_24
      refine m_top ex_25 ?_
      have h9 := Option.some.inj hF_26
      subst h9
      exact W.iret (v := x_25) hx hb hr (fun t ht hW => ⟨⟨x_25, (), rfl, rfl, m_end ht hP, hDD Γ⟩, hS.F ht⟩) hS.2.2 dX3_worth_83
    · have hF_19 := ipos c_18 hF_17
      clear hF_17
      refine lv_iconst (v := 0) hx hb dX3_worth_75 (by decide +kernel) ?_
      refine lv_goto (tgt := 83) hx hb dX3_worth_76 (by decide) ?_
      have h9 := Option.some.inj hF_19
      subst h9
      exact W.iret (v := 0) hx hb hr (fun t ht hW => ⟨⟨0, (), rfl, rfl, m_end ht hP, hDD Γ⟩, hS.F ht⟩) hS.2.2 dX3_worth_83
  have hF_27 := ineg c_16 hF_15
  clear hF_15
  by_cases c_28 : p0 = 14
  · have hF_29 := ipos c_28 hF_27
    clear hF_27
    refine lv_tableIn (off := 83) (tgt := 84) hx hb dX3_worth_1 (by rw [c_28]; decide +kernel) (by rw [c_28]; decide +kernel) (by rw [c_28]; decide +kernel) (by decide) ?_
    refine lv_iload_n hx hb dX3_worth_84 rfl (lv_at hl 2 rfl) ?_
    refine lv_if_ne (tgt := 92) hx hb dX3_worth_85 (by decide) (fun c_30 => ?_) (fun c_30 => ?_)
    · have hF_32 := ineg c_30 hF_29
      clear hF_29
      refine lv_iload_n hx hb dX3_worth_92 rfl (lv_at hl 1 rfl) ?_
      refine lv_iload_n hx hb dX3_worth_93 rfl (lv_at hl 2 rfl) ?_
      obtain ⟨g_33, hF_34⟩ := nif_e hF_32
      clear hF_32
      refine lv_irem hx hb dX3_worth_94 g_33 ?_
      obtain ⟨x_35, ex_35, hF_36⟩ := bnd_e hF_34
      clear hF_34
      refine m_top ex_35 ?_
      refine lv_i2s hx hb dX3_worth_95 rfl ?_
      obtain ⟨x_37, ex_37, hF_38⟩ := bnd_e hF_36
      clear hF_36
      refine m_top ex_37 ?_
      have h9 := Option.some.inj hF_38
      subst h9
      exact W.iret (v := x_37) hx hb hr (fun t ht hW => ⟨⟨x_37, (), rfl, rfl, m_end ht hP, hDD Γ⟩, hS.F ht⟩) hS.2.2 dX3_worth_96
    · have hF_31 := ipos c_30 hF_29
      clear hF_29
      refine lv_iconst (v := 0) hx hb dX3_worth_88 (by decide +kernel) ?_
      refine lv_goto (tgt := 96) hx hb dX3_worth_89 (by decide) ?_
      have h9 := Option.some.inj hF_31
      subst h9
      exact W.iret (v := 0) hx hb hr (fun t ht hW => ⟨⟨0, (), rfl, rfl, m_end ht hP, hDD Γ⟩, hS.F ht⟩) hS.2.2 dX3_worth_96
  have hF_39 := ineg c_28 hF_27
  clear hF_27
  by_cases c_40 : p0 = 15
  · have hF_41 := ipos c_40 hF_39
    clear hF_39
    refine lv_tableIn (off := 96) (tgt := 97) hx hb dX3_worth_1 (by rw [c_40]; decide +kernel) (by rw [c_40]; decide +kernel) (by rw [c_40]; decide +kernel) (by decide) ?_
    refine lv_iload_n hx hb dX3_worth_97 rfl (lv_at hl 1 rfl) ?_
    refine lv_iload_n hx hb dX3_worth_98 rfl (lv_at hl 2 rfl) ?_
    refine lv_icmp_ne (tgt := 106) hx hb dX3_worth_99 (by decide) (fun c_42 => ?_) (fun c_42 => ?_)
    · have hF_44 := ineg c_42 hF_41
      clear hF_41
      refine lv_iconst (v := 0) hx hb dX3_worth_106 (by decide +kernel) ?_
      have h9 := Option.some.inj hF_44
      subst h9
      exact W.iret (v := 0) hx hb hr (fun t ht hW => ⟨⟨0, (), rfl, rfl, m_end ht hP, hDD Γ⟩, hS.F ht⟩) hS.2.2 dX3_worth_107
    · have hF_43 := ipos c_42 hF_41
      clear hF_41
      refine lv_iconst (v := 1) hx hb dX3_worth_102 (by decide +kernel) ?_
      refine lv_goto (tgt := 107) hx hb dX3_worth_103 (by decide) ?_
      have h9 := Option.some.inj hF_43
      subst h9
      exact W.iret (v := 1) hx hb hr (fun t ht hW => ⟨⟨1, (), rfl, rfl, m_end ht hP, hDD Γ⟩, hS.F ht⟩) hS.2.2 dX3_worth_107
  have hF_45 := ineg c_40 hF_39
  clear hF_39
  by_cases c_46 : p0 = 16
  · have hF_47 := ipos c_46 hF_45
    clear hF_45
    refine lv_tableIn (off := 107) (tgt := 108) hx hb dX3_worth_1 (by rw [c_46]; decide +kernel) (by rw [c_46]; decide +kernel) (by rw [c_46]; decide +kernel) (by decide) ?_
    refine lv_iload_n hx hb dX3_worth_108 rfl (lv_at hl 1 rfl) ?_
    refine lv_iload_n hx hb dX3_worth_109 rfl (lv_at hl 2 rfl) ?_
    refine lv_icmp_eq (tgt := 117) hx hb dX3_worth_110 (by decide) (fun c_48 => ?_) (fun c_48 => ?_)
    · have hF_49 := ipos c_48 hF_47
      clear hF_47
      refine lv_iconst (v := 0) hx hb dX3_worth_117 (by decide +kernel) ?_
      have h9 := Option.some.inj hF_49
      subst h9
      exact W.iret (v := 0) hx hb hr (fun t ht hW => ⟨⟨0, (), rfl, rfl, m_end ht hP, hDD Γ⟩, hS.F ht⟩) hS.2.2 dX3_worth_118
    · have hF_50 := ineg c_48 hF_47
      clear hF_47
      refine lv_iconst (v := 1) hx hb dX3_worth_113 (by decide +kernel) ?_
      refine lv_goto (tgt := 118) hx hb dX3_worth_114 (by decide) ?_
      have h9 := Option.some.inj hF_50
      subst h9
      exact W.iret (v := 1) hx hb hr (fun t ht hW => ⟨⟨1, (), rfl, rfl, m_end ht hP, hDD Γ⟩, hS.F ht⟩) hS.2.2 dX3_worth_118
  have hF_51 := ineg c_46 hF_45
  clear hF_45
  by_cases c_52 : p0 = 17
  · have hF_53 := ipos c_52 hF_51
    clear hF_51
    refine lv_tableIn (off := 118) (tgt := 119) hx hb dX3_worth_1 (by rw [c_52]; decide +kernel) (by rw [c_52]; decide +kernel) (by rw [c_52]; decide +kernel) (by decide) ?_
    refine lv_iload_n hx hb dX3_worth_119 rfl (lv_at hl 1 rfl) ?_
    refine lv_iload_n hx hb dX3_worth_120 rfl (lv_at hl 2 rfl) ?_
    refine lv_icmp_ge (tgt := 128) hx hb dX3_worth_121 (by decide) (fun c_54 => ?_) (fun c_54 => ?_)
    · have hF_55 := ipos c_54 hF_53
      clear hF_53
      refine lv_iconst (v := 0) hx hb dX3_worth_128 (by decide +kernel) ?_
      have h9 := Option.some.inj hF_55
      subst h9
      exact W.iret (v := 0) hx hb hr (fun t ht hW => ⟨⟨0, (), rfl, rfl, m_end ht hP, hDD Γ⟩, hS.F ht⟩) hS.2.2 dX3_worth_129
    · have hF_56 := ineg c_54 hF_53
      clear hF_53
      refine lv_iconst (v := 1) hx hb dX3_worth_124 (by decide +kernel) ?_
      refine lv_goto (tgt := 129) hx hb dX3_worth_125 (by decide) ?_
      have h9 := Option.some.inj hF_56
      subst h9
      exact W.iret (v := 1) hx hb hr (fun t ht hW => ⟨⟨1, (), rfl, rfl, m_end ht hP, hDD Γ⟩, hS.F ht⟩) hS.2.2 dX3_worth_129
  have hF_57 := ineg c_52 hF_51
  clear hF_51
  by_cases c_58 : p0 = 18
  · have hF_59 := ipos c_58 hF_57
    clear hF_57
    refine lv_tableIn (off := 129) (tgt := 130) hx hb dX3_worth_1 (by rw [c_58]; decide +kernel) (by rw [c_58]; decide +kernel) (by rw [c_58]; decide +kernel) (by decide) ?_
    refine lv_iload_n hx hb dX3_worth_130 rfl (lv_at hl 1 rfl) ?_
    refine lv_iload_n hx hb dX3_worth_131 rfl (lv_at hl 2 rfl) ?_
    refine lv_icmp_gt (tgt := 139) hx hb dX3_worth_132 (by decide) (fun c_60 => ?_) (fun c_60 => ?_)
    · have hF_61 := ipos c_60 hF_59
      clear hF_59
      refine lv_iconst (v := 0) hx hb dX3_worth_139 (by decide +kernel) ?_
      have h9 := Option.some.inj hF_61
      subst h9
      exact W.iret (v := 0) hx hb hr (fun t ht hW => ⟨⟨0, (), rfl, rfl, m_end ht hP, hDD Γ⟩, hS.F ht⟩) hS.2.2 dX3_worth_140
    · have hF_62 := ineg c_60 hF_59
      clear hF_59
      refine lv_iconst (v := 1) hx hb dX3_worth_135 (by decide +kernel) ?_
      refine lv_goto (tgt := 140) hx hb dX3_worth_136 (by decide) ?_
      have h9 := Option.some.inj hF_62
      subst h9
      exact W.iret (v := 1) hx hb hr (fun t ht hW => ⟨⟨1, (), rfl, rfl, m_end ht hP, hDD Γ⟩, hS.F ht⟩) hS.2.2 dX3_worth_140
  have hF_63 := ineg c_58 hF_57
  clear hF_57
  by_cases c_64 : p0 = 19
  · have hF_65 := ipos c_64 hF_63
    clear hF_63
    refine lv_tableIn (off := 140) (tgt := 141) hx hb dX3_worth_1 (by rw [c_64]; decide +kernel) (by rw [c_64]; decide +kernel) (by rw [c_64]; decide +kernel) (by decide) ?_
    refine lv_iload_n hx hb dX3_worth_141 rfl (lv_at hl 1 rfl) ?_
    refine lv_iload_n hx hb dX3_worth_142 rfl (lv_at hl 2 rfl) ?_
    refine lv_icmp_le (tgt := 150) hx hb dX3_worth_143 (by decide) (fun c_66 => ?_) (fun c_66 => ?_)
    · have hF_67 := ipos c_66 hF_65
      clear hF_65
      refine lv_iconst (v := 0) hx hb dX3_worth_150 (by decide +kernel) ?_
      have h9 := Option.some.inj hF_67
      subst h9
      exact W.iret (v := 0) hx hb hr (fun t ht hW => ⟨⟨0, (), rfl, rfl, m_end ht hP, hDD Γ⟩, hS.F ht⟩) hS.2.2 dX3_worth_151
    · have hF_68 := ineg c_66 hF_65
      clear hF_65
      refine lv_iconst (v := 1) hx hb dX3_worth_146 (by decide +kernel) ?_
      refine lv_goto (tgt := 151) hx hb dX3_worth_147 (by decide) ?_
      have h9 := Option.some.inj hF_68
      subst h9
      exact W.iret (v := 1) hx hb hr (fun t ht hW => ⟨⟨1, (), rfl, rfl, m_end ht hP, hDD Γ⟩, hS.F ht⟩) hS.2.2 dX3_worth_151
  have hF_69 := ineg c_64 hF_63
  clear hF_63
  refine m_tabD (lo := 10) (n := 10) (tgt := 152) hx hb dX3_worth_1 (by decide +kernel) (by decide) (fun j9 h9 e9 => by
      match j9, h9 with
      | 0, _ => exact absurd ((by rw [e9]; decide +kernel)) c_1
      | 1, _ => exact absurd ((by rw [e9]; decide +kernel)) c_6
      | 2, _ => exact absurd ((by rw [e9]; decide +kernel)) c_11
      | 3, _ => exact absurd ((by rw [e9]; decide +kernel)) c_16
      | 4, _ => exact absurd ((by rw [e9]; decide +kernel)) c_28
      | 5, _ => exact absurd ((by rw [e9]; decide +kernel)) c_40
      | 6, _ => exact absurd ((by rw [e9]; decide +kernel)) c_46
      | 7, _ => exact absurd ((by rw [e9]; decide +kernel)) c_52
      | 8, _ => exact absurd ((by rw [e9]; decide +kernel)) c_58
      | 9, _ => exact absurd ((by rw [e9]; decide +kernel)) c_64
      | n9 + 10, h9 => exact absurd h9 (by omega)) ?_
  refine lv_iload_n hx hb dX3_worth_152 rfl (lv_at hl 1 rfl) ?_
  refine lv_iload_n hx hb dX3_worth_153 rfl (lv_at hl 2 rfl) ?_
  refine lv_icmp_lt (tgt := 161) hx hb dX3_worth_154 (by decide) (fun c_70 => ?_) (fun c_70 => ?_)
  · have hF_71 := ipos c_70 hF_69
    clear hF_69
    refine lv_iconst (v := 0) hx hb dX3_worth_161 (by decide +kernel) ?_
    have h9 := Option.some.inj hF_71
    subst h9
    exact W.iret (v := 0) hx hb hr (fun t ht hW => ⟨⟨0, (), rfl, rfl, m_end ht hP, hDD Γ⟩, hS.F ht⟩) hS.2.2 dX3_worth_162
  · have hF_72 := ineg c_70 hF_69
    clear hF_69
    refine lv_iconst (v := 1) hx hb dX3_worth_157 (by decide +kernel) ?_
    refine lv_goto (tgt := 162) hx hb dX3_worth_158 (by decide) ?_
    have h9 := Option.some.inj hF_72
    subst h9
    exact W.iret (v := 1) hx hb hr (fun t ht hW => ⟨⟨1, (), rfl, rfl, m_end ht hP, hDD Γ⟩, hS.F ht⟩) hS.2.2 dX3_worth_162
theorem dX3_numberOp_0 : decode cX3_numberOp 0 = .ok (.aload_n 0, 1) := by decide +kernel
theorem dX3_numberOp_1 : decode cX3_numberOp 1 = .ok (.invokevirtual 102, 3) := by decide +kernel
theorem dX3_numberOp_4 : decode cX3_numberOp 4 = .ok (.istore_n 2, 1) := by decide +kernel
theorem dX3_numberOp_5 : decode cX3_numberOp 5 = .ok (.aload_n 0, 1) := by decide +kernel
theorem dX3_numberOp_6 : decode cX3_numberOp 6 = .ok (.invokevirtual 102, 3) := by decide +kernel
theorem dX3_numberOp_9 : decode cX3_numberOp 9 = .ok (.istore_n 3, 1) := by decide +kernel
theorem dX3_numberOp_10 : decode cX3_numberOp 10 = .ok (.iload_n 1, 1) := by decide +kernel
theorem dX3_numberOp_11 : decode cX3_numberOp 11 = .ok (.bipush 13, 2) := by decide +kernel
theorem dX3_numberOp_13 : decode cX3_numberOp 13 = .ok (.if_icmp .eq 9, 3) := by decide +kernel
theorem dX3_numberOp_16 : decode cX3_numberOp 16 = .ok (.iload_n 1, 1) := by decide +kernel
theorem dX3_numberOp_17 : decode cX3_numberOp 17 = .ok (.bipush 14, 2) := by decide +kernel
theorem dX3_numberOp_19 : decode cX3_numberOp 19 = .ok (.if_icmp .ne 15, 3) := by decide +kernel
theorem dX3_numberOp_22 : decode cX3_numberOp 22 = .ok (.iload_n 2, 1) := by decide +kernel
theorem dX3_numberOp_23 : decode cX3_numberOp 23 = .ok (.ifCond .ne 11, 3) := by decide +kernel
theorem dX3_numberOp_26 : decode cX3_numberOp 26 = .ok (.aload_n 0, 1) := by decide +kernel
theorem dX3_numberOp_27 : decode cX3_numberOp 27 = .ok (.iconst 1, 1) := by decide +kernel
theorem dX3_numberOp_28 : decode cX3_numberOp 28 = .ok (.invokevirtual 106, 3) := by decide +kernel
theorem dX3_numberOp_31 : decode cX3_numberOp 31 = .ok (.goto 13, 3) := by decide +kernel
theorem dX3_numberOp_34 : decode cX3_numberOp 34 = .ok (.aload_n 0, 1) := by decide +kernel
theorem dX3_numberOp_35 : decode cX3_numberOp 35 = .ok (.iload_n 1, 1) := by decide +kernel
theorem dX3_numberOp_36 : decode cX3_numberOp 36 = .ok (.iload_n 3, 1) := by decide +kernel
theorem dX3_numberOp_37 : decode cX3_numberOp 37 = .ok (.iload_n 2, 1) := by decide +kernel
theorem dX3_numberOp_38 : decode cX3_numberOp 38 = .ok (.invokestatic 109, 3) := by decide +kernel
theorem dX3_numberOp_41 : decode cX3_numberOp 41 = .ok (.invokevirtual 113, 3) := by decide +kernel
theorem dX3_numberOp_44 : decode cX3_numberOp 44 = .ok (.return_, 1) := by decide +kernel
def F_X3_numberOp (p0 : Int32) (Γ : HS) : HR :=
  (F_X3_pop Γ).bind fun u_1 =>
  (F_X3_pop u_1.2).bind fun u_3 =>
  bnd (fun  (σ_5 : HS) => (
    (F_X3_worth p0 u_3.1 u_1.1 σ_5).bind fun u_9 =>
    (F_X3_push u_9.1 σ_5).bind fun u_11 =>
    some (0, u_11.2)
  ) : HS → HR) fun j_6 =>
  bnd (fun  (σ_13 : HS) => (
    if u_1.1 = 0 then (
      (F_X3_stop 1 σ_13).bind fun u_19 =>
      some (0, u_19.2)
    ) else (
      j_6  σ_13
    )
  ) : HS → HR) fun j_14 =>
  if p0 = 13 then (
    j_14  u_3.2
  ) else (
    if p0 = 14 then (
      j_14  u_3.2
    ) else (
      j_6  u_3.2
    )
  )
set_option maxHeartbeats 4000000 in
set_option maxRecDepth 100000 in
theorem k_X3_numberOp (l : Launch) (dC : Nat → ClassId) (dI : Nat → Nat → Nat) (cB cC cI cJ cZ cP : ClassId) (oA : Nat → Nat) (rA : Nat → Nat → Nat) (sz : Nat)  (p0 : Int32) (Γ : HS) (res : Int32 × HS) (hF : F_X3_numberOp p0 Γ = some res) : Met l yX3_numberOp (g_ws yX3_numberOp cX3_numberOp 4 none) ({ frames := 4, cells := 0, slots := 0, locals := 101 }) (va_Pc [.ref (oA 10), .int p0] (g_B (dC, dI) [(cB, .byte), (cC, .char), (cI, .int), (cJ, .long), (cZ, .boolean), (cP, .object "StoryHouse$Play")] sz (b_k cB cC cI cJ cZ oA rA Γ ++ b_p cB cC cI cJ cZ oA rA Γ ++ b_o cB cC cI cJ cZ oA rA Γ ++ b_s cB cC cI cJ cZ oA rA Γ ++ b_c cB cC cI cJ cZ oA rA Γ ++ b_t cB cC cI cJ cZ oA rA Γ ++ b_d cB cC cI cJ cZ oA rA Γ) g_0)) (va_Qv (fun (_ : Unit) => True) (g_Bo (dC, dI) (va_A (b_k cB cC cI cJ cZ oA rA Γ ++ b_p cB cC cI cJ cZ oA rA Γ ++ b_o cB cC cI cJ cZ oA rA Γ ++ b_s cB cC cI cJ cZ oA rA Γ ++ b_c cB cC cI cJ cZ oA rA Γ ++ b_t cB cC cI cJ cZ oA rA Γ ++ b_d cB cC cI cJ cZ oA rA Γ) sz) (fun (_ : Unit) => (b_k cB cC cI cJ cZ oA rA res.2 ++ b_p cB cC cI cJ cZ oA rA res.2 ++ b_o cB cC cI cJ cZ oA rA res.2 ++ b_s cB cC cI cJ cZ oA rA res.2 ++ b_c cB cC cI cJ cZ oA rA res.2 ++ b_t cB cC cI cJ cZ oA rA res.2 ++ b_d cB cC cI cJ cZ oA rA res.2))) (va_A (b_k cB cC cI cJ cZ oA rA Γ ++ b_p cB cC cI cJ cZ oA rA Γ ++ b_o cB cC cI cJ cZ oA rA Γ ++ b_s cB cC cI cJ cZ oA rA Γ ++ b_c cB cC cI cJ cZ oA rA Γ ++ b_t cB cC cI cJ cZ oA rA Γ ++ b_d cB cC cI cJ cZ oA rA Γ) sz)) 0 0 (va_A (b_k cB cC cI cJ cZ oA rA Γ ++ b_p cB cC cI cJ cZ oA rA Γ ++ b_o cB cC cI cJ cZ oA rA Γ ++ b_s cB cC cI cJ cZ oA rA Γ ++ b_c cB cC cI cJ cZ oA rA Γ ++ b_t cB cC cI cJ cZ oA rA Γ ++ b_d cB cC cI cJ cZ oA rA Γ) sz) := by
  refine Met.ofW (cc := cX3_numberOp) (maxL := 4) (ret := none) (by decide) rfl ?_
  intro p e s m args below meth c s₁ B hml hv
  obtain ⟨rfl, hsz, hP, hK, hD0, hE, hX⟩ := hv
  have hx := B.exec
  have hb := B.bytes
  have hr := B.returns
  have hts0 := atoms_spec (ws := g_ws yX3_numberOp cX3_numberOp 4 none) B.pre
  have hts : ∀ w ∈ lw_good, w.before ([.ref (oA 10), .int p0] : List Value).toArray s = true := fun w z => hts0 w (List.mem_cons_of_mem _ z)
  have hown : s.vm.findClass RX3 = some m.cls := findClass_of_methodNamed B.named
  have hlocks := B.notSynchronized
  subst hsz
  have hD1 := hD0.self (sz := s.heap.size)
  generalize hAe : va_A (b_k cB cC cI cJ cZ oA rA Γ ++ b_p cB cC cI cJ cZ oA rA Γ ++ b_o cB cC cI cJ cZ oA rA Γ ++ b_s cB cC cI cJ cZ oA rA Γ ++ b_c cB cC cI cJ cZ oA rA Γ ++ b_t cB cC cI cJ cZ oA rA Γ ++ b_d cB cC cI cJ cZ oA rA Γ) s.heap.size = A at hD1 hE hX ⊢
  have hA : ∀ q : Nat, s.heap.size ≤ q → A q := fun q z => by rw [← hAe]; exact Or.inr z
  have hDD : ∀ Γ : HS, va_D A (b_k cB cC cI cJ cZ oA rA Γ ++ b_p cB cC cI cJ cZ oA rA Γ ++ b_o cB cC cI cJ cZ oA rA Γ ++ b_s cB cC cI cJ cZ oA rA Γ ++ b_c cB cC cI cJ cZ oA rA Γ ++ b_t cB cC cI cJ cZ oA rA Γ ++ b_d cB cC cI cJ cZ oA rA Γ) := fun Γ9 => va_D_fst (ws := (b_k cB cC cI cJ cZ oA rA Γ ++ b_p cB cC cI cJ cZ oA rA Γ ++ b_o cB cC cI cJ cZ oA rA Γ ++ b_s cB cC cI cJ cZ oA rA Γ ++ b_c cB cC cI cJ cZ oA rA Γ ++ b_t cB cC cI cJ cZ oA rA Γ ++ b_d cB cC cI cJ cZ oA rA Γ)) (ws' := (b_k cB cC cI cJ cZ oA rA Γ9 ++ b_p cB cC cI cJ cZ oA rA Γ9 ++ b_o cB cC cI cJ cZ oA rA Γ9 ++ b_s cB cC cI cJ cZ oA rA Γ9 ++ b_c cB cC cI cJ cZ oA rA Γ9 ++ b_t cB cC cI cJ cZ oA rA Γ9 ++ b_d cB cC cI cJ cZ oA rA Γ9)) rfl hD1
  have hN := hE.1
  have hS : va_S A s.heap s.heap [] := va_S.rf
  have hl := lv_entry ([.ref (oA 10), .int p0]) (n := 4) (Nat.le_of_ble_eq_true rfl)
  rw [lg_entry_eq]
  generalize (lg_sl ([.ref (oA 10), .int p0]) ++ List.replicate (4 - (lg_sl ([.ref (oA 10), .int p0])).length) Slot.unset).toArray = ls at hl ⊢
  have hl : lv_has ls 4 [(0, .ref (oA 10)), (1, .int p0)] := hl
  unfold F_X3_numberOp at hF
  refine lv_aload_n hx hb dX3_numberOp_0 rfl (lv_at hl 0 rfl) ?_
  obtain ⟨u_1, hu_1, hF_2⟩ := Option.bind_eq_some_iff.mp hF
  clear hF
  have hPc := bx_P (bs := [b_k cB cC cI cJ cZ oA rA Γ, b_p cB cC cI cJ cZ oA rA Γ, b_o cB cC cI cJ cZ oA rA Γ, b_s cB cC cI cJ cZ oA rA Γ, b_c cB cC cI cJ cZ oA rA Γ, b_t cB cC cI cJ cZ oA rA Γ, b_d cB cC cI cJ cZ oA rA Γ]) (bs' := [b_k cB cC cI cJ cZ oA rA Γ, b_p cB cC cI cJ cZ oA rA Γ, b_o cB cC cI cJ cZ oA rA Γ, b_s cB cC cI cJ cZ oA rA Γ, b_c cB cC cI cJ cZ oA rA Γ, b_t cB cC cI cJ cZ oA rA Γ, b_d cB cC cI cJ cZ oA rA Γ]) (ws' := (b_k cB cC cI cJ cZ oA rA Γ ++ b_p cB cC cI cJ cZ oA rA Γ ++ b_o cB cC cI cJ cZ oA rA Γ ++ b_s cB cC cI cJ cZ oA rA Γ ++ b_c cB cC cI cJ cZ oA rA Γ ++ b_t cB cC cI cJ cZ oA rA Γ ++ b_d cB cC cI cJ cZ oA rA Γ)) hP fl_7 fl_7 [0, 1, 2, 3, 4, 5, 6] rfl
  have hDc := bx_D (bs := [b_k cB cC cI cJ cZ oA rA Γ, b_p cB cC cI cJ cZ oA rA Γ, b_o cB cC cI cJ cZ oA rA Γ, b_s cB cC cI cJ cZ oA rA Γ, b_c cB cC cI cJ cZ oA rA Γ, b_t cB cC cI cJ cZ oA rA Γ, b_d cB cC cI cJ cZ oA rA Γ]) (bs' := [b_k cB cC cI cJ cZ oA rA Γ, b_p cB cC cI cJ cZ oA rA Γ, b_o cB cC cI cJ cZ oA rA Γ, b_s cB cC cI cJ cZ oA rA Γ, b_c cB cC cI cJ cZ oA rA Γ, b_t cB cC cI cJ cZ oA rA Γ, b_d cB cC cI cJ cZ oA rA Γ]) (ws' := (b_k cB cC cI cJ cZ oA rA Γ ++ b_p cB cC cI cJ cZ oA rA Γ ++ b_o cB cC cI cJ cZ oA rA Γ ++ b_s cB cC cI cJ cZ oA rA Γ ++ b_c cB cC cI cJ cZ oA rA Γ ++ b_t cB cC cI cJ cZ oA rA Γ ++ b_d cB cC cI cJ cZ oA rA Γ)) (hDD Γ) fl_7 fl_7 [0, 1, 2, 3, 4, 5, 6] (by decide +kernel) rfl
  have hFc := bx_F (bs := [b_k cB cC cI cJ cZ oA rA Γ, b_p cB cC cI cJ cZ oA rA Γ, b_o cB cC cI cJ cZ oA rA Γ, b_s cB cC cI cJ cZ oA rA Γ, b_c cB cC cI cJ cZ oA rA Γ, b_t cB cC cI cJ cZ oA rA Γ, b_d cB cC cI cJ cZ oA rA Γ]) (bs' := [b_k cB cC cI cJ cZ oA rA Γ, b_p cB cC cI cJ cZ oA rA Γ, b_o cB cC cI cJ cZ oA rA Γ, b_s cB cC cI cJ cZ oA rA Γ, b_c cB cC cI cJ cZ oA rA Γ, b_t cB cC cI cJ cZ oA rA Γ, b_d cB cC cI cJ cZ oA rA Γ]) (wc := (b_k cB cC cI cJ cZ oA rA Γ ++ b_p cB cC cI cJ cZ oA rA Γ ++ b_o cB cC cI cJ cZ oA rA Γ ++ b_s cB cC cI cJ cZ oA rA Γ ++ b_c cB cC cI cJ cZ oA rA Γ ++ b_t cB cC cI cJ cZ oA rA Γ ++ b_d cB cC cI cJ cZ oA rA Γ)) (hDD Γ) hS hA fl_7 fl_7 [0, 1, 2, 3, 4, 5, 6] rfl
  refine g_ofi (wc := (b_k cB cC cI cJ cZ oA rA Γ ++ b_p cB cC cI cJ cZ oA rA Γ ++ b_o cB cC cI cJ cZ oA rA Γ ++ b_s cB cC cI cJ cZ oA rA Γ ++ b_c cB cC cI cJ cZ oA rA Γ ++ b_t cB cC cI cJ cZ oA rA Γ ++ b_d cB cC cI cJ cZ oA rA Γ)) (wr := ([] : va_W)) hP (hDD Γ) hS hFc (bx_ix [b_k cB cC cI cJ cZ oA rA Γ, b_p cB cC cI cJ cZ oA rA Γ, b_o cB cC cI cJ cZ oA rA Γ, b_s cB cC cI cJ cZ oA rA Γ, b_c cB cC cI cJ cZ oA rA Γ, b_t cB cC cI cJ cZ oA rA Γ, b_d cB cC cI cJ cZ oA rA Γ] [0, 1, 2, 3, 4, 5, 6]) (bx_ix [b_k cB cC cI cJ cZ oA rA Γ, b_p cB cC cI cJ cZ oA rA Γ, b_o cB cC cI cJ cZ oA rA Γ, b_s cB cC cI cJ cZ oA rA Γ, b_c cB cC cI cJ cZ oA rA Γ, b_t cB cC cI cJ cZ oA rA Γ, b_d cB cC cI cJ cZ oA rA Γ] []) (bx_C (bs := [b_k cB cC cI cJ cZ oA rA Γ, b_p cB cC cI cJ cZ oA rA Γ, b_o cB cC cI cJ cZ oA rA Γ, b_s cB cC cI cJ cZ oA rA Γ, b_c cB cC cI cJ cZ oA rA Γ, b_t cB cC cI cJ cZ oA rA Γ, b_d cB cC cI cJ cZ oA rA Γ]) (bs' := [b_k cB cC cI cJ cZ oA rA Γ, b_p cB cC cI cJ cZ oA rA Γ, b_o cB cC cI cJ cZ oA rA Γ, b_s cB cC cI cJ cZ oA rA Γ, b_c cB cC cI cJ cZ oA rA Γ, b_t cB cC cI cJ cZ oA rA Γ, b_d cB cC cI cJ cZ oA rA Γ]) (is := [0, 1, 2, 3, 4, 5, 6]) fl_7 fl_7 rfl) (bx_C (bs := [b_k cB cC cI cJ cZ oA rA Γ, b_p cB cC cI cJ cZ oA rA Γ, b_o cB cC cI cJ cZ oA rA Γ, b_s cB cC cI cJ cZ oA rA Γ, b_c cB cC cI cJ cZ oA rA Γ, b_t cB cC cI cJ cZ oA rA Γ, b_d cB cC cI cJ cZ oA rA Γ]) (bs' := []) (is := []) fl_7 fl_0 rfl) (bx_n (by decide +kernel)) (bx_d (by decide +kernel)) (va_runV (As := []) (rest := []) ⟨hx, hb, hml, hown, hts⟩ (k_X3_pop l dC dI cB cC cI cJ cZ cP oA rA s.heap.size  Γ _ hu_1) (cwV 0 hts (g_gV wq_1144 wq_1145 wq_2086 wq_11 wq_1146) rfl rfl rfl (by decide +kernel) ⟨Nat.le_of_ble_eq_true rfl, Nat.le_of_ble_eq_true rfl⟩) (g_preV g_bl0 hK hPc hDc hS hE hFc g_to0 (q0 := 0) (ci := 3) rfl rfl) rfl rfl hl.1 rfl (lv_room (Nat.le_of_ble_eq_true rfl)) dX3_numberOp_1 ⟨Nat.le_of_ble_eq_true rfl, Nat.le_of_ble_eq_true rfl⟩) (fun r9 u9 H locs hw9 hP' hD' hS => ?_)
  clear hPc hDc hFc
  subst hw9
  have hP : va_P (dC, dI) vwCl (b_k cB cC cI cJ cZ oA rA u_1.2 ++ b_p cB cC cI cJ cZ oA rA u_1.2 ++ b_o cB cC cI cJ cZ oA rA u_1.2 ++ b_s cB cC cI cJ cZ oA rA u_1.2 ++ b_c cB cC cI cJ cZ oA rA u_1.2 ++ b_t cB cC cI cJ cZ oA rA u_1.2 ++ b_d cB cC cI cJ cZ oA rA u_1.2) H := hP'
  clear hP' hD'
  refine lv_istore_n (lv' := [(2, .int u_1.1), (0, .ref (oA 10)), (1, .int p0)]) hx hb dX3_numberOp_4 rfl hl (by decide) rfl (fun ls hl => ?_)
  refine lv_aload_n hx hb dX3_numberOp_5 rfl (lv_at hl 1 rfl) ?_
  obtain ⟨u_3, hu_3, hF_4⟩ := Option.bind_eq_some_iff.mp hF_2
  clear hF_2
  have hPc := bx_P (bs := [b_k cB cC cI cJ cZ oA rA u_1.2, b_p cB cC cI cJ cZ oA rA u_1.2, b_o cB cC cI cJ cZ oA rA u_1.2, b_s cB cC cI cJ cZ oA rA u_1.2, b_c cB cC cI cJ cZ oA rA u_1.2, b_t cB cC cI cJ cZ oA rA u_1.2, b_d cB cC cI cJ cZ oA rA u_1.2]) (bs' := [b_k cB cC cI cJ cZ oA rA u_1.2, b_p cB cC cI cJ cZ oA rA u_1.2, b_o cB cC cI cJ cZ oA rA u_1.2, b_s cB cC cI cJ cZ oA rA u_1.2, b_c cB cC cI cJ cZ oA rA u_1.2, b_t cB cC cI cJ cZ oA rA u_1.2, b_d cB cC cI cJ cZ oA rA u_1.2]) (ws' := (b_k cB cC cI cJ cZ oA rA u_1.2 ++ b_p cB cC cI cJ cZ oA rA u_1.2 ++ b_o cB cC cI cJ cZ oA rA u_1.2 ++ b_s cB cC cI cJ cZ oA rA u_1.2 ++ b_c cB cC cI cJ cZ oA rA u_1.2 ++ b_t cB cC cI cJ cZ oA rA u_1.2 ++ b_d cB cC cI cJ cZ oA rA u_1.2)) hP fl_7 fl_7 [0, 1, 2, 3, 4, 5, 6] rfl
  have hDc := bx_D (bs := [b_k cB cC cI cJ cZ oA rA u_1.2, b_p cB cC cI cJ cZ oA rA u_1.2, b_o cB cC cI cJ cZ oA rA u_1.2, b_s cB cC cI cJ cZ oA rA u_1.2, b_c cB cC cI cJ cZ oA rA u_1.2, b_t cB cC cI cJ cZ oA rA u_1.2, b_d cB cC cI cJ cZ oA rA u_1.2]) (bs' := [b_k cB cC cI cJ cZ oA rA u_1.2, b_p cB cC cI cJ cZ oA rA u_1.2, b_o cB cC cI cJ cZ oA rA u_1.2, b_s cB cC cI cJ cZ oA rA u_1.2, b_c cB cC cI cJ cZ oA rA u_1.2, b_t cB cC cI cJ cZ oA rA u_1.2, b_d cB cC cI cJ cZ oA rA u_1.2]) (ws' := (b_k cB cC cI cJ cZ oA rA u_1.2 ++ b_p cB cC cI cJ cZ oA rA u_1.2 ++ b_o cB cC cI cJ cZ oA rA u_1.2 ++ b_s cB cC cI cJ cZ oA rA u_1.2 ++ b_c cB cC cI cJ cZ oA rA u_1.2 ++ b_t cB cC cI cJ cZ oA rA u_1.2 ++ b_d cB cC cI cJ cZ oA rA u_1.2)) (hDD u_1.2) fl_7 fl_7 [0, 1, 2, 3, 4, 5, 6] (by decide +kernel) rfl
  have hFc := bx_F (bs := [b_k cB cC cI cJ cZ oA rA u_1.2, b_p cB cC cI cJ cZ oA rA u_1.2, b_o cB cC cI cJ cZ oA rA u_1.2, b_s cB cC cI cJ cZ oA rA u_1.2, b_c cB cC cI cJ cZ oA rA u_1.2, b_t cB cC cI cJ cZ oA rA u_1.2, b_d cB cC cI cJ cZ oA rA u_1.2]) (bs' := [b_k cB cC cI cJ cZ oA rA u_1.2, b_p cB cC cI cJ cZ oA rA u_1.2, b_o cB cC cI cJ cZ oA rA u_1.2, b_s cB cC cI cJ cZ oA rA u_1.2, b_c cB cC cI cJ cZ oA rA u_1.2, b_t cB cC cI cJ cZ oA rA u_1.2, b_d cB cC cI cJ cZ oA rA u_1.2]) (wc := (b_k cB cC cI cJ cZ oA rA u_1.2 ++ b_p cB cC cI cJ cZ oA rA u_1.2 ++ b_o cB cC cI cJ cZ oA rA u_1.2 ++ b_s cB cC cI cJ cZ oA rA u_1.2 ++ b_c cB cC cI cJ cZ oA rA u_1.2 ++ b_t cB cC cI cJ cZ oA rA u_1.2 ++ b_d cB cC cI cJ cZ oA rA u_1.2)) (hDD u_1.2) hS hA fl_7 fl_7 [0, 1, 2, 3, 4, 5, 6] rfl
  refine g_ofi (wc := (b_k cB cC cI cJ cZ oA rA u_1.2 ++ b_p cB cC cI cJ cZ oA rA u_1.2 ++ b_o cB cC cI cJ cZ oA rA u_1.2 ++ b_s cB cC cI cJ cZ oA rA u_1.2 ++ b_c cB cC cI cJ cZ oA rA u_1.2 ++ b_t cB cC cI cJ cZ oA rA u_1.2 ++ b_d cB cC cI cJ cZ oA rA u_1.2)) (wr := ([] : va_W)) hP (hDD u_1.2) hS hFc (bx_ix [b_k cB cC cI cJ cZ oA rA u_1.2, b_p cB cC cI cJ cZ oA rA u_1.2, b_o cB cC cI cJ cZ oA rA u_1.2, b_s cB cC cI cJ cZ oA rA u_1.2, b_c cB cC cI cJ cZ oA rA u_1.2, b_t cB cC cI cJ cZ oA rA u_1.2, b_d cB cC cI cJ cZ oA rA u_1.2] [0, 1, 2, 3, 4, 5, 6]) (bx_ix [b_k cB cC cI cJ cZ oA rA u_1.2, b_p cB cC cI cJ cZ oA rA u_1.2, b_o cB cC cI cJ cZ oA rA u_1.2, b_s cB cC cI cJ cZ oA rA u_1.2, b_c cB cC cI cJ cZ oA rA u_1.2, b_t cB cC cI cJ cZ oA rA u_1.2, b_d cB cC cI cJ cZ oA rA u_1.2] []) (bx_C (bs := [b_k cB cC cI cJ cZ oA rA u_1.2, b_p cB cC cI cJ cZ oA rA u_1.2, b_o cB cC cI cJ cZ oA rA u_1.2, b_s cB cC cI cJ cZ oA rA u_1.2, b_c cB cC cI cJ cZ oA rA u_1.2, b_t cB cC cI cJ cZ oA rA u_1.2, b_d cB cC cI cJ cZ oA rA u_1.2]) (bs' := [b_k cB cC cI cJ cZ oA rA u_1.2, b_p cB cC cI cJ cZ oA rA u_1.2, b_o cB cC cI cJ cZ oA rA u_1.2, b_s cB cC cI cJ cZ oA rA u_1.2, b_c cB cC cI cJ cZ oA rA u_1.2, b_t cB cC cI cJ cZ oA rA u_1.2, b_d cB cC cI cJ cZ oA rA u_1.2]) (is := [0, 1, 2, 3, 4, 5, 6]) fl_7 fl_7 rfl) (bx_C (bs := [b_k cB cC cI cJ cZ oA rA u_1.2, b_p cB cC cI cJ cZ oA rA u_1.2, b_o cB cC cI cJ cZ oA rA u_1.2, b_s cB cC cI cJ cZ oA rA u_1.2, b_c cB cC cI cJ cZ oA rA u_1.2, b_t cB cC cI cJ cZ oA rA u_1.2, b_d cB cC cI cJ cZ oA rA u_1.2]) (bs' := []) (is := []) fl_7 fl_0 rfl) (bx_n (by decide +kernel)) (bx_d (by decide +kernel)) (va_runV (As := []) (rest := []) ⟨hx, hb, hml, hown, hts⟩ (k_X3_pop l dC dI cB cC cI cJ cZ cP oA rA H.size  u_1.2 _ hu_3) (cwV 0 hts (g_gV wq_1144 wq_1145 wq_2086 wq_11 wq_1146) rfl rfl rfl (by decide +kernel) ⟨Nat.le_of_ble_eq_true rfl, Nat.le_of_ble_eq_true rfl⟩) (g_preV g_bl0 hK hPc hDc hS hE hFc g_to0 (q0 := 0) (ci := 3) rfl rfl) rfl rfl hl.1 rfl (lv_room (Nat.le_of_ble_eq_true rfl)) dX3_numberOp_6 ⟨Nat.le_of_ble_eq_true rfl, Nat.le_of_ble_eq_true rfl⟩) (fun r9 u9 H locs hw9 hP' hD' hS => ?_)
  clear hPc hDc hFc
  subst hw9
  have hP : va_P (dC, dI) vwCl (b_k cB cC cI cJ cZ oA rA u_3.2 ++ b_p cB cC cI cJ cZ oA rA u_3.2 ++ b_o cB cC cI cJ cZ oA rA u_3.2 ++ b_s cB cC cI cJ cZ oA rA u_3.2 ++ b_c cB cC cI cJ cZ oA rA u_3.2 ++ b_t cB cC cI cJ cZ oA rA u_3.2 ++ b_d cB cC cI cJ cZ oA rA u_3.2) H := hP'
  clear hP' hD'
  refine lv_istore_n (lv' := [(3, .int u_3.1), (2, .int u_1.1), (0, .ref (oA 10)), (1, .int p0)]) hx hb dX3_numberOp_9 rfl hl (by decide) rfl (fun ls hl => ?_)
  refine lv_iload_n hx hb dX3_numberOp_10 rfl (lv_at hl 3 rfl) ?_
  refine lv_bipush (v := 13) hx hb dX3_numberOp_11 (by decide +kernel) ?_
  obtain ⟨j_6, ej_6, hF_7⟩ := bnd_e hF_4
  clear hF_4
  have Jj_6 : ∀  (σ_5 : HS), j_6  σ_5 = some res → ∀ (H : Heap) (locs : List Loc), va_P (dC, dI) vwCl (b_k cB cC cI cJ cZ oA rA σ_5 ++ b_p cB cC cI cJ cZ oA rA σ_5 ++ b_o cB cC cI cJ cZ oA rA σ_5 ++ b_s cB cC cI cJ cZ oA rA σ_5 ++ b_c cB cC cI cJ cZ oA rA σ_5 ++ b_t cB cC cI cJ cZ oA rA σ_5 ++ b_d cB cC cI cJ cZ oA rA σ_5) H → va_S A s.heap H locs → ∀ ls : Array Slot, lv_has ls 4 [(0, .ref (oA 10)), (1, .int p0), (2, .int u_1.1), (3, .int u_3.1)] → W p l e (headSpec (g_ws yX3_numberOp cX3_numberOp 4 none) { frames := 4, cells := 0, slots := 0, locals := 101 }).room s m ([.ref (oA 10), .int p0] : List Value).toArray below meth c H locs 0 0 (MQ below (va_Qv (fun (_ : Unit) => True) (g_Bo (dC, dI) A (fun (_ : Unit) => (b_k cB cC cI cJ cZ oA rA res.2 ++ b_p cB cC cI cJ cZ oA rA res.2 ++ b_o cB cC cI cJ cZ oA rA res.2 ++ b_s cB cC cI cJ cZ oA rA res.2 ++ b_c cB cC cI cJ cZ oA rA res.2 ++ b_t cB cC cI cJ cZ oA rA res.2 ++ b_d cB cC cI cJ cZ oA rA res.2))) A) ([.ref (oA 10), .int p0] : List Value).toArray s 0 0 A) (F0 m 34 ls []) := by
    intro  σ_5 hF0 H locs hP hS ls hl
    subst ej_6
    have hF_8 := hF0
    clear hF0
    refine lv_aload_n hx hb dX3_numberOp_34 rfl (lv_at hl 0 rfl) ?_
    refine lv_iload_n hx hb dX3_numberOp_35 rfl (lv_at hl 1 rfl) ?_
    refine lv_iload_n hx hb dX3_numberOp_36 rfl (lv_at hl 3 rfl) ?_
    refine lv_iload_n hx hb dX3_numberOp_37 rfl (lv_at hl 2 rfl) ?_
    obtain ⟨u_9, hu_9, hF_10⟩ := Option.bind_eq_some_iff.mp hF_8
    clear hF_8
    have hPc : va_P (dC, dI) vwCl [] H := fun k q z => by simp at z
    have hDc : va_D A [] := ⟨fun i j p q z => by simp at z, fun k q z => by simp at z⟩
    have hFc := c_nil hA hS
    refine c_cs (v := u_9.1) hA hP hS (va_runS (As := [.int p0, .int u_3.1, .int u_1.1]) (rest := [.ref (oA 10)]) ⟨hx, hb, hml, hown, hts⟩ (k_X3_worth l dC dI cB cC cI cJ cZ cP oA rA H.size  p0 u_3.1 u_1.1 σ_5 _ hu_9) (va_cwS 3 hts (g_gS wq_1207 wq_1208 wq_11 wq_1209) rfl rfl rfl (by decide +kernel) ⟨Nat.le_of_ble_eq_true rfl, Nat.le_of_ble_eq_true rfl⟩) (g_preS g_bl0 hK hPc hDc hS hE hFc g_to0) rfl rfl hl.1 rfl (lv_room (Nat.le_of_ble_eq_true rfl)) dX3_numberOp_38 ⟨Nat.le_of_ble_eq_true rfl, Nat.le_of_ble_eq_true rfl⟩) (fun H locs hP hS => ?_)
    clear hPc hDc hFc
    obtain ⟨u_11, hu_11, hF_12⟩ := Option.bind_eq_some_iff.mp hF_10
    clear hF_10
    have hPc := bx_P (bs := [b_k cB cC cI cJ cZ oA rA σ_5, b_p cB cC cI cJ cZ oA rA σ_5, b_o cB cC cI cJ cZ oA rA σ_5, b_s cB cC cI cJ cZ oA rA σ_5, b_c cB cC cI cJ cZ oA rA σ_5, b_t cB cC cI cJ cZ oA rA σ_5, b_d cB cC cI cJ cZ oA rA σ_5]) (bs' := [b_k cB cC cI cJ cZ oA rA σ_5, b_p cB cC cI cJ cZ oA rA σ_5, b_o cB cC cI cJ cZ oA rA σ_5, b_s cB cC cI cJ cZ oA rA σ_5, b_c cB cC cI cJ cZ oA rA σ_5, b_t cB cC cI cJ cZ oA rA σ_5, b_d cB cC cI cJ cZ oA rA σ_5]) (ws' := (b_k cB cC cI cJ cZ oA rA σ_5 ++ b_p cB cC cI cJ cZ oA rA σ_5 ++ b_o cB cC cI cJ cZ oA rA σ_5 ++ b_s cB cC cI cJ cZ oA rA σ_5 ++ b_c cB cC cI cJ cZ oA rA σ_5 ++ b_t cB cC cI cJ cZ oA rA σ_5 ++ b_d cB cC cI cJ cZ oA rA σ_5)) hP fl_7 fl_7 [0, 1, 2, 3, 4, 5, 6] rfl
    have hDc := bx_D (bs := [b_k cB cC cI cJ cZ oA rA σ_5, b_p cB cC cI cJ cZ oA rA σ_5, b_o cB cC cI cJ cZ oA rA σ_5, b_s cB cC cI cJ cZ oA rA σ_5, b_c cB cC cI cJ cZ oA rA σ_5, b_t cB cC cI cJ cZ oA rA σ_5, b_d cB cC cI cJ cZ oA rA σ_5]) (bs' := [b_k cB cC cI cJ cZ oA rA σ_5, b_p cB cC cI cJ cZ oA rA σ_5, b_o cB cC cI cJ cZ oA rA σ_5, b_s cB cC cI cJ cZ oA rA σ_5, b_c cB cC cI cJ cZ oA rA σ_5, b_t cB cC cI cJ cZ oA rA σ_5, b_d cB cC cI cJ cZ oA rA σ_5]) (ws' := (b_k cB cC cI cJ cZ oA rA σ_5 ++ b_p cB cC cI cJ cZ oA rA σ_5 ++ b_o cB cC cI cJ cZ oA rA σ_5 ++ b_s cB cC cI cJ cZ oA rA σ_5 ++ b_c cB cC cI cJ cZ oA rA σ_5 ++ b_t cB cC cI cJ cZ oA rA σ_5 ++ b_d cB cC cI cJ cZ oA rA σ_5)) (hDD σ_5) fl_7 fl_7 [0, 1, 2, 3, 4, 5, 6] (by decide +kernel) rfl
    have hFc := bx_F (bs := [b_k cB cC cI cJ cZ oA rA σ_5, b_p cB cC cI cJ cZ oA rA σ_5, b_o cB cC cI cJ cZ oA rA σ_5, b_s cB cC cI cJ cZ oA rA σ_5, b_c cB cC cI cJ cZ oA rA σ_5, b_t cB cC cI cJ cZ oA rA σ_5, b_d cB cC cI cJ cZ oA rA σ_5]) (bs' := [b_k cB cC cI cJ cZ oA rA σ_5, b_p cB cC cI cJ cZ oA rA σ_5, b_o cB cC cI cJ cZ oA rA σ_5, b_s cB cC cI cJ cZ oA rA σ_5, b_c cB cC cI cJ cZ oA rA σ_5, b_t cB cC cI cJ cZ oA rA σ_5, b_d cB cC cI cJ cZ oA rA σ_5]) (wc := (b_k cB cC cI cJ cZ oA rA σ_5 ++ b_p cB cC cI cJ cZ oA rA σ_5 ++ b_o cB cC cI cJ cZ oA rA σ_5 ++ b_s cB cC cI cJ cZ oA rA σ_5 ++ b_c cB cC cI cJ cZ oA rA σ_5 ++ b_t cB cC cI cJ cZ oA rA σ_5 ++ b_d cB cC cI cJ cZ oA rA σ_5)) (hDD σ_5) hS hA fl_7 fl_7 [0, 1, 2, 3, 4, 5, 6] rfl
    refine g_ofv (wc := (b_k cB cC cI cJ cZ oA rA σ_5 ++ b_p cB cC cI cJ cZ oA rA σ_5 ++ b_o cB cC cI cJ cZ oA rA σ_5 ++ b_s cB cC cI cJ cZ oA rA σ_5 ++ b_c cB cC cI cJ cZ oA rA σ_5 ++ b_t cB cC cI cJ cZ oA rA σ_5 ++ b_d cB cC cI cJ cZ oA rA σ_5)) (wr := ([] : va_W)) hP (hDD σ_5) hS hFc (bx_ix [b_k cB cC cI cJ cZ oA rA σ_5, b_p cB cC cI cJ cZ oA rA σ_5, b_o cB cC cI cJ cZ oA rA σ_5, b_s cB cC cI cJ cZ oA rA σ_5, b_c cB cC cI cJ cZ oA rA σ_5, b_t cB cC cI cJ cZ oA rA σ_5, b_d cB cC cI cJ cZ oA rA σ_5] [0, 1, 2, 3, 4, 5, 6]) (bx_ix [b_k cB cC cI cJ cZ oA rA σ_5, b_p cB cC cI cJ cZ oA rA σ_5, b_o cB cC cI cJ cZ oA rA σ_5, b_s cB cC cI cJ cZ oA rA σ_5, b_c cB cC cI cJ cZ oA rA σ_5, b_t cB cC cI cJ cZ oA rA σ_5, b_d cB cC cI cJ cZ oA rA σ_5] []) (bx_C (bs := [b_k cB cC cI cJ cZ oA rA σ_5, b_p cB cC cI cJ cZ oA rA σ_5, b_o cB cC cI cJ cZ oA rA σ_5, b_s cB cC cI cJ cZ oA rA σ_5, b_c cB cC cI cJ cZ oA rA σ_5, b_t cB cC cI cJ cZ oA rA σ_5, b_d cB cC cI cJ cZ oA rA σ_5]) (bs' := [b_k cB cC cI cJ cZ oA rA σ_5, b_p cB cC cI cJ cZ oA rA σ_5, b_o cB cC cI cJ cZ oA rA σ_5, b_s cB cC cI cJ cZ oA rA σ_5, b_c cB cC cI cJ cZ oA rA σ_5, b_t cB cC cI cJ cZ oA rA σ_5, b_d cB cC cI cJ cZ oA rA σ_5]) (is := [0, 1, 2, 3, 4, 5, 6]) fl_7 fl_7 rfl) (bx_C (bs := [b_k cB cC cI cJ cZ oA rA σ_5, b_p cB cC cI cJ cZ oA rA σ_5, b_o cB cC cI cJ cZ oA rA σ_5, b_s cB cC cI cJ cZ oA rA σ_5, b_c cB cC cI cJ cZ oA rA σ_5, b_t cB cC cI cJ cZ oA rA σ_5, b_d cB cC cI cJ cZ oA rA σ_5]) (bs' := []) (is := []) fl_7 fl_0 rfl) (bx_n (by decide +kernel)) (bx_d (by decide +kernel)) (va_runV (As := [.int u_9.1]) (rest := []) ⟨hx, hb, hml, hown, hts⟩ (k_X3_push l dC dI cB cC cI cJ cZ cP oA rA H.size  u_9.1 σ_5 _ hu_11) (cwV 1 hts (g_gV wq_1141 wq_1142 wq_2085 wq_11 wq_1143) rfl rfl rfl (by decide +kernel) ⟨Nat.le_of_ble_eq_true rfl, Nat.le_of_ble_eq_true rfl⟩) (g_preV g_bl0 hK hPc hDc hS hE hFc g_to0 (q0 := 0) (ci := 3) rfl rfl) rfl rfl hl.1 rfl (lv_room (Nat.le_of_ble_eq_true rfl)) dX3_numberOp_41 ⟨Nat.le_of_ble_eq_true rfl, Nat.le_of_ble_eq_true rfl⟩) (fun u9 H locs hw9 hP' hD' hS => ?_)
    clear hPc hDc hFc
    have hP : va_P (dC, dI) vwCl (b_k cB cC cI cJ cZ oA rA u_11.2 ++ b_p cB cC cI cJ cZ oA rA u_11.2 ++ b_o cB cC cI cJ cZ oA rA u_11.2 ++ b_s cB cC cI cJ cZ oA rA u_11.2 ++ b_c cB cC cI cJ cZ oA rA u_11.2 ++ b_t cB cC cI cJ cZ oA rA u_11.2 ++ b_d cB cC cI cJ cZ oA rA u_11.2) H := hP'
    clear hP' hD'
    have h9 := Option.some.inj hF_12
    subst h9
    exact W.vret hx hb hr (fun t ht hW => ⟨⟨(), rfl, trivial, m_end ht hP, hDD _⟩, hS.F ht⟩) hS.2.2 dX3_numberOp_44
  obtain ⟨j_14, ej_14, hF_15⟩ := bnd_e hF_7
  clear hF_7
  have Jj_14 : ∀  (σ_13 : HS), j_14  σ_13 = some res → ∀ (H : Heap) (locs : List Loc), va_P (dC, dI) vwCl (b_k cB cC cI cJ cZ oA rA σ_13 ++ b_p cB cC cI cJ cZ oA rA σ_13 ++ b_o cB cC cI cJ cZ oA rA σ_13 ++ b_s cB cC cI cJ cZ oA rA σ_13 ++ b_c cB cC cI cJ cZ oA rA σ_13 ++ b_t cB cC cI cJ cZ oA rA σ_13 ++ b_d cB cC cI cJ cZ oA rA σ_13) H → va_S A s.heap H locs → ∀ ls : Array Slot, lv_has ls 4 [(0, .ref (oA 10)), (1, .int p0), (2, .int u_1.1), (3, .int u_3.1)] → W p l e (headSpec (g_ws yX3_numberOp cX3_numberOp 4 none) { frames := 4, cells := 0, slots := 0, locals := 101 }).room s m ([.ref (oA 10), .int p0] : List Value).toArray below meth c H locs 0 0 (MQ below (va_Qv (fun (_ : Unit) => True) (g_Bo (dC, dI) A (fun (_ : Unit) => (b_k cB cC cI cJ cZ oA rA res.2 ++ b_p cB cC cI cJ cZ oA rA res.2 ++ b_o cB cC cI cJ cZ oA rA res.2 ++ b_s cB cC cI cJ cZ oA rA res.2 ++ b_c cB cC cI cJ cZ oA rA res.2 ++ b_t cB cC cI cJ cZ oA rA res.2 ++ b_d cB cC cI cJ cZ oA rA res.2))) A) ([.ref (oA 10), .int p0] : List Value).toArray s 0 0 A) (F0 m 22 ls []) := by
    intro  σ_13 hF0 H locs hP hS ls hl
    subst ej_14
    have hF_16 := hF0
    clear hF0
    refine lv_iload_n hx hb dX3_numberOp_22 rfl (lv_at hl 2 rfl) ?_
    refine lv_if_ne (tgt := 34) hx hb dX3_numberOp_23 (by decide) (fun c_17 => ?_) (fun c_17 => ?_)
    · have hF_21 := ineg c_17 hF_16
      clear hF_16
      exact Jj_6  σ_13 hF_21 _ _ hP hS ls (lv_sub hl [0, 1, 2, 3] rfl)
    · have hF_18 := ipos c_17 hF_16
      clear hF_16
      refine lv_aload_n hx hb dX3_numberOp_26 rfl (lv_at hl 0 rfl) ?_
      refine lv_iconst (v := 1) hx hb dX3_numberOp_27 (by decide +kernel) ?_
      obtain ⟨u_19, hu_19, hF_20⟩ := Option.bind_eq_some_iff.mp hF_18
      clear hF_18
      have hPc := bx_P (bs := [b_k cB cC cI cJ cZ oA rA σ_13, b_p cB cC cI cJ cZ oA rA σ_13, b_o cB cC cI cJ cZ oA rA σ_13, b_s cB cC cI cJ cZ oA rA σ_13, b_c cB cC cI cJ cZ oA rA σ_13, b_t cB cC cI cJ cZ oA rA σ_13, b_d cB cC cI cJ cZ oA rA σ_13]) (bs' := [b_k cB cC cI cJ cZ oA rA σ_13, b_p cB cC cI cJ cZ oA rA σ_13, b_o cB cC cI cJ cZ oA rA σ_13, b_s cB cC cI cJ cZ oA rA σ_13, b_c cB cC cI cJ cZ oA rA σ_13, b_t cB cC cI cJ cZ oA rA σ_13, b_d cB cC cI cJ cZ oA rA σ_13]) (ws' := (b_k cB cC cI cJ cZ oA rA σ_13 ++ b_p cB cC cI cJ cZ oA rA σ_13 ++ b_o cB cC cI cJ cZ oA rA σ_13 ++ b_s cB cC cI cJ cZ oA rA σ_13 ++ b_c cB cC cI cJ cZ oA rA σ_13 ++ b_t cB cC cI cJ cZ oA rA σ_13 ++ b_d cB cC cI cJ cZ oA rA σ_13)) hP fl_7 fl_7 [0, 1, 2, 3, 4, 5, 6] rfl
      have hDc := bx_D (bs := [b_k cB cC cI cJ cZ oA rA σ_13, b_p cB cC cI cJ cZ oA rA σ_13, b_o cB cC cI cJ cZ oA rA σ_13, b_s cB cC cI cJ cZ oA rA σ_13, b_c cB cC cI cJ cZ oA rA σ_13, b_t cB cC cI cJ cZ oA rA σ_13, b_d cB cC cI cJ cZ oA rA σ_13]) (bs' := [b_k cB cC cI cJ cZ oA rA σ_13, b_p cB cC cI cJ cZ oA rA σ_13, b_o cB cC cI cJ cZ oA rA σ_13, b_s cB cC cI cJ cZ oA rA σ_13, b_c cB cC cI cJ cZ oA rA σ_13, b_t cB cC cI cJ cZ oA rA σ_13, b_d cB cC cI cJ cZ oA rA σ_13]) (ws' := (b_k cB cC cI cJ cZ oA rA σ_13 ++ b_p cB cC cI cJ cZ oA rA σ_13 ++ b_o cB cC cI cJ cZ oA rA σ_13 ++ b_s cB cC cI cJ cZ oA rA σ_13 ++ b_c cB cC cI cJ cZ oA rA σ_13 ++ b_t cB cC cI cJ cZ oA rA σ_13 ++ b_d cB cC cI cJ cZ oA rA σ_13)) (hDD σ_13) fl_7 fl_7 [0, 1, 2, 3, 4, 5, 6] (by decide +kernel) rfl
      have hFc := bx_F (bs := [b_k cB cC cI cJ cZ oA rA σ_13, b_p cB cC cI cJ cZ oA rA σ_13, b_o cB cC cI cJ cZ oA rA σ_13, b_s cB cC cI cJ cZ oA rA σ_13, b_c cB cC cI cJ cZ oA rA σ_13, b_t cB cC cI cJ cZ oA rA σ_13, b_d cB cC cI cJ cZ oA rA σ_13]) (bs' := [b_k cB cC cI cJ cZ oA rA σ_13, b_p cB cC cI cJ cZ oA rA σ_13, b_o cB cC cI cJ cZ oA rA σ_13, b_s cB cC cI cJ cZ oA rA σ_13, b_c cB cC cI cJ cZ oA rA σ_13, b_t cB cC cI cJ cZ oA rA σ_13, b_d cB cC cI cJ cZ oA rA σ_13]) (wc := (b_k cB cC cI cJ cZ oA rA σ_13 ++ b_p cB cC cI cJ cZ oA rA σ_13 ++ b_o cB cC cI cJ cZ oA rA σ_13 ++ b_s cB cC cI cJ cZ oA rA σ_13 ++ b_c cB cC cI cJ cZ oA rA σ_13 ++ b_t cB cC cI cJ cZ oA rA σ_13 ++ b_d cB cC cI cJ cZ oA rA σ_13)) (hDD σ_13) hS hA fl_7 fl_7 [0, 1, 2, 3, 4, 5, 6] rfl
      refine g_ofv (wc := (b_k cB cC cI cJ cZ oA rA σ_13 ++ b_p cB cC cI cJ cZ oA rA σ_13 ++ b_o cB cC cI cJ cZ oA rA σ_13 ++ b_s cB cC cI cJ cZ oA rA σ_13 ++ b_c cB cC cI cJ cZ oA rA σ_13 ++ b_t cB cC cI cJ cZ oA rA σ_13 ++ b_d cB cC cI cJ cZ oA rA σ_13)) (wr := ([] : va_W)) hP (hDD σ_13) hS hFc (bx_ix [b_k cB cC cI cJ cZ oA rA σ_13, b_p cB cC cI cJ cZ oA rA σ_13, b_o cB cC cI cJ cZ oA rA σ_13, b_s cB cC cI cJ cZ oA rA σ_13, b_c cB cC cI cJ cZ oA rA σ_13, b_t cB cC cI cJ cZ oA rA σ_13, b_d cB cC cI cJ cZ oA rA σ_13] [0, 1, 2, 3, 4, 5, 6]) (bx_ix [b_k cB cC cI cJ cZ oA rA σ_13, b_p cB cC cI cJ cZ oA rA σ_13, b_o cB cC cI cJ cZ oA rA σ_13, b_s cB cC cI cJ cZ oA rA σ_13, b_c cB cC cI cJ cZ oA rA σ_13, b_t cB cC cI cJ cZ oA rA σ_13, b_d cB cC cI cJ cZ oA rA σ_13] []) (bx_C (bs := [b_k cB cC cI cJ cZ oA rA σ_13, b_p cB cC cI cJ cZ oA rA σ_13, b_o cB cC cI cJ cZ oA rA σ_13, b_s cB cC cI cJ cZ oA rA σ_13, b_c cB cC cI cJ cZ oA rA σ_13, b_t cB cC cI cJ cZ oA rA σ_13, b_d cB cC cI cJ cZ oA rA σ_13]) (bs' := [b_k cB cC cI cJ cZ oA rA σ_13, b_p cB cC cI cJ cZ oA rA σ_13, b_o cB cC cI cJ cZ oA rA σ_13, b_s cB cC cI cJ cZ oA rA σ_13, b_c cB cC cI cJ cZ oA rA σ_13, b_t cB cC cI cJ cZ oA rA σ_13, b_d cB cC cI cJ cZ oA rA σ_13]) (is := [0, 1, 2, 3, 4, 5, 6]) fl_7 fl_7 rfl) (bx_C (bs := [b_k cB cC cI cJ cZ oA rA σ_13, b_p cB cC cI cJ cZ oA rA σ_13, b_o cB cC cI cJ cZ oA rA σ_13, b_s cB cC cI cJ cZ oA rA σ_13, b_c cB cC cI cJ cZ oA rA σ_13, b_t cB cC cI cJ cZ oA rA σ_13, b_d cB cC cI cJ cZ oA rA σ_13]) (bs' := []) (is := []) fl_7 fl_0 rfl) (bx_n (by decide +kernel)) (bx_d (by decide +kernel)) (va_runV (As := [.int 1]) (rest := []) ⟨hx, hb, hml, hown, hts⟩ (k_X3_stop l dC dI cB cC cI cJ cZ cP oA rA H.size  1 σ_13 _ hu_19) (cwV 1 hts (g_gV wq_1154 wq_1155 wq_2088 wq_11 wq_1156) rfl rfl rfl (by decide +kernel) ⟨Nat.le_of_ble_eq_true rfl, Nat.le_of_ble_eq_true rfl⟩) (g_preV g_bl0 hK hPc hDc hS hE hFc g_to0 (q0 := 0) (ci := 3) rfl rfl) rfl rfl hl.1 rfl (lv_room (Nat.le_of_ble_eq_true rfl)) dX3_numberOp_28 ⟨Nat.le_of_ble_eq_true rfl, Nat.le_of_ble_eq_true rfl⟩) (fun u9 H locs hw9 hP' hD' hS => ?_)
      clear hPc hDc hFc
      have hP : va_P (dC, dI) vwCl (b_k cB cC cI cJ cZ oA rA u_19.2 ++ b_p cB cC cI cJ cZ oA rA u_19.2 ++ b_o cB cC cI cJ cZ oA rA u_19.2 ++ b_s cB cC cI cJ cZ oA rA u_19.2 ++ b_c cB cC cI cJ cZ oA rA u_19.2 ++ b_t cB cC cI cJ cZ oA rA u_19.2 ++ b_d cB cC cI cJ cZ oA rA u_19.2) H := hP'
      clear hP' hD'
      refine lv_goto (tgt := 44) hx hb dX3_numberOp_31 (by decide) ?_
      have h9 := Option.some.inj hF_20
      subst h9
      exact W.vret hx hb hr (fun t ht hW => ⟨⟨(), rfl, trivial, m_end ht hP, hDD _⟩, hS.F ht⟩) hS.2.2 dX3_numberOp_44
  refine lv_icmp_eq (tgt := 22) hx hb dX3_numberOp_13 (by decide) (fun c_22 => ?_) (fun c_22 => ?_)
  · have hF_23 := ipos c_22 hF_15
    clear hF_15
    exact Jj_14  u_3.2 hF_23 _ _ hP hS ls (lv_sub hl [2, 3, 1, 0] rfl)
  · have hF_24 := ineg c_22 hF_15
    clear hF_15
    refine lv_iload_n hx hb dX3_numberOp_16 rfl (lv_at hl 3 rfl) ?_
    refine lv_bipush (v := 14) hx hb dX3_numberOp_17 (by decide +kernel) ?_
    refine lv_icmp_ne (tgt := 34) hx hb dX3_numberOp_19 (by decide) (fun c_25 => ?_) (fun c_25 => ?_)
    · have hF_27 := ineg c_25 hF_24
      clear hF_24
      exact Jj_6  u_3.2 hF_27 _ _ hP hS ls (lv_sub hl [2, 3, 1, 0] rfl)
    · have hF_26 := ipos c_25 hF_24
      clear hF_24
      exact Jj_14  u_3.2 hF_26 _ _ hP hS ls (lv_sub hl [2, 3, 1, 0] rfl)
