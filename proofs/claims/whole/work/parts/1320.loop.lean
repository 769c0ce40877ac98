/-! the loop over the calls -/
theorem g_sw17 (x : Int32) : (x.toInt < 0 ∨ 16 < x.toInt) ∨ x = 0 ∨ x = 1 ∨ x = 2 ∨ x = 3 ∨ x = 4 ∨ x = 5 ∨ x = 6 ∨ x = 7 ∨ x = 8 ∨ x = 9 ∨ x = 10 ∨ x = 11 ∨ x = 12 ∨ x = 13 ∨ x = 14 ∨ x = 15 ∨ x = 16 := by
  by_cases h : x.toInt < 0 ∨ 16 < x.toInt
  · exact Or.inl h
  · right
    have h0 : ¬ x.toInt < 0 := fun q => h (Or.inl q)
    have h1 : ¬ 16 < x.toInt := fun q => h (Or.inr q)
    have e : x = Int32.ofInt x.toInt := (Int32.ofInt_toInt x).symm
    generalize x.toInt = k at *
    obtain ⟨n, rfl⟩ := Int.eq_ofNat_of_zero_le (Int.not_lt.mp h0)
    have hn : n < 17 := by omega
    subst e
    match n, hn with
    | 0, _ => (first | decide +kernel | simp)
    | 1, _ => (first | decide +kernel | simp)
    | 2, _ => (first | decide +kernel | simp)
    | 3, _ => (first | decide +kernel | simp)
    | 4, _ => (first | decide +kernel | simp)
    | 5, _ => (first | decide +kernel | simp)
    | 6, _ => (first | decide +kernel | simp)
    | 7, _ => (first | decide +kernel | simp)
    | 8, _ => (first | decide +kernel | simp)
    | 9, _ => (first | decide +kernel | simp)
    | 10, _ => (first | decide +kernel | simp)
    | 11, _ => (first | decide +kernel | simp)
    | 12, _ => (first | decide +kernel | simp)
    | 13, _ => (first | decide +kernel | simp)
    | 14, _ => (first | decide +kernel | simp)
    | 15, _ => (first | decide +kernel | simp)
    | 16, _ => (first | decide +kernel | simp)
    | n + 17, h => exact absurd h (by omega)
theorem ofNat_J (L : Nat) : Int32.ofNat L = J ((L : Nat) : Int) := by
  first
    | rfl
    | (unfold J; simp)
theorem lw_gt {k L : Nat} (hL : L ≤ 2048) (hk : k ≤ 513) : Int32.ofNat L - 4 < J ((4 * k : Nat) : Int) ↔ L < 4 * k + 4 := by
  rw [ofNat_J, show (4 : Int32) = J 4 from rfl, J_sub, J_lt (by omega) (by omega) (by omega) (by omega)]
  omega
set_option maxHeartbeats 40000000 in
set_option maxRecDepth 100000 in
theorem law_disp {p : Program} {l : Launch} {e : Env} {s : State} {m : MethodId} {below : List Frame} {meth : Method} {c : Code} {b L : Nat} {xs : Nat → Int32} {dC : Nat → ClassId} {dI : Nat → Nat → Nat} {cB cC cI cJ cZ cP : ClassId} {A : Nat → Prop} {oo h qK qS : Nat} {ad : Nat → Nat} (hfl : l.stackTraces = false) (hx : p.tables.exec = Jvm.exec) (hb : c.code = cL_law) (hr : meth.sig.returnType = ret) (hml : c.maxLocals = 7) (hown : s.vm.findClass RL = some m.cls) (hts : ∀ w ∈ lw_good, w.before #[Value.ref b] s = true) (hlocks : meth.locks = false) (hX : va_X b L xs s s.heap) (hbl : b < s.heap.size) (hbA : ¬ A b) (hA : ∀ q : Nat, s.heap.size ≤ q → A q) (hK : va_K (dC, dI) vwCl [(cB, .byte), (cC, .char), (cI, .int), (cJ, .long), (cZ, .boolean), (cP, .object "StoryHouse$Play")] s) (hE : g_E A s s.heap) (hmc : ∀ (σ : MS) (sz q : Nat), mCells h ad sz q → va_A (mW cB cI cZ h qK qS ad σ) sz q) (hDM : mDis cB cI cZ h qK qS ad) (hKS : (∃ v : Nat, g_S qK v bytK A s s.heap) ∧ ∃ v : Nat, g_S qS v bytS A s s.heap) {k cells slots : Nat} (hk : 4 * k + 4 ≤ L) (hL : L ≤ 2048) (hc2 : cells + 2 ≤ 601024) (hs2 : slots + 12 ≤ 7293034) {oA : Nat → Nat} {rA : Nat → Nat → Nat} {T : TS} {og om : Option Nat} {σ : MS} {ol : Nat → Int64} {L' : Nat} (hL8 : L' ≤ 8 * k) (hT : TOP L' σ T) {H : Heap} {locs : List Loc} (hP : va_P (dC, dI) vwCl ([(oo, .inl (cJ, 1, .inr (.inl ol)))] ++ b_H cB cC cI cJ cZ cP oA rA T og om ++ mW cB cI cZ h qK qS ad σ) H) (hDD : (∀ (T : TS) (og om : Option Nat) (σ : MS) (ol : Nat → Int64), va_D A ([(oo, .inl (cJ, 1, .inr (.inl ol)))] ++ b_H cB cC cI cJ cZ cP oA rA T og om ++ mW cB cI cZ h qK qS ad σ))) (hS : va_S A s.heap H locs) {ls : Array Slot} (hl : lv_has ls 7 [(4, .int (J ((4 * k : Nat) : Int))), (0, .ref b), (1, .ref (oA 0)), (2, .ref h), (3, .ref oo)]) (KK : ∀ (oA' : Nat → Nat) (rA' : Nat → Nat → Nat) (T' : TS) (og' om' : Option Nat) (σ' : MS) (ol' : Nat → Int64) (L2 : Nat) (H' : Heap) (locs' : List Loc) (ls' : Array Slot), oA' 0 = oA 0 → L2 ≤ 8 * (k + 1) → TOP L2 σ' T' → va_P (dC, dI) vwCl ([(oo, .inl (cJ, 1, .inr (.inl ol')))] ++ b_H cB cC cI cJ cZ cP oA' rA' T' og' om' ++ mW cB cI cZ h qK qS ad σ') H' → (∀ (T : TS) (og om : Option Nat) (σ : MS) (ol : Nat → Int64), va_D A ([(oo, .inl (cJ, 1, .inr (.inl ol)))] ++ b_H cB cC cI cJ cZ cP oA' rA' T og om ++ mW cB cI cZ h qK qS ad σ)) → va_S A s.heap H' locs' → lv_has ls' 7 [(4, .int (J ((4 * k : Nat) : Int))), (0, .ref b), (1, .ref (oA 0)), (2, .ref h), (3, .ref oo)] → W p l e room_1 s m #[Value.ref b] below meth c H' locs' (cells + 2) (slots + 12) (lw_Z below #[Value.ref b] s) (F0 m 926 ls' [])) : W p l e room_1 s m #[Value.ref b] below meth c H locs cells slots (lw_Z below #[Value.ref b] s) (F0 m 32 ls []) := by
  refine lv_aload_n hx hb dL_law_32 rfl (lv_at hl 1 rfl) ?_
  refine lv_iload hx hb dL_law_33 (lv_at hl 0 rfl) ?_
  refine va_sld hx hb hX hbl hbA hS (i := J ((4 * k : Nat) : Int)) (gNn (by omega) (by omega)) dL_law_35 ?_
  refine lv_bipush (v := 31) hx hb dL_law_36 (by decide +kernel) ?_
  refine lv_iand hx hb dL_law_38 ?_
  refine lv_topi (fun x hx0 => ?_)
  clear hx0
  rcases g_sw17 x with h9 | rfl | rfl | rfl | rfl | rfl | rfl | rfl | rfl | rfl | rfl | rfl | rfl | rfl | rfl | rfl | rfl | rfl
  · refine lv_tableOut (tgt := 926) hx hb dL_law_39 h9 (by decide) ?_
    refine W.widen (k := cells + 2) (n := slots + 12) (Nat.le_add_right _ _) (Nat.le_add_right _ _) ?_
    exact KK oA rA T og om σ ol L' _ _ _ rfl (by omega) hT hP hDD hS hl
  · refine lv_tableIn (off := 81) (tgt := 120) hx hb dL_law_39 (by decide +kernel) (by decide +kernel) (by decide +kernel) (by decide) ?_
    exact law_case_0 hfl hx hb hr hml hown hts hlocks hX hbl hbA hA hK hE hmc hDM hKS hk hL hc2 hs2 hL8 hT hP hDD hS hl KK
  · refine lv_tableIn (off := 181) (tgt := 220) hx hb dL_law_39 (by decide +kernel) (by decide +kernel) (by decide +kernel) (by decide) ?_
    exact law_case_1 hfl hx hb hr hml hown hts hlocks hX hbl hbA hA hK hE hmc hDM hKS hk hL hc2 hs2 hL8 hT hP hDD hS hl KK
  · refine lv_tableIn (off := 194) (tgt := 233) hx hb dL_law_39 (by decide +kernel) (by decide +kernel) (by decide +kernel) (by decide) ?_
    exact law_case_2 hfl hx hb hr hml hown hts hlocks hX hbl hbA hA hK hE hmc hDM hKS hk hL hc2 hs2 hL8 hT hP hDD hS hl KK
  · refine lv_tableIn (off := 207) (tgt := 246) hx hb dL_law_39 (by decide +kernel) (by decide +kernel) (by decide +kernel) (by decide) ?_
    exact law_case_3 hfl hx hb hr hml hown hts hlocks hX hbl hbA hA hK hE hmc hDM hKS hk hL hc2 hs2 hL8 hT hP hDD hS hl KK
  · refine lv_tableIn (off := 243) (tgt := 282) hx hb dL_law_39 (by decide +kernel) (by decide +kernel) (by decide +kernel) (by decide) ?_
    exact law_case_4 hfl hx hb hr hml hown hts hlocks hX hbl hbA hA hK hE hmc hDM hKS hk hL hc2 hs2 hL8 hT hP hDD hS hl KK
  · refine lv_tableIn (off := 287) (tgt := 326) hx hb dL_law_39 (by decide +kernel) (by decide +kernel) (by decide +kernel) (by decide) ?_
    exact law_case_5 hfl hx hb hr hml hown hts hlocks hX hbl hbA hA hK hE hmc hDM hKS hk hL hc2 hs2 hL8 hT hP hDD hS hl KK
  · refine lv_tableIn (off := 300) (tgt := 339) hx hb dL_law_39 (by decide +kernel) (by decide +kernel) (by decide +kernel) (by decide) ?_
    exact law_case_6 hfl hx hb hr hml hown hts hlocks hX hbl hbA hA hK hE hmc hDM hKS hk hL hc2 hs2 hL8 hT hP hDD hS hl KK
  · refine lv_tableIn (off := 356) (tgt := 395) hx hb dL_law_39 (by decide +kernel) (by decide +kernel) (by decide +kernel) (by decide) ?_
    exact law_case_7 hfl hx hb hr hml hown hts hlocks hX hbl hbA hA hK hE hmc hDM hKS hk hL hc2 hs2 hL8 hT hP hDD hS hl KK
  · refine lv_tableIn (off := 392) (tgt := 431) hx hb dL_law_39 (by decide +kernel) (by decide +kernel) (by decide +kernel) (by decide) ?_
    exact law_case_8 hfl hx hb hr hml hown hts hlocks hX hbl hbA hA hK hE hmc hDM hKS hk hL hc2 hs2 hL8 hT hP hDD hS hl KK
  · refine lv_tableIn (off := 428) (tgt := 467) hx hb dL_law_39 (by decide +kernel) (by decide +kernel) (by decide +kernel) (by decide) ?_
    exact law_case_9 hfl hx hb hr hml hown hts hlocks hX hbl hbA hA hK hE hmc hDM hKS hk hL hc2 hs2 hL8 hT hP hDD hS hl KK
  · refine lv_tableIn (off := 479) (tgt := 518) hx hb dL_law_39 (by decide +kernel) (by decide +kernel) (by decide +kernel) (by decide) ?_
    exact law_case_10 hfl hx hb hr hml hown hts hlocks hX hbl hbA hA hK hE hmc hDM hKS hk hL hc2 hs2 hL8 hT hP hDD hS hl KK
  · refine lv_tableIn (off := 535) (tgt := 574) hx hb dL_law_39 (by decide +kernel) (by decide +kernel) (by decide +kernel) (by decide) ?_
    exact law_case_11 hfl hx hb hr hml hown hts hlocks hX hbl hbA hA hK hE hmc hDM hKS hk hL hc2 hs2 hL8 hT hP hDD hS hl KK
  · refine lv_tableIn (off := 619) (tgt := 658) hx hb dL_law_39 (by decide +kernel) (by decide +kernel) (by decide +kernel) (by decide) ?_
    exact law_case_12 hfl hx hb hr hml hown hts hlocks hX hbl hbA hA hK hE hmc hDM hKS hk hL hc2 hs2 hL8 hT hP hDD hS hl KK
  · refine lv_tableIn (off := 694) (tgt := 733) hx hb dL_law_39 (by decide +kernel) (by decide +kernel) (by decide +kernel) (by decide) ?_
    exact law_case_13 hfl hx hb hr hml hown hts hlocks hX hbl hbA hA hK hE hmc hDM hKS hk hL hc2 hs2 hL8 hT hP hDD hS hl KK
  · refine lv_tableIn (off := 750) (tgt := 789) hx hb dL_law_39 (by decide +kernel) (by decide +kernel) (by decide +kernel) (by decide) ?_
    exact law_case_14 hfl hx hb hr hml hown hts hlocks hX hbl hbA hA hK hE hmc hDM hKS hk hL hc2 hs2 hL8 hT hP hDD hS hl KK
  · refine lv_tableIn (off := 818) (tgt := 857) hx hb dL_law_39 (by decide +kernel) (by decide +kernel) (by decide +kernel) (by decide) ?_
    exact law_case_15 hfl hx hb hr hml hown hts hlocks hX hbl hbA hA hK hE hmc hDM hKS hk hL hc2 hs2 hL8 hT hP hDD hS hl KK
  · refine lv_tableIn (off := 874) (tgt := 913) hx hb dL_law_39 (by decide +kernel) (by decide +kernel) (by decide +kernel) (by decide) ?_
    exact law_case_16 hfl hx hb hr hml hown hts hlocks hX hbl hbA hA hK hE hmc hDM hKS hk hL hc2 hs2 hL8 hT hP hDD hS hl KK
set_option maxHeartbeats 40000000 in
set_option maxRecDepth 100000 in
theorem law_loop {p : Program} {l : Launch} {e : Env} {s : State} {m : MethodId} {below : List Frame} {meth : Method} {c : Code} {b L : Nat} {xs : Nat → Int32} {dC : Nat → ClassId} {dI : Nat → Nat → Nat} {cB cC cI cJ cZ cP : ClassId} {A : Nat → Prop} {oo h qK qS : Nat} {ad : Nat → Nat} (hfl : l.stackTraces = false) (hx : p.tables.exec = Jvm.exec) (hb : c.code = cL_law) (hr : meth.sig.returnType = ret) (hml : c.maxLocals = 7) (hown : s.vm.findClass RL = some m.cls) (hts : ∀ w ∈ lw_good, w.before #[Value.ref b] s = true) (hlocks : meth.locks = false) (hX : va_X b L xs s s.heap) (hbl : b < s.heap.size) (hbA : ¬ A b) (hA : ∀ q : Nat, s.heap.size ≤ q → A q) (hK : va_K (dC, dI) vwCl [(cB, .byte), (cC, .char), (cI, .int), (cJ, .long), (cZ, .boolean), (cP, .object "StoryHouse$Play")] s) (hE : g_E A s s.heap) (hmc : ∀ (σ : MS) (sz q : Nat), mCells h ad sz q → va_A (mW cB cI cZ h qK qS ad σ) sz q) (hDM : mDis cB cI cZ h qK qS ad) (hKS : (∃ v : Nat, g_S qK v bytK A s s.heap) ∧ ∃ v : Nat, g_S qS v bytS A s s.heap) (hAd : ∀ q : Nat, A q → s.heap.size ≤ q) (hL : L ≤ 2048) : ∀ (d k : Nat), k + d = 513 → ∀ {cells slots : Nat} {oA : Nat → Nat} {rA : Nat → Nat → Nat} {T : TS} {og om : Option Nat} {σ : MS} {ol : Nat → Int64} {L' : Nat} {H : Heap} {locs : List Loc} {ls : Array Slot}, cells + 2 * d ≤ 601024 → slots + 12 * d ≤ 7293034 → L' ≤ 8 * k → TOP L' σ T → va_P (dC, dI) vwCl ([(oo, .inl (cJ, 1, .inr (.inl ol)))] ++ b_H cB cC cI cJ cZ cP oA rA T og om ++ mW cB cI cZ h qK qS ad σ) H → (∀ (T : TS) (og om : Option Nat) (σ : MS) (ol : Nat → Int64), va_D A ([(oo, .inl (cJ, 1, .inr (.inl ol)))] ++ b_H cB cC cI cJ cZ cP oA rA T og om ++ mW cB cI cZ h qK qS ad σ)) → va_S A s.heap H locs → lv_has ls 7 [(4, .int (J ((4 * k : Nat) : Int))), (0, .ref b), (1, .ref (oA 0)), (2, .ref h), (3, .ref oo)] → W p l e room_1 s m #[Value.ref b] below meth c H locs cells slots (lw_Z below #[Value.ref b] s) (F0 m 23 ls []) := by
  intro d
  induction d with
  | zero =>
    intro k hkd cells slots oA rA T og om σ ol L' H locs ls hc hs hL8 hT hP hDD hS hl
    refine lv_iload hx hb dL_law_23 (lv_at hl 0 rfl) ?_
    refine lv_aload_n hx hb dL_law_25 rfl (lv_at hl 1 rfl) ?_
    refine va_slen hx hb hX hbl hbA hS dL_law_26 ?_
    refine lv_iconst (v := 4) hx hb dL_law_27 (by decide +kernel) ?_
    refine lv_isub hx hb dL_law_28 ?_
    refine lv_icmp_gt (tgt := 932) hx hb dL_law_29 (by decide) (fun c_1 => ?_) (fun c_1 => ?_)
    · refine lv_iconst (v := 1) hx hb dL_law_932 (by decide +kernel) ?_
      refine va_forget (fun q hq => hAd _ (hS.2.2 q hq)) ?_
      refine W.widen (k := 601024) (n := 7293034) (by omega) (by omega) ?_
      exact lw_ret hx hb hr hlocks dL_law_933
    · exact absurd ((lw_gt hL (by omega)).mpr (by omega)) c_1
  | succ d ih =>
    intro k hkd cells slots oA rA T og om σ ol L' H locs ls hc hs hL8 hT hP hDD hS hl
    refine lv_iload hx hb dL_law_23 (lv_at hl 0 rfl) ?_
    refine lv_aload_n hx hb dL_law_25 rfl (lv_at hl 1 rfl) ?_
    refine va_slen hx hb hX hbl hbA hS dL_law_26 ?_
    refine lv_iconst (v := 4) hx hb dL_law_27 (by decide +kernel) ?_
    refine lv_isub hx hb dL_law_28 ?_
    refine lv_icmp_gt (tgt := 932) hx hb dL_law_29 (by decide) (fun c_1 => ?_) (fun c_1 => ?_)
    · refine lv_iconst (v := 1) hx hb dL_law_932 (by decide +kernel) ?_
      refine va_forget (fun q hq => hAd _ (hS.2.2 q hq)) ?_
      refine W.widen (k := 601024) (n := 7293034) (by omega) (by omega) ?_
      exact lw_ret hx hb hr hlocks dL_law_933
    · have hk4 : 4 * k + 4 ≤ L := Nat.not_lt.mp (fun z => c_1 ((lw_gt hL (by omega)).mpr z))
      refine law_disp hfl hx hb hr hml hown hts hlocks hX hbl hbA hA hK hE hmc hDM hKS hk4 hL (by omega) (by omega) hL8 hT hP hDD hS hl ?_
      intro oA' rA' T' og' om' σ' ol' L2 H' locs' ls' eA hL2 hT2 hP2 hDD2 hS2 hl2
      refine lv_iinc (v := J ((4 * (k + 1) : Nat) : Int)) (lv' := [(4, .int (J ((4 * (k + 1) : Nat) : Int))), (0, .ref b), (1, .ref (oA 0)), (2, .ref h), (3, .ref oo)]) hx hb dL_law_926 hl2 (k := 0) rfl (by exact lw_k4 k) (by decide) rfl (fun ls hl => ?_)
      refine lv_goto (tgt := 23) hx hb dL_law_929 (by decide) ?_
      refine ih (k + 1) (by omega) (by omega) (by omega) hL2 hT2 hP2 hDD2 hS2 ?_
      rw [eA]; exact hl
