/-! Strings of Latin letters: indexOf -/
/-- the first place of a byte, from one on; -1 if there is none -/
def tx_ixF (byt : List Int32) (c : Int32) : Nat → Nat → Int32
  | 0, _ => -1
  | n + 1, k => if byt.getD k 0 = c then nI k else tx_ixF byt c n (k + 1)
def tx_ixOf (byt : List Int32) (c : Int32) : Int32 := if c < 0 then -1 else if c > 255 then -1 else tx_ixF byt c.toInt8.toInt32 byt.length 0
theorem tx_lt {x fi : Int32} {k n : Nat} (ex : x = nI k) (hk : k ≤ n) (hn : n < 65536) (hf : fi = Int32.ofNat n) (h : ¬ x ≥ fi) : k < n := by
  have h := Int32.not_le.mp h
  rw [Int32.lt_iff_toInt_lt, ex, hf, nI_toInt (by omega), show (Int32.ofNat n).toInt = n from nI_toInt (by omega)] at h
  omega
theorem tx_ge {x fi : Int32} {k n : Nat} (ex : x = nI k) (hk : k ≤ n) (hn : n < 65536) (hf : fi = Int32.ofNat n) (h : x ≥ fi) : k = n := by
  have h : fi ≤ x := h
  rw [Int32.le_iff_toInt_le, ex, hf, nI_toInt (by omega), show (Int32.ofNat n).toInt = n from nI_toInt (by omega)] at h
  omega
theorem tx_ixS {byt : List Int32} {c : Int32} {k : Nat} (hk : k < byt.length) (h : ¬ byt.getD k 0 = c) : tx_ixF byt c (byt.length - k) k = tx_ixF byt c (byt.length - (k + 1)) (k + 1) := by
  rw [show byt.length - k = (byt.length - (k + 1)) + 1 by omega]
  show (if byt.getD k 0 = c then _ else _) = _
  rw [if_neg h]
theorem tx_ixH {byt : List Int32} {c : Int32} {k : Nat} (hk : k < byt.length) (h : byt.getD k 0 = c) : tx_ixF byt c (byt.length - k) k = nI k := by
  rw [show byt.length - k = (byt.length - (k + 1)) + 1 by omega]
  show (if byt.getD k 0 = c then _ else _) = _
  rw [if_pos h]
theorem tx_ixE {byt : List Int32} {c : Int32} {k : Nat} (hk : k = byt.length) : tx_ixF byt c (byt.length - k) k = -1 := by rw [hk, Nat.sub_self]; rfl
theorem tx_in {x : Int32} {k n : Nat} (ex : x = nI k) (hk : k < n) (hn : n < 65536) : vp_in x n := by rw [ex]; exact vp_in_nI hk (by omega)
theorem tx_gd {byt : List Int32} {x : Int32} {k : Nat} (ex : x = nI k) (hk : k < byt.length) (hn : byt.length < 65536) : byt.getD x.toNatClampNeg 0 = byt.getD k 0 := by rw [ex, nI_clamp (by omega)]
theorem tx_min {n : Nat} (hn : n < 65536) {x fi : Int32} (hf : fi = Int32.ofNat n) (ex : x = if Int32.ofNat n < fi then Int32.ofNat n else fi) : x = Int32.ofNat n := by rw [ex, hf]; split <;> rfl
theorem tx_nil {byt : List Int32} {x c : Int32} (hn : byt.length < 65536) (ex : x = Int32.ofNat byt.length) (h : ¬ (0 : Int32) < x) : tx_ixF byt c byt.length 0 = -1 := by
  have h0 : byt.length = 0 := by
    rw [ex, Int32.lt_iff_toInt_lt, show (Int32.ofNat byt.length).toInt = byt.length from nI_toInt (by omega)] at h
    have e0 : (0 : Int32).toInt = 0 := by decide +kernel
    rw [e0] at h
    omega
  rw [h0]; rfl
theorem tx_no1 {byt : List Int32} {ch r : Int32} (hr : r = if ch < 0 then 0 else if ch > 255 then 0 else 1) (h : r = 0) : (-1 : Int32) = tx_ixOf byt ch := by
  unfold tx_ixOf
  by_cases h1 : ch < 0
  · rw [if_pos h1]
  · by_cases h2 : ch > 255
    · rw [if_neg h1, if_pos h2]
    · rw [if_neg h1, if_neg h2] at hr; rw [hr] at h; exact absurd h (by decide)
theorem tx_no2 {byt : List Int32} {ch r x : Int32} (hr : r = if ch < 0 then 0 else if ch > 255 then 0 else 1) (h : r ≠ 0) (e : x = tx_ixF byt ch.toInt8.toInt32 byt.length 0) : x = tx_ixOf byt ch := by
  unfold tx_ixOf
  by_cases h1 : ch < 0
  · rw [if_pos h1] at hr; exact absurd hr h
  · by_cases h2 : ch > 255
    · rw [if_neg h1, if_pos h2] at hr; exact absurd hr h
    · rw [if_neg h1, if_neg h2]; exact e
theorem dJ1_canEncode_9a6ad_0 : decode cJ1_canEncode_9a6ad 0 = .ok (.iload_n 0, 1) := by decide +kernel
theorem dJ1_canEncode_9a6ad_1 : decode cJ1_canEncode_9a6ad 1 = .ok (.ifCond .lt 14, 3) := by decide +kernel
theorem dJ1_canEncode_9a6ad_4 : decode cJ1_canEncode_9a6ad 4 = .ok (.iload_n 0, 1) := by decide +kernel
theorem dJ1_canEncode_9a6ad_5 : decode cJ1_canEncode_9a6ad 5 = .ok (.sipush 255, 3) := by decide +kernel
theorem dJ1_canEncode_9a6ad_8 : decode cJ1_canEncode_9a6ad 8 = .ok (.if_icmp .gt 7, 3) := by decide +kernel
theorem dJ1_canEncode_9a6ad_11 : decode cJ1_canEncode_9a6ad 11 = .ok (.iconst 1, 1) := by decide +kernel
theorem dJ1_canEncode_9a6ad_12 : decode cJ1_canEncode_9a6ad 12 = .ok (.goto 4, 3) := by decide +kernel
theorem dJ1_canEncode_9a6ad_15 : decode cJ1_canEncode_9a6ad 15 = .ok (.iconst 0, 1) := by decide +kernel
theorem dJ1_canEncode_9a6ad_16 : decode cJ1_canEncode_9a6ad 16 = .ok (.ireturn, 1) := by decide +kernel
theorem dJ1_indexOfChar_4cfef_0 : decode cJ1_indexOfChar_4cfef 0 = .ok (.iload_n 1, 1) := by decide +kernel
theorem dJ1_indexOfChar_4cfef_1 : decode cJ1_indexOfChar_4cfef 1 = .ok (.i2b, 1) := by decide +kernel
theorem dJ1_indexOfChar_4cfef_2 : decode cJ1_indexOfChar_4cfef 2 = .ok (.istore 4, 2) := by decide +kernel
theorem dJ1_indexOfChar_4cfef_4 : decode cJ1_indexOfChar_4cfef 4 = .ok (.iload_n 2, 1) := by decide +kernel
theorem dJ1_indexOfChar_4cfef_5 : decode cJ1_indexOfChar_4cfef 5 = .ok (.istore 5, 2) := by decide +kernel
theorem dJ1_indexOfChar_4cfef_7 : decode cJ1_indexOfChar_4cfef 7 = .ok (.iload 5, 2) := by decide +kernel
theorem dJ1_indexOfChar_4cfef_9 : decode cJ1_indexOfChar_4cfef 9 = .ok (.iload_n 3, 1) := by decide +kernel
theorem dJ1_indexOfChar_4cfef_10 : decode cJ1_indexOfChar_4cfef 10 = .ok (.if_icmp .ge 21, 3) := by decide +kernel
theorem dJ1_indexOfChar_4cfef_13 : decode cJ1_indexOfChar_4cfef 13 = .ok (.aload_n 0, 1) := by decide +kernel
theorem dJ1_indexOfChar_4cfef_14 : decode cJ1_indexOfChar_4cfef 14 = .ok (.iload 5, 2) := by decide +kernel
theorem dJ1_indexOfChar_4cfef_16 : decode cJ1_indexOfChar_4cfef 16 = .ok (.baload, 1) := by decide +kernel
theorem dJ1_indexOfChar_4cfef_17 : decode cJ1_indexOfChar_4cfef 17 = .ok (.iload 4, 2) := by decide +kernel
theorem dJ1_indexOfChar_4cfef_19 : decode cJ1_indexOfChar_4cfef 19 = .ok (.if_icmp .ne 6, 3) := by decide +kernel
theorem dJ1_indexOfChar_4cfef_22 : decode cJ1_indexOfChar_4cfef 22 = .ok (.iload 5, 2) := by decide +kernel
theorem dJ1_indexOfChar_4cfef_24 : decode cJ1_indexOfChar_4cfef 24 = .ok (.ireturn, 1) := by decide +kernel
theorem dJ1_indexOfChar_4cfef_25 : decode cJ1_indexOfChar_4cfef 25 = .ok (.iinc 5 1, 3) := by decide +kernel
theorem dJ1_indexOfChar_4cfef_28 : decode cJ1_indexOfChar_4cfef 28 = .ok (.goto (-21), 3) := by decide +kernel
theorem dJ1_indexOfChar_4cfef_31 : decode cJ1_indexOfChar_4cfef 31 = .ok (.iconst (-1), 1) := by decide +kernel
theorem dJ1_indexOfChar_4cfef_32 : decode cJ1_indexOfChar_4cfef 32 = .ok (.ireturn, 1) := by decide +kernel
theorem dJ1_indexOf_4cfef_0 : decode cJ1_indexOf_4cfef 0 = .ok (.iload_n 1, 1) := by decide +kernel
theorem dJ1_indexOf_4cfef_1 : decode cJ1_indexOf_4cfef 1 = .ok (.invokestatic 88, 3) := by decide +kernel
theorem dJ1_indexOf_4cfef_4 : decode cJ1_indexOf_4cfef 4 = .ok (.ifCond .ne 5, 3) := by decide +kernel
theorem dJ1_indexOf_4cfef_7 : decode cJ1_indexOf_4cfef 7 = .ok (.iconst (-1), 1) := by decide +kernel
theorem dJ1_indexOf_4cfef_8 : decode cJ1_indexOf_4cfef 8 = .ok (.ireturn, 1) := by decide +kernel
theorem dJ1_indexOf_4cfef_9 : decode cJ1_indexOf_4cfef 9 = .ok (.iload_n 2, 1) := by decide +kernel
theorem dJ1_indexOf_4cfef_10 : decode cJ1_indexOf_4cfef 10 = .ok (.iconst 0, 1) := by decide +kernel
theorem dJ1_indexOf_4cfef_11 : decode cJ1_indexOf_4cfef 11 = .ok (.invokestatic 92, 3) := by decide +kernel
theorem dJ1_indexOf_4cfef_14 : decode cJ1_indexOf_4cfef 14 = .ok (.istore_n 2, 1) := by decide +kernel
theorem dJ1_indexOf_4cfef_15 : decode cJ1_indexOf_4cfef 15 = .ok (.iload_n 3, 1) := by decide +kernel
theorem dJ1_indexOf_4cfef_16 : decode cJ1_indexOf_4cfef 16 = .ok (.aload_n 0, 1) := by decide +kernel
theorem dJ1_indexOf_4cfef_17 : decode cJ1_indexOf_4cfef 17 = .ok (.arraylength, 1) := by decide +kernel
theorem dJ1_indexOf_4cfef_18 : decode cJ1_indexOf_4cfef 18 = .ok (.invokestatic 38, 3) := by decide +kernel
theorem dJ1_indexOf_4cfef_21 : decode cJ1_indexOf_4cfef 21 = .ok (.istore_n 3, 1) := by decide +kernel
theorem dJ1_indexOf_4cfef_22 : decode cJ1_indexOf_4cfef 22 = .ok (.iload_n 2, 1) := by decide +kernel
theorem dJ1_indexOf_4cfef_23 : decode cJ1_indexOf_4cfef 23 = .ok (.iload_n 3, 1) := by decide +kernel
theorem dJ1_indexOf_4cfef_24 : decode cJ1_indexOf_4cfef 24 = .ok (.if_icmp .lt 5, 3) := by decide +kernel
theorem dJ1_indexOf_4cfef_27 : decode cJ1_indexOf_4cfef 27 = .ok (.iconst (-1), 1) := by decide +kernel
theorem dJ1_indexOf_4cfef_28 : decode cJ1_indexOf_4cfef 28 = .ok (.ireturn, 1) := by decide +kernel
theorem dJ1_indexOf_4cfef_29 : decode cJ1_indexOf_4cfef 29 = .ok (.aload_n 0, 1) := by decide +kernel
theorem dJ1_indexOf_4cfef_30 : decode cJ1_indexOf_4cfef 30 = .ok (.iload_n 1, 1) := by decide +kernel
theorem dJ1_indexOf_4cfef_31 : decode cJ1_indexOf_4cfef 31 = .ok (.iload_n 2, 1) := by decide +kernel
theorem dJ1_indexOf_4cfef_32 : decode cJ1_indexOf_4cfef 32 = .ok (.iload_n 3, 1) := by decide +kernel
theorem dJ1_indexOf_4cfef_33 : decode cJ1_indexOf_4cfef 33 = .ok (.invokestatic 95, 3) := by decide +kernel
theorem dJ1_indexOf_4cfef_36 : decode cJ1_indexOf_4cfef 36 = .ok (.ireturn, 1) := by decide +kernel
theorem dJ0_indexOf_7cf53_0 : decode cJ0_indexOf_7cf53 0 = .ok (.aload_n 0, 1) := by decide +kernel
theorem dJ0_indexOf_7cf53_1 : decode cJ0_indexOf_7cf53 1 = .ok (.invokevirtual 492, 3) := by decide +kernel
theorem dJ0_indexOf_7cf53_4 : decode cJ0_indexOf_7cf53 4 = .ok (.ifCond .eq 19, 3) := by decide +kernel
theorem dJ0_indexOf_7cf53_7 : decode cJ0_indexOf_7cf53 7 = .ok (.aload_n 0, 1) := by decide +kernel
theorem dJ0_indexOf_7cf53_8 : decode cJ0_indexOf_7cf53 8 = .ok (.getfield 9, 3) := by decide +kernel
theorem dJ0_indexOf_7cf53_11 : decode cJ0_indexOf_7cf53 11 = .ok (.iload_n 1, 1) := by decide +kernel
theorem dJ0_indexOf_7cf53_12 : decode cJ0_indexOf_7cf53 12 = .ok (.iload_n 2, 1) := by decide +kernel
theorem dJ0_indexOf_7cf53_13 : decode cJ0_indexOf_7cf53 13 = .ok (.aload_n 0, 1) := by decide +kernel
theorem dJ0_indexOf_7cf53_14 : decode cJ0_indexOf_7cf53 14 = .ok (.invokevirtual 505, 3) := by decide +kernel
theorem dJ0_indexOf_7cf53_17 : decode cJ0_indexOf_7cf53 17 = .ok (.invokestatic 637, 3) := by decide +kernel
theorem dJ0_indexOf_7cf53_20 : decode cJ0_indexOf_7cf53 20 = .ok (.goto 16, 3) := by decide +kernel
theorem dJ0_indexOf_7cf53_23 : decode cJ0_indexOf_7cf53 23 = .ok (.aload_n 0, 1) := by decide +kernel
theorem dJ0_indexOf_7cf53_24 : decode cJ0_indexOf_7cf53 24 = .ok (.getfield 9, 3) := by decide +kernel
theorem dJ0_indexOf_7cf53_27 : decode cJ0_indexOf_7cf53 27 = .ok (.iload_n 1, 1) := by decide +kernel
theorem dJ0_indexOf_7cf53_28 : decode cJ0_indexOf_7cf53 28 = .ok (.iload_n 2, 1) := by decide +kernel
theorem dJ0_indexOf_7cf53_29 : decode cJ0_indexOf_7cf53 29 = .ok (.aload_n 0, 1) := by decide +kernel
theorem dJ0_indexOf_7cf53_30 : decode cJ0_indexOf_7cf53 30 = .ok (.invokevirtual 505, 3) := by decide +kernel
theorem dJ0_indexOf_7cf53_33 : decode cJ0_indexOf_7cf53 33 = .ok (.invokestatic 640, 3) := by decide +kernel
theorem dJ0_indexOf_7cf53_36 : decode cJ0_indexOf_7cf53 36 = .ok (.ireturn, 1) := by decide +kernel
theorem dJ0_indexOf_0f7a4_0 : decode cJ0_indexOf_0f7a4 0 = .ok (.aload_n 0, 1) := by decide +kernel
theorem dJ0_indexOf_0f7a4_1 : decode cJ0_indexOf_0f7a4 1 = .ok (.iload_n 1, 1) := by decide +kernel
theorem dJ0_indexOf_0f7a4_2 : decode cJ0_indexOf_0f7a4 2 = .ok (.iconst 0, 1) := by decide +kernel
theorem dJ0_indexOf_0f7a4_3 : decode cJ0_indexOf_0f7a4 3 = .ok (.invokevirtual 633, 3) := by decide +kernel
theorem dJ0_indexOf_0f7a4_6 : decode cJ0_indexOf_0f7a4 6 = .ok (.ireturn, 1) := by decide +kernel
abbrev ww_J1_canEncode_9a6ad (cB cC cI cJ cZ cP : ClassId) (ch : Int32) : va_W := []
abbrev q_J1_canEncode_9a6ad (dC : Nat → ClassId) (dI : Nat → Nat → Nat) (cB cC cI cJ cZ cP : ClassId) (ch : Int32) (A : Nat → Prop) : Array Value → State → Outcome → State → Prop := va_Qi (fun (r : Int32) (_ : Unit) => r = if ch < 0 then 0 else if ch > 255 then 0 else 1) (g_Bo (dC, dI) A (fun (_ : Unit) => [])) A
set_option maxHeartbeats 4000000 in
set_option maxRecDepth 100000 in
theorem c_J1_canEncode_9a6ad (l : Launch) (dC : Nat → ClassId) (dI : Nat → Nat → Nat) (cB cC cI cJ cZ cP : ClassId) (sz : Nat) (ch : Int32)  : Met l yJ1_canEncode_9a6ad (g_ws yJ1_canEncode_9a6ad cJ1_canEncode_9a6ad 1 (some .boolean)) ({ frames := 1, cells := 0, slots := 0, locals := 40 }) (va_Pc [.int ch] (g_B (dC, dI) [(cB, .byte), (cC, .char), (cI, .int), (cJ, .long), (cZ, .boolean), (cP, .object "StoryHouse$Play")] sz (ww_J1_canEncode_9a6ad cB cC cI cJ cZ cP ch) g_0)) (q_J1_canEncode_9a6ad dC dI cB cC cI cJ cZ cP ch (va_A (ww_J1_canEncode_9a6ad cB cC cI cJ cZ cP ch) sz)) 0 0 (va_A (ww_J1_canEncode_9a6ad cB cC cI cJ cZ cP ch) sz) := by
  refine Met.ofW (cc := cJ1_canEncode_9a6ad) (maxL := 1) (ret := (some .boolean)) (by decide) rfl ?_
  intro p e s m args below meth c s₁ B hml hv
  obtain ⟨rfl, hsz, hP, hK, hD0, hE, hX⟩ := hv
  have hx := B.exec
  have hb := B.bytes
  have hr := B.returns
  have hts0 := atoms_spec (ws := (g_ws yJ1_canEncode_9a6ad cJ1_canEncode_9a6ad 1 (some .boolean))) B.pre
  have hts : ∀ w ∈ lw_good, w.before ([.int ch] : List Value).toArray s = true := fun w h => hts0 w (List.mem_cons_of_mem _ h)
  have hown : s.vm.findClass RJ1 = some m.cls := findClass_of_methodNamed B.named
  have hlocks := B.notSynchronized
  subst hsz
  have hD := hD0.self (sz := s.heap.size)
  generalize hAe : va_A (ww_J1_canEncode_9a6ad cB cC cI cJ cZ cP ch) s.heap.size = A at hD hE hX ⊢
  have hA : ∀ q : Nat, s.heap.size ≤ q → A q := fun q h => by rw [← hAe]; exact Or.inr h
  have hN := hE.1
  have hS : va_S A s.heap s.heap [] := va_S.rf
  have hP : va_P (dC, dI) vwCl [] s.heap := hP
  have hl := lv_entry ([.int ch]) (n := 1) (Nat.le_of_ble_eq_true rfl)
  rw [lg_entry_eq]
  generalize (lg_sl ([.int ch]) ++ List.replicate (1 - (lg_sl ([.int ch])).length) Slot.unset).toArray = ls at hl ⊢
  have hl : lv_has ls 1 [(0, .int ch)] := hl
  refine lv_iload_n hx hb dJ1_canEncode_9a6ad_0 rfl (lv_at hl 0 rfl) ?_
  refine lv_if_lt (tgt := 15) hx hb dJ1_canEncode_9a6ad_1 (by decide) (fun c_1 => ?_) (fun c_1 => ?_)
  · refine lv_iconst (v := 0) hx hb dJ1_canEncode_9a6ad_15 (by decide +kernel) ?_
    have hP9 := hP.sub (ws' := []) [] rfl
    have hD9 := hD.sub (ws' := []) [] (by decide +kernel) rfl
    refine W.widen (k := 0) (n := 0) (Nat.le_of_ble_eq_true rfl) (Nat.le_of_ble_eq_true rfl) ?_
    exact W.zret (v := 0) hx hb hr (by decide +kernel) (fun t ht hW => ⟨⟨0, (), rfl, ((by first | rw [if_neg (by assumption), if_neg (by assumption)] | rw [if_pos (by assumption)] | rw [if_neg (by assumption), if_pos (by assumption)])), by rw [ht]; exact hP9, hD9⟩, hS.F ht⟩) hS.2.2 dJ1_canEncode_9a6ad_16
  · refine lv_iload_n hx hb dJ1_canEncode_9a6ad_4 rfl (lv_at hl 0 rfl) ?_
    refine lv_sipush (v := 255) hx hb dJ1_canEncode_9a6ad_5 (by decide +kernel) ?_
    refine lv_icmp_gt (tgt := 15) hx hb dJ1_canEncode_9a6ad_8 (by decide) (fun c_2 => ?_) (fun c_2 => ?_)
    · refine lv_iconst (v := 0) hx hb dJ1_canEncode_9a6ad_15 (by decide +kernel) ?_
      have hP9 := hP.sub (ws' := []) [] rfl
      have hD9 := hD.sub (ws' := []) [] (by decide +kernel) rfl
      refine W.widen (k := 0) (n := 0) (Nat.le_of_ble_eq_true rfl) (Nat.le_of_ble_eq_true rfl) ?_
      exact W.zret (v := 0) hx hb hr (by decide +kernel) (fun t ht hW => ⟨⟨0, (), rfl, ((by first | rw [if_neg (by assumption), if_neg (by assumption)] | rw [if_pos (by assumption)] | rw [if_neg (by assumption), if_pos (by assumption)])), by rw [ht]; exact hP9, hD9⟩, hS.F ht⟩) hS.2.2 dJ1_canEncode_9a6ad_16
    · refine lv_iconst (v := 1) hx hb dJ1_canEncode_9a6ad_11 (by decide +kernel) ?_
      refine lv_goto (tgt := 16) hx hb dJ1_canEncode_9a6ad_12 (by decide) ?_
      have hP9 := hP.sub (ws' := []) [] rfl
      have hD9 := hD.sub (ws' := []) [] (by decide +kernel) rfl
      refine W.widen (k := 0) (n := 0) (Nat.le_of_ble_eq_true rfl) (Nat.le_of_ble_eq_true rfl) ?_
      exact W.zret (v := 1) hx hb hr (by decide +kernel) (fun t ht hW => ⟨⟨1, (), rfl, ((by first | rw [if_neg (by assumption), if_neg (by assumption)] | rw [if_pos (by assumption)] | rw [if_neg (by assumption), if_pos (by assumption)])), by rw [ht]; exact hP9, hD9⟩, hS.F ht⟩) hS.2.2 dJ1_canEncode_9a6ad_16

abbrev ww_J1_indexOfChar_4cfef (cB cC cI cJ cZ cP : ClassId) (q : Nat) (ch : Int32) (fi : Int32) (v : Nat) (byt : List Int32) : va_W := []
abbrev q_J1_indexOfChar_4cfef (dC : Nat → ClassId) (dI : Nat → Nat → Nat) (cB cC cI cJ cZ cP : ClassId) (q : Nat) (ch : Int32) (fi : Int32) (v : Nat) (byt : List Int32) (A : Nat → Prop) : Array Value → State → Outcome → State → Prop := va_Qi (fun (r : Int32) (_ : Unit) => r = tx_ixF byt ch.toInt8.toInt32 byt.length 0) (g_Bo (dC, dI) A (fun (_ : Unit) => [])) A
set_option maxHeartbeats 4000000 in
set_option maxRecDepth 100000 in
theorem c_J1_indexOfChar_4cfef (l : Launch) (dC : Nat → ClassId) (dI : Nat → Nat → Nat) (cB cC cI cJ cZ cP : ClassId) (sz : Nat) (q : Nat) (ch : Int32) (fi : Int32) (v : Nat) (byt : List Int32) (hfi : fi = Int32.ofNat byt.length) : Met l yJ1_indexOfChar_4cfef (g_ws yJ1_indexOfChar_4cfef cJ1_indexOfChar_4cfef 6 (some .int)) ({ frames := 1, cells := 0, slots := 0, locals := 40 }) (va_Pc [.ref v, .int ch, .int 0, .int fi] (g_B (dC, dI) [(cB, .byte), (cC, .char), (cI, .int), (cJ, .long), (cZ, .boolean), (cP, .object "StoryHouse$Play")] sz (ww_J1_indexOfChar_4cfef cB cC cI cJ cZ cP q ch fi v byt) ((fun U : State => g_S q v byt (va_A (ww_J1_indexOfChar_4cfef cB cC cI cJ cZ cP q ch fi v byt) sz) U U.heap)))) (q_J1_indexOfChar_4cfef dC dI cB cC cI cJ cZ cP q ch fi v byt (va_A (ww_J1_indexOfChar_4cfef cB cC cI cJ cZ cP q ch fi v byt) sz)) 0 0 (va_A (ww_J1_indexOfChar_4cfef cB cC cI cJ cZ cP q ch fi v byt) sz) := by
  refine Met.ofW (cc := cJ1_indexOfChar_4cfef) (maxL := 6) (ret := (some .int)) (by decide) rfl ?_
  intro p e s m args below meth c s₁ B hml hv
  obtain ⟨rfl, hsz, hP, hK, hD0, hE, hX⟩ := hv
  have hx := B.exec
  have hb := B.bytes
  have hr := B.returns
  have hts0 := atoms_spec (ws := (g_ws yJ1_indexOfChar_4cfef cJ1_indexOfChar_4cfef 6 (some .int))) B.pre
  have hts : ∀ w ∈ lw_good, w.before ([.ref v, .int ch, .int 0, .int fi] : List Value).toArray s = true := fun w h => hts0 w (List.mem_cons_of_mem _ h)
  have hown : s.vm.findClass RJ1 = some m.cls := findClass_of_methodNamed B.named
  have hlocks := B.notSynchronized
  subst hsz
  have hD := hD0.self (sz := s.heap.size)
  generalize hAe : va_A (ww_J1_indexOfChar_4cfef cB cC cI cJ cZ cP q ch fi v byt) s.heap.size = A at hD hE hX ⊢
  have hA : ∀ q : Nat, s.heap.size ≤ q → A q := fun q h => by rw [← hAe]; exact Or.inr h
  have hN := hE.1
  have hS : va_S A s.heap s.heap [] := va_S.rf
  have hP : va_P (dC, dI) vwCl [] s.heap := hP
  have hl := lv_entry ([.ref v, .int ch, .int 0, .int fi]) (n := 6) (Nat.le_of_ble_eq_true rfl)
  rw [lg_entry_eq]
  generalize (lg_sl ([.ref v, .int ch, .int 0, .int fi]) ++ List.replicate (6 - (lg_sl ([.ref v, .int ch, .int 0, .int fi])).length) Slot.unset).toArray = ls at hl ⊢
  have hl : lv_has ls 6 [(0, .ref v), (1, .int ch), (2, .int 0), (3, .int fi)] := hl
  have hStr : g_S q v byt A s s.heap := hX
  refine lv_iload_n hx hb dJ1_indexOfChar_4cfef_0 rfl (lv_at hl 1 rfl) ?_
  refine lv_i2b hx hb dJ1_indexOfChar_4cfef_1 rfl ?_
  refine lv_topi (fun x_1 ex_1 => ?_)
  refine lv_istore (lv' := [(4, .int x_1), (0, .ref v), (1, .int ch), (2, .int 0), (3, .int fi)]) hx hb dJ1_indexOfChar_4cfef_2 hl (by decide) rfl (fun ls hl => ?_)
  refine lv_iload_n hx hb dJ1_indexOfChar_4cfef_4 rfl (lv_at hl 3 rfl) ?_
  refine lv_istore (lv' := [(5, .int 0), (4, .int x_1), (0, .ref v), (1, .int ch), (2, .int 0), (3, .int fi)]) hx hb dJ1_indexOfChar_4cfef_5 hl (by decide) rfl (fun ls hl => ?_)
  have LOOP_2 : ∀ (fu : Nat) (k : Nat) (x5 : Int32) (ex5 : x5 = nI k) (hk : k ≤ byt.length) (hix : tx_ixF byt x_1 byt.length 0 = tx_ixF byt x_1 (byt.length - k) k) (hfu : byt.length - k < fu) (H : Heap) (locs : List Loc), va_P (dC, dI) vwCl [] H → va_D A [] → va_S A s.heap H locs → ∀ ls : Array Slot, lv_has ls 6 [(0, .ref v), (3, .int fi), (4, .int x_1), (5, .int x5)] → W p l e ({ frames := 1, cells := 0, slots := 0, locals := 40 }) s m ([.ref v, .int ch, .int 0, .int fi] : List Value).toArray below meth c H locs 0 0 (MQ below (q_J1_indexOfChar_4cfef dC dI cB cC cI cJ cZ cP q ch fi v byt A) ([.ref v, .int ch, .int 0, .int fi] : List Value).toArray s 0 0 A) (F0 m 7 ls []) := by
    intro fu
    induction fu with
    | zero => intro k x5 ex5 hk hix hfu; exact absurd hfu (Nat.not_lt_zero _)
    | succ fu ih =>
      intro k x5 ex5 hk hix hfu H locs hP hD hS ls hl
      refine lv_iload hx hb dJ1_indexOfChar_4cfef_7 (lv_at hl 3 rfl) ?_
      refine lv_iload_n hx hb dJ1_indexOfChar_4cfef_9 rfl (lv_at hl 1 rfl) ?_
      refine lv_icmp_ge (tgt := 31) hx hb dJ1_indexOfChar_4cfef_10 (by decide) (fun c_3 => ?_) (fun c_3 => ?_)
      · refine lv_iconst (v := (-1)) hx hb dJ1_indexOfChar_4cfef_31 (by decide +kernel) ?_
        have hP9 := hP.sub (ws' := []) [] rfl
        have hD9 := hD.sub (ws' := []) [] (by decide +kernel) rfl
        refine W.widen (k := 0) (n := 0) (Nat.le_of_ble_eq_true rfl) (Nat.le_of_ble_eq_true rfl) ?_
        exact W.iret (v := (-1)) hx hb hr (fun t ht hW => ⟨⟨(-1), (), rfl, ((by rw [← ex_1, hix, tx_ixE (tx_ge ex5 hk hStr.2.2.2.2 hfi (by assumption))])), by rw [ht]; exact hP9, hD9⟩, hS.F ht⟩) hS.2.2 dJ1_indexOfChar_4cfef_32
      · have hk1 := tx_lt ex5 hk hStr.2.2.2.2 hfi (by assumption)
        refine lv_aload_n hx hb dJ1_indexOfChar_4cfef_13 rfl (lv_at hl 0 rfl) ?_
        refine lv_iload hx hb dJ1_indexOfChar_4cfef_14 (lv_at hl 3 rfl) ?_
        refine va_tb hx hb hStr.2.2.2.1 hS (tx_in ex5 hk1 hStr.2.2.2.2) rfl dJ1_indexOfChar_4cfef_16 ?_
        refine lv_topi (fun x_4 ex_4 => ?_)
        refine lv_iload hx hb dJ1_indexOfChar_4cfef_17 (lv_at hl 2 rfl) ?_
        refine lv_icmp_ne (tgt := 25) hx hb dJ1_indexOfChar_4cfef_19 (by decide) (fun c_5 => ?_) (fun c_5 => ?_)
        · obtain ⟨x_6, ex_6⟩ : ∃ y : Int32, y = x5 + 1 := ⟨_, rfl⟩
          refine lv_iinc (v := x_6) (lv' := [(5, .int x_6), (0, .ref v), (3, .int fi), (4, .int x_1)]) hx hb dJ1_indexOfChar_4cfef_25 hl (k := 3) rfl (by rw [ex_6]; rfl) (by decide) rfl (fun ls hl => ?_)
          refine lv_goto (tgt := 7) hx hb dJ1_indexOfChar_4cfef_28 (by decide) ?_
          exact ih (k + 1) x_6 (by rw [ex_6, ex5]; exact (nI_succ k).symm) hk1 (hix.trans (tx_ixS hk1 (fun z => (by assumption : x_4 ≠ x_1) (by rw [ex_4, tx_gd ex5 hk1 hStr.2.2.2.2]; exact z)))) (by omega) _ _ hP hD hS ls (lv_sub hl [1, 2, 3, 0] rfl)
        · refine lv_iload hx hb dJ1_indexOfChar_4cfef_22 (lv_at hl 3 rfl) ?_
          have hP9 := hP.sub (ws' := []) [] rfl
          have hD9 := hD.sub (ws' := []) [] (by decide +kernel) rfl
          refine W.widen (k := 0) (n := 0) (Nat.le_of_ble_eq_true rfl) (Nat.le_of_ble_eq_true rfl) ?_
          exact W.iret (v := x5) hx hb hr (fun t ht hW => ⟨⟨x5, (), rfl, ((by rw [← ex_1, hix, tx_ixH hk1 (by rw [← tx_gd ex5 hk1 hStr.2.2.2.2, ← ex_4]; exact (by assumption))]; exact ex5)), by rw [ht]; exact hP9, hD9⟩, hS.F ht⟩) hS.2.2 dJ1_indexOfChar_4cfef_24
  exact LOOP_2 _ 0 0 nI_0.symm (Nat.zero_le _) rfl (Nat.lt_succ_self _) _ _ hP hD hS ls (lv_sub hl [2, 5, 1, 0] rfl)

abbrev ww_J1_indexOf_4cfef (cB cC cI cJ cZ cP : ClassId) (q : Nat) (ch : Int32) (fi : Int32) (v : Nat) (byt : List Int32) : va_W := []
abbrev q_J1_indexOf_4cfef (dC : Nat → ClassId) (dI : Nat → Nat → Nat) (cB cC cI cJ cZ cP : ClassId) (q : Nat) (ch : Int32) (fi : Int32) (v : Nat) (byt : List Int32) (A : Nat → Prop) : Array Value → State → Outcome → State → Prop := va_Qi (fun (r : Int32) (_ : Unit) => r = tx_ixOf byt ch) (g_Bo (dC, dI) A (fun (_ : Unit) => [])) A
set_option maxHeartbeats 4000000 in
set_option maxRecDepth 100000 in
theorem c_J1_indexOf_4cfef (l : Launch) (dC : Nat → ClassId) (dI : Nat → Nat → Nat) (cB cC cI cJ cZ cP : ClassId) (sz : Nat) (q : Nat) (ch : Int32) (fi : Int32) (v : Nat) (byt : List Int32) (hfi : fi = Int32.ofNat byt.length) : Met l yJ1_indexOf_4cfef (g_ws yJ1_indexOf_4cfef cJ1_indexOf_4cfef 4 (some .int)) ({ frames := 2, cells := 0, slots := 0, locals := 65 }) (va_Pc [.ref v, .int ch, .int 0, .int fi] (g_B (dC, dI) [(cB, .byte), (cC, .char), (cI, .int), (cJ, .long), (cZ, .boolean), (cP, .object "StoryHouse$Play")] sz (ww_J1_indexOf_4cfef cB cC cI cJ cZ cP q ch fi v byt) ((fun U : State => g_S q v byt (va_A (ww_J1_indexOf_4cfef cB cC cI cJ cZ cP q ch fi v byt) sz) U U.heap)))) (q_J1_indexOf_4cfef dC dI cB cC cI cJ cZ cP q ch fi v byt (va_A (ww_J1_indexOf_4cfef cB cC cI cJ cZ cP q ch fi v byt) sz)) 0 0 (va_A (ww_J1_indexOf_4cfef cB cC cI cJ cZ cP q ch fi v byt) sz) := by
  refine Met.ofW (cc := cJ1_indexOf_4cfef) (maxL := 4) (ret := (some .int)) (by decide) rfl ?_
  intro p e s m args below meth c s₁ B hml hv
  obtain ⟨rfl, hsz, hP, hK, hD0, hE, hX⟩ := hv
  have hx := B.exec
  have hb := B.bytes
  have hr := B.returns
  have hts0 := atoms_spec (ws := (g_ws yJ1_indexOf_4cfef cJ1_indexOf_4cfef 4 (some .int))) B.pre
  have hts : ∀ w ∈ lw_good, w.before ([.ref v, .int ch, .int 0, .int fi] : List Value).toArray s = true := fun w h => hts0 w (List.mem_cons_of_mem _ h)
  have hown : s.vm.findClass RJ1 = some m.cls := findClass_of_methodNamed B.named
  have hlocks := B.notSynchronized
  subst hsz
  have hD := hD0.self (sz := s.heap.size)
  generalize hAe : va_A (ww_J1_indexOf_4cfef cB cC cI cJ cZ cP q ch fi v byt) s.heap.size = A at hD hE hX ⊢
  have hA : ∀ q : Nat, s.heap.size ≤ q → A q := fun q h => by rw [← hAe]; exact Or.inr h
  have hN := hE.1
  have hS : va_S A s.heap s.heap [] := va_S.rf
  have hP : va_P (dC, dI) vwCl [] s.heap := hP
  have hl := lv_entry ([.ref v, .int ch, .int 0, .int fi]) (n := 4) (Nat.le_of_ble_eq_true rfl)
  rw [lg_entry_eq]
  generalize (lg_sl ([.ref v, .int ch, .int 0, .int fi]) ++ List.replicate (4 - (lg_sl ([.ref v, .int ch, .int 0, .int fi])).length) Slot.unset).toArray = ls at hl ⊢
  have hl : lv_has ls 4 [(0, .ref v), (1, .int ch), (2, .int 0), (3, .int fi)] := hl
  have hStr : g_S q v byt A s s.heap := hX
  refine lv_iload_n hx hb dJ1_indexOf_4cfef_0 rfl (lv_at hl 1 rfl) ?_
  have hPc := hP.sub (ws' := []) [] rfl
  have hDc := hD.sub (ws' := []) [] (by decide +kernel) rfl
  have hFc := va_free (wc := []) hD hS hA [] rfl
  refine g_ofi (wc := []) (wr := []) hP hD hS hFc [] [] rfl rfl (by decide +kernel) (by decide +kernel) (va_runS (As := [.int ch]) (rest := []) ⟨hx, hb, hml, hown, hts⟩ (c_J1_canEncode_9a6ad l dC dI cB cC cI cJ cZ cP s.heap.size ch ) (va_cwS 1 hts (g_gS wq_456 wq_457 wq_23 wq_458) rfl rfl rfl (by decide +kernel) ⟨Nat.le_of_ble_eq_true rfl, Nat.le_of_ble_eq_true rfl⟩) (g_preS g_bl0 hK hPc hDc hS hE hFc g_to0) rfl rfl hl.1 rfl (lv_room (Nat.le_of_ble_eq_true rfl)) dJ1_indexOf_4cfef_1 ⟨Nat.le_of_ble_eq_true rfl, Nat.le_of_ble_eq_true rfl⟩) (fun r_3 u_2 H_4 locs w_1 hP' hD' hS' => ?_)
  clear hPc hDc hFc
  have w_1 : r_3 = if ch < 0 then 0 else if ch > 255 then 0 else 1 := w_1
  replace hP : va_P (dC, dI) vwCl [] H_4 := hP'
  replace hD : va_D A [] := hD'
  replace hS := hS'
  clear hP' hD' hS'
  refine lv_if_ne (tgt := 9) hx hb dJ1_indexOf_4cfef_4 (by decide) (fun c_5 => ?_) (fun c_5 => ?_)
  · refine lv_iload_n hx hb dJ1_indexOf_4cfef_9 rfl (lv_at hl 2 rfl) ?_
    refine lv_iconst (v := 0) hx hb dJ1_indexOf_4cfef_10 (by decide +kernel) ?_
    refine va_mmax hx hb (hml.trans hl.1.symm) hown (hts (.methodLink RJ1 92 yJ9_max_7cf53) wq_459) (hts (.static yJ9_max_7cf53) wq_334) (hts (.initialized RJ9) wq_19) (hts (.code yJ9_max_7cf53 cJ9_max_7cf53 2 (some .int)) wq_335) (Nat.le_of_ble_eq_true rfl) (Nat.le_of_ble_eq_true rfl) (Nat.le_of_ble_eq_true rfl) (Nat.le_of_ble_eq_true rfl) dJ1_indexOf_4cfef_11 ?_
    refine lv_topi (fun x_6 ex_6 => ?_)
    obtain rfl : x_6 = 0 := ex_6.trans (by decide +kernel)
    refine lv_istore_n (lv' := [(2, .int 0), (0, .ref v), (1, .int ch), (3, .int fi)]) hx hb dJ1_indexOf_4cfef_14 rfl hl (by decide) rfl (fun ls hl => ?_)
    refine lv_iload_n hx hb dJ1_indexOf_4cfef_15 rfl (lv_at hl 3 rfl) ?_
    refine lv_aload_n hx hb dJ1_indexOf_4cfef_16 rfl (lv_at hl 1 rfl) ?_
    refine va_tlen hx hb hStr.2.2.2.1 hS rfl dJ1_indexOf_4cfef_17 ?_
    refine va_mmin hx hb (hml.trans hl.1.symm) hown (hts (.methodLink RJ1 38 yJ9_min_7cf53) wq_460) (hts (.static yJ9_min_7cf53) wq_331) (hts (.initialized RJ9) wq_19) (hts (.code yJ9_min_7cf53 cJ9_min_7cf53 2 (some .int)) wq_332) (Nat.le_of_ble_eq_true rfl) (Nat.le_of_ble_eq_true rfl) (Nat.le_of_ble_eq_true rfl) (Nat.le_of_ble_eq_true rfl) dJ1_indexOf_4cfef_18 ?_
    refine lv_topi (fun x_7 ex_7 => ?_)
    refine lv_istore_n (lv' := [(3, .int x_7), (2, .int 0), (0, .ref v), (1, .int ch)]) hx hb dJ1_indexOf_4cfef_21 rfl hl (by decide) rfl (fun ls hl => ?_)
    refine lv_iload_n hx hb dJ1_indexOf_4cfef_22 rfl (lv_at hl 1 rfl) ?_
    refine lv_iload_n hx hb dJ1_indexOf_4cfef_23 rfl (lv_at hl 0 rfl) ?_
    refine lv_icmp_lt (tgt := 29) hx hb dJ1_indexOf_4cfef_24 (by decide) (fun c_8 => ?_) (fun c_8 => ?_)
    · refine lv_aload_n hx hb dJ1_indexOf_4cfef_29 rfl (lv_at hl 2 rfl) ?_
      refine lv_iload_n hx hb dJ1_indexOf_4cfef_30 rfl (lv_at hl 3 rfl) ?_
      refine lv_iload_n hx hb dJ1_indexOf_4cfef_31 rfl (lv_at hl 1 rfl) ?_
      refine lv_iload_n hx hb dJ1_indexOf_4cfef_32 rfl (lv_at hl 0 rfl) ?_
      have hPc := hP.sub (ws' := []) [] rfl
      have hDc := hD.sub (ws' := []) [] (by decide +kernel) rfl
      have hFc := va_free (wc := []) hD hS hA [] rfl
      refine g_ofi (wc := []) (wr := []) hP hD hS hFc [] [] rfl rfl (by decide +kernel) (by decide +kernel) (va_runS (As := [.ref v, .int ch, .int 0, .int x_7]) (rest := []) ⟨hx, hb, hml, hown, hts⟩ (c_J1_indexOfChar_4cfef l dC dI cB cC cI cJ cZ cP H_4.size q ch x_7 v byt (tx_min hStr.2.2.2.2 hfi ex_7)) (va_cwS 4 hts (g_gS wq_461 wq_462 wq_23 wq_463) rfl rfl rfl (by decide +kernel) ⟨Nat.le_of_ble_eq_true rfl, Nat.le_of_ble_eq_true rfl⟩) (g_preS g_blS hK hPc hDc hS hE hFc (g_toS hStr hS hFc)) rfl rfl hl.1 rfl (lv_room (Nat.le_of_ble_eq_true rfl)) dJ1_indexOf_4cfef_33 ⟨Nat.le_of_ble_eq_true rfl, Nat.le_of_ble_eq_true rfl⟩) (fun r_11 u_10 H_12 locs w_9 hP' hD' hS' => ?_)
      clear hPc hDc hFc
      have w_9 : r_11 = tx_ixF byt ch.toInt8.toInt32 byt.length 0 := w_9
      replace hP : va_P (dC, dI) vwCl [] H_12 := hP'
      replace hD : va_D A [] := hD'
      replace hS := hS'
      clear hP' hD' hS'
      have hP9 := hP.sub (ws' := []) [] rfl
      have hD9 := hD.sub (ws' := []) [] (by decide +kernel) rfl
      refine W.widen (k := 0) (n := 0) (Nat.le_of_ble_eq_true rfl) (Nat.le_of_ble_eq_true rfl) ?_
      exact W.iret (v := r_11) hx hb hr (fun t ht hW => ⟨⟨r_11, (), rfl, ((tx_no2 w_1 (by assumption) w_9)), by rw [ht]; exact hP9, hD9⟩, hS.F ht⟩) hS.2.2 dJ1_indexOf_4cfef_36
    · refine lv_iconst (v := (-1)) hx hb dJ1_indexOf_4cfef_27 (by decide +kernel) ?_
      have hP9 := hP.sub (ws' := []) [] rfl
      have hD9 := hD.sub (ws' := []) [] (by decide +kernel) rfl
      refine W.widen (k := 0) (n := 0) (Nat.le_of_ble_eq_true rfl) (Nat.le_of_ble_eq_true rfl) ?_
      exact W.iret (v := (-1)) hx hb hr (fun t ht hW => ⟨⟨(-1), (), rfl, ((tx_no2 w_1 (by assumption) (tx_nil hStr.2.2.2.2 (tx_min hStr.2.2.2.2 hfi ex_7) (by assumption)).symm)), by rw [ht]; exact hP9, hD9⟩, hS.F ht⟩) hS.2.2 dJ1_indexOf_4cfef_28
  · refine lv_iconst (v := (-1)) hx hb dJ1_indexOf_4cfef_7 (by decide +kernel) ?_
    have hP9 := hP.sub (ws' := []) [] rfl
    have hD9 := hD.sub (ws' := []) [] (by decide +kernel) rfl
    refine W.widen (k := 0) (n := 0) (Nat.le_of_ble_eq_true rfl) (Nat.le_of_ble_eq_true rfl) ?_
    exact W.iret (v := (-1)) hx hb hr (fun t ht hW => ⟨⟨(-1), (), rfl, ((tx_no1 w_1 (by assumption))), by rw [ht]; exact hP9, hD9⟩, hS.F ht⟩) hS.2.2 dJ1_indexOf_4cfef_8

abbrev ww_J0_indexOf_7cf53 (cB cC cI cJ cZ cP : ClassId) (q : Nat) (ch : Int32) (v : Nat) (byt : List Int32) : va_W := []
abbrev q_J0_indexOf_7cf53 (dC : Nat → ClassId) (dI : Nat → Nat → Nat) (cB cC cI cJ cZ cP : ClassId) (q : Nat) (ch : Int32) (v : Nat) (byt : List Int32) (A : Nat → Prop) : Array Value → State → Outcome → State → Prop := va_Qi (fun (r : Int32) (_ : Unit) => r = tx_ixOf byt ch) (g_Bo (dC, dI) A (fun (_ : Unit) => [])) A
set_option maxHeartbeats 4000000 in
set_option maxRecDepth 100000 in
theorem c_J0_indexOf_7cf53 (l : Launch) (dC : Nat → ClassId) (dI : Nat → Nat → Nat) (cB cC cI cJ cZ cP : ClassId) (sz : Nat) (q : Nat) (ch : Int32) (v : Nat) (byt : List Int32)  : Met l yJ0_indexOf_7cf53 (g_ws yJ0_indexOf_7cf53 cJ0_indexOf_7cf53 3 (some .int)) ({ frames := 3, cells := 0, slots := 0, locals := 88 }) (va_Pc [.ref q, .int ch, .int 0] (g_B (dC, dI) [(cB, .byte), (cC, .char), (cI, .int), (cJ, .long), (cZ, .boolean), (cP, .object "StoryHouse$Play")] sz (ww_J0_indexOf_7cf53 cB cC cI cJ cZ cP q ch v byt) ((fun U : State => g_S q v byt (va_A (ww_J0_indexOf_7cf53 cB cC cI cJ cZ cP q ch v byt) sz) U U.heap)))) (q_J0_indexOf_7cf53 dC dI cB cC cI cJ cZ cP q ch v byt (va_A (ww_J0_indexOf_7cf53 cB cC cI cJ cZ cP q ch v byt) sz)) 0 0 (va_A (ww_J0_indexOf_7cf53 cB cC cI cJ cZ cP q ch v byt) sz) := by
  refine Met.ofW (cc := cJ0_indexOf_7cf53) (maxL := 3) (ret := (some .int)) (by decide) rfl ?_
  intro p e s m args below meth c s₁ B hml hv
  obtain ⟨rfl, hsz, hP, hK, hD0, hE, hX⟩ := hv
  have hx := B.exec
  have hb := B.bytes
  have hr := B.returns
  have hts0 := atoms_spec (ws := (g_ws yJ0_indexOf_7cf53 cJ0_indexOf_7cf53 3 (some .int))) B.pre
  have hts : ∀ w ∈ lw_good, w.before ([.ref q, .int ch, .int 0] : List Value).toArray s = true := fun w h => hts0 w (List.mem_cons_of_mem _ h)
  have hown : s.vm.findClass RJ0 = some m.cls := findClass_of_methodNamed B.named
  have hlocks := B.notSynchronized
  subst hsz
  have hD := hD0.self (sz := s.heap.size)
  generalize hAe : va_A (ww_J0_indexOf_7cf53 cB cC cI cJ cZ cP q ch v byt) s.heap.size = A at hD hE hX ⊢
  have hA : ∀ q : Nat, s.heap.size ≤ q → A q := fun q h => by rw [← hAe]; exact Or.inr h
  have hN := hE.1
  have hS : va_S A s.heap s.heap [] := va_S.rf
  have hP : va_P (dC, dI) vwCl [] s.heap := hP
  have hl := lv_entry ([.ref q, .int ch, .int 0]) (n := 3) (Nat.le_of_ble_eq_true rfl)
  rw [lg_entry_eq]
  generalize (lg_sl ([.ref q, .int ch, .int 0]) ++ List.replicate (3 - (lg_sl ([.ref q, .int ch, .int 0])).length) Slot.unset).toArray = ls at hl ⊢
  have hl : lv_has ls 3 [(0, .ref q), (1, .int ch), (2, .int 0)] := hl
  have hStr : g_S q v byt A s s.heap := hX
  refine lv_aload_n hx hb dJ0_indexOf_7cf53_0 rfl (lv_at hl 0 rfl) ?_
  have hPc := hP.sub (ws' := []) [] rfl
  have hDc := hD.sub (ws' := []) [] (by decide +kernel) rfl
  have hFc := va_free (wc := []) hD hS hA [] rfl
  refine g_ofi (wc := []) (wr := []) hP hD hS hFc [] [] rfl rfl (by decide +kernel) (by decide +kernel) (va_runV (As := []) (rest := []) ⟨hx, hb, hml, hown, hts⟩ (c_J0_isLatin1_aae02 l dC dI cB cC cI cJ cZ cP s.heap.size q v byt ) (cwV 0 hts (g_gV wq_362 wq_363 wq_364 wq_22 wq_365) rfl rfl rfl (by decide +kernel) ⟨Nat.le_of_ble_eq_true rfl, Nat.le_of_ble_eq_true rfl⟩) (g_preVs g_blS hK hPc hDc hS hE hFc (g_toS hStr hS hFc) (va_Orecv hStr.1 hS)) rfl rfl hl.1 rfl (lv_room (Nat.le_of_ble_eq_true rfl)) dJ0_indexOf_7cf53_1 ⟨Nat.le_of_ble_eq_true rfl, Nat.le_of_ble_eq_true rfl⟩) (fun r_3 u_2 H_4 locs w_1 hP' hD' hS' => ?_)
  clear hPc hDc hFc
  have w_1 : r_3 = 1 := w_1
  replace hP : va_P (dC, dI) vwCl [] H_4 := hP'
  replace hD : va_D A [] := hD'
  replace hS := hS'
  clear hP' hD' hS'
  obtain rfl : 1 = r_3 := (w_1).symm
  refine lv_if_eq (tgt := 23) hx hb dJ0_indexOf_7cf53_4 (by decide) (fun c_5 => absurd c_5 (by decide +kernel)) (fun c_5 => ?_)
  refine lv_aload_n hx hb dJ0_indexOf_7cf53_7 rfl (lv_at hl 0 rfl) ?_
  refine vk_getf hx hb hStr.2.2.1 hS hown (hts (.fieldLink RJ0 9 "java/lang/String" "value" "[B") wq_1977) (fun _ h9 => h9) dJ0_indexOf_7cf53_8 ?_
  refine lv_iload_n hx hb dJ0_indexOf_7cf53_11 rfl (lv_at hl 1 rfl) ?_
  refine lv_iload_n hx hb dJ0_indexOf_7cf53_12 rfl (lv_at hl 2 rfl) ?_
  refine lv_aload_n hx hb dJ0_indexOf_7cf53_13 rfl (lv_at hl 0 rfl) ?_
  have hPc := hP.sub (ws' := []) [] rfl
  have hDc := hD.sub (ws' := []) [] (by decide +kernel) rfl
  have hFc := va_free (wc := []) hD hS hA [] rfl
  refine g_ofi (wc := []) (wr := []) hP hD hS hFc [] [] rfl rfl (by decide +kernel) (by decide +kernel) (va_runV (As := []) (rest := [.int 0, .int ch, .ref v]) ⟨hx, hb, hml, hown, hts⟩ (c_J0_length_8abf5 l dC dI cB cC cI cJ cZ cP H_4.size q v byt ) (cwV 0 hts (g_gV wq_452 wq_346 wq_347 wq_22 wq_348) rfl rfl rfl (by decide +kernel) ⟨Nat.le_of_ble_eq_true rfl, Nat.le_of_ble_eq_true rfl⟩) (g_preVs g_blS hK hPc hDc hS hE hFc (g_toS hStr hS hFc) (va_Orecv hStr.1 hS)) rfl rfl hl.1 rfl (lv_room (Nat.le_of_ble_eq_true rfl)) dJ0_indexOf_7cf53_14 ⟨Nat.le_of_ble_eq_true rfl, Nat.le_of_ble_eq_true rfl⟩) (fun r_8 u_7 H_9 locs w_6 hP' hD' hS' => ?_)
  clear hPc hDc hFc
  have w_6 : r_8 = Int32.ofNat byt.length := w_6
  replace hP : va_P (dC, dI) vwCl [] H_9 := hP'
  replace hD : va_D A [] := hD'
  replace hS := hS'
  clear hP' hD' hS'
  obtain rfl : (Int32.ofNat byt.length) = r_8 := (w_6).symm
  have hPc := hP.sub (ws' := []) [] rfl
  have hDc := hD.sub (ws' := []) [] (by decide +kernel) rfl
  have hFc := va_free (wc := []) hD hS hA [] rfl
  refine g_ofi (wc := []) (wr := []) hP hD hS hFc [] [] rfl rfl (by decide +kernel) (by decide +kernel) (va_runS (As := [.ref v, .int ch, .int 0, .int (Int32.ofNat byt.length)]) (rest := []) ⟨hx, hb, hml, hown, hts⟩ (c_J1_indexOf_4cfef l dC dI cB cC cI cJ cZ cP H_9.size q ch (Int32.ofNat byt.length) v byt (rfl)) (va_cwS 4 hts (g_gS wq_453 wq_454 wq_23 wq_455) rfl rfl rfl (by decide +kernel) ⟨Nat.le_of_ble_eq_true rfl, Nat.le_of_ble_eq_true rfl⟩) (g_preS g_blS hK hPc hDc hS hE hFc (g_toS hStr hS hFc)) rfl rfl hl.1 rfl (lv_room (Nat.le_of_ble_eq_true rfl)) dJ0_indexOf_7cf53_17 ⟨Nat.le_of_ble_eq_true rfl, Nat.le_of_ble_eq_true rfl⟩) (fun r_12 u_11 H_13 locs w_10 hP' hD' hS' => ?_)
  clear hPc hDc hFc
  have w_10 : r_12 = tx_ixOf byt ch := w_10
  replace hP : va_P (dC, dI) vwCl [] H_13 := hP'
  replace hD : va_D A [] := hD'
  replace hS := hS'
  clear hP' hD' hS'
  refine lv_goto (tgt := 36) hx hb dJ0_indexOf_7cf53_20 (by decide) ?_
  have hP9 := hP.sub (ws' := []) [] rfl
  have hD9 := hD.sub (ws' := []) [] (by decide +kernel) rfl
  refine W.widen (k := 0) (n := 0) (Nat.le_of_ble_eq_true rfl) (Nat.le_of_ble_eq_true rfl) ?_
  exact W.iret (v := r_12) hx hb hr (fun t ht hW => ⟨⟨r_12, (), rfl, (w_10), by rw [ht]; exact hP9, hD9⟩, hS.F ht⟩) hS.2.2 dJ0_indexOf_7cf53_36

abbrev ww_J0_indexOf_0f7a4 (cB cC cI cJ cZ cP : ClassId) (q : Nat) (ch : Int32) (v : Nat) (byt : List Int32) : va_W := []
abbrev q_J0_indexOf_0f7a4 (dC : Nat → ClassId) (dI : Nat → Nat → Nat) (cB cC cI cJ cZ cP : ClassId) (q : Nat) (ch : Int32) (v : Nat) (byt : List Int32) (A : Nat → Prop) : Array Value → State → Outcome → State → Prop := va_Qi (fun (r : Int32) (_ : Unit) => r = tx_ixOf byt ch) (g_Bo (dC, dI) A (fun (_ : Unit) => [])) A
set_option maxHeartbeats 4000000 in
set_option maxRecDepth 100000 in
theorem c_J0_indexOf_0f7a4 (l : Launch) (dC : Nat → ClassId) (dI : Nat → Nat → Nat) (cB cC cI cJ cZ cP : ClassId) (sz : Nat) (q : Nat) (ch : Int32) (v : Nat) (byt : List Int32)  : Met l yJ0_indexOf_0f7a4 (g_ws yJ0_indexOf_0f7a4 cJ0_indexOf_0f7a4 2 (some .int)) ({ frames := 4, cells := 0, slots := 0, locals := 110 }) (va_Pc [.ref q, .int ch] (g_B (dC, dI) [(cB, .byte), (cC, .char), (cI, .int), (cJ, .long), (cZ, .boolean), (cP, .object "StoryHouse$Play")] sz (ww_J0_indexOf_0f7a4 cB cC cI cJ cZ cP q ch v byt) ((fun U : State => g_S q v byt (va_A (ww_J0_indexOf_0f7a4 cB cC cI cJ cZ cP q ch v byt) sz) U U.heap)))) (q_J0_indexOf_0f7a4 dC dI cB cC cI cJ cZ cP q ch v byt (va_A (ww_J0_indexOf_0f7a4 cB cC cI cJ cZ cP q ch v byt) sz)) 0 0 (va_A (ww_J0_indexOf_0f7a4 cB cC cI cJ cZ cP q ch v byt) sz) := by
  refine Met.ofW (cc := cJ0_indexOf_0f7a4) (maxL := 2) (ret := (some .int)) (by decide) rfl ?_
  intro p e s m args below meth c s₁ B hml hv
  obtain ⟨rfl, hsz, hP, hK, hD0, hE, hX⟩ := hv
  have hx := B.exec
  have hb := B.bytes
  have hr := B.returns
  have hts0 := atoms_spec (ws := (g_ws yJ0_indexOf_0f7a4 cJ0_indexOf_0f7a4 2 (some .int))) B.pre
  have hts : ∀ w ∈ lw_good, w.before ([.ref q, .int ch] : List Value).toArray s = true := fun w h => hts0 w (List.mem_cons_of_mem _ h)
  have hown : s.vm.findClass RJ0 = some m.cls := findClass_of_methodNamed B.named
  have hlocks := B.notSynchronized
  subst hsz
  have hD := hD0.self (sz := s.heap.size)
  generalize hAe : va_A (ww_J0_indexOf_0f7a4 cB cC cI cJ cZ cP q ch v byt) s.heap.size = A at hD hE hX ⊢
  have hA : ∀ q : Nat, s.heap.size ≤ q → A q := fun q h => by rw [← hAe]; exact Or.inr h
  have hN := hE.1
  have hS : va_S A s.heap s.heap [] := va_S.rf
  have hP : va_P (dC, dI) vwCl [] s.heap := hP
  have hl := lv_entry ([.ref q, .int ch]) (n := 2) (Nat.le_of_ble_eq_true rfl)
  rw [lg_entry_eq]
  generalize (lg_sl ([.ref q, .int ch]) ++ List.replicate (2 - (lg_sl ([.ref q, .int ch])).length) Slot.unset).toArray = ls at hl ⊢
  have hl : lv_has ls 2 [(0, .ref q), (1, .int ch)] := hl
  have hStr : g_S q v byt A s s.heap := hX
  refine lv_aload_n hx hb dJ0_indexOf_0f7a4_0 rfl (lv_at hl 0 rfl) ?_
  refine lv_iload_n hx hb dJ0_indexOf_0f7a4_1 rfl (lv_at hl 1 rfl) ?_
  refine lv_iconst (v := 0) hx hb dJ0_indexOf_0f7a4_2 (by decide +kernel) ?_
  have hPc := hP.sub (ws' := []) [] rfl
  have hDc := hD.sub (ws' := []) [] (by decide +kernel) rfl
  have hFc := va_free (wc := []) hD hS hA [] rfl
  refine g_ofi (wc := []) (wr := []) hP hD hS hFc [] [] rfl rfl (by decide +kernel) (by decide +kernel) (va_runV (As := [.int ch, .int 0]) (rest := []) ⟨hx, hb, hml, hown, hts⟩ (c_J0_indexOf_7cf53 l dC dI cB cC cI cJ cZ cP s.heap.size q ch v byt ) (cwV 2 hts (g_gV wq_448 wq_449 wq_450 wq_22 wq_451) rfl rfl rfl (by decide +kernel) ⟨Nat.le_of_ble_eq_true rfl, Nat.le_of_ble_eq_true rfl⟩) (g_preVs g_blS hK hPc hDc hS hE hFc (g_toS hStr hS hFc) (va_Orecv hStr.1 hS)) rfl rfl hl.1 rfl (lv_room (Nat.le_of_ble_eq_true rfl)) dJ0_indexOf_0f7a4_3 ⟨Nat.le_of_ble_eq_true rfl, Nat.le_of_ble_eq_true rfl⟩) (fun r_3 u_2 H_4 locs w_1 hP' hD' hS' => ?_)
  clear hPc hDc hFc
  have w_1 : r_3 = tx_ixOf byt ch := w_1
  replace hP : va_P (dC, dI) vwCl [] H_4 := hP'
  replace hD : va_D A [] := hD'
  replace hS := hS'
  clear hP' hD' hS'
  have hP9 := hP.sub (ws' := []) [] rfl
  have hD9 := hD.sub (ws' := []) [] (by decide +kernel) rfl
  refine W.widen (k := 0) (n := 0) (Nat.le_of_ble_eq_true rfl) (Nat.le_of_ble_eq_true rfl) ?_
  exact W.iret (v := r_3) hx hb hr (fun t ht hW => ⟨⟨r_3, (), rfl, (w_1), by rw [ht]; exact hP9, hD9⟩, hS.F ht⟩) hS.2.2 dJ0_indexOf_0f7a4_6
