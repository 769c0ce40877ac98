/-! what holds at the law's entry of the tables' words, statics and String constants -/
/-- what the Statement says of a String constant -/
def g_sf (x : String × Nat × String × List Int32) : Term := .field (.string x.1 x.2.1) "java/lang/String" "value" "[B"
def g_sw (x : String × Nat × String × List Int32) : List Cond := [Cond.exactly (.string x.1 x.2.1) "java/lang/String", .eq (.field (.string x.1 x.2.1) "java/lang/String" "coder" "B") (.int 0), .arrayOf (g_sf x) .byte, .eq (.length (g_sf x)) (.int (Int32.ofNat x.2.2.2.length))] ++ (List.range x.2.2.2.length).map (fun j => Cond.eq (.elem (g_sf x) (.int (Int32.ofNat j))) (.int (x.2.2.2.getD j 0)))
def g_notSame (c : Cond) : Bool := match c with
  | .eq (.string _ _) (.string _ _) => false
  | _ => true
set_option maxRecDepth 100000 in
theorem g_cut : ((flatC narrow_1).drop 54).filter g_notSame = g_sc.flatMap g_sw := by decide +kernel
theorem g_flat {x : String × Nat × String × List Int32} (hx : x ∈ g_sc) {w : Cond} (hw : w ∈ g_sw x) : w ∈ flatC (Jvm.Cond.and given_1 narrow_1) := by
  have h : w ∈ g_sc.flatMap g_sw := List.mem_flatMap.mpr ⟨x, hx, hw⟩
  rw [← g_cut] at h
  exact List.mem_append_right _ (List.mem_of_mem_drop (List.mem_filter.mp h).1)
theorem g_lens : ∀ x ∈ g_sc, x.2.2.2.length < 65536 := by decide +kernel
def g_isSR (c : Cond) : Bool := match c with
  | .stringRef _ _ _ => true
  | _ => false
set_option maxRecDepth 100000 in
theorem g_srefs : tables_1.filter g_isSR = g_sc.map (fun x => Cond.stringRef x.1 x.2.1 x.2.2.1) := by decide +kernel
theorem g_sref {x : String × Nat × String × List Int32} (hx : x ∈ g_sc) : Cond.stringRef x.1 x.2.1 x.2.2.1 ∈ lw_tbl := by
  have h : Cond.stringRef x.1 x.2.1 x.2.2.1 ∈ g_sc.map (fun x => Cond.stringRef x.1 x.2.1 x.2.2.1) := List.mem_map.mpr ⟨x, hx, rfl⟩
  rw [← g_srefs] at h
  exact List.mem_append_right _ (List.mem_filter.mp h).1
def g_isMN (c : Cond) : Bool := match c with
  | .methodLinkNest _ _ _ _ => true
  | _ => false
set_option maxRecDepth 100000 in
theorem g_mns : tables_1.filter g_isMN = g_nwM.map (fun q => Cond.methodLinkNest q.1 q.2.1 q.2.2.1 q.2.2.2) := by decide +kernel
theorem g_mn {q : String × Nat × MethodName × String} (hx : q ∈ g_nwM) : Cond.methodLinkNest q.1 q.2.1 q.2.2.1 q.2.2.2 ∈ lw_tbl := by
  have h : Cond.methodLinkNest q.1 q.2.1 q.2.2.1 q.2.2.2 ∈ g_nwM.map (fun q => Cond.methodLinkNest q.1 q.2.1 q.2.2.1 q.2.2.2) := List.mem_map.mpr ⟨q, hx, rfl⟩
  rw [← g_mns] at h
  exact List.mem_append_right _ (List.mem_filter.mp h).1
theorem g_Sof {args : Array Value} {s : State} {A : Nat → Prop} {x : String × Nat × String × List Int32} (hlen : x.2.2.2.length < 65536) (h : ∀ w ∈ g_sw x, w.before args s = true) (hR : (Cond.stringRef x.1 x.2.1 x.2.2.1).before args s = true) (hA : ∀ a : Nat, a < s.heap.size → ¬ A a) : ∃ q v : Nat, vk_R x.1 x.2.1 x.2.2.1 q s ∧ g_S q v x.2.2.2 A s s.heap := by
  have hex := h _ (List.mem_append_left _ (List.mem_of_getElem? (i := 0) rfl))
  have hco := h _ (List.mem_append_left _ (List.mem_of_getElem? (i := 1) rfl))
  have har := h _ (List.mem_append_left _ (List.mem_of_getElem? (i := 2) rfl))
  have hle := h _ (List.mem_append_left _ (List.mem_of_getElem? (i := 3) rfl))
  have hel : ∀ j : Nat, j < x.2.2.2.length → (Cond.eq (.elem (g_sf x) (.int (Int32.ofNat j))) (.int (x.2.2.2.getD j 0))).before args s = true := fun j hj => h _ (List.mem_append_right _ (List.mem_map.mpr ⟨j, List.mem_range.mpr hj, rfl⟩))
  obtain ⟨a, c, cA, kA, q1, q2, q3, q4, q5, q6, -⟩ := Cond.exactly_spec (args := args) (first := s) (o := none) (s := s) (idx := []) (t := .string x.1 x.2.1) (cls := "java/lang/String") hex
  obtain ⟨t, ht, hT⟩ := va_Tof (f := fun j => .int (x.2.2.2.getD j 0)) (A := A) (show x.2.2.2.length < 2 ^ 31 by omega) har (va_eqt hle) (fun j hj => va_eqt (hel j hj)) hA
  exact ⟨a, t, vk_R.of hR q1, ⟨cA, q3, q5, by rw [q6]; exact q2, hA a (Array.getElem?_eq_some_iff.mp q3).1⟩, vk_OFof q1 (va_eqt hco) hA, vk_OFof q1 ht hA, hT, hlen⟩
set_option maxRecDepth 100000 in
theorem g_tb1 : ∀ w ∈ ([.fieldLinkNest "StoryHouse$Grammar" 104 "StoryHouse$Words" "kinds" "[I" "StoryHouse", .arrayOver (.object "StoryHouse$Play"), .laysStatic "java/lang/String" "COMPACT_STRINGS" "Z", .laysStatic "jdk/internal/util/Preconditions" "SIOOBE_FORMATTER" "Ljava/util/function/BiFunction;", .laysStatic Bundle.tN "UNASSIGNED_STACK" Bundle.steD, .laysStatic Bundle.tN "SUPPRESSED_SENTINEL" Bundle.listD, .initialized "java/lang/String", .initialized "jdk/internal/util/Preconditions", .initialized Bundle.tN] : List Cond), w ∈ lw_tbl := by decide +kernel
set_option maxRecDepth 100000 in
theorem g_tb2 : ∀ q ∈ g_xs, Cond.castable q q ∈ lw_tbl := by decide +kernel
set_option maxRecDepth 100000 in
theorem g_tb3 : ∀ q ∈ g_ys, Cond.declares ⟨q, "<init>", "()V"⟩ ∈ lw_tbl ∧ Cond.declares ⟨q, "<init>", "(Ljava/lang/String;)V"⟩ ∈ lw_tbl := by decide +kernel
set_option maxRecDepth 100000 in
theorem g_nw1 : ∀ w ∈ ([.eq (.static "java/lang/String" "COMPACT_STRINGS" "Z") (.int 1), .isRef (.static "jdk/internal/util/Preconditions" "SIOOBE_FORMATTER" "Ljava/util/function/BiFunction;"), .isRef (.static Bundle.tN "UNASSIGNED_STACK" Bundle.steD), .isRef (.static Bundle.tN "SUPPRESSED_SENTINEL" Bundle.listD)] : List Cond), w ∈ flatC (Jvm.Cond.and given_1 narrow_1) := by decide +kernel
set_option maxRecDepth 100000 in
theorem g_nw2 : ∀ q ∈ g_xs, ∀ r ∈ g_xs, q ≠ r → Cond.not (.castable q r) ∈ flatC (Jvm.Cond.and given_1 narrow_1) := by decide +kernel
theorem g_start {args : Array Value} {s : State} {A : Nat → Prop} (hts : ∀ w ∈ lw_tbl, w.before args s = true) (hg : (Jvm.Cond.and given_1 narrow_1).before args s = true) (hA : ∀ a : Nat, a < s.heap.size → ¬ A a) : g_E A s s.heap := by
  have hF := flat_of_before _ hg
  have t1 := fun w hw => hts w (g_tb1 w hw)
  have n1 := fun w hw => hF w (g_nw1 w hw)
  refine ⟨⟨fun q hq => va_Nw.of rfl (hts _ (g_mn hq)), va_Nw.of rfl (t1 _ (List.mem_of_getElem? (i := 0) rfl)), ?_, fun q hq => ⟨va_Nw.of rfl (hts _ (g_tb2 q hq)), fun r hr hne => va_Nc.of (hF _ (g_nw2 q hq r hr hne))⟩, fun q hq => ⟨va_Nw.of rfl (hts _ (g_tb3 q hq).1), va_Nw.of rfl (hts _ (g_tb3 q hq).2)⟩⟩, vx_Zqof (t1 _ (List.mem_of_getElem? (i := 4) rfl)) (t1 _ (List.mem_of_getElem? (i := 8) rfl)) (n1 _ (List.mem_of_getElem? (i := 2) rfl)) hA, vx_Zqof (t1 _ (List.mem_of_getElem? (i := 5) rfl)) (t1 _ (List.mem_of_getElem? (i := 8) rfl)) (n1 _ (List.mem_of_getElem? (i := 3) rfl)) hA, ⟨va_Zof (t1 _ (List.mem_of_getElem? (i := 2) rfl)) (t1 _ (List.mem_of_getElem? (i := 6) rfl)) (va_eqi (n1 _ (List.mem_of_getElem? (i := 0) rfl))) hA, va_Zqof (t1 _ (List.mem_of_getElem? (i := 3) rfl)) (t1 _ (List.mem_of_getElem? (i := 7) rfl)) (n1 _ (List.mem_of_getElem? (i := 1) rfl)) hA⟩, fun x hx => g_Sof (g_lens x hx) (fun w hw => hF w (g_flat hx hw)) (hts _ (g_sref hx)) hA⟩
  exact va_AO.of (t1 _ (List.mem_of_getElem? (i := 1) rfl))
