/-! worlds of blocks: cells told by their blocks -/
theorem nd_iff : ∀ {l : List Nat}, va_nd l = true ↔ l.Nodup
  | [] => ⟨fun _ => List.nodup_nil, fun _ => rfl⟩
  | a :: l => by
    simp only [va_nd, Bool.and_eq_true, decide_eq_true_eq, List.nodup_cons]
    rw [nd_iff]
def bx_off (bs : List va_W) (i : Nat) : Nat := ((bs.take i).flatten).length
/-- the cells of some blocks -/
def bx_ix (bs : List va_W) (is : List Nat) : List Nat := is.flatMap (fun i => List.range' (bx_off bs i) (bs.getD i []).length)
theorem bx_get {bs : List va_W} {i : Nat} {b : va_W} (h : bs[i]? = some b) (k : Nat) (hk : k < b.length) : bs.flatten[bx_off bs i + k]? = b[k]? := by
  have hi : i < bs.length := (List.getElem?_eq_some_iff.mp h).1
  have e : bs = bs.take i ++ (b :: bs.drop (i + 1)) := by
    have h2 := List.getElem?_eq_some_iff.mp h
    rw [← h2.2, ← List.drop_eq_getElem_cons hi, List.take_append_drop]
  have e2 : bs.flatten = (bs.take i).flatten ++ (b ++ (bs.drop (i + 1)).flatten) := by
    rw [congrArg List.flatten e, List.flatten_append, List.flatten_cons]
  rw [e2]
  unfold bx_off
  rw [List.getElem?_append_right (by omega), Nat.add_sub_cancel_left, List.getElem?_append_left hk]
theorem bx_blk {bs : List va_W} {i : Nat} {b : va_W} (h : bs[i]? = some b) : (List.range' (bx_off bs i) b.length).map (fun k => bs.flatten[k]?) = b.map some := by
  apply List.ext_getElem?
  intro k
  by_cases hk : k < b.length
  · rw [List.getElem?_map, List.getElem?_range' hk, Option.map_some, Nat.one_mul, bx_get h k hk, List.getElem?_map, List.getElem?_eq_getElem hk]; rfl
  · rw [List.getElem?_eq_none (by rw [List.length_map, List.length_range']; omega), List.getElem?_eq_none (by rw [List.length_map]; omega)]
theorem bx_c {bs : List va_W} : ∀ {is : List Nat} {bs' : List va_W}, is.map (fun i => bs[i]?) = bs'.map some → (bx_ix bs is).map (fun k => bs.flatten[k]?) = bs'.flatten.map some
  | [], [], _ => rfl
  | [], _ :: _, h => nomatch h
  | _ :: _, [], h => nomatch h
  | i :: is, b :: bs', h => by
    have h1 : bs[i]? = some b := (List.cons.inj h).1
    have h2 := bx_c (List.cons.inj h).2
    show (List.flatMap _ (i :: is)).map _ = _
    rw [List.flatMap_cons, List.map_append, List.flatten_cons, List.map_append]
    have e : (bs.getD i []) = b := by rw [List.getD_eq_getElem?_getD, h1]; rfl
    rw [e, bx_blk h1]
    exact congrArg (b.map some ++ ·) h2
theorem bx_le {bs : List va_W} {i j : Nat} (h : i < j) : bx_off bs i + (bs.getD i []).length ≤ bx_off bs j := by
  unfold bx_off
  by_cases hi : i < bs.length
  · have e : bs.take j = bs.take i ++ (bs[i] :: ((bs.take j).drop (i + 1))) := by
      have e0 := (List.take_append_drop i (bs.take j)).symm
      rw [List.take_take, Nat.min_eq_left (Nat.le_of_lt h)] at e0
      have hl : i < (bs.take j).length := by rw [List.length_take]; omega
      have e1 : (bs.take j)[i] = bs[i] := List.getElem_take
      rw [List.drop_eq_getElem_cons hl, e1] at e0
      exact e0
    rw [congrArg List.flatten e, List.flatten_append, List.length_append, List.flatten_cons, List.length_append, List.getD_eq_getElem?_getD, List.getElem?_eq_getElem hi]
    show _ + (bs[i]).length ≤ _
    omega
  · rw [List.getD_eq_getElem?_getD, List.getElem?_eq_none (by omega), List.take_of_length_le (by omega), List.take_of_length_le (by omega)]
    exact Nat.le_refl _
theorem bx_mem {bs : List va_W} {is : List Nat} {k : Nat} (h : k ∈ bx_ix bs is) : ∃ i ∈ is, bx_off bs i ≤ k ∧ k < bx_off bs i + (bs.getD i []).length := by
  obtain ⟨i, h1, h2⟩ := List.mem_flatMap.mp h
  obtain ⟨z, h3, h4⟩ := List.mem_range'.mp h2
  exact ⟨i, h1, by omega, by omega⟩
theorem bx_ap {bs : List va_W} {i j k : Nat} (h : i ≠ j) (hi : bx_off bs i ≤ k ∧ k < bx_off bs i + (bs.getD i []).length) (hj : bx_off bs j ≤ k ∧ k < bx_off bs j + (bs.getD j []).length) : False := by
  rcases Nat.lt_or_ge i j with q | q
  · have := bx_le (bs := bs) q; omega
  · have := bx_le (bs := bs) (show j < i by omega); omega
theorem bx_d {bs : List va_W} {is js : List Nat} (h : ∀ i ∈ is, i ∉ js) : ∀ k ∈ bx_ix bs is, k ∉ bx_ix bs js := by
  intro k hk hj
  obtain ⟨i, i1, i2⟩ := bx_mem hk
  obtain ⟨j, j1, j2⟩ := bx_mem hj
  exact bx_ap (i := i) (j := j) (fun e => h i i1 (by rw [e]; exact j1)) i2 j2
theorem bx_n {bs : List va_W} : ∀ {is : List Nat}, va_nd is = true → va_nd (bx_ix bs is) = true
  | [], _ => rfl
  | i :: is, h => by
    have hn := nd_iff.mp h
    have h2 := List.nodup_cons.mp hn
    rw [nd_iff]
    show (List.flatMap _ (i :: is)).Nodup
    rw [List.flatMap_cons, List.nodup_append]
    refine ⟨List.nodup_range', nd_iff.mp (bx_n (nd_iff.mpr h2.2)), fun a ha b hb e => ?_⟩
    subst e
    obtain ⟨z, z1, z2⟩ := List.mem_range'.mp ha
    obtain ⟨j, j1, j2⟩ := bx_mem hb
    exact bx_ap (i := i) (j := j) (fun e => h2.1 (by rw [e]; exact j1)) ⟨by omega, by omega⟩ j2
/-- the same, said of worlds -/
theorem bx_C {ws ws' : va_W} {bs bs' : List va_W} (e : bs.flatten = ws) (e' : bs'.flatten = ws') {is : List Nat} (h : is.map (fun i => bs[i]?) = bs'.map some) : (bx_ix bs is).map (fun k => ws[k]?) = ws'.map some := by
  subst e e'; exact bx_c h
theorem pk_fm {α : Type} {ws : List α} : ∀ {is : List Nat} {ws' : List α}, is.map (fun i => ws[i]?) = ws'.map some → is.filterMap (fun i => ws[i]?) = ws'
  | [], [], _ => rfl
  | [], _ :: _, h => nomatch h
  | _ :: _, [], h => nomatch h
  | i :: is, b :: ws', h => by
    have h1 : ws[i]? = some b := (List.cons.inj h).1
    rw [List.filterMap_cons, h1]
    exact congrArg (b :: ·) (pk_fm (List.cons.inj h).2)
theorem bx_P {D : va_G} {cl : List vw_C} {ws ws' : va_W} {H : Heap} {bs bs' : List va_W} (hP : va_P D cl ws H) (e : bs.flatten = ws) (e' : bs'.flatten = ws') (is : List Nat) (h : is.map (fun i => bs[i]?) = bs'.map some) : va_P D cl ws' H := hP.sub (bx_ix bs is) (pk_fm (bx_C e e' h))
theorem bx_D {A : Nat → Prop} {ws ws' : va_W} {bs bs' : List va_W} (hD : va_D A ws) (e : bs.flatten = ws) (e' : bs'.flatten = ws') (is : List Nat) (hn : va_nd is = true) (h : is.map (fun i => bs[i]?) = bs'.map some) : va_D A ws' := hD.sub (bx_ix bs is) (bx_n hn) (bx_C e e' h)
theorem bx_F {A0 : Nat → Prop} {ws wc : va_W} {H0 H : Heap} {locs : List Loc} {bs bs' : List va_W} (hD : va_D A0 ws) (hS : va_S A0 H0 H locs) (hA : ∀ q, H0.size ≤ q → A0 q) (e : bs.flatten = ws) (e' : bs'.flatten = wc) (is : List Nat) (h : is.map (fun i => bs[i]?) = bs'.map some) : ∀ q, va_A wc H.size q → A0 q := va_free hD hS hA (bx_ix bs is) (bx_C e e' h)
theorem fl_0 : ([] : List va_W).flatten = [] := rfl
theorem fl_1 {a : va_W} : [a].flatten = a := by simp
theorem fl_s {bs : List va_W} {w a : va_W} (h : bs.flatten = w) : (bs ++ [a]).flatten = w ++ a := by rw [List.flatten_append, h]; simp
theorem fl_2 {a b : va_W} : [a, b].flatten = a ++ b := fl_s (bs := [a]) fl_1
theorem fl_3 {a b c : va_W} : [a, b, c].flatten = a ++ b ++ c := fl_s (bs := [a, b]) fl_2
theorem fl_4 {a b c d : va_W} : [a, b, c, d].flatten = a ++ b ++ c ++ d := fl_s (bs := [a, b, c]) fl_3
theorem fl_5 {a b c d e : va_W} : [a, b, c, d, e].flatten = a ++ b ++ c ++ d ++ e := fl_s (bs := [a, b, c, d]) fl_4
theorem fl_6 {a b c d e f : va_W} : [a, b, c, d, e, f].flatten = a ++ b ++ c ++ d ++ e ++ f := fl_s (bs := [a, b, c, d, e]) fl_5
theorem fl_7 {a b c d e f g : va_W} : [a, b, c, d, e, f, g].flatten = a ++ b ++ c ++ d ++ e ++ f ++ g := fl_s (bs := [a, b, c, d, e, f]) fl_6
theorem fl_8 {a b c d e f g h : va_W} : [a, b, c, d, e, f, g, h].flatten = a ++ b ++ c ++ d ++ e ++ f ++ g ++ h := fl_s (bs := [a, b, c, d, e, f, g]) fl_7
theorem fl_9 {a b c d e f g h i : va_W} : [a, b, c, d, e, f, g, h, i].flatten = a ++ b ++ c ++ d ++ e ++ f ++ g ++ h ++ i := fl_s (bs := [a, b, c, d, e, f, g, h]) fl_8
theorem fl_10 {a0 a1 a2 a3 a4 a5 a6 a7 a8 a9 : va_W} : [a0, a1, a2, a3, a4, a5, a6, a7, a8, a9].flatten = a0 ++ a1 ++ a2 ++ a3 ++ a4 ++ a5 ++ a6 ++ a7 ++ a8 ++ a9 := fl_s (bs := [a0, a1, a2, a3, a4, a5, a6, a7, a8]) fl_9
theorem fl_11 {a0 a1 a2 a3 a4 a5 a6 a7 a8 a9 a10 : va_W} : [a0, a1, a2, a3, a4, a5, a6, a7, a8, a9, a10].flatten = a0 ++ a1 ++ a2 ++ a3 ++ a4 ++ a5 ++ a6 ++ a7 ++ a8 ++ a9 ++ a10 := fl_s (bs := [a0, a1, a2, a3, a4, a5, a6, a7, a8, a9]) fl_10
theorem fl_12 {a0 a1 a2 a3 a4 a5 a6 a7 a8 a9 a10 a11 : va_W} : [a0, a1, a2, a3, a4, a5, a6, a7, a8, a9, a10, a11].flatten = a0 ++ a1 ++ a2 ++ a3 ++ a4 ++ a5 ++ a6 ++ a7 ++ a8 ++ a9 ++ a10 ++ a11 := fl_s (bs := [a0, a1, a2, a3, a4, a5, a6, a7, a8, a9, a10]) fl_11
theorem fl_13 {a0 a1 a2 a3 a4 a5 a6 a7 a8 a9 a10 a11 a12 : va_W} : [a0, a1, a2, a3, a4, a5, a6, a7, a8, a9, a10, a11, a12].flatten = a0 ++ a1 ++ a2 ++ a3 ++ a4 ++ a5 ++ a6 ++ a7 ++ a8 ++ a9 ++ a10 ++ a11 ++ a12 := fl_s (bs := [a0, a1, a2, a3, a4, a5, a6, a7, a8, a9, a10, a11]) fl_12
theorem fl_14 {a0 a1 a2 a3 a4 a5 a6 a7 a8 a9 a10 a11 a12 a13 : va_W} : [a0, a1, a2, a3, a4, a5, a6, a7, a8, a9, a10, a11, a12, a13].flatten = a0 ++ a1 ++ a2 ++ a3 ++ a4 ++ a5 ++ a6 ++ a7 ++ a8 ++ a9 ++ a10 ++ a11 ++ a12 ++ a13 := fl_s (bs := [a0, a1, a2, a3, a4, a5, a6, a7, a8, a9, a10, a11, a12]) fl_13
theorem fl_15 {a0 a1 a2 a3 a4 a5 a6 a7 a8 a9 a10 a11 a12 a13 a14 : va_W} : [a0, a1, a2, a3, a4, a5, a6, a7, a8, a9, a10, a11, a12, a13, a14].flatten = a0 ++ a1 ++ a2 ++ a3 ++ a4 ++ a5 ++ a6 ++ a7 ++ a8 ++ a9 ++ a10 ++ a11 ++ a12 ++ a13 ++ a14 := fl_s (bs := [a0, a1, a2, a3, a4, a5, a6, a7, a8, a9, a10, a11, a12, a13]) fl_14
theorem fl_16 {a0 a1 a2 a3 a4 a5 a6 a7 a8 a9 a10 a11 a12 a13 a14 a15 : va_W} : [a0, a1, a2, a3, a4, a5, a6, a7, a8, a9, a10, a11, a12, a13, a14, a15].flatten = a0 ++ a1 ++ a2 ++ a3 ++ a4 ++ a5 ++ a6 ++ a7 ++ a8 ++ a9 ++ a10 ++ a11 ++ a12 ++ a13 ++ a14 ++ a15 := fl_s (bs := [a0, a1, a2, a3, a4, a5, a6, a7, a8, a9, a10, a11, a12, a13, a14]) fl_15
theorem fl_17 {a0 a1 a2 a3 a4 a5 a6 a7 a8 a9 a10 a11 a12 a13 a14 a15 a16 : va_W} : [a0, a1, a2, a3, a4, a5, a6, a7, a8, a9, a10, a11, a12, a13, a14, a15, a16].flatten = a0 ++ a1 ++ a2 ++ a3 ++ a4 ++ a5 ++ a6 ++ a7 ++ a8 ++ a9 ++ a10 ++ a11 ++ a12 ++ a13 ++ a14 ++ a15 ++ a16 := fl_s (bs := [a0, a1, a2, a3, a4, a5, a6, a7, a8, a9, a10, a11, a12, a13, a14, a15]) fl_16
theorem fl_18 {a0 a1 a2 a3 a4 a5 a6 a7 a8 a9 a10 a11 a12 a13 a14 a15 a16 a17 : va_W} : [a0, a1, a2, a3, a4, a5, a6, a7, a8, a9, a10, a11, a12, a13, a14, a15, a16, a17].flatten = a0 ++ a1 ++ a2 ++ a3 ++ a4 ++ a5 ++ a6 ++ a7 ++ a8 ++ a9 ++ a10 ++ a11 ++ a12 ++ a13 ++ a14 ++ a15 ++ a16 ++ a17 := fl_s (bs := [a0, a1, a2, a3, a4, a5, a6, a7, a8, a9, a10, a11, a12, a13, a14, a15, a16]) fl_17
theorem fl_19 {a0 a1 a2 a3 a4 a5 a6 a7 a8 a9 a10 a11 a12 a13 a14 a15 a16 a17 a18 : va_W} : [a0, a1, a2, a3, a4, a5, a6, a7, a8, a9, a10, a11, a12, a13, a14, a15, a16, a17, a18].flatten = a0 ++ a1 ++ a2 ++ a3 ++ a4 ++ a5 ++ a6 ++ a7 ++ a8 ++ a9 ++ a10 ++ a11 ++ a12 ++ a13 ++ a14 ++ a15 ++ a16 ++ a17 ++ a18 := fl_s (bs := [a0, a1, a2, a3, a4, a5, a6, a7, a8, a9, a10, a11, a12, a13, a14, a15, a16, a17]) fl_18
theorem fl_20 {a0 a1 a2 a3 a4 a5 a6 a7 a8 a9 a10 a11 a12 a13 a14 a15 a16 a17 a18 a19 : va_W} : [a0, a1, a2, a3, a4, a5, a6, a7, a8, a9, a10, a11, a12, a13, a14, a15, a16, a17, a18, a19].flatten = a0 ++ a1 ++ a2 ++ a3 ++ a4 ++ a5 ++ a6 ++ a7 ++ a8 ++ a9 ++ a10 ++ a11 ++ a12 ++ a13 ++ a14 ++ a15 ++ a16 ++ a17 ++ a18 ++ a19 := fl_s (bs := [a0, a1, a2, a3, a4, a5, a6, a7, a8, a9, a10, a11, a12, a13, a14, a15, a16, a17, a18]) fl_19
theorem fl_21 {a0 a1 a2 a3 a4 a5 a6 a7 a8 a9 a10 a11 a12 a13 a14 a15 a16 a17 a18 a19 a20 : va_W} : [a0, a1, a2, a3, a4, a5, a6, a7, a8, a9, a10, a11, a12, a13, a14, a15, a16, a17, a18, a19, a20].flatten = a0 ++ a1 ++ a2 ++ a3 ++ a4 ++ a5 ++ a6 ++ a7 ++ a8 ++ a9 ++ a10 ++ a11 ++ a12 ++ a13 ++ a14 ++ a15 ++ a16 ++ a17 ++ a18 ++ a19 ++ a20 := fl_s (bs := [a0, a1, a2, a3, a4, a5, a6, a7, a8, a9, a10, a11, a12, a13, a14, a15, a16, a17, a18, a19]) fl_20
theorem fl_22 {a0 a1 a2 a3 a4 a5 a6 a7 a8 a9 a10 a11 a12 a13 a14 a15 a16 a17 a18 a19 a20 a21 : va_W} : [a0, a1, a2, a3, a4, a5, a6, a7, a8, a9, a10, a11, a12, a13, a14, a15, a16, a17, a18, a19, a20, a21].flatten = a0 ++ a1 ++ a2 ++ a3 ++ a4 ++ a5 ++ a6 ++ a7 ++ a8 ++ a9 ++ a10 ++ a11 ++ a12 ++ a13 ++ a14 ++ a15 ++ a16 ++ a17 ++ a18 ++ a19 ++ a20 ++ a21 := fl_s (bs := [a0, a1, a2, a3, a4, a5, a6, a7, a8, a9, a10, a11, a12, a13, a14, a15, a16, a17, a18, a19, a20]) fl_21
theorem fl_23 {a0 a1 a2 a3 a4 a5 a6 a7 a8 a9 a10 a11 a12 a13 a14 a15 a16 a17 a18 a19 a20 a21 a22 : va_W} : [a0, a1, a2, a3, a4, a5, a6, a7, a8, a9, a10, a11, a12, a13, a14, a15, a16, a17, a18, a19, a20, a21, a22].flatten = a0 ++ a1 ++ a2 ++ a3 ++ a4 ++ a5 ++ a6 ++ a7 ++ a8 ++ a9 ++ a10 ++ a11 ++ a12 ++ a13 ++ a14 ++ a15 ++ a16 ++ a17 ++ a18 ++ a19 ++ a20 ++ a21 ++ a22 := fl_s (bs := [a0, a1, a2, a3, a4, a5, a6, a7, a8, a9, a10, a11, a12, a13, a14, a15, a16, a17, a18, a19, a20, a21]) fl_22
theorem fl_24 {a0 a1 a2 a3 a4 a5 a6 a7 a8 a9 a10 a11 a12 a13 a14 a15 a16 a17 a18 a19 a20 a21 a22 a23 : va_W} : [a0, a1, a2, a3, a4, a5, a6, a7, a8, a9, a10, a11, a12, a13, a14, a15, a16, a17, a18, a19, a20, a21, a22, a23].flatten = a0 ++ a1 ++ a2 ++ a3 ++ a4 ++ a5 ++ a6 ++ a7 ++ a8 ++ a9 ++ a10 ++ a11 ++ a12 ++ a13 ++ a14 ++ a15 ++ a16 ++ a17 ++ a18 ++ a19 ++ a20 ++ a21 ++ a22 ++ a23 := fl_s (bs := [a0, a1, a2, a3, a4, a5, a6, a7, a8, a9, a10, a11, a12, a13, a14, a15, a16, a17, a18, a19, a20, a21, a22]) fl_23
theorem fl_25 {a0 a1 a2 a3 a4 a5 a6 a7 a8 a9 a10 a11 a12 a13 a14 a15 a16 a17 a18 a19 a20 a21 a22 a23 a24 : va_W} : [a0, a1, a2, a3, a4, a5, a6, a7, a8, a9, a10, a11, a12, a13, a14, a15, a16, a17, a18, a19, a20, a21, a22, a23, a24].flatten = a0 ++ a1 ++ a2 ++ a3 ++ a4 ++ a5 ++ a6 ++ a7 ++ a8 ++ a9 ++ a10 ++ a11 ++ a12 ++ a13 ++ a14 ++ a15 ++ a16 ++ a17 ++ a18 ++ a19 ++ a20 ++ a21 ++ a22 ++ a23 ++ a24 := fl_s (bs := [a0, a1, a2, a3, a4, a5, a6, a7, a8, a9, a10, a11, a12, a13, a14, a15, a16, a17, a18, a19, a20, a21, a22, a23]) fl_24
theorem fl_26 {a0 a1 a2 a3 a4 a5 a6 a7 a8 a9 a10 a11 a12 a13 a14 a15 a16 a17 a18 a19 a20 a21 a22 a23 a24 a25 : va_W} : [a0, a1, a2, a3, a4, a5, a6, a7, a8, a9, a10, a11, a12, a13, a14, a15, a16, a17, a18, a19, a20, a21, a22, a23, a24, a25].flatten = a0 ++ a1 ++ a2 ++ a3 ++ a4 ++ a5 ++ a6 ++ a7 ++ a8 ++ a9 ++ a10 ++ a11 ++ a12 ++ a13 ++ a14 ++ a15 ++ a16 ++ a17 ++ a18 ++ a19 ++ a20 ++ a21 ++ a22 ++ a23 ++ a24 ++ a25 := fl_s (bs := [a0, a1, a2, a3, a4, a5, a6, a7, a8, a9, a10, a11, a12, a13, a14, a15, a16, a17, a18, a19, a20, a21, a22, a23, a24]) fl_25
theorem fl_27 {a0 a1 a2 a3 a4 a5 a6 a7 a8 a9 a10 a11 a12 a13 a14 a15 a16 a17 a18 a19 a20 a21 a22 a23 a24 a25 a26 : va_W} : [a0, a1, a2, a3, a4, a5, a6, a7, a8, a9, a10, a11, a12, a13, a14, a15, a16, a17, a18, a19, a20, a21, a22, a23, a24, a25, a26].flatten = a0 ++ a1 ++ a2 ++ a3 ++ a4 ++ a5 ++ a6 ++ a7 ++ a8 ++ a9 ++ a10 ++ a11 ++ a12 ++ a13 ++ a14 ++ a15 ++ a16 ++ a17 ++ a18 ++ a19 ++ a20 ++ a21 ++ a22 ++ a23 ++ a24 ++ a25 ++ a26 := fl_s (bs := [a0, a1, a2, a3, a4, a5, a6, a7, a8, a9, a10, a11, a12, a13, a14, a15, a16, a17, a18, a19, a20, a21, a22, a23, a24, a25]) fl_26
theorem fl_28 {a0 a1 a2 a3 a4 a5 a6 a7 a8 a9 a10 a11 a12 a13 a14 a15 a16 a17 a18 a19 a20 a21 a22 a23 a24 a25 a26 a27 : va_W} : [a0, a1, a2, a3, a4, a5, a6, a7, a8, a9, a10, a11, a12, a13, a14, a15, a16, a17, a18, a19, a20, a21, a22, a23, a24, a25, a26, a27].flatten = a0 ++ a1 ++ a2 ++ a3 ++ a4 ++ a5 ++ a6 ++ a7 ++ a8 ++ a9 ++ a10 ++ a11 ++ a12 ++ a13 ++ a14 ++ a15 ++ a16 ++ a17 ++ a18 ++ a19 ++ a20 ++ a21 ++ a22 ++ a23 ++ a24 ++ a25 ++ a26 ++ a27 := fl_s (bs := [a0, a1, a2, a3, a4, a5, a6, a7, a8, a9, a10, a11, a12, a13, a14, a15, a16, a17, a18, a19, a20, a21, a22, a23, a24, a25, a26]) fl_27
theorem fl_29 {a0 a1 a2 a3 a4 a5 a6 a7 a8 a9 a10 a11 a12 a13 a14 a15 a16 a17 a18 a19 a20 a21 a22 a23 a24 a25 a26 a27 a28 : va_W} : [a0, a1, a2, a3, a4, a5, a6, a7, a8, a9, a10, a11, a12, a13, a14, a15, a16, a17, a18, a19, a20, a21, a22, a23, a24, a25, a26, a27, a28].flatten = a0 ++ a1 ++ a2 ++ a3 ++ a4 ++ a5 ++ a6 ++ a7 ++ a8 ++ a9 ++ a10 ++ a11 ++ a12 ++ a13 ++ a14 ++ a15 ++ a16 ++ a17 ++ a18 ++ a19 ++ a20 ++ a21 ++ a22 ++ a23 ++ a24 ++ a25 ++ a26 ++ a27 ++ a28 := fl_s (bs := [a0, a1, a2, a3, a4, a5, a6, a7, a8, a9, a10, a11, a12, a13, a14, a15, a16, a17, a18, a19, a20, a21, a22, a23, a24, a25, a26, a27]) fl_28
theorem fl_30 {a0 a1 a2 a3 a4 a5 a6 a7 a8 a9 a10 a11 a12 a13 a14 a15 a16 a17 a18 a19 a20 a21 a22 a23 a24 a25 a26 a27 a28 a29 : va_W} : [a0, a1, a2, a3, a4, a5, a6, a7, a8, a9, a10, a11, a12, a13, a14, a15, a16, a17, a18, a19, a20, a21, a22, a23, a24, a25, a26, a27, a28, a29].flatten = a0 ++ a1 ++ a2 ++ a3 ++ a4 ++ a5 ++ a6 ++ a7 ++ a8 ++ a9 ++ a10 ++ a11 ++ a12 ++ a13 ++ a14 ++ a15 ++ a16 ++ a17 ++ a18 ++ a19 ++ a20 ++ a21 ++ a22 ++ a23 ++ a24 ++ a25 ++ a26 ++ a27 ++ a28 ++ a29 := fl_s (bs := [a0, a1, a2, a3, a4, a5, a6, a7, a8, a9, a10, a11, a12, a13, a14, a15, a16, a17, a18, a19, a20, a21, a22, a23, a24, a25, a26, a27, a28]) fl_29
theorem fl_31 {a0 a1 a2 a3 a4 a5 a6 a7 a8 a9 a10 a11 a12 a13 a14 a15 a16 a17 a18 a19 a20 a21 a22 a23 a24 a25 a26 a27 a28 a29 a30 : va_W} : [a0, a1, a2, a3, a4, a5, a6, a7, a8, a9, a10, a11, a12, a13, a14, a15, a16, a17, a18, a19, a20, a21, a22, a23, a24, a25, a26, a27, a28, a29, a30].flatten = a0 ++ a1 ++ a2 ++ a3 ++ a4 ++ a5 ++ a6 ++ a7 ++ a8 ++ a9 ++ a10 ++ a11 ++ a12 ++ a13 ++ a14 ++ a15 ++ a16 ++ a17 ++ a18 ++ a19 ++ a20 ++ a21 ++ a22 ++ a23 ++ a24 ++ a25 ++ a26 ++ a27 ++ a28 ++ a29 ++ a30 := fl_s (bs := [a0, a1, a2, a3, a4, a5, a6, a7, a8, a9, a10, a11, a12, a13, a14, a15, a16, a17, a18, a19, a20, a21, a22, a23, a24, a25, a26, a27, a28, a29]) fl_30
theorem fl_32 {a0 a1 a2 a3 a4 a5 a6 a7 a8 a9 a10 a11 a12 a13 a14 a15 a16 a17 a18 a19 a20 a21 a22 a23 a24 a25 a26 a27 a28 a29 a30 a31 : va_W} : [a0, a1, a2, a3, a4, a5, a6, a7, a8, a9, a10, a11, a12, a13, a14, a15, a16, a17, a18, a19, a20, a21, a22, a23, a24, a25, a26, a27, a28, a29, a30, a31].flatten = a0 ++ a1 ++ a2 ++ a3 ++ a4 ++ a5 ++ a6 ++ a7 ++ a8 ++ a9 ++ a10 ++ a11 ++ a12 ++ a13 ++ a14 ++ a15 ++ a16 ++ a17 ++ a18 ++ a19 ++ a20 ++ a21 ++ a22 ++ a23 ++ a24 ++ a25 ++ a26 ++ a27 ++ a28 ++ a29 ++ a30 ++ a31 := fl_s (bs := [a0, a1, a2, a3, a4, a5, a6, a7, a8, a9, a10, a11, a12, a13, a14, a15, a16, a17, a18, a19, a20, a21, a22, a23, a24, a25, a26, a27, a28, a29, a30]) fl_31
theorem fl_33 {a0 a1 a2 a3 a4 a5 a6 a7 a8 a9 a10 a11 a12 a13 a14 a15 a16 a17 a18 a19 a20 a21 a22 a23 a24 a25 a26 a27 a28 a29 a30 a31 a32 : va_W} : [a0, a1, a2, a3, a4, a5, a6, a7, a8, a9, a10, a11, a12, a13, a14, a15, a16, a17, a18, a19, a20, a21, a22, a23, a24, a25, a26, a27, a28, a29, a30, a31, a32].flatten = a0 ++ a1 ++ a2 ++ a3 ++ a4 ++ a5 ++ a6 ++ a7 ++ a8 ++ a9 ++ a10 ++ a11 ++ a12 ++ a13 ++ a14 ++ a15 ++ a16 ++ a17 ++ a18 ++ a19 ++ a20 ++ a21 ++ a22 ++ a23 ++ a24 ++ a25 ++ a26 ++ a27 ++ a28 ++ a29 ++ a30 ++ a31 ++ a32 := fl_s (bs := [a0, a1, a2, a3, a4, a5, a6, a7, a8, a9, a10, a11, a12, a13, a14, a15, a16, a17, a18, a19, a20, a21, a22, a23, a24, a25, a26, a27, a28, a29, a30, a31]) fl_32
theorem fl_34 {a0 a1 a2 a3 a4 a5 a6 a7 a8 a9 a10 a11 a12 a13 a14 a15 a16 a17 a18 a19 a20 a21 a22 a23 a24 a25 a26 a27 a28 a29 a30 a31 a32 a33 : va_W} : [a0, a1, a2, a3, a4, a5, a6, a7, a8, a9, a10, a11, a12, a13, a14, a15, a16, a17, a18, a19, a20, a21, a22, a23, a24, a25, a26, a27, a28, a29, a30, a31, a32, a33].flatten = a0 ++ a1 ++ a2 ++ a3 ++ a4 ++ a5 ++ a6 ++ a7 ++ a8 ++ a9 ++ a10 ++ a11 ++ a12 ++ a13 ++ a14 ++ a15 ++ a16 ++ a17 ++ a18 ++ a19 ++ a20 ++ a21 ++ a22 ++ a23 ++ a24 ++ a25 ++ a26 ++ a27 ++ a28 ++ a29 ++ a30 ++ a31 ++ a32 ++ a33 := fl_s (bs := [a0, a1, a2, a3, a4, a5, a6, a7, a8, a9, a10, a11, a12, a13, a14, a15, a16, a17, a18, a19, a20, a21, a22, a23, a24, a25, a26, a27, a28, a29, a30, a31, a32]) fl_33
theorem fl_35 {a0 a1 a2 a3 a4 a5 a6 a7 a8 a9 a10 a11 a12 a13 a14 a15 a16 a17 a18 a19 a20 a21 a22 a23 a24 a25 a26 a27 a28 a29 a30 a31 a32 a33 a34 : va_W} : [a0, a1, a2, a3, a4, a5, a6, a7, a8, a9, a10, a11, a12, a13, a14, a15, a16, a17, a18, a19, a20, a21, a22, a23, a24, a25, a26, a27, a28, a29, a30, a31, a32, a33, a34].flatten = a0 ++ a1 ++ a2 ++ a3 ++ a4 ++ a5 ++ a6 ++ a7 ++ a8 ++ a9 ++ a10 ++ a11 ++ a12 ++ a13 ++ a14 ++ a15 ++ a16 ++ a17 ++ a18 ++ a19 ++ a20 ++ a21 ++ a22 ++ a23 ++ a24 ++ a25 ++ a26 ++ a27 ++ a28 ++ a29 ++ a30 ++ a31 ++ a32 ++ a33 ++ a34 := fl_s (bs := [a0, a1, a2, a3, a4, a5, a6, a7, a8, a9, a10, a11, a12, a13, a14, a15, a16, a17, a18, a19, a20, a21, a22, a23, a24, a25, a26, a27, a28, a29, a30, a31, a32, a33]) fl_34
theorem fl_36 {a0 a1 a2 a3 a4 a5 a6 a7 a8 a9 a10 a11 a12 a13 a14 a15 a16 a17 a18 a19 a20 a21 a22 a23 a24 a25 a26 a27 a28 a29 a30 a31 a32 a33 a34 a35 : va_W} : [a0, a1, a2, a3, a4, a5, a6, a7, a8, a9, a10, a11, a12, a13, a14, a15, a16, a17, a18, a19, a20, a21, a22, a23, a24, a25, a26, a27, a28, a29, a30, a31, a32, a33, a34, a35].flatten = a0 ++ a1 ++ a2 ++ a3 ++ a4 ++ a5 ++ a6 ++ a7 ++ a8 ++ a9 ++ a10 ++ a11 ++ a12 ++ a13 ++ a14 ++ a15 ++ a16 ++ a17 ++ a18 ++ a19 ++ a20 ++ a21 ++ a22 ++ a23 ++ a24 ++ a25 ++ a26 ++ a27 ++ a28 ++ a29 ++ a30 ++ a31 ++ a32 ++ a33 ++ a34 ++ a35 := fl_s (bs := [a0, a1, a2, a3, a4, a5, a6, a7, a8, a9, a10, a11, a12, a13, a14, a15, a16, a17, a18, a19, a20, a21, a22, a23, a24, a25, a26, a27, a28, a29, a30, a31, a32, a33, a34]) fl_35
theorem fl_37 {a0 a1 a2 a3 a4 a5 a6 a7 a8 a9 a10 a11 a12 a13 a14 a15 a16 a17 a18 a19 a20 a21 a22 a23 a24 a25 a26 a27 a28 a29 a30 a31 a32 a33 a34 a35 a36 : va_W} : [a0, a1, a2, a3, a4, a5, a6, a7, a8, a9, a10, a11, a12, a13, a14, a15, a16, a17, a18, a19, a20, a21, a22, a23, a24, a25, a26, a27, a28, a29, a30, a31, a32, a33, a34, a35, a36].flatten = a0 ++ a1 ++ a2 ++ a3 ++ a4 ++ a5 ++ a6 ++ a7 ++ a8 ++ a9 ++ a10 ++ a11 ++ a12 ++ a13 ++ a14 ++ a15 ++ a16 ++ a17 ++ a18 ++ a19 ++ a20 ++ a21 ++ a22 ++ a23 ++ a24 ++ a25 ++ a26 ++ a27 ++ a28 ++ a29 ++ a30 ++ a31 ++ a32 ++ a33 ++ a34 ++ a35 ++ a36 := fl_s (bs := [a0, a1, a2, a3, a4, a5, a6, a7, a8, a9, a10, a11, a12, a13, a14, a15, a16, a17, a18, a19, a20, a21, a22, a23, a24, a25, a26, a27, a28, a29, a30, a31, a32, a33, a34, a35]) fl_36
theorem fl_38 {a0 a1 a2 a3 a4 a5 a6 a7 a8 a9 a10 a11 a12 a13 a14 a15 a16 a17 a18 a19 a20 a21 a22 a23 a24 a25 a26 a27 a28 a29 a30 a31 a32 a33 a34 a35 a36 a37 : va_W} : [a0, a1, a2, a3, a4, a5, a6, a7, a8, a9, a10, a11, a12, a13, a14, a15, a16, a17, a18, a19, a20, a21, a22, a23, a24, a25, a26, a27, a28, a29, a30, a31, a32, a33, a34, a35, a36, a37].flatten = a0 ++ a1 ++ a2 ++ a3 ++ a4 ++ a5 ++ a6 ++ a7 ++ a8 ++ a9 ++ a10 ++ a11 ++ a12 ++ a13 ++ a14 ++ a15 ++ a16 ++ a17 ++ a18 ++ a19 ++ a20 ++ a21 ++ a22 ++ a23 ++ a24 ++ a25 ++ a26 ++ a27 ++ a28 ++ a29 ++ a30 ++ a31 ++ a32 ++ a33 ++ a34 ++ a35 ++ a36 ++ a37 := fl_s (bs := [a0, a1, a2, a3, a4, a5, a6, a7, a8, a9, a10, a11, a12, a13, a14, a15, a16, a17, a18, a19, a20, a21, a22, a23, a24, a25, a26, a27, a28, a29, a30, a31, a32, a33, a34, a35, a36]) fl_37
theorem fl_39 {a0 a1 a2 a3 a4 a5 a6 a7 a8 a9 a10 a11 a12 a13 a14 a15 a16 a17 a18 a19 a20 a21 a22 a23 a24 a25 a26 a27 a28 a29 a30 a31 a32 a33 a34 a35 a36 a37 a38 : va_W} : [a0, a1, a2, a3, a4, a5, a6, a7, a8, a9, a10, a11, a12, a13, a14, a15, a16, a17, a18, a19, a20, a21, a22, a23, a24, a25, a26, a27, a28, a29, a30, a31, a32, a33, a34, a35, a36, a37, a38].flatten = a0 ++ a1 ++ a2 ++ a3 ++ a4 ++ a5 ++ a6 ++ a7 ++ a8 ++ a9 ++ a10 ++ a11 ++ a12 ++ a13 ++ a14 ++ a15 ++ a16 ++ a17 ++ a18 ++ a19 ++ a20 ++ a21 ++ a22 ++ a23 ++ a24 ++ a25 ++ a26 ++ a27 ++ a28 ++ a29 ++ a30 ++ a31 ++ a32 ++ a33 ++ a34 ++ a35 ++ a36 ++ a37 ++ a38 := fl_s (bs := [a0, a1, a2, a3, a4, a5, a6, a7, a8, a9, a10, a11, a12, a13, a14, a15, a16, a17, a18, a19, a20, a21, a22, a23, a24, a25, a26, a27, a28, a29, a30, a31, a32, a33, a34, a35, a36, a37]) fl_38
theorem fl_a {bs bs' : List va_W} {w w' : va_W} (h : bs.flatten = w) (h' : bs'.flatten = w') : (bs ++ bs').flatten = w ++ w' := by rw [List.flatten_append, h, h']
theorem er_C {α : Type} {ws : List α} {pl : Nat} {c : α} (h : ws[pl]? = some c) : [pl].map (fun i => ws[i]?) = [c].map some := by
  show [ws[pl]?] = [some c]
  rw [h]
theorem er_m {α : Type} (ws : List α) : (List.range ws.length).map (fun i => ws[i]?) = ws.map some := by
  apply List.ext_getElem?
  intro k
  by_cases hk : k < ws.length
  · rw [List.getElem?_map, List.getElem?_range hk, Option.map_some, List.getElem?_map, List.getElem?_eq_getElem hk]; rfl
  · rw [List.getElem?_eq_none (by rw [List.length_map, List.length_range]; omega), List.getElem?_eq_none (by rw [List.length_map]; omega)]
theorem er_em {α β : Type} (f : α → β) : ∀ (l : List α) (k : Nat), (l.eraseIdx k).map f = (l.map f).eraseIdx k
  | [], _ => rfl
  | _ :: _, 0 => rfl
  | a :: l, k + 1 => congrArg (f a :: ·) (er_em f l k)
theorem er_R {α : Type} {ws : List α} {pl : Nat} : ((List.range ws.length).eraseIdx pl).map (fun i => ws[i]?) = (ws.eraseIdx pl).map some := by
  rw [er_em, er_em, er_m]
theorem er_n {n pl : Nat} : va_nd ((List.range n).eraseIdx pl) = true := nd_iff.mpr (List.Nodup.sublist (List.eraseIdx_sublist _ _) List.nodup_range)
theorem er_d {n pl : Nat} : ∀ i ∈ (List.range n).eraseIdx pl, i ∉ [pl] := by
  intro i hi h
  obtain rfl := List.mem_singleton.mp h
  obtain ⟨k, hk, e1, e2⟩ := List.mem_eraseIdx_iff_getElem.mp hi
  rw [List.getElem_range] at e2
  omega
theorem er_P {D : va_G} {cl : List vw_C} {ws : va_W} {H : Heap} {pl : Nat} {c' : Nat × va_E} (hP : va_P D cl (ws.eraseIdx pl ++ [c']) H) (hl : pl < ws.length) : va_P D cl (ws.set pl c') H := by
  intro k q hk
  by_cases h : k = pl
  · subst h
    rw [List.getElem?_set_self hl] at hk
    have e : (ws.eraseIdx k ++ [c'])[(ws.eraseIdx k).length]? = some q := by rw [List.getElem?_append_right (Nat.le_refl _), Nat.sub_self]; exact hk
    exact hP _ q e
  · rw [List.getElem?_set_ne (fun e => h e.symm)] at hk
    have hk2 : k < ws.length := (List.getElem?_eq_some_iff.mp hk).1
    by_cases q1 : k < pl
    · have e : (ws.eraseIdx pl ++ [c'])[k]? = some q := by rw [List.getElem?_append_left (by rw [List.length_eraseIdx_of_lt hl]; omega), List.getElem?_eraseIdx_of_lt q1]; exact hk
      exact hP _ q e
    · have e : (ws.eraseIdx pl ++ [c'])[k - 1]? = some q := by
        rw [List.getElem?_append_left (by rw [List.length_eraseIdx_of_lt hl]; omega), List.getElem?_eraseIdx_of_ge (by omega), show k - 1 + 1 = k by omega]; exact hk
      exact hP _ q e
theorem er_I {D : va_G} {cl : List vw_C} {ws : va_W} {H : Heap} {pl : Nat} {c : Nat × va_E} (hP : va_P D cl (ws.eraseIdx pl ++ [c]) H) (h : ws[pl]? = some c) : va_P D cl ws H := by
  have hl := (List.getElem?_eq_some_iff.mp h).1
  have g := er_P hP hl
  have e : ws.set pl c = ws := by
    apply List.ext_getElem?
    intro k
    by_cases q : k = pl
    · subst q; rw [List.getElem?_set_self hl, h]
    · rw [List.getElem?_set_ne (fun e => q e.symm)]
  rw [e] at g; exact g
theorem er_lt {α : Type} {ws : List α} {pl : Nat} {c : α} (h : ws[pl]? = some c) : pl < ws.length := (List.getElem?_eq_some_iff.mp h).1
/-! nest links, one by one -/
theorem nw_0 {s : State} (h : g_N s) : va_Nw (.methodLinkNest "StoryHouse" 15 ⟨"StoryHouse$Words", "<init>", "()V"⟩ "StoryHouse") s := h.1 ("StoryHouse", 15, ⟨"StoryHouse$Words", "<init>", "()V"⟩, "StoryHouse") (List.mem_of_getElem? (i := 0) rfl)
theorem nw_1 {s : State} (h : g_N s) : va_Nw (.methodLinkNest "StoryHouse" 38 ⟨"StoryHouse$Story", "<init>", "()V"⟩ "StoryHouse") s := h.1 ("StoryHouse", 38, ⟨"StoryHouse$Story", "<init>", "()V"⟩, "StoryHouse") (List.mem_of_getElem? (i := 1) rfl)
theorem nw_2 {s : State} (h : g_N s) : va_Nw (.methodLinkNest "StoryHouse$Story" 63 ⟨"StoryHouse$Code", "<init>", "()V"⟩ "StoryHouse") s := h.1 ("StoryHouse$Story", 63, ⟨"StoryHouse$Code", "<init>", "()V"⟩, "StoryHouse") (List.mem_of_getElem? (i := 2) rfl)
theorem nw_3 {s : State} (h : g_N s) : va_Nw (.methodLinkNest "StoryHouse$Story" 70 ⟨"StoryHouse$Texts", "<init>", "()V"⟩ "StoryHouse") s := h.1 ("StoryHouse$Story", 70, ⟨"StoryHouse$Texts", "<init>", "()V"⟩, "StoryHouse") (List.mem_of_getElem? (i := 3) rfl)
theorem nw_4 {s : State} (h : g_N s) : va_Nw (.methodLinkNest "StoryHouse$Story" 77 ⟨"StoryHouse$Dictionary", "<init>", "()V"⟩ "StoryHouse") s := h.1 ("StoryHouse$Story", 77, ⟨"StoryHouse$Dictionary", "<init>", "()V"⟩, "StoryHouse") (List.mem_of_getElem? (i := 4) rfl)
theorem nw_5 {s : State} (h : g_N s) : va_Nw (.methodLinkNest "StoryHouse" 52 ⟨"StoryHouse$Out", "<init>", "()V"⟩ "StoryHouse") s := h.1 ("StoryHouse", 52, ⟨"StoryHouse$Out", "<init>", "()V"⟩, "StoryHouse") (List.mem_of_getElem? (i := 5) rfl)
theorem nw_6 {s : State} (h : g_N s) : va_Nw (.methodLinkNest "StoryHouse" 59 ⟨"StoryHouse$Play", "<init>", "()V"⟩ "StoryHouse") s := h.1 ("StoryHouse", 59, ⟨"StoryHouse$Play", "<init>", "()V"⟩, "StoryHouse") (List.mem_of_getElem? (i := 6) rfl)
theorem nw_7 {s : State} (h : g_N s) : va_Nw (.methodLinkNest "StoryHouse$Words" 118 ⟨"StoryHouse", "wordEnd", "(Ljava/lang/String;I)I"⟩ "StoryHouse") s := h.1 ("StoryHouse$Words", 118, ⟨"StoryHouse", "wordEnd", "(Ljava/lang/String;I)I"⟩, "StoryHouse") (List.mem_of_getElem? (i := 7) rfl)
theorem nw_8 {s : State} (h : g_N s) : va_Nw (.methodLinkNest "StoryHouse$Words" 122 ⟨"StoryHouse", "packed", "(Ljava/lang/String;III)J"⟩ "StoryHouse") s := h.1 ("StoryHouse$Words", 122, ⟨"StoryHouse", "packed", "(Ljava/lang/String;III)J"⟩, "StoryHouse") (List.mem_of_getElem? (i := 8) rfl)
theorem nw_9 {s : State} (h : g_N s) : va_Nw (.methodLinkNest "StoryHouse$Words" 97 ⟨"StoryHouse", "at", "([II)I"⟩ "StoryHouse") s := h.1 ("StoryHouse$Words", 97, ⟨"StoryHouse", "at", "([II)I"⟩, "StoryHouse") (List.mem_of_getElem? (i := 9) rfl)
theorem nw_10 {s : State} (h : g_N s) : va_Nw (.methodLinkNest "StoryHouse$Words" 109 ⟨"StoryHouse", "put", "([III)V"⟩ "StoryHouse") s := h.1 ("StoryHouse$Words", 109, ⟨"StoryHouse", "put", "([III)V"⟩, "StoryHouse") (List.mem_of_getElem? (i := 10) rfl)
theorem nw_11 {s : State} (h : g_N s) : va_Nw (.methodLinkNest "StoryHouse$Words" 133 ⟨"StoryHouse", "isLetter", "(I)Z"⟩ "StoryHouse") s := h.1 ("StoryHouse$Words", 133, ⟨"StoryHouse", "isLetter", "(I)Z"⟩, "StoryHouse") (List.mem_of_getElem? (i := 11) rfl)
theorem nw_12 {s : State} (h : g_N s) : va_Nw (.methodLinkNest "StoryHouse$Words" 140 ⟨"StoryHouse", "isFigure", "(I)Z"⟩ "StoryHouse") s := h.1 ("StoryHouse$Words", 140, ⟨"StoryHouse", "isFigure", "(I)Z"⟩, "StoryHouse") (List.mem_of_getElem? (i := 12) rfl)
theorem nw_13 {s : State} (h : g_N s) : va_Nw (.methodLinkNest "StoryHouse$Words" 154 ⟨"StoryHouse", "nameSign", "(I)I"⟩ "StoryHouse") s := h.1 ("StoryHouse$Words", 154, ⟨"StoryHouse", "nameSign", "(I)I"⟩, "StoryHouse") (List.mem_of_getElem? (i := 13) rfl)
theorem nw_14 {s : State} (h : g_N s) : va_Nw (.methodLinkNest "StoryHouse$Story" 151 ⟨"StoryHouse", "wordEnd", "(Ljava/lang/String;I)I"⟩ "StoryHouse") s := h.1 ("StoryHouse$Story", 151, ⟨"StoryHouse", "wordEnd", "(Ljava/lang/String;I)I"⟩, "StoryHouse") (List.mem_of_getElem? (i := 14) rfl)
theorem nw_15 {s : State} (h : g_N s) : va_Nw (.methodLinkNest "StoryHouse$Story" 101 ⟨"StoryHouse", "packed", "(Ljava/lang/String;III)J"⟩ "StoryHouse") s := h.1 ("StoryHouse$Story", 101, ⟨"StoryHouse", "packed", "(Ljava/lang/String;III)J"⟩, "StoryHouse") (List.mem_of_getElem? (i := 15) rfl)
theorem nw_16 {s : State} (h : g_N s) : va_Nw (.methodLinkNest "StoryHouse$Dictionary" 31 ⟨"StoryHouse", "at", "([II)I"⟩ "StoryHouse") s := h.1 ("StoryHouse$Dictionary", 31, ⟨"StoryHouse", "at", "([II)I"⟩, "StoryHouse") (List.mem_of_getElem? (i := 16) rfl)
theorem nw_17 {s : State} (h : g_N s) : va_Nw (.methodLinkNest "StoryHouse$Story" 155 ⟨"StoryHouse", "at", "([II)I"⟩ "StoryHouse") s := h.1 ("StoryHouse$Story", 155, ⟨"StoryHouse", "at", "([II)I"⟩, "StoryHouse") (List.mem_of_getElem? (i := 17) rfl)
theorem nw_18 {s : State} (h : g_N s) : va_Nw (.methodLinkNest "StoryHouse$Story" 141 ⟨"StoryHouse", "put", "([III)V"⟩ "StoryHouse") s := h.1 ("StoryHouse$Story", 141, ⟨"StoryHouse", "put", "([III)V"⟩, "StoryHouse") (List.mem_of_getElem? (i := 18) rfl)
theorem nw_19 {s : State} (h : g_N s) : va_Nw (.methodLinkNest "StoryHouse$Code" 42 ⟨"StoryHouse", "put", "([III)V"⟩ "StoryHouse") s := h.1 ("StoryHouse$Code", 42, ⟨"StoryHouse", "put", "([III)V"⟩, "StoryHouse") (List.mem_of_getElem? (i := 19) rfl)
theorem nw_20 {s : State} (h : g_N s) : va_Nw (.methodLinkNest "StoryHouse$Grammar" 100 ⟨"StoryHouse", "put", "([III)V"⟩ "StoryHouse") s := h.1 ("StoryHouse$Grammar", 100, ⟨"StoryHouse", "put", "([III)V"⟩, "StoryHouse") (List.mem_of_getElem? (i := 20) rfl)
theorem nw_21 {s : State} (h : g_N s) : va_Nw (.methodLinkNest "StoryHouse$Meanings" 100 ⟨"StoryHouse", "wordEnd", "(Ljava/lang/String;I)I"⟩ "StoryHouse") s := h.1 ("StoryHouse$Meanings", 100, ⟨"StoryHouse", "wordEnd", "(Ljava/lang/String;I)I"⟩, "StoryHouse") (List.mem_of_getElem? (i := 21) rfl)
theorem nw_22 {s : State} (h : g_N s) : va_Nw (.methodLinkNest "StoryHouse$Meanings" 104 ⟨"StoryHouse", "packed", "(Ljava/lang/String;III)J"⟩ "StoryHouse") s := h.1 ("StoryHouse$Meanings", 104, ⟨"StoryHouse", "packed", "(Ljava/lang/String;III)J"⟩, "StoryHouse") (List.mem_of_getElem? (i := 22) rfl)
theorem nw_23 {s : State} (h : g_N s) : va_Nw (.methodLinkNest "StoryHouse$Meanings" 112 ⟨"StoryHouse", "put", "([III)V"⟩ "StoryHouse") s := h.1 ("StoryHouse$Meanings", 112, ⟨"StoryHouse", "put", "([III)V"⟩, "StoryHouse") (List.mem_of_getElem? (i := 23) rfl)
theorem nw_24 {s : State} (h : g_N s) : va_Nw (.methodLinkNest "StoryHouse$Meanings" 122 ⟨"StoryHouse", "at", "([II)I"⟩ "StoryHouse") s := h.1 ("StoryHouse$Meanings", 122, ⟨"StoryHouse", "at", "([II)I"⟩, "StoryHouse") (List.mem_of_getElem? (i := 24) rfl)
theorem nw_25 {s : State} (h : g_N s) : va_Nw (.methodLinkNest "StoryHouse$Code" 50 ⟨"StoryHouse", "at", "([II)I"⟩ "StoryHouse") s := h.1 ("StoryHouse$Code", 50, ⟨"StoryHouse", "at", "([II)I"⟩, "StoryHouse") (List.mem_of_getElem? (i := 25) rfl)
theorem nw_26 {s : State} (h : g_N s) : va_Nw (.methodLinkNest "StoryHouse$Texts" 66 ⟨"StoryHouse", "put", "([III)V"⟩ "StoryHouse") s := h.1 ("StoryHouse$Texts", 66, ⟨"StoryHouse", "put", "([III)V"⟩, "StoryHouse") (List.mem_of_getElem? (i := 26) rfl)
theorem nw_27 {s : State} (h : g_N s) : va_Nw (.methodLinkNest "StoryHouse$Texts" 107 ⟨"StoryHouse", "at", "([II)I"⟩ "StoryHouse") s := h.1 ("StoryHouse$Texts", 107, ⟨"StoryHouse", "at", "([II)I"⟩, "StoryHouse") (List.mem_of_getElem? (i := 27) rfl)
theorem nw_28 {s : State} (h : g_N s) : va_Nw (.methodLinkNest "StoryHouse$Play" 83 ⟨"StoryHouse", "at", "([II)I"⟩ "StoryHouse") s := h.1 ("StoryHouse$Play", 83, ⟨"StoryHouse", "at", "([II)I"⟩, "StoryHouse") (List.mem_of_getElem? (i := 28) rfl)
theorem nw_29 {s : State} (h : g_N s) : va_Nw (.methodLinkNest "StoryHouse$Play" 91 ⟨"StoryHouse", "put", "([III)V"⟩ "StoryHouse") s := h.1 ("StoryHouse$Play", 91, ⟨"StoryHouse", "put", "([III)V"⟩, "StoryHouse") (List.mem_of_getElem? (i := 29) rfl)
theorem nw_30 {s : State} (h : g_N s) : va_Nw (.methodLinkNest "StoryHouse$Machine" 98 ⟨"StoryHouse", "at", "([II)I"⟩ "StoryHouse") s := h.1 ("StoryHouse$Machine", 98, ⟨"StoryHouse", "at", "([II)I"⟩, "StoryHouse") (List.mem_of_getElem? (i := 30) rfl)
theorem nw_31 {s : State} (h : g_N s) : va_Nw (.methodLinkNest "StoryHouse$Teller" 70 ⟨"StoryHouse", "at", "([II)I"⟩ "StoryHouse") s := h.1 ("StoryHouse$Teller", 70, ⟨"StoryHouse", "at", "([II)I"⟩, "StoryHouse") (List.mem_of_getElem? (i := 31) rfl)
theorem nw_32 {s : State} (h : g_N s) : va_Nw (.methodLinkNest "StoryHouse$Teller" 81 ⟨"StoryHouse", "isLetter", "(I)Z"⟩ "StoryHouse") s := h.1 ("StoryHouse$Teller", 81, ⟨"StoryHouse", "isLetter", "(I)Z"⟩, "StoryHouse") (List.mem_of_getElem? (i := 32) rfl)
theorem nw_33 {s : State} (h : g_N s) : va_Nw (.methodLinkNest "StoryHouse$Teller" 111 ⟨"StoryHouse", "nameSign", "(I)I"⟩ "StoryHouse") s := h.1 ("StoryHouse$Teller", 111, ⟨"StoryHouse", "nameSign", "(I)I"⟩, "StoryHouse") (List.mem_of_getElem? (i := 33) rfl)
theorem nw_34 {s : State} (h : g_N s) : va_Nw (.methodLinkNest "StoryHouse$Teller" 105 ⟨"StoryHouse", "put", "([III)V"⟩ "StoryHouse") s := h.1 ("StoryHouse$Teller", 105, ⟨"StoryHouse", "put", "([III)V"⟩, "StoryHouse") (List.mem_of_getElem? (i := 34) rfl)
theorem nw_35 {s : State} (h : g_N s) : va_Nw (.methodLinkNest "StoryHouse$Machine" 138 ⟨"StoryHouse", "put", "([III)V"⟩ "StoryHouse") s := h.1 ("StoryHouse$Machine", 138, ⟨"StoryHouse", "put", "([III)V"⟩, "StoryHouse") (List.mem_of_getElem? (i := 35) rfl)
