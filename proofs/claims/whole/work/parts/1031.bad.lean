/-! what is noted when some words are bad -/
variable {T N : Nat} {kd vl rv : Nat → Int} {pl : Nat → Nat}
/-- from a to b the bad words from i to j were noted -/
def NT (pl : Nat → Nat) (bad : Nat → Prop) (i j : Nat) (a b : Int32 × Int32) : Prop := nGe (pl i) a b ∧ (∀ w, i ≤ w → w < j → bad w → (∀ v, i ≤ v → v < w → ¬ bad v) → nBeh (pl w) a → b = (J 3, J (pl w : Nat))) ∧ ((∀ w, i ≤ w → w < j → ¬ bad w) → b = a)
theorem NT_none {bad : Nat → Prop} {i j : Nat} {a : Int32 × Int32} (h : ∀ w, i ≤ w → w < j → ¬ bad w) : NT pl bad i j a a := ⟨nGe_rfl, fun w h1 h2 h3 => absurd h3 (h w h1 h2), fun _ => rfl⟩
theorem pl_le (hp : plm T pl) {i j : Nat} (h : i ≤ j) (hj : j ≤ T + 1) : pl i ≤ pl j := by
  by_cases e : i = j
  · rw [e]; exact Nat.le_refl _
  · have := hp i j (by omega) hj; omega
/-- the left part first -/
theorem NT_lr (hp : plm T pl) (hpb : ∀ i, i ≤ T + 1 → pl i ≤ 5000) {bad : Nat → Prop} {i k j : Nat} {a b c : Int32 × Int32} (h : NT pl bad i k a b) (g : NT pl bad k j b c) (h1 : i ≤ k) (h2 : k ≤ j) (hj : j ≤ T + 1) : NT pl bad i j a c := by
  refine ⟨nGe_trans h.1 (nGe_le g.1 (pl_le hp h1 (by omega))), fun w w1 w2 w3 w4 w5 => ?_, fun hn => ?_⟩
  · by_cases q : w < k
    · have e := h.2.1 w w1 q w3 w4 w5
      exact (nGe_keep g.1 e (by omega) (pl_le hp (by omega) (by omega)) (hpb w (by omega))).trans e
    · have e := h.2.2 (fun v v1 v2 => w4 v v1 (by omega))
      exact g.2.1 w (by omega) w2 w3 (fun v v1 v2 => w4 v (by omega) v2) (by rw [e]; exact w5)
  · rw [g.2.2 (fun v v1 v2 => hn v (by omega) v2), h.2.2 (fun v v1 v2 => hn v v1 (by omega))]
/-- the right part first -/
theorem NT_rl (hp : plm T pl) {bad : Nat → Prop} {i k j : Nat} {a b c : Int32 × Int32} (h : NT pl bad k j a b) (g : NT pl bad i k b c) (h1 : i ≤ k) (h2 : k ≤ j) (hj : j ≤ T + 1) : NT pl bad i j a c := by
  refine ⟨nGe_trans (nGe_le h.1 (pl_le hp h1 (by omega))) g.1, fun w w1 w2 w3 w4 w5 => ?_, fun hn => ?_⟩
  · by_cases q : w < k
    · refine g.2.1 w w1 q w3 w4 ?_
      rcases h.1 with e | ⟨gg, p, p1, p2, p3, p4, p5, -⟩
      · rw [e]; exact w5
      · exact Or.inr ⟨gg, p, p1, p2, by have := hp w k q (by omega); omega, p4, p5⟩
    · rw [g.2.2 (fun v v1 v2 => w4 v v1 (by omega))]
      exact h.2.1 w (by omega) w2 w3 (fun v v1 v2 => w4 v (by omega) v2) w5
  · rw [g.2.2 (fun v v1 v2 => hn v v1 (by omega)), h.2.2 (fun v v1 v2 => hn v (by omega) v2)]
/-- one word -/
theorem NT_one (hpb : ∀ i, i ≤ T + 1 → pl i ≤ 5000) {bad : Nat → Prop} {i : Nat} {a b : Int32 × Int32} (hi : i ≤ T + 1) (h1 : bad i → b = ntF a 3 (pl i)) (h2 : ¬ bad i → b = a) : NT pl bad i (i + 1) a b := by
  refine ⟨?_, fun w w1 w2 w3 w4 w5 => ?_, fun hn => h2 (hn i (Nat.le_refl _) (by omega))⟩
  · by_cases q : bad i
    · rw [h1 q]; exact nGe_nt (by omega) (Nat.le_refl _) (hpb i hi)
    · rw [h2 q]; exact nGe_rfl
  · obtain rfl : w = i := by omega
    rw [h1 w3, ntF_beh w5 3 (Nat.le_refl _)]
/-- what stands at the sides is not bad -/
theorem NT_wide (hp : plm T pl) {bad : Nat → Prop} {i i' j j' : Nat} {a b : Int32 × Int32} (h : NT pl bad i' j' a b) (h1 : i ≤ i') (h2 : j' ≤ j) (hj : i' ≤ T + 1) (hl : ∀ w, i ≤ w → w < i' → ¬ bad w) (hr : ∀ w, j' ≤ w → w < j → ¬ bad w) : NT pl bad i j a b := by
  refine ⟨nGe_le h.1 (pl_le hp h1 hj), fun w w1 w2 w3 w4 w5 => ?_, fun hn => h.2.2 (fun v v1 v2 => hn v (by omega) (by omega))⟩
  by_cases q : w < i'
  · exact absurd w3 (hl w w1 q)
  · by_cases q2 : w < j'
    · exact h.2.1 w (by omega) q2 w3 (fun v v1 v2 => w4 v (by omega) v2) w5
    · exact absurd w3 (hr w (by omega) w2)
/-- sort and number of a NAME when all is told -/
def ksF (Θ : HS) (vl : Nat → Int) (t : Nat) : Int := ((Θ 3).2.1 3 (vl t).toNat).toInt
def nsF (Θ : HS) (vl : Nat → Int) (t : Nat) : Nat := ((Θ 3).2.1 4 (vl t).toNat).toInt.toNat
/-- the number under which it is seen -/
def snF (G : Nat → HS) (vl : Nat → Int) (t : Nat) : Int := ((G t 3).2.1 5 (vl t).toNat).toInt
def srt (G : Nat → HS) (Θ : HS) (kd vl : Nat → Int) (t : Nat) : Int := if kd (t - 1) = 242 then 7 else if snF G vl t = 0 then ksF Θ vl t else 7
def nmb (G : Nat → HS) (Θ : HS) (kd vl : Nat → Int) (t : Nat) : Nat := if kd (t - 1) = 242 then ((G t 3).1 8).toInt.toNat else if snF G vl t = 0 then nsF Θ vl t else (snF G vl t - 1).toNat
/-- a NAME, return or done that can't be there -/
def badB (G : Nat → HS) (Θ Γs : HS) (kd vl : Nat → Int) (t : Nat) : Prop :=
  (kd t = 2 ∧ kd (t - 1) ≠ 242 ∧ ((kd (t + 1) = 40 ∧ ¬ (srt G Θ kd vl t = 6 ∧ (Γs 1).2.1 6 t = (Γs 5).2.1 4 (nmb G Θ kd vl t))) ∨ (kd (t + 1) = 91 ∧ srt G Θ kd vl t ≠ 5) ∨ (kd (t + 1) = 61 ∧ srt G Θ kd vl t ≠ 4 ∧ srt G Θ kd vl t ≠ 7) ∨ (kd (t + 1) ≠ 40 ∧ kd (t + 1) ≠ 91 ∧ kd (t + 1) ≠ 61 ∧ srt G Θ kd vl t ≠ 1 ∧ srt G Θ kd vl t ≠ 2 ∧ srt G Θ kd vl t ≠ 4 ∧ srt G Θ kd vl t ≠ 7)))
  ∨ (kd t = 251 ∧ (G t 3).1 12 ≠ J 235) ∨ (kd t = 252 ∧ (G t 3).1 12 = J 235)
theorem badB_no {G : Nat → HS} {Θ Γs : HS} {t : Nat} (h : kd t ≠ 2) (h2 : kd t ≠ 251) (h3 : kd t ≠ 252) : ¬ badB G Θ Γs kd vl t := by
  rintro (h' | h' | h')
  · exact h h'.1
  · exact h2 h'.1
  · exact h3 h'.1
theorem badB_let {G : Nat → HS} {Θ Γs : HS} {t : Nat} (h : kd t = 2) (h2 : kd (t - 1) = 242) : ¬ badB G Θ Γs kd vl t := by
  rintro (h' | h' | h')
  · exact h'.2.1 h2
  · omega
  · omega
/-- code with the meanings put in, as linking will -/
def lnkO (o s : Int) : Int := if o = 49 then (if s = 4 then 34 else if s = 7 then 35 else 33) else if o = 50 then (if s = 4 then 37 else 38) else o
def isNO (o : Int) : Prop := o = 49 ∨ o = 50 ∨ o = 36 ∨ o = 39 ∨ o = 40
def lk1 (Γs : HS) (p : Nat) (o : Int) : Prop := op1 Γs p o
def lk3 (G : Nat → HS) (Θ Γs : HS) (kd vl : Nat → Int) (p : Nat) (o v : Int) : Prop := ((¬ isNO o ∧ ¬ (o = 34 ∨ o = 35 ∨ o = 37 ∨ o = 38)) ∧ op3 Γs p o v) ∨ ∃ (o0 : Int) (i : Nat), isNO o0 ∧ op3 Γs p o0 (i : Nat) ∧ i < 4200 ∧ o = lnkO o0 (srt G Θ kd vl i) ∧ v = (nmb G Θ kd vl i : Nat) ∧ (o0 = 36 ∨ o0 = 39 → srt G Θ kd vl i = 5)
