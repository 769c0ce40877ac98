/-! laying's join: what stands of every item laid -/
variable {T N : Nat} {kd vl rv : Nat → Int} {pl : Nat → Nat}
/-- the arrays' ends, by arrays -/
def enF (kd vl : Nat → Int) (is : Nat → Nat) : Nat → Nat → Int
  | 0, _ => 0
  | n + 1, k => if k ≤ cN kd is 3 n then enF kd vl is n k else smA kd vl is (n + 1)
theorem enF_s {is : Nat → Nat} {n k : Nat} : enF kd vl is (n + 1) k = if k ≤ cN kd is 3 n then enF kd vl is n k else smA kd vl is (n + 1) := rfl
theorem qOf_n3 {k : Int} (h : k ≠ 234) : ¬ 3 = qOf k := by
  unfold qOf
  repeat' split
  all_goals omega
theorem cN_3s {is : Nat → Nat} {n : Nat} (h : kd (is n) = 234) : cN kd is 3 (n + 1) = cN kd is 3 n + 1 := cN_eq (by rw [h]; rfl)
theorem cN_3n {is : Nat → Nat} {n : Nat} (h : kd (is n) ≠ 234) : cN kd is 3 (n + 1) = cN kd is 3 n := cN_ne (qOf_n3 h)
theorem enF_top {is : Nat → Nat} : ∀ n, enF kd vl is n (cN kd is 3 n) = smA kd vl is n := by
  intro n
  induction n with
  | zero => rfl
  | succ n ih =>
    rw [enF_s]
    by_cases q : kd (is n) = 234
    · rw [cN_3s q, if_neg (by omega)]
    · rw [cN_3n q, if_pos (Nat.le_refl _), ih, smA_ne q]
theorem enF_row {is : Nat → Nat} : ∀ n, (∀ z, z < n → kd (is z) = 234 → 0 ≤ vl (is z + 3)) → 0 ≤ smA kd vl is n ∧ ∀ k, 0 ≤ enF kd vl is n k ∧ enF kd vl is n k ≤ smA kd vl is n ∧ enF kd vl is n k ≤ enF kd vl is n (k + 1) := by
  intro n
  induction n with
  | zero => intro _; exact ⟨Int.le_refl _, fun k => ⟨Int.le_refl _, Int.le_refl _, Int.le_refl _⟩⟩
  | succ n ih =>
    intro h
    obtain ⟨a, b⟩ := ih (fun z hz => h z (by omega))
    have hs : smA kd vl is n ≤ smA kd vl is (n + 1) := by
      rw [smA_s]
      by_cases q : kd (is n) = 234
      · rw [if_pos q]; have := h n (by omega) q; omega
      · rw [if_neg q]; omega
    refine ⟨by omega, fun k => ?_⟩
    obtain ⟨b1, b2, b3⟩ := b k
    obtain ⟨c1, c2, -⟩ := b (k + 1)
    rw [enF_s, enF_s]
    by_cases q : k + 1 ≤ cN kd is 3 n
    · rw [if_pos (show k ≤ cN kd is 3 n by omega), if_pos q]; omega
    · by_cases q2 : k ≤ cN kd is 3 n
      · rw [if_pos q2, if_neg q]; omega
      · rw [if_neg q2, if_neg q]; omega
theorem enF_0 {is : Nat → Nat} : ∀ n, enF kd vl is n 0 = 0 := by
  intro n
  induction n with
  | zero => rfl
  | succ n ih => rw [enF_s, if_pos (Nat.zero_le _), ih]
/-- all that laying leaves alone -/
def LFR (ρ0 ρ : MS) : Prop := (∀ k, k ≠ 63 → k ≠ 83 → k ≠ 84 → ρ.1 k = ρ0.1 k) ∧ ∀ k, ¬ (46 ≤ k ∧ k ≤ 62) → ¬ (70 ≤ k ∧ k ≤ 77) → k ≠ 122 → ρ.2 k = ρ0.2 k
theorem LFR_trans {ρ0 ρ ρ' : MS} (h : LFR ρ0 ρ) (i : LFR ρ ρ') : LFR ρ0 ρ' := ⟨fun k a b c => by rw [i.1 k a b c, h.1 k a b c], fun k a b c => by rw [i.2 k a b c, h.2 k a b c]⟩
/-- objects that no item has told are clear -/
def CLX (kd : Nat → Int) (is : Nat → Nat) (z : Nat) (ρ : MS) : Prop := ∀ n, n ≤ 120 → (n ≤ 1 ∨ cN kd is 0 z < n) → ρ.2 122 n = 0 ∧ ρ.2 52 n = 0 ∧ ρ.2 50 n = 0 ∧ ∀ y, y < 7 → ρ.2 51 (7 * n + y) = 0 ∧ ρ.2 53 (7 * n + y) = 0
/-- rooms and things laid -/
def OBA (T : Nat) (kd vl rv : Nat → Int) (pl : Nat → Nat) (Θ : HS) (is : Nat → Nat) (E : HS) (z : Nat) (ρ : MS) (ow : Nat → List (List Int)) : Prop := ∀ z', z' < z → kd (is z') ≤ 231 → OBF T kd rv vl pl ρ E (inum kd is z') ∧ PLX kd vl Θ (is z') (is (z' + 1)) (kd (is z') - 229) ρ E (inum kd is z') (ow (inum kd is z')).length
/-- verbs laid -/
def VBI (kd : Nat → Int) (nm : Nat → List Int) (rv : Nat → Int) (is : Nat → Nat) (E : HS) (ρ : MS) (ow : Nat → List (List Int)) (W : List Int) (z' : Nat) : Prop := ∃ d, (1 ≤ d ∧ d ≤ 10 ∧ 213 ≤ kd (is z' + 1 + 2 * d) ∧ kd (is z' + 1 + 2 * d) ≤ 215) ∧ VBF ρ (inum kd is z') (ow (120 + inum kd is z')) (fmO kd (is (z' + 1))) (jwF kd nm rv (is z') d) ∧ (if kd (is z' + 1 + 2 * d) = 215 then 2 else kd (is z' + 1 + 2 * d) - 213) = fmO kd (is (z' + 1)) ∧ (kd (is z' + 1 + 2 * d) = 215 → nmW (jwF kd nm rv (is z') d) ∧ ∃ k : Nat, k < W.length ∧ (E 4).2.1 8 (inum kd is z') = J (k : Nat) ∧ W.getD k 0 = tm9 (jwF kd nm rv (is z') d))
def VBA (kd : Nat → Int) (nm : Nat → List Int) (rv : Nat → Int) (is : Nat → Nat) (E : HS) (z : Nat) (ρ : MS) (ow : Nat → List (List Int)) (W : List Int) : Prop := (∀ v, 1 ≤ v → v ≤ 11 → ow (120 + v) = owS 11 (120 + v)) ∧ (∀ v, 1 ≤ v → v ≤ 10 → VBF ρ v (vwL.getD (v - 1) []) (bform v) (jnW v)) ∧ ∀ z', z' < z → kd (is z') = 232 → VBI kd nm rv is E ρ ow W z'
/-- the first room -/
def FRA (kd : Nat → Int) (is : Nat → Nat) (z : Nat) (ρ : MS) : Prop := (ρ.1 63 = 0 ∧ ∀ z', z' < z → kd (is z') ≠ 230) ∨ ∃ z0, z0 < z ∧ kd (is z0) = 230 ∧ (∀ z', z' < z0 → kd (is z') ≠ 230) ∧ ρ.1 63 = J (inum kd is z0 : Nat)
/-- vars, arrays, ons and eachs laid -/
def VRA (kd : Nat → Int) (is : Nat → Nat) (E : HS) (z : Nat) (ρ : MS) : Prop := ∀ z', z' < z → kd (is z') = 233 → ∃ v : Int, ρ.2 76 (inum kd is z') = J v ∧ (E 4).2.1 11 (inum kd is z') = J v ∧ -32768 ≤ v ∧ v ≤ 32767
def ARA (kd vl : Nat → Int) (is : Nat → Nat) (z : Nat) (ρ : MS) : Prop := (∀ k, k ≤ cN kd is 3 z → ρ.2 77 k = J (enF kd vl is z k)) ∧ ∀ z', z' < z → kd (is z') = 234 → 0 ≤ vl (is z' + 3)
def ONZ (kd vl : Nat → Int) (Θ : HS) (σs : MS) (ls is : Nat → Nat) (E : HS) (ρ : MS) (z' : Nat) : Prop := ∃ cc y mm : Nat, (cc ≤ 2 ∧ is z' + 2 + cc + 1 < is (z' + 1)) ∧ (ρ.2 70 (cN kd is 5 z') = J (nsF Θ vl (is z' + 1) : Nat) ∧ ρ.2 71 (cN kd is 5 z') = J (cc : Nat) ∧ (1 ≤ cc → ρ.2 72 (cN kd is 5 z') = J (whR Θ kd vl (is z' + 2))) ∧ (2 ≤ cc → ρ.2 73 (cN kd is 5 z') = J (whR Θ kd vl (is z' + 3))) ∧ ρ.2 74 (cN kd is 5 z') = J (y : Nat)) ∧ (mm < ls (z' + 1) ∧ σs.2 21 (ls z') = J (mm : Nat) ∧ σs.2 19 mm = J (y : Nat)) ∧ ((E 4).2.1 13 (cN kd is 5 z') = J (nsF Θ vl (is z' + 1) : Nat) ∧ (E 4).2.1 14 (cN kd is 5 z') = (if cc = 0 then -1 else J (whV Θ kd vl (is z' + 2))) ∧ (E 4).2.1 15 (cN kd is 5 z') = (if cc ≤ 1 then -1 else J (whV Θ kd vl (is z' + 3)))) ∧ ksF Θ vl (is z' + 1) = 3 ∧ ∀ k, k < cc → kd (is z' + 2 + k) ≠ 123 ∧ (k : Int) + 1 ≤ frm Θ vl (is z' + 1) ∧ goodWh Θ kd vl (is z' + 1) (is z' + 2 + k)
def ONA (kd vl : Nat → Int) (Θ : HS) (σs : MS) (ls is : Nat → Nat) (E : HS) (z : Nat) (ρ : MS) : Prop := ∀ z', z' < z → kd (is z') = 236 → ONZ kd vl Θ σs ls is E ρ z'
def EAA (kd : Nat → Int) (σs : MS) (ls is : Nat → Nat) (z : Nat) (ρ : MS) : Prop := ∀ z', z' < z → kd (is z') = 237 → ∃ y mm : Nat, ρ.2 75 (cN kd is 6 z') = J (y : Nat) ∧ mm < ls (z' + 1) ∧ σs.2 21 (ls z') = J (mm : Nat) ∧ σs.2 19 mm = J (y : Nat)
/-! what keeps them -/
theorem OBF_tr {ρ ρ' : MS} {Γ Γ' : HS} {n : Nat} (h : OBF T kd rv vl pl ρ Γ n) (e : ∀ k, (46 ≤ k ∧ k ≤ 50) ∨ k = 52 ∨ k = 122 → ρ'.2 k n = ρ.2 k n) (e7 : ∀ y, y < 7 → ρ'.2 51 (7 * n + y) = ρ.2 51 (7 * n + y) ∧ ρ'.2 53 (7 * n + y) = ρ.2 53 (7 * n + y)) (g : ∀ k, 1 ≤ k → k ≤ 5 → (Γ' 4).2.1 k n = (Γ 4).2.1 k n) (g6 : ∀ x, 6 * n ≤ x → x < 6 * n + 6 → (Γ' 4).2.1 6 x = (Γ 4).2.1 6 x) : OBF T kd rv vl pl ρ' Γ' n := by
  obtain ⟨⟨a1, a2, x, a3, a4, a5⟩, ⟨t, b1, b2, b3, b4, b5⟩, ⟨r, c1, c2, c3⟩, s, d1, d2, d3⟩ := h
  refine ⟨⟨?_, fun d h1 h2 => ?_, x, a3, by rw [g 5 (by omega) (by omega)]; exact a4, fun a ha => by rw [(e7 a ha).2]; exact a5 a ha⟩, ⟨t, b1, b2, by rw [e 46 (by omega)]; exact b3, by rw [e 47 (by omega)]; exact b4, by rw [g 2 (by omega) (by omega)]; exact b5⟩, ⟨r, c1, by rw [e 50 (by omega)]; exact c2, by rw [g 1 (by omega) (by omega)]; exact c3⟩, s, d1, by rw [e 52 (by omega)]; exact d2, by rw [g 4 (by omega) (by omega)]; exact d3⟩
  · rw [e 122 (by omega), e 48 (by omega), e 49 (by omega), g 3 (by omega) (by omega)]; exact a1
  · obtain ⟨m, m1, m2, m3⟩ := a2 d h1 h2
    exact ⟨m, m1, by rw [(e7 d (by omega)).1]; exact m2, by rw [g6 _ (by omega) (by omega)]; exact m3⟩
theorem PLX_tr {Θ : HS} {i j n l : Nat} {w : Int} {ρ ρ' : MS} {E E' : HS} (h : PLX kd vl Θ i j w ρ E n l) (e50 : ρ'.2 50 n = ρ.2 50 n) (e52 : ρ'.2 52 n = ρ.2 52 n) (g6 : ∀ x, 6 * n ≤ x → x < 6 * n + 6 → (E' 4).2.1 6 x = (E 4).2.1 6 x) : PLX kd vl Θ i j w ρ' E' n l := by
  obtain ⟨a, b, c⟩ := h
  refine ⟨by rw [e50]; exact a, fun hw => by rw [e52]; exact b hw, fun d d1 d2 => ?_⟩
  obtain ⟨m, m1, m2⟩ := c d d1 d2
  exact ⟨m, by rw [g6 _ (by omega) (by omega)]; exact m1, m2⟩
theorem VBF_same {ρ ρ' : MS} {v : Nat} {ws : List (List Int)} {f : Int} {jw : List Int} (h : VBF ρ v ws f jw) (e : ∀ k, 57 ≤ k → k ≤ 62 → ρ'.2 k = ρ.2 k) : VBF ρ' v ws f jw := by
  unfold VBF RW at h ⊢
  rw [e 57 (by omega) (by omega), e 58 (by omega) (by omega), e 59 (by omega) (by omega), e 60 (by omega) (by omega), e 61 (by omega) (by omega), e 62 (by omega) (by omega)]; exact h
theorem VBF_vfrm {ρ ρ' : MS} {v n : Nat} {ws : List (List Int)} {f : Int} {jw : List Int} (h : VBF ρ v ws f jw) (hl : ws.length ≤ 10) (u : vfrm n ρ ρ') (hv : v ≠ n) : VBF ρ' v ws f jw := by
  obtain ⟨h1, h2, h3, h4, h5⟩ := h
  obtain ⟨-, -, u3, u4, u5, u6⟩ := u
  obtain ⟨a, b, c⟩ := u3 v hv
  refine ⟨by rw [a]; exact h1, fun e he => ⟨?_, fun k hk => ?_⟩, by rw [b]; exact h3, by rw [c]; exact h4, fun k hk => ?_⟩
  · rw [u4 _ (by omega)]; exact (h2 e he).1
  · have := wmn_le (ws.getD e [])
    rw [u5 _ (by omega)]; exact (h2 e he).2 k hk
  · have := wmn_le jw
    rw [u6 _ (by omega)]; exact h5 k hk
theorem CLX_same {is : Nat → Nat} {z : Nat} {ρ ρ' : MS} (h : CLX kd is z ρ) (c0 : cN kd is 0 (z + 1) = cN kd is 0 z) (e : ∀ k, k = 50 ∨ k = 51 ∨ k = 52 ∨ k = 53 ∨ k = 122 → ρ'.2 k = ρ.2 k) : CLX kd is (z + 1) ρ' := by
  unfold CLX at h ⊢
  rw [c0, e 50 (by omega), e 51 (by omega), e 52 (by omega), e 53 (by omega), e 122 (by omega)]; exact h
/-- one item on, no room and no thing -/
theorem OBA_same {Θ E : HS} {is : Nat → Nat} {z : Nat} {ρ ρ' : MS} {ow ow' : Nat → List (List Int)} (h : OBA T kd vl rv pl Θ is E z ρ ow) (hk : 232 ≤ kd (is z)) (e : ∀ k, (46 ≤ k ∧ k ≤ 53) ∨ k = 122 → ρ'.2 k = ρ.2 k) (ho : ∀ z', z' < z → kd (is z') ≤ 231 → ow' (inum kd is z') = ow (inum kd is z')) : OBA T kd vl rv pl Θ is E (z + 1) ρ' ow' := by
  intro z' hz hk'
  have hz' : z' < z := by
    by_cases q : z' = z
    · rw [q] at hk'; omega
    · omega
  obtain ⟨a, b⟩ := h z' hz' hk'
  rw [ho z' hz' hk']
  exact ⟨OBF_tr a (fun k hk => by rw [e k (by omega)]) (fun y _ => by rw [e 51 (by omega), e 53 (by omega)]; exact ⟨rfl, rfl⟩) (fun _ _ _ => rfl) (fun _ _ _ => rfl), PLX_tr b (by rw [e 50 (by omega)]) (by rw [e 52 (by omega)]) (fun _ _ _ => rfl)⟩
theorem VBI_same {nm : Nat → List Int} {is : Nat → Nat} {E : HS} {ρ ρ' : MS} {ow ow' : Nat → List (List Int)} {W W' : List Int} {z' : Nat} (h : VBI kd nm rv is E ρ ow W z') (e : ∀ k, 57 ≤ k → k ≤ 62 → ρ'.2 k = ρ.2 k) (ho : ow' (120 + inum kd is z') = ow (120 + inum kd is z')) (hp : PRE W W') : VBI kd nm rv is E ρ' ow' W' z' := by
  obtain ⟨d, d1, d2, d3, d4⟩ := h
  refine ⟨d, d1, by rw [ho]; exact VBF_same d2 e, d3, fun h => ?_⟩
  obtain ⟨a, k, k1, k2, k3⟩ := d4 h
  exact ⟨a, k, Nat.lt_of_lt_of_le k1 hp.1, k2, by rw [hp.2 k k1]; exact k3⟩
/-- one item on, no verb -/
theorem VBA_same {nm : Nat → List Int} {is : Nat → Nat} {E : HS} {z : Nat} {ρ ρ' : MS} {ow ow' : Nat → List (List Int)} {W W' : List Int} (h : VBA kd nm rv is E z ρ ow W) (hk : kd (is z) ≠ 232) (e : ∀ k, 57 ≤ k → k ≤ 62 → ρ'.2 k = ρ.2 k) (ho : ∀ v, 1 ≤ v → ow' (120 + v) = ow (120 + v)) (hi : ∀ z', z' < z → kd (is z') = 232 → 1 ≤ inum kd is z') (hp : PRE W W') : VBA kd nm rv is E (z + 1) ρ' ow' W' := by
  obtain ⟨a, b, c⟩ := h
  refine ⟨fun v v1 v2 => by rw [ho v v1]; exact a v v1 v2, fun v v1 v2 => VBF_same (b v v1 v2) e, fun z' hz hk' => ?_⟩
  have hz' : z' < z := by
    by_cases q : z' = z
    · rw [q] at hk'; exact absurd hk' hk
    · omega
  exact VBI_same (c z' hz' hk') e (ho _ (hi z' hz' hk')) hp
theorem FRA_same {is : Nat → Nat} {z : Nat} {ρ ρ' : MS} (h : FRA kd is z ρ) (hk : kd (is z) ≠ 230) (e : ρ'.1 63 = ρ.1 63) : FRA kd is (z + 1) ρ' := by
  rcases h with ⟨a, b⟩ | ⟨z0, a, b, c, d⟩
  · refine Or.inl ⟨by rw [e]; exact a, fun z' hz => ?_⟩
    by_cases q : z' = z
    · rw [q]; exact hk
    · exact b z' (by omega)
  · exact Or.inr ⟨z0, by omega, b, c, by rw [e]; exact d⟩
theorem VRA_same {is : Nat → Nat} {E : HS} {z : Nat} {ρ ρ' : MS} (h : VRA kd is E z ρ) (hk : kd (is z) ≠ 233) (e : ρ'.2 76 = ρ.2 76) : VRA kd is E (z + 1) ρ' := by
  intro z' hz hk'
  rw [e]
  by_cases q : z' = z
  · rw [q] at hk'; exact absurd hk' hk
  · exact h z' (by omega) hk'
theorem ARA_same {is : Nat → Nat} {z : Nat} {ρ ρ' : MS} (h : ARA kd vl is z ρ) (hk : kd (is z) ≠ 234) (e : ρ'.2 77 = ρ.2 77) : ARA kd vl is (z + 1) ρ' := by
  obtain ⟨a, b⟩ := h
  refine ⟨fun k hk2 => ?_, fun z' hz hk' => ?_⟩
  · rw [cN_3n hk] at hk2
    rw [e, enF_s, if_pos hk2]; exact a k hk2
  · by_cases q : z' = z
    · rw [q] at hk'; exact absurd hk' hk
    · exact b z' (by omega) hk'
theorem ONA_same {Θ E : HS} {σs : MS} {ls is : Nat → Nat} {z : Nat} {ρ ρ' : MS} (h : ONA kd vl Θ σs ls is E z ρ) (hk : kd (is z) ≠ 236) (e : ∀ k, 70 ≤ k → k ≤ 74 → ρ'.2 k = ρ.2 k) : ONA kd vl Θ σs ls is E (z + 1) ρ' := by
  intro z' hz hk'
  unfold ONZ
  rw [e 70 (by omega) (by omega), e 71 (by omega) (by omega), e 72 (by omega) (by omega), e 73 (by omega) (by omega), e 74 (by omega) (by omega)]
  by_cases q : z' = z
  · rw [q] at hk'; exact absurd hk' hk
  · exact h z' (by omega) hk'
theorem EAA_same {σs : MS} {ls is : Nat → Nat} {z : Nat} {ρ ρ' : MS} (h : EAA kd σs ls is z ρ) (hk : kd (is z) ≠ 237) (e : ρ'.2 75 = ρ.2 75) : EAA kd σs ls is (z + 1) ρ' := by
  intro z' hz hk'
  rw [e]
  by_cases q : z' = z
  · rw [q] at hk'; exact absurd hk' hk
  · exact h z' (by omega) hk'
