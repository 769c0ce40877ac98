/-! what is counted, of the items -/
variable {T N : Nat} {kd vl rv : Nat → Int} {pl : Nat → Nat}
def qOf (k : Int) : Nat := if k ≤ 231 then 0 else if k = 232 then 1 else if k = 233 then 2 else if k = 234 then 3 else if k = 235 then 4 else if k = 236 then 5 else 6
def cN (kd : Nat → Int) (is : Nat → Nat) (q : Nat) : Nat → Nat
  | 0 => if q = 0 then 1 else if q = 1 then 11 else 0
  | n + 1 => if q = qOf (kd (is n)) then cN kd is q n + 1 else cN kd is q n
def smA (kd vl : Nat → Int) (is : Nat → Nat) : Nat → Int
  | 0 => 0
  | n + 1 => if kd (is n) = 234 then smA kd vl is n + vl (is n + 3) else smA kd vl is n
/-- a verb's form, from its item's end -/
def fmO (kd : Nat → Int) (j : Nat) : Int := if kd (j - 2) = 2 then 2 else kd (j - 2) - 213
/-- the forms of the verbs that every story has -/
def bform (v : Nat) : Int := if v = 9 ∨ v = 10 then 2 else if v ≤ 3 then 0 else 1
/-- forms and cells, of the first n items -/
def FD (kd vl : Nat → Int) (is : Nat → Nat) (n : Nat) (Γ : HS) : Prop := (∀ v, 1 ≤ v → v ≤ 11 → (Γ 4).2.1 7 v = J (bform v)) ∧ ∀ k, k < n → (kd (is k) = 232 → (Γ 4).2.1 7 (cN kd is 1 k + 1) = J (fmO kd (is (k + 1)))) ∧ (kd (is k) = 234 → (Γ 4).2.1 12 (cN kd is 3 k) = J (smA kd vl is (k + 1)))
def CLs (kd vl : Nat → Int) (is : Nat → Nat) (n : Nat) (σ : MS) (Γ : HS) : Prop := (0 ≤ smA kd vl is n ∧ smA kd vl is n ≤ 1000) ∧ σ.1 39 = J (smA kd vl is n) ∧ (cN kd is 3 n = 0 → smA kd vl is n = 0) ∧ (0 < cN kd is 3 n → (Γ 4).2.1 12 (cN kd is 3 n - 1) = J (smA kd vl is n))
def DR (T : Nat) (kd vl rv : Nat → Int) (is : Nat → Nat) (n : Nat) (σ : MS) (Γ : HS) : Prop := CN7 σ Γ (fun q => cN kd is q n) ∧ CLs kd vl is n σ Γ ∧ FD kd vl is n Γ ∧ TB T kd vl rv σ Γ
theorem cN_mono {is : Nat → Nat} {q : Nat} : ∀ d k, cN kd is q k ≤ cN kd is q (k + d) := by
  intro d
  induction d with
  | zero => intro k; exact Nat.le_refl _
  | succ d ih =>
    intro k
    refine Nat.le_trans (ih k) ?_
    show cN kd is q (k + d) ≤ (if q = qOf (kd (is (k + d))) then cN kd is q (k + d) + 1 else cN kd is q (k + d))
    split <;> omega
theorem cN_lt {is : Nat → Nat} {k n : Nat} (h : k < n) : cN kd is (qOf (kd (is k))) k < cN kd is (qOf (kd (is k))) n := by
  have h1 := cN_mono (kd := kd) (is := is) (q := qOf (kd (is k))) (n - (k + 1)) (k + 1)
  rw [show k + 1 + (n - (k + 1)) = n by omega] at h1
  refine Nat.lt_of_lt_of_le ?_ h1
  show _ < (if qOf (kd (is k)) = qOf (kd (is k)) then _ else _)
  rw [if_pos rfl]; omega
theorem cN_s {is : Nat → Nat} {q n : Nat} : cN kd is q (n + 1) = if q = qOf (kd (is n)) then cN kd is q n + 1 else cN kd is q n := rfl
theorem smA_s {is : Nat → Nat} {n : Nat} : smA kd vl is (n + 1) = if kd (is n) = 234 then smA kd vl is n + vl (is n + 3) else smA kd vl is n := rfl
/-- one more item, neither verb nor array -/
theorem FD_s {is : Nat → Nat} {n : Nat} {Γ Δ : HS} (h : FD kd vl is n Γ) (h1 : kd (is n) ≠ 232) (h2 : kd (is n) ≠ 234) (h7 : (Δ 4).2.1 7 = (Γ 4).2.1 7) (h12 : (Δ 4).2.1 12 = (Γ 4).2.1 12) : FD kd vl is (n + 1) Δ := by
  refine ⟨fun v v1 v2 => by rw [h7]; exact h.1 v v1 v2, fun k hk => ?_⟩
  rw [h7, h12]
  by_cases q : k = n
  · subst q; exact ⟨fun h => absurd h h1, fun h => absurd h h2⟩
  · exact h.2 k (by omega)
theorem qOf_3 {k : Int} (h : 230 ≤ k ∧ k ≤ 237) (h2 : k ≠ 234) : ¬ 3 = qOf k := by
  unfold qOf
  repeat' split
  all_goals omega
theorem CLs_s {is : Nat → Nat} {n : Nat} {σ υ : MS} {Γ Δ : HS} (h : CLs kd vl is n σ Γ) (hk : 230 ≤ kd (is n) ∧ kd (is n) ≤ 237) (h2 : kd (is n) ≠ 234) (h39 : υ.1 39 = σ.1 39) (h12 : (Δ 4).2.1 12 = (Γ 4).2.1 12) : CLs kd vl is (n + 1) υ Δ := by
  unfold CLs
  rw [h39, h12, cN_s, smA_s, if_neg h2, if_neg (qOf_3 hk h2)]
  exact h
theorem CN7_s {is : Nat → Nat} {n q : Nat} {σ : MS} {Γ : HS} (hq : q = qOf (kd (is n))) (h : CN7 σ Γ (fun z => if z = q then cN kd is q n + 1 else cN kd is z n)) : CN7 σ Γ (fun z => cN kd is z (n + 1)) := by
  intro z hz
  have := h z hz
  dsimp only at this ⊢
  rw [cN_s, ← hq]
  by_cases e : z = q
  · rw [if_pos e] at this ⊢; rw [e] at this ⊢; exact this
  · rw [if_neg e] at this ⊢; exact this
/-- the tables, kept -/
theorem CN7_keep {σ υ : MS} {Γ Δ : HS} {cn : Nat → Nat} (h : CN7 σ Γ cn) (h1 : ∀ q, q < 7 → υ.1 (fcq q) = σ.1 (fcq q)) (h2 : (Δ 4).2.1 0 = (Γ 4).2.1 0) : CN7 υ Δ cn := fun q hq => by rw [h1 q hq, h2]; exact h q hq
theorem TB_keep {σ υ : MS} {Γ Δ : HS} (h : TB T kd vl rv σ Γ) (h1 : υ.2 28 = σ.2 28) (h2 : υ.2 29 = σ.2 29) (h3 : (Δ 3).2.1 3 = (Γ 3).2.1 3) (h4 : (Δ 3).2.1 4 = (Γ 3).2.1 4) : TB T kd vl rv υ Δ := fun u hu hk => by rw [h1, h2, h3, h4]; exact h u hu hk
/-- an item's fault, found by both -/
def iBad (pl : Nat → Nat) (a b : Int32 × Int32) (Γ : HS) (i j : Nat) : Prop := ∃ (f : Int) (w : Nat), (0 < f ∧ f ≤ 6) ∧ i ≤ w ∧ w < j ∧ CF W2 pl Γ i f w ∧ (nBeh (pl w) a → b = (J f, J (pl w : Nat)))
/-- what declaring one item gives, whatever was before -/
def CNn (σ : MS) (n : Nat) : Prop := ∀ q, q < 7 → ∃ c : Nat, c ≤ n + 11 ∧ σ.1 (fcq q) = J (c : Nat)
def limK (k : Int) : Nat := if k ≤ 231 then 120 else if k = 232 then 60 else if k = 233 then 100 else if k = 234 then 20 else if k = 235 then 100 else if k = 236 then 200 else 20
/-- what declaring does to the names' tables and to the counters -/
def nmT (kd rv : Nat → Int) (i x : Nat) (σ υ : MS) : Prop := (∀ y, ((kd i ≤ 235 ∧ y = (rv (i + 1)).toNat ∧ σ.2 28 y = 0) → υ.2 28 y = J (kd i - 229) ∧ υ.2 29 y = (if kd i ≤ 232 then σ.1 (fcq (qOf (kd i))) + 1 else σ.1 (fcq (qOf (kd i)))) ∧ υ.2 30 y = J (x : Nat)) ∧ (¬ (kd i ≤ 235 ∧ y = (rv (i + 1)).toNat ∧ σ.2 28 y = 0) → υ.2 28 y = σ.2 28 y ∧ υ.2 29 y = σ.2 29 y ∧ υ.2 30 y = σ.2 30 y)) ∧ ((flt υ).1 = 0 → (kd i ≤ 235 → σ.2 28 (rv (i + 1)).toNat = 0) ∧ ∃ c : Nat, σ.1 (fcq (qOf (kd i))) = J (c : Nat) ∧ c < limK (kd i)) ∧ ∀ q, q < 7 → υ.1 (fcq q) = if q = qOf (kd i) then σ.1 (fcq q) + 1 else σ.1 (fcq q)
theorem nGe_0 {P : Nat} {a b : Int32 × Int32} (h : nGe P a b) (hb : b.1 = 0) : a.1 = 0 := by
  rcases h with h | ⟨g, q, h1, h2, -, -, h5, -⟩
  · rw [← h]; exact hb
  · rw [h5] at hb; exact absurd hb (Jg_ne ⟨h1, h2⟩)
def dT (kd rv : Nat → Int) (pl : Nat → Nat) (n i x : Nat) (σ υ : MS) : Prop := rD0 σ υ ∧ nGe (pl i) (flt σ) (flt υ) ∧ CNn υ (n + 1) ∧ (∀ y, υ.2 28 y ≠ 0 ↔ (σ.2 28 y ≠ 0 ∨ (kd i ≤ 235 ∧ y = (rv (i + 1)).toNat))) ∧ nmT kd rv i x σ υ
theorem CNn_le {σ : MS} {n m : Nat} (h : CNn σ n) (hm : n ≤ m) : CNn σ m := fun q hq => by obtain ⟨c, h1, h2⟩ := h q hq; exact ⟨c, by omega, h2⟩
theorem namF_nGe {a : Int32 × Int32} {td ov : Bool} {p P : Nat} (hp : P ≤ p) (hp2 : p ≤ 5000) : nGe P a (namF a td ov p) := by
  unfold namF
  have h1 : nGe P a (if td then ntF a 4 p else a) := by
    split
    · exact nGe_nt (by omega) hp hp2
    · exact nGe_rfl
  split
  · exact nGe_trans h1 (nGe_nt (by omega) hp hp2)
  · exact h1
theorem namS_CNn {σ : MS} {a : Int32 × Int32} {r x n q c : Nat} {w num : Int} (h : CNn σ n) (hq : q < 7) (hc : σ.1 (fcq q) = J (c : Nat)) (hcn : c ≤ n + 11) : CNn (namS σ a (fcq q) c r w num x) (n + 1) := by
  intro z hz
  rw [namS_i (by unfold fcq; split <;> omega) (by unfold fcq; split <;> omega)]
  by_cases e : z = q
  · subst e; rw [if_pos rfl]; exact ⟨c + 1, by omega, rfl⟩
  · rw [if_neg (by unfold fcq; repeat' split
                   all_goals omega)]
    obtain ⟨d, d1, d2⟩ := h z hz
    exact ⟨d, by omega, d2⟩
theorem namS_28' {σ : MS} {a : Int32 × Int32} {r x fc c : Nat} {w num : Int} (hw : 1 ≤ w ∧ w ≤ 6) : ∀ y, (namS σ a fc c r w num x).2 28 y ≠ 0 ↔ (σ.2 28 y ≠ 0 ∨ y = r) := by
  intro y
  rw [namS_28]
  by_cases q : y = r ∧ σ.2 28 r = 0
  · rw [if_pos q]; exact ⟨fun _ => Or.inr q.1, fun _ => Jg_ne hw⟩
  · rw [if_neg q]
    refine ⟨Or.inl, fun h => ?_⟩
    rcases h with h | h
    · exact h
    · intro h0; exact q ⟨h, by rw [← h]; exact h0⟩
theorem namS_30 {σ : MS} {a : Int32 × Int32} {fc c r x y : Nat} {w num : Int} : (namS σ a fc c r w num x).2 30 y = if y = r ∧ σ.2 28 r = 0 then J (x : Nat) else σ.2 30 y := by
  unfold namS
  by_cases h : σ.2 28 r = 0
  · rw [if_pos h]
    show upd (σ.2 30) r (J (x : Nat)) y = _
    rw [upd_s]
    by_cases q : y = r
    · rw [if_pos q, if_pos ⟨q, h⟩]
    · rw [if_neg q, if_neg (fun e => q e.1)]
  · rw [if_neg h, if_neg (fun e => h e.2)]; rfl
theorem fcq_inj {q z : Nat} (h : fcq q = fcq z) : q = z := by
  unfold fcq at h
  repeat' split at h
  all_goals omega
theorem fcq_rng (q : Nat) : fcq q ≠ 14 ∧ fcq q ≠ 15 ∧ fcq q ≠ 39 := by unfold fcq; split <;> omega
theorem namS_nmT {σ υ : MS} {A : Int32 × Int32} {i q c r x : Nat} {w num : Int} (hk : kd i ≤ 235) (hr : r = (rv (i + 1)).toNat) (hq : q = qOf (kd i)) (hw : w = kd i - 229) (hc : σ.1 (fcq q) = J (c : Nat)) (hnum : J num = if kd i ≤ 232 then J (c : Nat) + 1 else J (c : Nat)) (h28 : υ.2 28 = (namS σ A (fcq q) c r w num x).2 28) (h29 : υ.2 29 = (namS σ A (fcq q) c r w num x).2 29) (h30 : υ.2 30 = (namS σ A (fcq q) c r w num x).2 30) (hi : ∀ z, υ.1 (fcq z) = (namS σ A (fcq q) c r w num x).1 (fcq z)) (hf : (flt υ).1 = 0 → σ.2 28 r = 0 ∧ c < limK (kd i)) : nmT kd rv i x σ υ := by
  subst hr
  refine ⟨fun y => ⟨fun h => ?_, fun h => ?_⟩, fun h => ⟨fun _ => (hf h).1, c, by rw [← hq]; exact hc, (hf h).2⟩, fun z hz => ?_⟩
  · obtain ⟨h1, h2, h3⟩ := h
    have h4 : y = (rv (i + 1)).toNat ∧ σ.2 28 (rv (i + 1)).toNat = 0 := ⟨h2, by rw [← h2]; exact h3⟩
    rw [h28, h29, h30]
    exact ⟨(namS_28.trans (if_pos h4)).trans (by rw [hw]), (namS_29.trans (if_pos h4)).trans (by rw [hnum, ← hq, hc]), namS_30.trans (if_pos h4)⟩
  · have h' : ¬ (y = (rv (i + 1)).toNat ∧ σ.2 28 (rv (i + 1)).toNat = 0) := fun e => h ⟨hk, e.1, by rw [e.1]; exact e.2⟩
    rw [h28, h29, h30, namS_28, namS_29, namS_30, if_neg h', if_neg h', if_neg h']
    exact ⟨rfl, rfl, rfl⟩
  · rw [hi, namS_i (fcq_rng z).1 (fcq_rng z).2.1]
    by_cases e : z = q
    · rw [if_pos (by rw [e]), if_pos (by rw [e, hq]), e, hc, J_lit, J_add]; rfl
    · rw [if_neg (fun h => e (fcq_inj h)), if_neg (fun h => e (by rw [h, hq]))]
