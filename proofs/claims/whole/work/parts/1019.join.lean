/-! both have cut the same words: all of them -/
def jN (b : Nat → Int) (L T : Nat) : Nat := if posW b L T < L then T + 2 else T + 1
def jkd (b : Nat → Int) (L T : Nat) (Γ : HS) (i : Nat) : Int := if i < jN b L T then ((Γ 1).2.1 3 i).toInt else 0
def jvl (Γ : HS) (i : Nat) : Int := ((Γ 1).2.1 5 i).toInt
def jrv (σ : MS) (i : Nat) : Int := (σ.2 9 i).toInt
def jpl (b : Nat → Int) (L T i : Nat) : Nat := if i ≤ T then posW b L i else if posW b L T < L then L else L + 1
theorem posW_lt {b : Nat → Int} {L T : Nat} (h : ∀ t, t < T → posW b L t < L ∧ wOk b L (posW b L t)) : ∀ d t, t + d ≤ T → posW b L t + d ≤ posW b L (t + d) := by
  intro d
  induction d with
  | zero => intro t _; exact Nat.le_refl _
  | succ d ih =>
    intro t ht
    have h1 := ih t (by omega)
    have h2 := wEnd_gt (b := b) (h (t + d) (by omega)).1
    have h3 := skp_ge (b := b) (L := L) (wEnd b L (posW b L (t + d)))
    show _ ≤ skp b L (wEnd b L (posW b L (t + d))); omega
theorem lex_T {b : Nat → Int} {L T T' m : Nat} {nm : Nat → List Int} {cl : List Int} {σ : MS} {Γ : HS} (h : rLex b L T m nm σ) (i : cLex b L T' cl Γ) : T' = T := by
  rcases Nat.lt_trichotomy T T' with q | q | q
  · exact absurd (i.1 T q) h.2.1
  · exact q.symm
  · exact absurd (h.1 T' q) i.2.1
/-- what is known of the names -/
def NMF (b : Nat → Int) (L T m : Nat) (nm : Nat → List Int) (cl : List Int) (kd vl rv : Nat → Int) (pl : Nat → Nat) : Prop := ∀ u, u ≤ T → kd u = 2 → (rv u).toNat < m ∧ (vl u).toNat < cl.length ∧ nm (rv u).toNat = wd b L (pl u) ∧ cl.getD (vl u).toNat 0 = pk (wd b L (pl u)) ∧ nmW (wd b L (pl u)) ∧ pl u < L ∧ isLt (b (pl u)) = true ∧ wOk b L (pl u)
theorem lex_join {b : Nat → Int} {L T m : Nat} {nm : Nat → List Int} {cl : List Int} {σ : MS} {Γ : HS} (h : rLex b L T m nm σ) (i : cLex b L T cl Γ) (hL : L ≤ 4095) : TKE T (jN b L T) (jkd b L T Γ) (jvl Γ) (jrv σ) (jpl b L T) ∧ TKr T (jkd b L T Γ) (jvl Γ) (jrv σ) (jpl b L T) σ ∧ TKc (jN b L T) (jkd b L T Γ) (jvl Γ) (jpl b L T) Γ ∧ plm T (jpl b L T) ∧ NMF b L T m nm cl (jkd b L T Γ) (jvl Γ) (jrv σ) (jpl b L T) ∧ NMI T (jkd b L T Γ) (jvl Γ) (jrv σ) ∧ (∀ t, t < T → jkd b L T Γ t = 4 → b (jpl b L T t) = 34 ∧ jrv σ t = ((wEnd b L (jpl b L T t) - jpl b L T t - 2 : Nat) : Int) ∧ jvl Γ t = strN b L t ∧ jpl b L T t < L ∧ wOk b L (jpl b L T t)) ∧ (∀ t, t < T → (jkd b L T Γ t = 4 ↔ b (jpl b L T t) = 34)) ∧ jpl b L T T ≤ L := by
  obtain ⟨r1, r2, r3, r4, r5, r6, r7, r8, r9, r10⟩ := h
  obtain ⟨-, -, c3, c4, c5, c6, c7, c8, c9, d1, d2, d3, d4, d5, d6⟩ := i
  have pT := posW_le T r1
  have gT := posW_ge T (fun j hj => (r1 j hj).1)
  have hN : T + 1 ≤ jN b L T ∧ jN b L T ≤ T + 2 := by unfold jN; split <;> omega
  have kdlt : ∀ t, t < jN b L T → jkd b L T Γ t = ((Γ 1).2.1 3 t).toInt := fun t ht => if_pos ht
  have one : ∀ t, t < T → jOne b L m nm cl (posW b L t) (jkd b L T Γ t) (jvl Γ t) (jrv σ t) ∧ σ.2 7 t = J (rkO (jkd b L T Γ t)) ∧ σ.2 9 t = J (rvO (jkd b L T Γ) (jvl Γ) (jrv σ) t) := by
    intro t ht
    have := jTok (r1 t ht).1 (r1 t ht).2 (show strN b L t ≤ 4096 by have := strN_le (b := b) (L := L) t; omega) (by omega) (by omega) c8 c6 c5.2.2.1 (r7 t ht).2 (c9 t ht)
    rw [← kdlt t (by omega)] at this
    exact this
  have kdT : jkd b L T Γ T = if posW b L T < L then 1 else 0 := by
    rw [kdlt T (by omega), d1]
    split <;> exact J_toInt (by omega) (by omega)
  have pl1 : ∀ t, t ≤ T → jpl b L T t = posW b L t := fun t ht => if_pos ht
  have plm1 : ∀ i j, i < j → j ≤ T → posW b L i < posW b L j := fun i j h1 h2 => by
    have := posW_lt r1 (j - i) i (by omega)
    rw [show i + (j - i) = j by omega] at this; omega
  have ple : ∀ t, t ≤ T → posW b L t ≤ posW b L T := fun t ht => by
    by_cases e : t = T
    · rw [e]; exact Nat.le_refl _
    · have := plm1 t T (by omega) (Nat.le_refl _); omega
  have kd4 : ∀ t, t < T → (jkd b L T Γ t = 4 ↔ b (posW b L t) = 34) := by
    intro t ht
    obtain ⟨o1, -⟩ := one t ht
    refine ⟨fun h => (o1.2.2.2.2.2 h).2.2.2.2, fun h => ?_⟩
    have := (c9 t ht).2.2.2
    rw [if_neg (by rw [h]; decide), if_neg (by rw [h]; decide), if_pos h] at this
    rw [kdlt t (by omega), this.1]; exact J_toInt (by omega) (by omega)
  have nmf : NMF b L T m nm cl (jkd b L T Γ) (jvl Γ) (jrv σ) (jpl b L T) := by
    intro u hu hk
    have huT : u < T := by
      by_cases e : u = T
      · rw [e, kdT] at hk; split at hk <;> omega
      · omega
    obtain ⟨o1, -⟩ := one u huT
    obtain ⟨a1, a2, a3, a4⟩ := o1.2.2.2.1 hk
    have a5 := r1 u huT
    rw [pl1 u hu]
    exact ⟨by omega, by omega, a3, a4, wd_nmW a5.1 a2 a5.2, a5.1, a2, a5.2⟩
  refine ⟨⟨by omega, fun t ht => ?_, ?_, fun t ht => ?_⟩, fun t ht => ?_, ⟨?_, fun t ht => ?_⟩, fun i j hij hj => ?_, nmf, fun u u' hu hu' hk hk' => ?_, fun t ht hk => ?_, fun t ht => ?_, ?_⟩
  · have := (one t ht).1; exact ⟨this.1, this.2.1, this.2.2.1⟩
  · rw [kdT]
    by_cases q : posW b L T < L
    · rw [if_pos q]
      refine Or.inr ⟨rfl, ?_, by unfold jN; rw [if_pos q]⟩
      rw [kdlt (T + 1) (by unfold jN; rw [if_pos q]; omega), (d6 q).1]; rfl
    · rw [if_neg q]
      exact Or.inl ⟨rfl, by unfold jN; rw [if_neg q]⟩
  · refine ⟨?_, fun hk => ?_, fun hk => ?_, fun hk => ?_⟩
    · unfold jpl
      split
      · have := ple t (by omega); omega
      · split <;> omega
    all_goals
      have htT : t < T := by
        by_cases e : t < T
        · exact e
        · exfalso
          by_cases e2 : t = T
          · rw [e2, kdT] at hk; split at hk <;> omega
          · have e3 : t = T + 1 := by omega
            unfold jkd at hk
            split at hk
            · rename_i q
              have q2 : posW b L T < L := by
                unfold jN at q
                by_cases z : posW b L T < L
                · exact z
                · rw [if_neg z] at q; omega
              rw [e3, (d6 q2).1] at hk
              exact absurd hk (by decide)
            · omega
      obtain ⟨o1, -⟩ := one t htT
    · have := (o1.2.2.2.1 hk).1; omega
    · exact o1.2.2.2.2.1 hk
    · have := o1.2.2.2.2.2 hk; omega
  · rw [pl1 t ht]
    by_cases e : t = T
    · subst e
      refine ⟨by rw [r9, kdT]; split <;> rfl, r8, ?_⟩
      rw [r10]
      unfold rvO
      rw [kdT]
      split <;> rfl
    · exact ⟨(one t (by omega)).2.1, (r7 t (by omega)).1, (one t (by omega)).2.2⟩
  · rw [c4]; unfold jN; rfl
  · refine ⟨?_, ?_, ?_⟩
    · rw [kdlt t ht]; exact (J_of _).symm
    · by_cases e : t < T
      · rw [pl1 t (by omega)]; exact (c9 t e).2.2.1
      · by_cases e2 : t = T
        · rw [pl1 t (by omega), e2]; exact d2
        · have q2 : posW b L T < L := by
            unfold jN at ht
            by_cases z : posW b L T < L
            · exact z
            · rw [if_neg z] at ht; omega
          rw [show t = T + 1 by omega, (d6 q2).2.1]; unfold jpl; rw [if_neg (by omega), if_pos q2]
    · exact (J_of _).symm
  · unfold jpl
    by_cases e : j ≤ T
    · rw [if_pos (by omega), if_pos e]; exact plm1 i j hij e
    · rw [if_neg e, if_pos (by omega)]
      have := ple i (by omega)
      split <;> omega
  · obtain ⟨a1, a2, a3, a4, a5, -⟩ := nmf u hu hk
    obtain ⟨e1, e2, e3, e4, e5, -⟩ := nmf u' hu' hk'
    have huT : u < T := by
      by_cases e : u = T
      · rw [e, kdT] at hk; split at hk <;> omega
      · omega
    have huT' : u' < T := by
      by_cases e : u' = T
      · rw [e, kdT] at hk'; split at hk' <;> omega
      · omega
    have b1 := ((one u huT).1.2.2.2.1 hk).1
    have b2 := ((one u' huT').1.2.2.2.1 hk').1
    constructor
    · intro h
      have h1 : wd b L (jpl b L T u) = wd b L (jpl b L T u') := by rw [← a3, ← e3, h]
      have := c5.2.2.1 _ _ a2 e2 (by rw [a4, e4, h1])
      omega
    · intro h
      have h1 : wd b L (jpl b L T u) = wd b L (jpl b L T u') := (pk_inj a5 e5).mp (by rw [← a4, ← e4, h])
      have := r5.2.2 _ _ a1 e1 (by rw [a3, e3, h1])
      omega
  · have ep := pl1 t (by omega)
    rw [ep]
    have h34 := (kd4 t ht).mp hk
    have o := (one t ht).1.2.2.2.2.2 hk
    have hr := (r7 t ht).2
    have hc := (c9 t ht).2.2.2
    unfold rTk at hr
    rw [if_neg (by rw [h34]; decide), if_neg (by rw [h34]; decide), if_pos h34] at hr hc
    refine ⟨h34, ?_, ?_, (r1 t ht).1, (r1 t ht).2⟩
    · show (σ.2 9 t).toInt = _
      have := hr.2
      rw [this]
      have o1 := o.2.1
      have : jrv σ t = (J ((wEnd b L (posW b L t) - posW b L t - 2 : Nat) : Int)).toInt := by unfold jrv; rw [hr.2]
      have h5 : wEnd b L (posW b L t) ≤ L := wEnd_le (r1 t ht).1 (r1 t ht).2
      rw [J_toInt (by omega) (by omega)]
    · show ((Γ 1).2.1 5 t).toInt = _
      have := strN_le (b := b) (L := L) t
      rw [hc.2, J_toInt (by omega) (by omega)]
  · rw [pl1 t (by omega)]; exact kd4 t ht
  · rw [pl1 T (Nat.le_refl _)]; exact pT
