/-! the code, linked: what it means, that it is whole -/
variable {T N : Nat} {kd vl rv : Nat → Int} {pl : Nat → Nat}
/-- two rows of instructions from one place go the same way -/
theorem chain_det {Γ : HS} {P P' : Nat → Prop} {n n' : Nat} {b b' : Nat → Nat} (h0 : b 0 = b' 0) (h : ∀ k, k < n → (∃ o : Int, op1 Γ (b k) o ∧ 0 ≤ o ∧ o ≤ 32 ∧ b (k + 1) = b k + 1) ∨ (∃ (o : Int) (v : Int), op3 Γ (b k) o v ∧ 33 ≤ o ∧ o ≤ 50 ∧ b (k + 1) = b k + 3 ∧ (isNO o → ∃ i : Nat, v = (i : Nat) ∧ P i))) (h' : ∀ k, k < n' → (∃ o : Int, op1 Γ (b' k) o ∧ 0 ≤ o ∧ o ≤ 32 ∧ b' (k + 1) = b' k + 1) ∨ (∃ (o : Int) (v : Int), op3 Γ (b' k) o v ∧ 33 ≤ o ∧ o ≤ 50 ∧ b' (k + 1) = b' k + 3 ∧ (isNO o → ∃ i : Nat, v = (i : Nat) ∧ P' i))) : ∀ k, k ≤ n → k ≤ n' → b k = b' k := by
  intro k
  induction k with
  | zero => intro _ _; exact h0
  | succ k ih =>
    intro k1 k2
    have e := ih (by omega) (by omega)
    rcases h k (by omega) with ⟨o, a1, a2, a3, a4⟩ | ⟨o, v, a1, a2, a3, a4, -⟩
    · rcases h' k (by omega) with ⟨o', c1, c2, c3, c4⟩ | ⟨o', v', c1, c2, c3, c4, -⟩
      · omega
      · exfalso
        rw [e] at a1
        have := a1.symm.trans c1.1
        rw [J_eq (by omega) (by omega) (by omega) (by omega)] at this; omega
    · rcases h' k (by omega) with ⟨o', c1, c2, c3, c4⟩ | ⟨o', v', c1, c2, c3, c4, -⟩
      · exfalso
        rw [e] at a1
        have := a1.1.symm.trans c1
        rw [J_eq (by omega) (by omega) (by omega) (by omega)] at this; omega
      · omega
/-- a routine is read from its first byte to its last, and jumps within itself -/
def ISR (Δ : HS) (p q : Nat) : Prop := ∃ (n : Nat) (b : Nat → Nat), b 0 = p ∧ b n = q ∧ ∀ k, k < n → (∃ o : Int, op1 Δ (b k) o ∧ 0 ≤ o ∧ o ≤ 32 ∧ b (k + 1) = b k + 1) ∨ (∃ o v : Int, op3 Δ (b k) o v ∧ 33 ≤ o ∧ o ≤ 48 ∧ b (k + 1) = b k + 3 ∧ (41 ≤ o → o ≤ 44 → ∃ i : Nat, v = (i : Nat) ∧ p ≤ i ∧ i < q))
def ISW (Δ : HS) (ln nd no ne : Nat) : Prop := ∀ R, (R < nd ∨ (100 ≤ R ∧ R < 100 + no) ∨ (300 ≤ R ∧ R < 300 + ne)) → ∃ p q : Nat, (Δ 5).2.1 2 R = J (p : Nat) ∧ (Δ 5).2.1 3 R = J (q : Nat) ∧ p ≤ q ∧ q ≤ ln ∧ ISR Δ p q
theorem linked0 {G : Nat → HS} {Θ Γs : HS} {σs σK : MS} (hT : TKE T N kd vl rv pl) {DN : Nat → Nat → Nat → Prop} (hE : MEN T N kd vl rv pl G Θ Γs σs σK DN) (hTB : TB T kd vl rv σK Θ) {cl : List Int} {c : Nat} {ls is ps ds os es : Nat → Nat} (hI : ITS kd vl rv pl σs Γs c ls is ps ds os es) (hcT : is c = T) (hp0 : ps 0 = 0) (hl : (Γs 5).1 1 = J (ps c : Nat)) (hln : ps c ≤ 39000) {K : Nat → HS} (hK : ∀ z, z < c → CIT T G Θ kd vl cl is z (K z) (K (z + 1))) (h5 : (K c) 5 = Γs 5) (hb : ∀ w, w < T → ¬ badW G Θ Γs kd vl c is w) : ∃ Δ, F_X0_link (K c) = some ((0 : Int32), Δ) ∧ (∀ r, r ≠ 5 → Δ r = K c r) ∧ (Δ 5).1 = (Γs 5).1 ∧ (∀ k, k ≠ 0 → (Δ 5).2.1 k = (Γs 5).2.1 k) ∧ (∀ (R : Nat → Nat → Int32) (DN' : Nat → Nat → Nat → Prop) (TX : Nat → Int → Int → Prop) (Dq : Prop) (x lo hi z : Nat), z < c → RTQ (op1 Γs) (lk3 G Θ Γs kd vl) R DN' TX Dq x lo hi (ps z) (ps (z + 1)) → RTQ (op1 Δ) (op3 Δ) R DN' TX Dq x lo hi (ps z) (ps (z + 1))) ∧ (∀ z, z < c → 235 ≤ kd (is z) → ISR Δ (ps z) (ps (z + 1)) ∧ ps z ≤ ps (z + 1)) ∧ ∃ BD : Nat → Prop, BDC (op1 Γs) (op1 Δ) (lk3 G Θ Γs kd vl) (op3 Δ) BD (ps c) ∧ (∀ z, z ≤ c → BD (ps z)) ∧ ∀ (r : Nat) (o : Int) (i : Nat), BD r → r + 3 ≤ ps c → isNO o → op3 Γs r o (i : Nat) → i < 65536 → kd i = 2 ∧ i < T := by
  have hm := ITS_lt hI
  have hIk : ∀ z, z < c → 230 ≤ kd (is z) ∧ kd (is z) ≤ 237 := fun z hz => by
    obtain ⟨j1, j2, -⟩ := ITM_noI (hI z hz).1
    exact ⟨j1, j2⟩
  have ops : ∀ {p : Nat} {o : Int}, op1 (K c) p o ↔ op1 Γs p o := by intro p o; unfold op1; rw [h5]
  have ops3 : ∀ {p : Nat} {o v : Int}, op3 (K c) p o v ↔ op3 Γs p o v := by intro p o v; unfold op3; rw [h5]
  have psm : ∀ d z, z + d ≤ c → ps z ≤ ps (z + d) := by
    intro d
    induction d with
    | zero => intro z _; exact Nat.le_refl _
    | succ d ih => intro z hz; have := ih z (by omega); have b := (hI (z + d) (by omega)).2.2.2.2.1; rw [show z + (d + 1) = z + d + 1 by omega]; omega
  obtain ⟨n, b, b1, b2, b3⟩ := all_icp hI c (Nat.le_refl _)
  rw [hp0] at b1
  have hW : WIC (K c) (PBW kd c is) (ps c) n b := by
    refine ⟨b1, b2, fun k hk => ?_⟩
    rcases b3 k hk with ⟨o, a, a1⟩ | ⟨o, v, a, a1⟩
    · exact Or.inl ⟨o, ops.mpr a, a1⟩
    · exact Or.inr ⟨o, v, ops3.mpr a, a1⟩
  have hlt := WIC_lt hW
  obtain ⟨Δ, l1, l2, l3, l4, l5, l6⟩ := c_link (s := srt G Θ kd vl) (m := nmb G Θ kd vl) hW (by rw [h5]; exact hl) hln (fun i hi => mean_at hE hTB hm.1 (by omega) hIk hK hb hi)
  -- a place where an item's code begins
  have bd : ∀ z, z ≤ c → ∃ k, k ≤ n ∧ b k = ps z := by
    intro z hz
    obtain ⟨n', b', d1, d2, d3⟩ := all_icp hI z hz
    rw [hp0] at d1
    have hz2 := psm (c - z) z (by omega)
    rw [show z + (c - z) = c by omega] at hz2
    have det := chain_det (b := b) (b' := b') (by rw [b1, d1]) b3 d3
    have hle : n' ≤ n := by
      rcases Nat.lt_or_ge n n' with q | q
      · exfalso
        have e := det n (Nat.le_refl _) (by omega)
        have up : ∀ d, n + d ≤ n' → b' n + d ≤ b' (n + d) := by
          intro d
          induction d with
          | zero => intro _; exact Nat.le_refl _
          | succ d ih =>
            intro hd
            have a := ih (by omega)
            have : b' (n + d) + 1 ≤ b' (n + d + 1) := by
              rcases d3 (n + d) (by omega) with ⟨o, -, -, -, e⟩ | ⟨o, v, -, -, -, e, -⟩ <;> omega
            rw [show n + (d + 1) = n + d + 1 by omega]; omega
        have := up (n' - n) (by omega)
        rw [show n + (n' - n) = n' by omega, d2, ← e, b2] at this
        omega
      · exact q
    exact ⟨n', hle, by rw [det n' hle (Nat.le_refl _), d2]⟩
  -- at the places where instructions begin
  have at1 : ∀ (r : Nat) (o : Int), (∃ k, k ≤ n ∧ b k = r) → r + 1 ≤ ps c → op1 Γs r o → 0 ≤ o → o ≤ 32 → op1 Δ r o ∧ ∃ k, k ≤ n ∧ b k = r + 1 := by
    rintro r o ⟨k, k1, rfl⟩ hr ho o1 o2
    have kn : k < n := by
      rcases Nat.lt_or_ge k n with q | q
      · exact q
      · rw [show k = n by omega, b2] at hr; omega
    obtain ⟨e1, e2⟩ := (l6 k kn).1 o o1 o2 (ops.mpr ho)
    exact ⟨e1, k + 1, kn, e2⟩
  have hC : BDC (op1 Γs) (op1 Δ) (lk3 G Θ Γs kd vl) (op3 Δ) (fun r => ∃ k, k ≤ n ∧ b k = r) (ps c) := by
    refine ⟨at1, ?_⟩
    rintro r o v ⟨k, k1, rfl⟩ hr ho o1 o2
    have kn : k < n := by
      rcases Nat.lt_or_ge k n with q | q
      · exact q
      · rw [show k = n by omega, b2] at hr; omega
    rcases ho with ⟨⟨hn, -⟩, ho⟩ | ⟨o0, i, hn, ho, hi, e1, e2, -⟩
    · obtain ⟨e1, e2⟩ := (l6 k kn).2.1 o v o1 (by omega) hn (ops3.mpr ho)
      exact ⟨e1, k + 1, kn, e2⟩
    · obtain ⟨e3, e4⟩ := (l6 k kn).2.2 o0 i hn (by omega) (ops3.mpr ho)
      rw [← e1, ← e2] at e3
      exact ⟨e3, k + 1, kn, e4⟩
  refine ⟨Δ, l1, l2, by rw [l3, h5], fun k hk => by rw [l4 k hk, h5], fun R DN' TX Dq x lo hi z hz hR => ?_, fun z hz hk => ?_, (fun r => ∃ k, k ≤ n ∧ b k = r), hC, bd, ?_⟩
  · have hz2 := psm (c - (z + 1)) (z + 1) (by omega)
    rw [show z + 1 + (c - (z + 1)) = c by omega] at hz2
    exact (RTQ_bd hC hR hz2 (bd z (by omega))).1
  · have hz2 := psm (c - (z + 1)) (z + 1) (by omega)
    rw [show z + 1 + (c - (z + 1)) = c by omega] at hz2
    have hz1 := psm 1 z (by omega)
    obtain ⟨lo, bb, ⟨hh, y, m, r, ⟨a1, a1'⟩, a2, a3, a4, a5, a6, a7, a8, a9⟩, -, -⟩ := (ITM_rtn (hI z hz).1).2 hk
    obtain ⟨n', b', d1, d2, d3⟩ := STX_ic _ _ _ _ _ _ _ _ _ a3
    obtain ⟨k0, k1, k2⟩ := bd z (by omega)
    -- the block's row is a part of the whole row
    have sub : ∀ k, k ≤ n' → k0 + k ≤ n ∧ b (k0 + k) = b' k := by
      intro k
      induction k with
      | zero => intro _; exact ⟨k1, by rw [Nat.add_zero, k2, d1]⟩
      | succ k ih =>
        intro hk'
        obtain ⟨i1, i2⟩ := ih (by omega)
        have up : ∀ d, k + d ≤ n' → b' k + d ≤ b' (k + d) := by
          intro d
          induction d with
          | zero => intro _; exact Nat.le_refl _
          | succ d ih =>
            intro hd
            have a := ih (by omega)
            have : b' (k + d) + 1 ≤ b' (k + d + 1) := by
              rcases d3 (k + d) (by omega) with ⟨o, -, -, -, e⟩ | ⟨o, v, -, -, -, e, -⟩ <;> omega
            rw [show k + (d + 1) = k + d + 1 by omega]; omega
        have u := up (n' - k) (by omega)
        rw [show k + (n' - k) = n' by omega, d2] at u
        have kn : k0 + k < n := by
          rcases Nat.lt_or_ge (k0 + k) n with q | q
          · exact q
          · exfalso
            rw [show k0 + k = n by omega, b2] at i2; omega
        refine ⟨by omega, ?_⟩
        rw [show k0 + (k + 1) = k0 + k + 1 by omega]
        rcases b3 (k0 + k) kn with ⟨o, x1, x2, x3, x4⟩ | ⟨o, v, x1, x2, x3, x4, -⟩
        · rcases d3 k (by omega) with ⟨o', c1, c2, c3, c4⟩ | ⟨o', v', c1, c2, c3, c4, -⟩
          · omega
          · exfalso
            rw [i2] at x1
            have := x1.symm.trans c1.1
            rw [J_eq (by omega) (by omega) (by omega) (by omega)] at this; omega
        · rcases d3 k (by omega) with ⟨o', c1, c2, c3, c4⟩ | ⟨o', v', c1, c2, c3, c4, -⟩
          · exfalso
            rw [i2] at x1
            have := x1.1.symm.trans c1
            rw [J_eq (by omega) (by omega) (by omega) (by omega)] at this; omega
          · omega
    obtain ⟨s1, s2⟩ := sub n' (Nat.le_refl _)
    refine ⟨⟨n' + 1, fun k => if k ≤ n' then b' k else ps (z + 1), by dsimp only; rw [if_pos (by omega)]; exact d1, by dsimp only; rw [if_neg (by omega)], fun k hk' => ?_⟩, hz1⟩
    dsimp only
    by_cases q : k = n'
    · rw [if_pos (by omega), if_neg (by omega), q, d2]
      refine Or.inl ⟨0, (at1 r 0 ⟨k0 + n', s1, by rw [s2, d2]⟩ (by omega) a8 (by omega) (by omega)).1, by omega, by omega, a2⟩
    · rw [if_pos (by omega), if_pos (by omega)]
      obtain ⟨t1, t2⟩ := sub k (by omega)
      obtain ⟨t3, t4⟩ := sub (k + 1) (by omega)
      rcases d3 k (by omega) with ⟨o, c1, c2, c3, c4⟩ | ⟨o, v, c1, c2, c3, c4, c5, c6⟩
      · obtain ⟨e1, e2⟩ := (l6 (k0 + k) (by omega)).1 o c2 c3 (by rw [t2]; exact ops.mpr c1)
        rw [t2] at e1
        exact Or.inl ⟨o, e1, c2, c3, c4⟩
      · by_cases hn : isNO o
        · obtain ⟨i, rfl, i2, i3, i4⟩ := c5 hn
          have iT : i < 65536 := by
            have hTT := hT.1
            have hmz := is_le hm.1 (a := z + 1) (b := c) (by omega) (Nat.le_refl _)
            have hr := STX_rng a3
            omega
          obtain ⟨e1, e2⟩ := (l6 (k0 + k) (by omega)).2.2 o i hn iT (by rw [t2]; exact ops3.mpr c1)
          rw [t2] at e1
          have lr := lnkO_rng (s := srt G Θ kd vl i) hn
          exact Or.inr ⟨_, _, e1, by omega, by omega, c4, fun h => by omega⟩
        · obtain ⟨e1, e2⟩ := (l6 (k0 + k) (by omega)).2.1 o v c2 c3 hn (by rw [t2]; exact ops3.mpr c1)
          rw [t2] at e1
          refine Or.inr ⟨o, v, e1, c2, by unfold isNO at hn; omega, c4, fun h1 h2 => ?_⟩
          obtain ⟨i, i1, i2, i3⟩ := c6 h1 h2
          exact ⟨i, i1, i2, by omega⟩
  · rintro r o i ⟨k, k1, rfl⟩ hr hn ho hi
    have kn : k < n := by
      rcases Nat.lt_or_ge k n with q | q
      · exact q
      · rw [show k = n by omega, b2] at hr; omega
    have ob : 33 ≤ o ∧ o ≤ 50 := by unfold isNO at hn; omega
    rcases b3 k kn with ⟨o', x1, x2, x3, x4⟩ | ⟨o', v', x1, x2, x3, x4, x5⟩
    · exfalso
      have := x1.symm.trans ho.1
      rw [J_eq (by omega) (by omega) (by omega) (by omega)] at this; omega
    · have e : o' = o := by
        have := x1.1.symm.trans ho.1
        rwa [J_eq (by omega) (by omega) (by omega) (by omega)] at this
      rw [e] at x5
      obtain ⟨i', rfl, z, z1, z2, bb, y1, y2, y3, y4, y5⟩ := x5 hn
      have hmz := is_le hm.1 (a := z + 1) (b := c) (by omega) (Nat.le_refl _)
      have hTT := hT.1
      have : i = i' := cb_inj hi (by omega) (ho.2.1.symm.trans x1.2.1) (ho.2.2.symm.trans x1.2.2)
      rw [this]
      exact ⟨y5, by omega⟩
theorem linked {G : Nat → HS} {Θ Γs : HS} {σs σK : MS} (hT : TKE T N kd vl rv pl) {DN : Nat → Nat → Nat → Prop} (hE : MEN T N kd vl rv pl G Θ Γs σs σK DN) (hTB : TB T kd vl rv σK Θ) {cl : List Int} {c : Nat} {ls is ps ds os es : Nat → Nat} (hI : ITS kd vl rv pl σs Γs c ls is ps ds os es) (hcT : is c = T) (hp0 : ps 0 = 0) (hl : (Γs 5).1 1 = J (ps c : Nat)) (hln : ps c ≤ 39000) {K : Nat → HS} (hK : ∀ z, z < c → CIT T G Θ kd vl cl is z (K z) (K (z + 1))) (h5 : (K c) 5 = Γs 5) (hb : ∀ w, w < T → ¬ badW G Θ Γs kd vl c is w) : ∃ Δ, F_X0_link (K c) = some ((0 : Int32), Δ) ∧ (∀ r, r ≠ 5 → Δ r = K c r) ∧ (Δ 5).1 = (Γs 5).1 ∧ (∀ k, k ≠ 0 → (Δ 5).2.1 k = (Γs 5).2.1 k) ∧ (∀ (R : Nat → Nat → Int32) (DN' : Nat → Nat → Nat → Prop) (TX : Nat → Int → Int → Prop) (Dq : Prop) (x lo hi z : Nat), z < c → RTQ (op1 Γs) (lk3 G Θ Γs kd vl) R DN' TX Dq x lo hi (ps z) (ps (z + 1)) → RTQ (op1 Δ) (op3 Δ) R DN' TX Dq x lo hi (ps z) (ps (z + 1))) ∧ ∀ z, z < c → 235 ≤ kd (is z) → ISR Δ (ps z) (ps (z + 1)) ∧ ps z ≤ ps (z + 1) := by
  obtain ⟨Δ, l1, l2, l3, l4, l5, l6, -⟩ := linked0 hT hE hTB hI hcT hp0 hl hln hK h5 hb
  exact ⟨Δ, l1, l2, l3, l4, l5, l6⟩
