/-! what the reference notes: the least place counts -/
variable {T N : Nat} {kd vl rv : Nat → Int} {pl : Nat → Nat}
/-- the fault and its place, g at q noted -/
def ntF (a : Int32 × Int32) (g : Int) (q : Nat) : Int32 × Int32 := if a.1 = 0 then (J g, J q) else if J q < a.2 then (J g, J q) else a
def flt (σ : MS) : Int32 × Int32 := (σ.1 14, σ.1 15)
def noF (σ : MS) (a : Int32 × Int32) : MS := (fun k => if k = 14 then a.1 else if k = 15 then a.2 else σ.1 k, σ.2)
theorem noF_id (σ : MS) : noF σ (flt σ) = σ := by
  unfold noF flt
  refine Prod.ext (funext fun k => ?_) rfl
  dsimp only
  by_cases h : k = 14
  · rw [if_pos h, h]
  · rw [if_neg h]
    by_cases h2 : k = 15
    · rw [if_pos h2, h2]
    · rw [if_neg h2]
theorem noF_flt (σ : MS) (a : Int32 × Int32) : flt (noF σ a) = a := rfl
theorem noF_i {σ : MS} {a : Int32 × Int32} {k : Nat} (h : k ≠ 14) (h2 : k ≠ 15) : (noF σ a).1 k = σ.1 k := by unfold noF; dsimp only; rw [if_neg h, if_neg h2]
theorem noF_a {σ : MS} {a : Int32 × Int32} {k : Nat} : (noF σ a).2 k = σ.2 k := rfl
theorem r_note (σ : MS) (g : Int) (q : Nat) : F_X12_note (J g) (J q) σ = some (J 0, noF σ (ntF (flt σ) g q)) := by
  have e : mI (mI σ 14 (J g)) 15 (J q) = noF σ (J g, J q) := by
    refine Prod.ext (funext fun k => ?_) rfl
    show upd (upd σ.1 14 (J g)) 15 (J q) k = if k = 14 then J g else if k = 15 then J q else σ.1 k
    rw [upd_s, upd_s]
    by_cases h : k = 15
    · rw [if_pos h, if_neg (by omega), if_pos h]
    · rw [if_neg h, if_neg h]
  show (if σ.1 14 = 0 then some ((0 : Int32), mI (mI σ 14 (J g)) 15 (J q)) else if J q < σ.1 15 then some ((0 : Int32), mI (mI σ 14 (J g)) 15 (J q)) else some ((0 : Int32), σ)) = _
  unfold ntF
  show _ = some (J 0, noF σ (if σ.1 14 = 0 then (J g, J q) else if J q < σ.1 15 then (J g, J q) else flt σ))
  by_cases h : σ.1 14 = 0
  · rw [if_pos h, if_pos h, e]; rfl
  · rw [if_neg h, if_neg h]
    by_cases h2 : J q < σ.1 15
    · rw [if_pos h2, if_pos h2, e]; rfl
    · rw [if_neg h2, if_neg h2, noF_id]; rfl
/-- what was noted since is not ahead of place P -/
def nGe (P : Nat) (a b : Int32 × Int32) : Prop := b = a ∨ ∃ (g : Int) (q : Nat), 0 < g ∧ g ≤ 6 ∧ P ≤ q ∧ q ≤ 5000 ∧ b = (J g, J q) ∧ (a.1 = 0 ∨ J q < a.2)
theorem nGe_rfl {P : Nat} {a : Int32 × Int32} : nGe P a a := Or.inl rfl
theorem Jg_ne {g : Int} (h : 0 < g ∧ g ≤ 6) : ¬ J g = 0 := by rw [show (0 : Int32) = J 0 from rfl, J_eq (by omega) (by omega) (by omega) (by omega)]; omega
theorem nGe_trans {P : Nat} {a b c : Int32 × Int32} (h : nGe P a b) (i : nGe P b c) : nGe P a c := by
  rcases h with h | ⟨g, q, h1, h2, h3, h4, h5, h6⟩
  · rw [h] at i; exact i
  · rcases i with i | ⟨g', q', i1, i2, i3, i4, i5, i6⟩
    · exact Or.inr ⟨g, q, h1, h2, h3, h4, by rw [i, h5], h6⟩
    · refine Or.inr ⟨g', q', i1, i2, i3, i4, i5, ?_⟩
      rw [h5] at i6
      rcases i6 with i6 | i6
      · exact absurd i6 (Jg_ne ⟨h1, h2⟩)
      · rcases h6 with h6 | h6
        · exact Or.inl h6
        · exact Or.inr (Int32.lt_trans i6 h6)
theorem nGe_le {P Q : Nat} {a b : Int32 × Int32} (h : nGe Q a b) (hp : P ≤ Q) : nGe P a b := by
  rcases h with h | ⟨g, q, h1, h2, h3, h4, h5⟩
  · exact Or.inl h
  · exact Or.inr ⟨g, q, h1, h2, by omega, h4, h5⟩
theorem nGe_nt {P : Nat} {a : Int32 × Int32} {g : Int} {q : Nat} (hg : 0 < g ∧ g ≤ 6) (hp : P ≤ q) (hq : q ≤ 5000) : nGe P a (ntF a g q) := by
  unfold ntF
  split
  · exact Or.inr ⟨g, q, hg.1, hg.2, hp, hq, rfl, Or.inl (by assumption)⟩
  · split
    · exact Or.inr ⟨g, q, hg.1, hg.2, hp, hq, rfl, Or.inr (by assumption)⟩
    · exact Or.inl rfl
/-- a fault that lies ahead stays -/
theorem nGe_keep {P : Nat} {a b : Int32 × Int32} {f : Int} {p : Nat} (h : nGe P a b) (ha : a = (J f, J p)) (hf : 0 < f ∧ f ≤ 6) (hp : p ≤ P) (hp2 : p ≤ 5000) : b = a := by
  rcases h with h | ⟨g, q, h1, h2, h3, h4, h5, h6⟩
  · exact h
  · rw [ha] at h6
    rcases h6 with h6 | h6
    · exact absurd h6 (Jg_ne hf)
    · exfalso
      have h6 : J (q : Int) < J (p : Int) := h6
      rw [J_lt (by omega) (by omega) (by omega) (by omega)] at h6; omega
/-- nothing is noted yet, or what lies behind place P -/
def nBeh (P : Nat) (a : Int32 × Int32) : Prop := a.1 = 0 ∨ ∃ (g : Int) (q : Nat), 0 < g ∧ g ≤ 6 ∧ P < q ∧ q ≤ 5000 ∧ a = (J g, J q)
theorem ntF_beh {P : Nat} {a : Int32 × Int32} (h : nBeh P a) (g : Int) {q : Nat} (hq : q ≤ P) : ntF a g q = (J g, J q) := by
  unfold ntF
  rcases h with h | ⟨g', q', h1, h2, h3, h4, h5⟩
  · rw [if_pos h]
  · rw [h5, if_neg (Jg_ne ⟨h1, h2⟩), if_pos (by show J (q : Int) < J (q' : Int); rw [J_lt (by omega) (by omega) (by omega) (by omega)]; omega)]
theorem nBeh_le {P Q : Nat} {a : Int32 × Int32} (h : nBeh Q a) (hp : P ≤ Q) : nBeh P a := by
  rcases h with h | ⟨g', q', h1, h2, h3, h4, h5⟩
  · exact Or.inl h
  · exact Or.inr ⟨g', q', h1, h2, by omega, h4, h5⟩
theorem ntF_same {g g' : Int} {q : Nat} (hg : 0 < g ∧ g ≤ 6) (hq : q ≤ 5000) : ntF (J g, J q) g' q = (J g, J q) := by
  unfold ntF
  rw [if_neg (Jg_ne hg), if_neg (by show ¬ J (q : Int) < J (q : Int); rw [J_lt (by omega) (by omega) (by omega) (by omega)]; omega)]
/-- how many are seen, and how many slots there are -/
def WS (σ : MS) (s m : Nat) : Prop := σ.1 33 = J (s : Nat) ∧ s ≤ 16 ∧ σ.1 34 = J (m : Nat) ∧ m ≤ 5000
/-- what seeAnew leaves -/
def sawF (a : Int32 × Int32) (td : Bool) (m : Nat) (p : Nat) : Int32 × Int32 := let b := if td then ntF a 4 p else a; if 14 ≤ m then ntF b 5 p else b
def sawS (σ : MS) (a : Int32 × Int32) (s m : Nat) (r : Int32) : MS := if s < 16 then mA (mI (mI (noF σ a) 34 (J (m + 1 : Nat))) 33 (J (s + 1 : Nat))) 31 (upd (σ.2 31) s r) else mI (noF σ a) 34 (J (m + 1 : Nat))
def tdB (σ : MS) (s : Nat) (r : Int) : Bool := !(decide (σ.2 28 r.toNat = 0)) || (List.range s).any (fun k => decide (σ.2 31 k = J r))
def Sa1 (p0 : Int32) : ((Int32 × Int32 × MS) → MR) → Int32 × Int32 × MS → MR := (fun (again_13 : (Int32 × Int32 × MS) → MR) (s_12 : Int32 × Int32 × MS) => ( if (s_12.2.2.1 33) ≤ s_12.2.1 then ( bnd (fun  (σ_18 : MS) => ( bnd (mI σ_18 34 ((σ_18.1 34) + 1)) fun σ_22 => bnd (fun  (σ_24 : MS) => ( if 16 ≤ (σ_24.1 33) then ( some (0, σ_24) ) else ( bnd (mI σ_24 33 ((σ_24.1 33) + 1)) fun σ_31 => if p0 < 0 ∨ 40000 ≤ p0.toNatClampNeg then none else if (σ_24.1 33) < 0 ∨ 16 ≤ (σ_24.1 33).toNatClampNeg then none else bnd (mA σ_31 31 (upd (σ_31.2 31) (σ_24.1 33).toNatClampNeg (σ_31.2 19 p0.toNatClampNeg))) fun σ_37 => some (0, σ_37) ) ) : MS → MR) fun j_25 => if ((σ_18.1 34) + 1) ≤ 14 then ( j_25  σ_22 ) else ( if p0 < 0 ∨ 40000 ≤ p0.toNatClampNeg then none else (F_X12_note 5 (σ_22.2 18 p0.toNatClampNeg) σ_22).bind fun u_44 => j_25  u_44.2 ) ) : MS → MR) fun j_19 => if s_12.1 = 0 then ( j_19  s_12.2.2 ) else ( if p0 < 0 ∨ 40000 ≤ p0.toNatClampNeg then none else (F_X12_note 4 (s_12.2.2.2 18 p0.toNatClampNeg) s_12.2.2).bind fun u_51 => j_19  u_51.2 ) ) else ( if s_12.2.1 < 0 ∨ 16 ≤ s_12.2.1.toNatClampNeg then none else if p0 < 0 ∨ 40000 ≤ p0.toNatClampNeg then none else bnd (fun (t_58 : Int32) (σ_59 : MS) => ( bnd ((s_12.1 ||| t_58)) fun (x_63 : Int32) => bnd (s_12.2.1 + 1) fun (x_65 : Int32) => again_13 (x_63, x_65, σ_59) ) : Int32 → MS → MR) fun j_60 => if (s_12.2.2.2 31 s_12.2.1.toNatClampNeg) = (s_12.2.2.2 19 p0.toNatClampNeg) then ( j_60 1 s_12.2.2 ) else ( j_60 0 s_12.2.2 ) ) ))
theorem noF_noF {σ : MS} {a b : Int32 × Int32} : noF (noF σ a) b = noF σ b := by
  unfold noF
  refine Prod.ext (funext fun k => ?_) rfl
  dsimp only
  split
  · rfl
  · split <;> rfl
theorem noF_mI {σ : MS} {a : Int32 × Int32} {k : Nat} {v : Int32} (h : k ≠ 14) (h2 : k ≠ 15) : noF (mI σ k v) a = mI (noF σ a) k v := by
  refine Prod.ext (funext fun j => ?_) rfl
  show (if j = 14 then a.1 else if j = 15 then a.2 else upd σ.1 k v j) = upd (noF σ a).1 k v j
  rw [upd_s, upd_s]
  by_cases q : j = k
  · subst q; rw [if_neg h, if_neg h2, if_pos rfl, if_pos rfl]
  · rw [if_neg q, if_neg q]; rfl
theorem flt_mI {σ : MS} {k : Nat} {v : Int32} (h : k ≠ 14) (h2 : k ≠ 15) : flt (mI σ k v) = flt σ := by
  unfold flt
  rw [mI_1, mI_1, if_neg (by omega), if_neg (by omega)]
theorem sa_exit {σ : MS} {y t s m k : Nat} {r : Int} {td : Bool} {acc : Int32} (hacc : acc = if td then J 1 else J 0) (hy : y < 39990) (h19 : σ.2 19 y = J r) (h18 : σ.2 18 y = J (pl t)) (hw : WS σ s m) (hk : s ≤ k) (hk2 : k ≤ 100) (again : Int32 × Int32 × MS → MR) : Sa1 (J (y : Nat)) again (acc, J (k : Nat), σ) = some (J 0, sawS σ (sawF (flt σ) td m (pl t)) s m (J r)) := by
  obtain ⟨w1, w2, w3, w4⟩ := hw
  have en := g_en (n := y) (by omega)
  have en2 := (ng (n := y) (by omega)).2
  -- behind the first note
  have e25 : ∀ (a : Int32 × Int32), (if 16 ≤ (mI (noF σ a) 34 (J (m + 1 : Nat))).1 33 then some ((0 : Int32), mI (noF σ a) 34 (J (m + 1 : Nat))) else bnd (mI (mI (noF σ a) 34 (J (m + 1 : Nat))) 33 (((mI (noF σ a) 34 (J (m + 1 : Nat))).1 33) + 1)) fun σ_31 => if J (y : Nat) < 0 ∨ 40000 ≤ (J (y : Nat)).toNatClampNeg then none else if ((mI (noF σ a) 34 (J (m + 1 : Nat))).1 33) < 0 ∨ 16 ≤ ((mI (noF σ a) 34 (J (m + 1 : Nat))).1 33).toNatClampNeg then none else bnd (mA σ_31 31 (upd (σ_31.2 31) ((mI (noF σ a) 34 (J (m + 1 : Nat))).1 33).toNatClampNeg (σ_31.2 19 (J (y : Nat)).toNatClampNeg))) fun σ_37 => some ((0 : Int32), σ_37)) = some (J 0, sawS σ a s m (J r)) := by
    intro a
    have e33 : (mI (noF σ a) 34 (J (m + 1 : Nat))).1 33 = J (s : Nat) := by
      rw [mI_1, if_neg (by omega), noF_i (by omega) (by omega)]; exact w1
    rw [e33]
    unfold sawS
    by_cases q : s < 16
    · rw [if_neg (by rw [show (16 : Int32) = J 16 from rfl, J_le (by omega) (by omega) (by omega) (by omega)]; omega), if_pos q]
      dsimp only [bnd]
      rw [if_neg en, if_neg (by rw [J_natN (by omega)]; rintro (h | h); exact J_nlt0 (by omega) (by omega) h; omega), J_natN (n := s) (by omega), en2, show J (s : Nat) + 1 = J (s + 1 : Nat) by rw [J_lit, J_add]; rfl]
      rw [show (mI (mI (noF σ a) 34 (J (m + 1 : Nat))) 33 (J (s + 1 : Nat))).2 19 y = J r from h19]
      rfl
    · rw [if_pos (by rw [show (16 : Int32) = J 16 from rfl, J_le (by omega) (by omega) (by omega) (by omega)]; omega), if_neg q]
      rfl
  have e19 : ∀ (a : Int32 × Int32), (bnd (mI (noF σ a) 34 (((noF σ a).1 34) + 1)) fun σ_22 => bnd (fun (σ_24 : MS) => (if 16 ≤ (σ_24.1 33) then some ((0 : Int32), σ_24) else bnd (mI σ_24 33 ((σ_24.1 33) + 1)) fun σ_31 => if J (y : Nat) < 0 ∨ 40000 ≤ (J (y : Nat)).toNatClampNeg then none else if (σ_24.1 33) < 0 ∨ 16 ≤ (σ_24.1 33).toNatClampNeg then none else bnd (mA σ_31 31 (upd (σ_31.2 31) (σ_24.1 33).toNatClampNeg (σ_31.2 19 (J (y : Nat)).toNatClampNeg))) fun σ_37 => some (0, σ_37) : MR)) fun j_25 => if (((noF σ a).1 34) + 1) ≤ 14 then j_25 σ_22 else if J (y : Nat) < 0 ∨ 40000 ≤ (J (y : Nat)).toNatClampNeg then none else (F_X12_note 5 (σ_22.2 18 (J (y : Nat)).toNatClampNeg) σ_22).bind fun u_44 => j_25 u_44.2) = some (J 0, sawS σ (if 14 ≤ m then ntF a 5 (pl t) else a) s m (J r)) := by
    intro a
    rw [noF_i (by omega) (by omega), w3, show J (m : Nat) + 1 = J (m + 1 : Nat) by rw [J_lit, J_add]; rfl]
    dsimp only [bnd]
    by_cases q : 14 ≤ m
    · rw [if_neg (by rw [show (14 : Int32) = J 14 from rfl, J_le (by omega) (by omega) (by omega) (by omega)]; omega), if_pos q, if_neg en, en2]
      rw [show (mI (noF σ a) 34 (J (m + 1 : Nat))).2 18 y = J (pl t) from h18, show F_X12_note 5 (J (pl t : Nat)) _ = _ from r_note _ 5 (pl t), Option.bind_some, flt_mI (by omega) (by omega), noF_flt, noF_mI (by omega) (by omega), noF_noF]
      have := e25 (ntF a 5 (pl t))
      dsimp only [bnd] at this
      rw [en2] at this
      exact this
    · rw [if_pos (by rw [show (14 : Int32) = J 14 from rfl, J_le (by omega) (by omega) (by omega) (by omega)]; omega), if_neg q]
      exact e25 a
  show (if (σ.1 33) ≤ J (k : Nat) then _ else _) = _
  rw [if_pos (by rw [w1, J_le (by omega) (by omega) (by omega) (by omega)]; omega)]
  show (if acc = 0 then _ else if J (y : Nat) < 0 ∨ 40000 ≤ (J (y : Nat)).toNatClampNeg then none else (F_X12_note 4 (σ.2 18 (J (y : Nat)).toNatClampNeg) σ).bind _) = _
  unfold sawF
  cases td with
  | false =>
    rw [if_pos (by rw [hacc]; rfl)]
    have := e19 (flt σ)
    rw [noF_id] at this
    exact this
  | true =>
    rw [if_neg (by rw [hacc]; exact J1_ne), if_neg en, en2, h18, show F_X12_note 4 (J (pl t : Nat)) σ = _ from r_note σ 4 (pl t), Option.bind_some]
    have := e19 (ntF (flt σ) 4 (pl t))
    rw [en2] at this
    exact this
theorem sa_loop {σ : MS} {y t s m : Nat} {r : Int} (hy : y < 39990) (h19 : σ.2 19 y = J r) (h18 : σ.2 18 y = J (pl t)) (hw : WS σ s m) : ∀ (d k n : Nat) (td : Bool), k + d = s → d < n → loopF (Sa1 (J (y : Nat))) n ((if td then J 1 else J 0), J (k : Nat), σ) = some (J 0, sawS σ (sawF (flt σ) (td || (List.range' k d).any (fun k => decide (σ.2 31 k = J r))) m (pl t)) s m (J r)) := by
  have hw' := hw
  obtain ⟨w1, w2, w3, w4⟩ := hw'
  have en := g_en (n := y) (by omega)
  have en2 := (ng (n := y) (by omega)).2
  intro d
  induction d with
  | zero =>
    intro k n td hk hn
    obtain ⟨n, rfl⟩ : ∃ e, n = e + 1 := ⟨n - 1, by omega⟩
    rw [show (td || (List.range' k 0).any (fun k => decide (σ.2 31 k = J r))) = td by simp]
    exact sa_exit rfl hy h19 h18 hw (by omega) (by omega) _
  | succ d ih =>
    intro k n td hk hn
    obtain ⟨n, rfl⟩ : ∃ e, n = e + 1 := ⟨n - 1, by omega⟩
    have e1 : J (k : Nat) + 1 = J (k + 1 : Nat) := by rw [J_lit, J_add]; rfl
    have key : ∀ z : Bool, loopF (Sa1 (J (y : Nat))) n (((if td then J 1 else J 0) ||| (if z then (1 : Int32) else 0)), J (k : Nat) + 1, σ) = some (J 0, sawS σ (sawF (flt σ) ((td || z) || (List.range' (k + 1) d).any (fun k => decide (σ.2 31 k = J r))) m (pl t)) s m (J r)) := by
      intro z
      rw [e1, ← ih (k + 1) n (td || z) (by omega) (by omega)]
      cases td <;> cases z <;> rfl
    show (if (σ.1 33) ≤ J (k : Nat) then _ else if J (k : Nat) < 0 ∨ 16 ≤ (J (k : Nat)).toNatClampNeg then none else if J (y : Nat) < 0 ∨ 40000 ≤ (J (y : Nat)).toNatClampNeg then none else if (σ.2 31 (J (k : Nat)).toNatClampNeg) = (σ.2 19 (J (y : Nat)).toNatClampNeg) then loopF (Sa1 (J (y : Nat))) n (((if td then J 1 else J 0) ||| 1), J (k : Nat) + 1, σ) else loopF (Sa1 (J (y : Nat))) n (((if td then J 1 else J 0) ||| 0), J (k : Nat) + 1, σ)) = _
    rw [if_neg (by rw [w1, J_le (by omega) (by omega) (by omega) (by omega)]; omega), if_neg (by rw [J_natN (by omega)]; rintro (h | h); exact J_nlt0 (by omega) (by omega) h; omega), if_neg en, J_natN (n := k) (by omega), en2, h19]
    rw [show (td || (List.range' k (d + 1)).any (fun k => decide (σ.2 31 k = J r))) = ((td || decide (σ.2 31 k = J r)) || (List.range' (k + 1) d).any (fun k => decide (σ.2 31 k = J r))) by rw [List.range'_succ, List.any_cons, Bool.or_assoc]]
    by_cases q : σ.2 31 k = J r
    · rw [if_pos q]
      have := key true
      rw [show decide (σ.2 31 k = J r) = true from decide_eq_true q]
      exact this
    · rw [if_neg q]
      have := key false
      rw [show decide (σ.2 31 k = J r) = false from decide_eq_false q]
      exact this
theorem r_seeAnew {σ : MS} {y t s m : Nat} {r : Int} (hy : y < 39990) (h19 : σ.2 19 y = J r) (h18 : σ.2 18 y = J (pl t)) (hr : 0 ≤ r ∧ r < 8000) (hw : WS σ s m) : F_X12_seeAnew (J (y : Nat)) σ = some (J 0, sawS σ (sawF (flt σ) (tdB σ s r) m (pl t)) s m (J r)) := by
  have en := g_en (n := y) (by omega)
  have en2 := (ng (n := y) (by omega)).2
  have key := fun td : Bool => sa_loop hy h19 h18 hw s 0 FU td (by omega) (FU_gt (by have := hw.2.1; omega))
  show (if J (y : Nat) < 0 ∨ 40000 ≤ (J (y : Nat)).toNatClampNeg then none else if (σ.2 19 (J (y : Nat)).toNatClampNeg) < 0 ∨ 8000 ≤ (σ.2 19 (J (y : Nat)).toNatClampNeg).toNatClampNeg then none else if (σ.2 28 (σ.2 19 (J (y : Nat)).toNatClampNeg).toNatClampNeg) = 0 then loopF (Sa1 (J (y : Nat))) FU (0, 0, σ) else loopF (Sa1 (J (y : Nat))) FU (1, 0, σ)) = _
  rw [if_neg en, en2, h19, if_neg (by rw [J_nat (by omega) (by omega)]; rintro (h | h); exact J_nlt0 (by omega) (by omega) h; omega), J_nat (by omega) (by omega)]
  unfold tdB
  rw [List.range_eq_range']
  by_cases q : σ.2 28 r.toNat = 0
  · rw [if_pos q, show decide (σ.2 28 r.toNat = 0) = true from decide_eq_true q]
    exact key false
  · rw [if_neg q, show decide (σ.2 28 r.toNat = 0) = false from decide_eq_false q]
    exact key true
