/-! out of the tree, into it, within: both, whole -/
theorem ch_hd {n : Nat} {pa fi nx : Nat → Nat} {ch : Nat → List Nat} (t : TR n pa fi nx ch) {x : Nat} (hx : 1 ≤ x ∧ x ≤ n) (hp : pa x ≠ 0) (hf : fi (pa x) ≠ x) : ∃ l, ch (pa x) = fi (pa x) :: l ∧ chL nx (fi (pa x) :: l) (fi (pa x)) ∧ (∀ b, b ∈ fi (pa x) :: l → b ≤ 120) ∧ x ∈ l ∧ (fi (pa x) :: l).length ≤ 120 := by
  have hpx : 1 ≤ pa x ∧ pa x ≤ n := ⟨by omega, t.2.2.2.1 x⟩
  have t0 := t.1
  obtain ⟨c1, c2⟩ := t.2.1 (pa x) hpx.1 hpx.2
  have hm := (t.2.2.1 (pa x) x hpx.1 hpx.2).mpr ⟨hx.1, hx.2, rfl⟩
  have hl := TR_len t hpx.1 hpx.2
  have hall : ∀ b, b ∈ ch (pa x) → b ≤ 120 := fun b hb => by have := (t.2.2.1 (pa x) b hpx.1 hpx.2).mp hb; omega
  cases he : ch (pa x) with
  | nil => rw [he] at hm; cases hm
  | cons a l =>
    rw [he] at c1 hm hl hall
    have ea : a = fi (pa x) := c1.1.symm
    subst ea
    refine ⟨l, rfl, c1, hall, ?_, by omega⟩
    rcases List.mem_cons.mp hm with e | e
    · exact absurd e.symm hf
    · exact e
theorem r_takeOut {n : Nat} {pa fi nx : Nat → Nat} {ch : Nat → List Nat} (t : TR n pa fi nx ch) {x : Nat} (hx : 1 ≤ x ∧ x ≤ n) {σ : MS} (h : RT σ pa fi nx) : ∃ τ, F_X12_takeOut (J (x : Nat)) σ = some ((0 : Int32), τ) ∧ ofT σ τ ∧ RT τ (toP pa x) (toF pa fi nx x) (toX pa fi nx ch x) := by
  have t0 := t.1
  have hpn := t.2.2.2.1 x
  have g := g121 (show x ≤ 120 by omega)
  have e0 := h x (by omega)
  rw [takeOut_eq, if_neg g, J_natN (by omega), e0.1, bndE]
  rw [J_natN (by omega)] at g
  unfold toP toF toX
  by_cases q : pa x = 0
  · rw [if_pos (by rw [q]; rfl), if_pos q, if_pos q]
    refine ⟨σ, rfl, ofT_rfl, ?_⟩
    have e : uN pa x 0 = pa := by
      funext j; rw [uN_s]
      by_cases e : j = x
      · rw [if_pos e, e, q]
      · rw [if_neg e]
    rw [e]; exact h
  · have gp := g121 (show pa x ≤ 120 by omega)
    have ep := h (pa x) (by omega)
    rw [if_neg (by rw [J_z0 (by omega)]; exact q), if_neg gp, bndE, J_natN (by omega), ep.2.1, if_neg q, if_neg q]
    rw [J_natN (by omega)] at gp
    have fin : ∀ (τ : MS) (fi' nx' : Nat → Nat), ofT σ τ → RT τ pa fi' nx' → ∃ υ, (if J (x : Nat) < 0 ∨ 121 ≤ x then none else bnd (mA τ 87 (upd (τ.2 87) x 0)) fun σ_16 => if J (x : Nat) < 0 ∨ 121 ≤ x then none else bnd (mA σ_16 89 (upd (σ_16.2 89) x 0)) fun σ_20 => some ((0 : Int32), σ_20)) = some ((0 : Int32), υ) ∧ ofT σ υ ∧ RT υ (uN pa x 0) fi' (uN nx' x 0) := fun τ fi' nx' hf hR => by
      rw [if_neg g, bndE, if_neg g, bndE]
      exact ⟨_, rfl, ofT_mA (ofT_mA hf (Or.inl rfl)) (Or.inr (Or.inr rfl)), RT_89 (v := 0) (RT_87 (v := 0) hR)⟩
    by_cases f : fi (pa x) = x
    · rw [if_pos (by rw [f]), if_neg g, if_neg gp, bndE, e0.2.2, if_pos f, if_pos f]
      exact fin _ _ _ (ofT_mA ofT_rfl (Or.inr (Or.inl rfl))) (RT_88 h)
    · obtain ⟨l, l1, l2, l3, l4, l5⟩ := ch_hd t hx q f
      rw [if_neg (by rw [J_eqN (by have := l3 _ (List.mem_cons_self ..); omega) (by omega)]; exact f), if_neg gp, bndE, To1_go ⟨hx.1, by omega⟩ h l (fi (pa x)) l2 l3 f l4 FU (FU_gt (by rw [List.length_cons] at l5; omega)), if_neg f, if_neg f, l1]
      exact fin _ _ _ (ofT_mA ofT_rfl (Or.inr (Or.inr rfl))) (RT_89 h)
theorem c_takeOut {n : Nat} {pa fi nx : Nat → Nat} {ch : Nat → List Nat} (t : TR n pa fi nx ch) {x : Nat} (hx : 1 ≤ x ∧ x ≤ n) {Γ : HS} (h : CTr Γ pa fi nx) : ∃ Δ, F_X6_takeOut (J (x : Nat)) Γ = some ((0 : Int32), Δ) ∧ ocT Γ Δ ∧ CTr Δ (toP pa x) (toF pa fi nx x) (toX pa fi nx ch x) := by
  have t0 := t.1
  have hpn := t.2.2.2.1 x
  have ga : ∀ (a : Nat), a ≤ 120 → ∀ f : Nat → Int32, g_at 121 f (J (a : Nat)) = f a := fun a ha f => by rw [q_g_at_in (by omega) (by omega) (by omega)]; rfl
  have gp : ∀ (a : Nat), a ≤ 120 → ∀ (f : Nat → Int32) (v : Int32), g_put 121 f (J (a : Nat)) v = upd f a v := fun a ha f v => by rw [q_g_put_in (by omega) (by omega) (by omega)]; rfl
  have e0 := h x (by omega)
  have ep := h (pa x) (by omega)
  rw [ctakeOut_eq, ga x (by omega), e0.1, bndE]
  unfold toP toF toX
  by_cases q : pa x = 0
  · rw [if_pos (by rw [q]; rfl), if_pos q, if_pos q]
    refine ⟨Γ, rfl, ocT_rfl, ?_⟩
    have e : uN pa x 0 = pa := by
      funext j; rw [uN_s]
      by_cases e : j = x
      · rw [if_pos e, e, q]
      · rw [if_neg e]
    rw [e]; exact h
  · rw [if_neg (by rw [J_z0 (by omega)]; exact q), ga (pa x) (by omega), ep.2.1, bndE, bndE, if_neg q, if_neg q]
    have fin : ∀ (Δ : HS) (fi' nx' : Nat → Nat), ocT Γ Δ → CTr Δ pa fi' nx' → ∃ Θ, (bnd (cA' Δ 9 2 (g_put 121 ((Δ 9).2.1 2) (J (x : Nat)) 0)) fun σ_12 => bnd (cA' σ_12 9 0 (g_put 121 ((σ_12 9).2.1 0) (J (x : Nat)) 0)) fun σ_14 => some ((0 : Int32), σ_14)) = some ((0 : Int32), Θ) ∧ ocT Γ Θ ∧ CTr Θ (uN pa x 0) fi' (uN nx' x 0) := fun Δ fi' nx' hf hR => by
      rw [gp x (by omega), bndE, gp x (by omega), bndE]
      exact ⟨_, rfl, ocT_cA (ocT_cA hf (by omega)) (by omega), CT_0 (v := 0) (CT_2 (v := 0) hR)⟩
    by_cases f : fi (pa x) = x
    · rw [if_pos (by rw [f]), ga x (by omega), e0.2.2, bndE, gp (pa x) (by omega), bndE, if_pos f, if_pos f]
      exact fin _ _ _ (ocT_cA ocT_rfl (by omega)) (CT_1 h)
    · obtain ⟨l, l1, l2, l3, l4, l5⟩ := ch_hd t hx q f
      rw [if_neg (by rw [J_eqN (by have := l3 _ (List.mem_cons_self ..); omega) (by omega)]; exact f), bndE, show (0 : Int32) = J (0 : Nat) from rfl, Tc1_go ⟨hx.1, by omega⟩ h l (fi (pa x)) 0 l2 l3 f l4 (by rw [List.length_cons] at l5; omega) FU (FU_gt (by rw [List.length_cons] at l5; omega)), if_neg f, if_neg f, l1]
      exact fin _ _ _ (ocT_cA ocT_rfl (by omega)) (CT_2 h)
/-- x comes into h -/
theorem r_putIn {n : Nat} {pa fi nx : Nat → Nat} {ch : Nat → List Nat} (t : TR n pa fi nx ch) {x h : Nat} (hx : 1 ≤ x ∧ x ≤ n) (hh : h ≤ n) {σ : MS} (hR : RT σ pa fi nx) : ∃ τ, F_X12_putIn (J (x : Nat)) (J (h : Nat)) σ = some ((0 : Int32), τ) ∧ ofT σ τ ∧ RT τ (uN (toP pa x) x h) (uN (toF pa fi nx x) h x) (inX (toF pa fi nx x) (toX pa fi nx ch x) x h) := by
  have t0 := t.1
  obtain ⟨τ, e1, e2, e3⟩ := r_takeOut t hx hR
  have gx := g121 (show x ≤ 120 by omega)
  have gh := g121 (show h ≤ 120 by omega)
  unfold F_X12_putIn
  rw [e1, Option.bind_some]
  dsimp only
  rw [J_natN (n := x) (by omega)] at gx
  rw [J_natN (n := h) (by omega)] at gh
  rw [J_natN (n := x) (by omega), if_neg gx, bndE, J_natN (n := h) (by omega), if_neg gh, if_neg gx, bndE, if_neg gh, bndE]
  rw [show (mA τ 87 (upd (τ.2 87) x (J (h : Nat)))).2 88 h = J (toF pa fi nx x h : Nat) from (e3 h (by omega)).2.1]
  refine ⟨_, rfl, ofT_mA (ofT_mA (ofT_mA e2 (Or.inl rfl)) (Or.inr (Or.inr rfl))) (Or.inr (Or.inl rfl)), ?_⟩
  have h1 := RT_87 (k := x) (v := h) e3
  have h2 := RT_89 (k := x) (v := toF pa fi nx x h) h1
  exact RT_88 (k := h) (v := x) h2
theorem c_moveInto {n : Nat} {pa fi nx : Nat → Nat} {ch : Nat → List Nat} (t : TR n pa fi nx ch) {x h : Nat} (hx : 1 ≤ x ∧ x ≤ n) (hh : h ≤ n) {Γ : HS} (hR : CTr Γ pa fi nx) : ∃ Δ, F_X6_moveInto (J (x : Nat)) (J (h : Nat)) Γ = some ((0 : Int32), Δ) ∧ ocT Γ Δ ∧ CTr Δ (uN (toP pa x) x h) (uN (toF pa fi nx x) h x) (inX (toF pa fi nx x) (toX pa fi nx ch x) x h) := by
  have t0 := t.1
  obtain ⟨Δ, e1, e2, e3⟩ := c_takeOut t hx hR
  have ga : ∀ (a : Nat), a ≤ 120 → ∀ f : Nat → Int32, g_at 121 f (J (a : Nat)) = f a := fun a ha f => by rw [q_g_at_in (by omega) (by omega) (by omega)]; rfl
  have gp : ∀ (a : Nat), a ≤ 120 → ∀ (f : Nat → Int32) (v : Int32), g_put 121 f (J (a : Nat)) v = upd f a v := fun a ha f v => by rw [q_g_put_in (by omega) (by omega) (by omega)]; rfl
  unfold F_X6_moveInto
  rw [e1, Option.bind_some]
  dsimp only
  rw [ga h (by omega), (e3 h (by omega)).2.1, bndE, gp x (by omega), bndE, gp h (by omega), bndE, gp x (by omega), bndE]
  refine ⟨_, rfl, ocT_cA (ocT_cA (ocT_cA e2 (by omega)) (by omega)) (by omega), ?_⟩
  have h1 := CT_2 (k := x) (v := toF pa fi nx x h) e3
  have h2 := CT_1 (k := h) (v := x) h1
  exact CT_0 (k := x) (v := h) h2
/-- whether x is y, or in it -/
def wiN (pa : Nat → Nat) (y : Nat) : Nat → Nat → Bool
  | 0, _ => false
  | k + 1, x => if x = 0 then false else if x = y then true else wiN pa y k (pa x)
theorem wiN_up {pa : Nat → Nat} (h0 : pa 0 = 0) {y : Nat} (hy : y ≠ 0) : ∀ k x, upP pa k x = 0 → (wiN pa y (k + 1) x = true ↔ ∃ j, upP pa j x = y) := by
  intro k
  induction k with
  | zero =>
    intro x hx
    have e : x = 0 := hx
    constructor
    · intro h; unfold wiN at h; rw [if_pos e] at h; cases h
    · rintro ⟨j, hj⟩; rw [e, upP_0 h0] at hj; exact absurd hj.symm hy
  | succ k ih =>
    intro x hx
    unfold wiN
    by_cases q : x = 0
    · rw [if_pos q]
      exact ⟨fun h => (by cases h), fun ⟨j, hj⟩ => by rw [q, upP_0 h0] at hj; exact absurd hj.symm hy⟩
    · rw [if_neg q]
      by_cases q2 : x = y
      · rw [if_pos q2]; exact ⟨fun _ => ⟨0, q2⟩, fun _ => rfl⟩
      · rw [if_neg q2, ih (pa x) hx]
        constructor
        · rintro ⟨j, hj⟩; exact ⟨j + 1, hj⟩
        · rintro ⟨j, hj⟩
          cases j with
          | zero => exact absurd hj q2
          | succ j => exact ⟨j, hj⟩
theorem r_within {n : Nat} {pa fi nx : Nat → Nat} {ch : Nat → List Nat} (t : TR n pa fi nx ch) {x y : Nat} (hx : x ≤ n) (hy : 1 ≤ y ∧ y ≤ n) {σ : MS} (hR : RT σ pa fi nx) : F_X12_within (J (x : Nat)) (J (y : Nat)) σ = some (if wiN pa y (n + 1) x = true then 1 else 0, σ) := by
  have t0 := t.1
  have key : ∀ (k x : Nat), x ≤ n → upP pa k x = 0 → ∀ m, k < m → loopF (Wi1 (J (y : Nat))) m (J (x : Nat), σ) = some (if wiN pa y (k + 1) x = true then 1 else 0, σ) := by
    intro k
    induction k with
    | zero =>
      intro x _ hk m hm
      obtain ⟨m, rfl⟩ : ∃ e, m = e + 1 := ⟨m - 1, by omega⟩
      have e : x = 0 := hk
      unfold wiN
      rw [Wi1_s, bndE, e, if_pos (by decide), if_pos rfl]; rfl
    | succ k ih =>
      intro x hxn hk m hm
      obtain ⟨m, rfl⟩ : ∃ e, m = e + 1 := ⟨m - 1, by omega⟩
      unfold wiN
      rw [Wi1_s, bndE]
      by_cases q : x = 0
      · rw [q, if_pos (by decide), if_pos rfl]; rfl
      · have qn : ¬ J (x : Nat) = 0 := by rw [J_z0 (by omega)]; exact q
        rw [if_neg qn, if_neg q]
        by_cases q2 : x = y
        · rw [if_pos (by rw [q2]), if_pos q2]
          dsimp only
          rw [if_neg qn]; rfl
        · rw [if_neg (by rw [J_eqN (by omega) (by omega)]; exact q2), if_neg q2, if_neg (g121 (by omega)), J_natN (by omega), (hR x (by omega)).1, bndE]
          exact ih (pa x) (t.2.2.2.1 x) hk m (by omega)
  rw [within_eq]
  exact key n x hx (TR_up t hx) FU (FU_gt (by omega))
theorem c_isWithin {n : Nat} {pa fi nx : Nat → Nat} {ch : Nat → List Nat} (t : TR n pa fi nx ch) {x y : Nat} (hx : x ≤ n) (hy : 1 ≤ y ∧ y ≤ n) {Γ : HS} (hR : CTr Γ pa fi nx) : F_X6_isWithin (J (x : Nat)) (J (y : Nat)) Γ = some (if wiN pa y (n + 1) x = true then 1 else 0, Γ) := by
  have t0 := t.1
  have key : ∀ (k c x : Nat), x ≤ n → upP pa k x = 0 → c + k ≤ 120 → ∀ m, k < m → loopF (Wc1 (J (y : Nat))) m (J (x : Nat), J (c : Nat), Γ) = some (if wiN pa y (k + 1) x = true then 1 else 0, Γ) := by
    intro k
    induction k with
    | zero =>
      intro c x _ hk hc m hm
      obtain ⟨m, rfl⟩ : ∃ e, m = e + 1 := ⟨m - 1, by omega⟩
      have e : x = 0 := hk
      unfold wiN
      rw [Wc1_s, if_neg (by rw [show (120 : Int32) = J 120 from rfl, J_lt (by omega) (by omega) (by omega) (by omega)]; omega), e, if_pos (by decide), if_pos rfl]; rfl
    | succ k ih =>
      intro c x hxn hk hc m hm
      obtain ⟨m, rfl⟩ : ∃ e, m = e + 1 := ⟨m - 1, by omega⟩
      unfold wiN
      rw [Wc1_s, if_neg (by rw [show (120 : Int32) = J 120 from rfl, J_lt (by omega) (by omega) (by omega) (by omega)]; omega)]
      by_cases q : x = 0
      · rw [q, if_pos (by decide), if_pos rfl]; rfl
      · rw [if_neg (by rw [J_z0 (by omega)]; exact q), if_neg q]
        by_cases q2 : x = y
        · rw [if_pos (by rw [q2]), if_pos q2]; rfl
        · rw [if_neg (by rw [J_eqN (by omega) (by omega)]; exact q2), if_neg q2, show g_at 121 ((Γ 9).2.1 0) (J (x : Nat)) = (Γ 9).2.1 0 x by rw [q_g_at_in (by omega) (by omega) (by omega)]; rfl, (hR x (by omega)).1, bndE, bndE, J_suc]
          exact ih (c + 1) (pa x) (t.2.2.2.1 x) hk (by omega) m (by omega)
  rw [isWithin_eq]
  exact key n 0 x hx (TR_up t hx) (by omega) FU (FU_gt (by omega))
