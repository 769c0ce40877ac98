/-! a noun is understood, by both -/
variable {nO nV nC : Nat} {room : Nat → Bool}
def bI (b : Bool) : Int32 := if b = true then 1 else 0
theorem r_scopeI {σ : MS} {Γ : HS} {pa fi nx : Nat → Nat} {ch : Nat → List Nat} {tr : Nat → Nat} (h : PLT nO room nV nC σ Γ pa fi nx ch tr) (hr : ∀ x, x ≤ 120 → σ.2 50 x = if room x = true then 1 else 0) {x : Nat} (hx : x ≤ nO) (b : Bool) : F_X12_inScope (J (x : Nat)) (bI b) σ = some (if scpB pa tr b x = true then 1 else 0, σ) := r_scope h hr hx b
theorem c_scopeI {σ : MS} {Γ : HS} {pa fi nx : Nat → Nat} {ch : Nat → List Nat} {tr : Nat → Nat} (h : PLT nO room nV nC σ Γ pa fi nx ch tr) {x : Nat} (hx : x ≤ 120) (b : Bool) : F_X6_isInScope (J (x : Nat)) (bI b) Γ = some (if scpB pa tr b x = true then 1 else 0, Γ) := c_scope h hx b
theorem W_lightI {σ : MS} {Γ : HS} {pa fi nx : Nat → Nat} {ch : Nat → List Nat} {tr : Nat → Nat} (h : PLT nO room nV nC σ Γ pa fi nx ch tr) (hr : ∀ x, x ≤ 120 → σ.2 50 x = if room x = true then 1 else 0) (h78 : σ.1 78 = J (nO : Nat)) : ∃ b : Bool, F_X12_isLight σ = some (bI b, σ) ∧ F_X6_isLight Γ = some (bI b, Γ) := W_light h hr h78
/-- of which each term is a word -/
def nmdB (ow : Nat → List (List Int)) (ws : List (List Int)) (k t x : Nat) : Bool := decide (∀ i, i < t → k ≤ i → anyT (ow x) (ws.getD i []) = true)
theorem nmdB_iff {ow : Nat → List (List Int)} {ws : List (List Int)} {k t x : Nat} : nmdB ow ws k t x = true ↔ ∀ i, i < t → k ≤ i → anyT (ow x) (ws.getD i []) = true := by unfold nmdB; exact decide_eq_true_iff
theorem bool_if {a b : Bool} (h : a = b) : (if a = true then (1 : Int32) else 0) = if b = true then 1 else 0 := by rw [h]
theorem NwB_go {σ : MS} {ow : Nat → List (List Int)} {ws : List (List Int)} (K : Int32 → MS → MR) (h : WOB σ ow) (h10 : ∀ x, 1 ≤ x → x ≤ 120 → (ow x).length ≤ 10) {x k t : Nat} (hx : 1 ≤ x) (hx2 : x ≤ 120) (hT : TRr σ ws) (ht : t ≤ ws.length) : ∀ (d i m : Nat), i + d = t → d < m → (∀ j, j < i → k ≤ j → anyT (ow x) (ws.getD j []) = true) → k ≤ i → loopF (NwB (J (x : Nat)) (J (t : Nat)) K) m (1, J (i : Nat), σ) = K (if nmdB ow ws k t x = true then 1 else 0) σ := by
  have h12 := hT.2.1
  intro d
  induction d with
  | zero =>
    intro i m hi hm hd hk
    obtain ⟨m, rfl⟩ : ∃ j, m = j + 1 := ⟨m - 1, by omega⟩
    rw [NwB_s, bndE, if_pos (by rw [J_le (by omega) (by omega) (by omega) (by omega)]; omega), if_pos (nmdB_iff.mpr (fun j j1 j2 => hd j (by omega) j2))]
  | succ d ih =>
    intro i m hi hm hd hk
    obtain ⟨m, rfl⟩ : ∃ j, m = j + 1 := ⟨m - 1, by omega⟩
    rw [NwB_s, bndE, if_neg (by rw [J_le (by omega) (by omega) (by omega) (by omega)]; omega), if_neg (by decide), r_hasWord h hx hx2 hT (by omega) (h10 x hx hx2), Option.bind_some]
    dsimp only
    rw [bndE, J_suc]
    by_cases q : anyT (ow x) (ws.getD i []) = true
    · rw [if_pos q]
      exact ih (i + 1) m (by omega) (by omega) (fun j j1 j2 => by
        by_cases e : j = i
        · rw [e]; exact q
        · exact hd j (by omega) j2) (by omega)
    · rw [if_neg q]
      obtain ⟨m, rfl⟩ : ∃ j, m = j + 1 := ⟨m - 1, by omega⟩
      rw [if_neg (fun e => q (nmdB_iff.mp e i (by omega) hk))]
      rw [NwB_s, bndE]
      split
      · rfl
      · rw [if_pos rfl]
/-- which object was found: none -1, one, many -2 -/
def SEL (nm : Nat → Bool) (n : Nat) (r : Int) : Prop := (r = -1 ∧ ∀ y, 1 ≤ y → y ≤ n → nm y = false) ∨ (∃ y : Nat, 1 ≤ y ∧ y ≤ n ∧ r = (y : Int) ∧ nm y = true ∧ ∀ x, 1 ≤ x → x ≤ n → nm x = true → x = y) ∨ (r = -2 ∧ ∃ y z : Nat, 1 ≤ y ∧ y < z ∧ z ≤ n ∧ nm y = true ∧ nm z = true)
theorem SEL_no {nm : Nat → Bool} {n : Nat} {r : Int} (h : SEL nm n r) (hn : nm (n + 1) = false) : SEL nm (n + 1) r := by
  have e : ∀ y, y ≤ n + 1 → nm y = true → y ≤ n := fun y hy hh => by
    by_cases q : y = n + 1
    · rw [q, hn] at hh; cases hh
    · omega
  rcases h with ⟨h1, h2⟩ | ⟨y, h1, h2, h3, h4, h5⟩ | ⟨h1, y, z, h2, h3, h4, h5, h6⟩
  · refine Or.inl ⟨h1, fun y y1 y2 => ?_⟩
    by_cases q : y = n + 1
    · rw [q]; exact hn
    · exact h2 y y1 (by omega)
  · exact Or.inr (Or.inl ⟨y, h1, by omega, h3, h4, fun x x1 x2 x3 => h5 x x1 (e x x2 x3) x3⟩)
  · exact Or.inr (Or.inr ⟨h1, y, z, h2, h3, by omega, h5, h6⟩)
theorem SEL_yes {nm : Nat → Bool} {n : Nat} {r : Int} (h : SEL nm n r) (hn : nm (n + 1) = true) : SEL nm (n + 1) (if r = -1 then ((n + 1 : Nat) : Int) else -2) := by
  rcases h with ⟨h1, h2⟩ | ⟨y, h1, h2, h3, h4, h5⟩ | ⟨h1, y, z, h2, h3, h4, h5, h6⟩
  · rw [if_pos h1]
    refine Or.inr (Or.inl ⟨n + 1, by omega, Nat.le_refl _, rfl, hn, fun x x1 x2 x3 => ?_⟩)
    by_cases q : x = n + 1
    · exact q
    · rw [h2 x x1 (by omega)] at x3; cases x3
  · rw [if_neg (by omega)]
    exact Or.inr (Or.inr ⟨rfl, y, n + 1, h1, by omega, Nat.le_refl _, h4, hn⟩)
  · rw [if_neg (by omega)]
    exact Or.inr (Or.inr ⟨rfl, y, z, h2, h3, by omega, h5, h6⟩)
theorem SEL_rng {nm : Nat → Bool} {n : Nat} {r : Int} (h : SEL nm n r) : -2 ≤ r ∧ r ≤ n := by
  rcases h with ⟨h1, -⟩ | ⟨y, h1, h2, h3, -⟩ | ⟨h1, -⟩ <;> omega
/-- what may be named -/
def nmB (room : Nat → Bool) (pa tr : Nat → Nat) (b : Bool) (ow : Nat → List (List Int)) (ws : List (List Int)) (k t x : Nat) : Bool := !room x && scpB pa tr b x && nmdB ow ws k t x
theorem r_nouns {σ : MS} {Γ : HS} {pa fi nx : Nat → Nat} {ch : Nat → List Nat} {tr : Nat → Nat} (hP : PLT nO room nV nC σ Γ pa fi nx ch tr) (hr : ∀ x, x ≤ 120 → σ.2 50 x = if room x = true then 1 else 0) (h78 : σ.1 78 = J (nO : Nat)) {ow : Nat → List (List Int)} {ws : List (List Int)} (h : WOB σ ow) (h10 : ∀ x, 1 ≤ x → x ≤ 120 → (ow x).length ≤ 10) {k t : Nat} (hT : TRr σ ws) (ht : t ≤ ws.length) (hk : k ≤ t) (b : Bool) : ∀ (d x m : Nat) (f : Int), x + d = nO → d < m → SEL (nmB room pa tr b ow ws k t) x f → ∃ r : Int, loopF (NoB (J (t : Nat)) (J (k : Nat)) (bI b)) m (J f, J (x + 1 : Nat), σ) = some (J r, σ) ∧ SEL (nmB room pa tr b ow ws k t) nO r := by
  have tn := hP.1.1
  have h12 := hT.2.1
  intro d
  induction d with
  | zero =>
    intro x m f hx hm hs
    obtain ⟨m, rfl⟩ : ∃ j, m = j + 1 := ⟨m - 1, by omega⟩
    refine ⟨f, ?_, by rw [show nO = x by omega]; exact hs⟩
    rw [NoB_s, h78, if_pos (by rw [J_lt (by omega) (by omega) (by omega) (by omega)]; omega)]
  | succ d ih =>
    intro x m f hx hm hs
    obtain ⟨m, rfl⟩ : ∃ j, m = j + 1 := ⟨m - 1, by omega⟩
    have fr := SEL_rng hs
    have s := NoB_s (J (t : Nat)) (J (k : Nat)) (bI b) m (J f) (J (x + 1 : Nat)) σ
    rw [h78, if_neg (by rw [J_lt (by omega) (by omega) (by omega) (by omega)]; omega), if_neg (gNn (by omega) (by omega)), bndE, J_natN (by omega), hr (x + 1) (by omega)] at s
    have no : nmB room pa tr b ow ws k t (x + 1) = false → loopF (NoB (J (t : Nat)) (J (k : Nat)) (bI b)) (m + 1) (J f, J (x + 1 : Nat), σ) = (bnd (J (x + 1 : Nat) + 1) fun (x_30 : Int32) => loopF (NoB (J (t : Nat)) (J (k : Nat)) (bI b)) m (J f, x_30, σ)) → ∃ r : Int, loopF (NoB (J (t : Nat)) (J (k : Nat)) (bI b)) (m + 1) (J f, J (x + 1 : Nat), σ) = some (J r, σ) ∧ SEL (nmB room pa tr b ow ws k t) nO r := fun hn e => by
      obtain ⟨r, r1, r2⟩ := ih (x + 1) m f (by omega) (by omega) (SEL_no hs hn)
      refine ⟨r, ?_, r2⟩
      rw [e, bndE, J_suc]; exact r1
    by_cases q1 : room (x + 1) = true
    · rw [if_pos q1, if_neg (by decide)] at s
      exact no (by unfold nmB; rw [q1]; rfl) s
    have q1' : room (x + 1) = false := Bool.eq_false_iff.mpr q1
    rw [if_neg q1, if_pos rfl, r_scopeI hP hr (by omega) b, Option.bind_some] at s
    dsimp only at s
    by_cases q2 : scpB pa tr b (x + 1) = true
    · rw [if_pos q2, if_neg (by decide), NwB_go _ h h10 (by omega) (by omega) hT ht (t - k) k FU (by omega) (FU_gt (by omega)) (fun j j1 j2 => by omega) (Nat.le_refl _)] at s
      by_cases q3 : nmdB ow ws k t (x + 1) = true
      · rw [if_pos q3, if_neg (by decide), bndE] at s
        have hn : nmB room pa tr b ow ws k t (x + 1) = true := by unfold nmB; rw [q1', q2, q3]; rfl
        obtain ⟨r, r1, r2⟩ := ih (x + 1) m _ (by omega) (by omega) (SEL_yes hs hn)
        refine ⟨r, ?_, r2⟩
        rw [s]
        by_cases q4 : f = -1
        · rw [if_pos q4] at r1
          rw [if_pos (show J f = -1 by rw [q4]; rfl)]
          dsimp only
          rw [bndE, J_suc]; exact r1
        · rw [if_neg q4] at r1
          rw [if_neg (show ¬ J f = -1 by rw [show (-1 : Int32) = J (-1) from rfl, J_eq (by omega) (by omega) (by omega) (by omega)]; exact q4)]
          dsimp only
          rw [bndE, J_suc]; exact r1
      · rw [if_neg q3, if_pos rfl] at s
        exact no (by unfold nmB; rw [Bool.eq_false_iff.mpr q3, Bool.and_false]) s
    · rw [if_neg q2, if_pos rfl] at s
      exact no (by unfold nmB; rw [Bool.eq_false_iff.mpr q2, Bool.and_false, Bool.false_and]) s
theorem c_isNamed {Γ : HS} {W : List Int} {ow : Nat → List (List Int)} {ws : List (List Int)} (hW : WSO Γ W ow) (hT : TRc Γ W ws) (h12 : ws.length ≤ 12) (hw : ∀ t, t < ws.length → TW (ws.getD t [])) {x k t : Nat} (hx : 1 ≤ x) (hx2 : x ≤ 180) (ht : t ≤ ws.length) (hk : k ≤ t) : F_X8_isNamed (J (x : Nat)) (J (k : Nat)) (J (t : Nat)) Γ = some (if nmdB ow ws k t x = true then 1 else 0, Γ) := by
  have go : ∀ (d i m : Nat), i + d = t → d < m → (∀ j, j < i → k ≤ j → anyT (ow x) (ws.getD j []) = true) → k ≤ i → loopF (NmC (J (x : Nat)) (J (t : Nat))) m (J (i : Nat), Γ) = some (if nmdB ow ws k t x = true then 1 else 0, Γ) := by
    intro d
    induction d with
    | zero =>
      intro i m hi hm hd hk
      obtain ⟨m, rfl⟩ : ∃ j, m = j + 1 := ⟨m - 1, by omega⟩
      rw [NmC_s, if_pos (by rw [J_le (by omega) (by omega) (by omega) (by omega)]; omega), if_pos (nmdB_iff.mpr (fun j j1 j2 => hd j (by omega) j2))]
    | succ d ih =>
      intro i m hi hm hd hk
      obtain ⟨m, rfl⟩ : ∃ j, m = j + 1 := ⟨m - 1, by omega⟩
      obtain ⟨z, z1, z2⟩ := c_term hT h12 (t := i) (by omega)
      rw [NmC_s, if_neg (by rw [J_le (by omega) (by omega) (by omega) (by omega)]; omega), z1, Option.bind_some]
      dsimp only
      rw [c_owns hW hx hx2 z2 (hw i (by omega)), Option.bind_some]
      dsimp only
      rw [mrgS, bndE]
      by_cases q : anyT (ow x) (ws.getD i []) = true
      · rw [if_pos q, if_neg (by decide), bndE, J_suc]
        exact ih (i + 1) m (by omega) (by omega) (fun j j1 j2 => by
          by_cases e : j = i
          · rw [e]; exact q
          · exact hd j (by omega) j2) (by omega)
      · rw [if_neg q, if_pos rfl, if_neg (fun e => q (nmdB_iff.mp e i (by omega) hk))]
  rw [nmC_eq]
  exact go (t - k) k FU (by omega) (FU_gt (by omega)) (fun j j1 j2 => by omega) (Nat.le_refl _)
/-- the class's search ends: many, or with what was found -/
def manyC (Γ : HS) : HR := (F_X5_line ([87, 104, 105, 99, 104, 32, 111, 110, 101, 32, 100, 111, 32, 121, 111, 117, 32, 109, 101, 97, 110, 63] : List Int32) Γ).bind fun u_59 => bnd (mrg (fun j => j == 8) Γ u_59.2) fun σ_61 => some (0, σ_61)
theorem c_nouns {σ : MS} {Γ : HS} {pa fi nx : Nat → Nat} {ch : Nat → List Nat} {tr : Nat → Nat} (hP : PLT nO room nV nC σ Γ pa fi nx ch tr) (h0 : (Γ 4).2.1 0 0 = J (nO : Nat)) {W : List Int} {ow : Nat → List (List Int)} {ws : List (List Int)} (hW : WSO Γ W ow) (hrm : ∀ x, room x = true → ow x = []) (hT : TRc Γ W ws) (h12 : ws.length ≤ 12) (hw : ∀ t, t < ws.length → TW (ws.getD t [])) {k t : Nat} (ht : t ≤ ws.length) (hk : k < t) (b : Bool) (K : Int32 → HS → HR) {r : Int} (hs : SEL (nmB room pa tr b ow ws k t) nO r) : ∀ (d x m : Nat) (f : Nat), x + d = nO → d + 1 < m → ((f = 0 ∧ ∀ y, 1 ≤ y → y ≤ x → nmB room pa tr b ow ws k t y = false) ∨ (1 ≤ f ∧ f ≤ x ∧ nmB room pa tr b ow ws k t f = true ∧ ∀ y, 1 ≤ y → y ≤ x → nmB room pa tr b ow ws k t y = true → y = f)) → loopF (NoC (J (k : Nat)) (J (t : Nat)) (bI b) K) m (J (f : Nat), J (x + 1 : Nat), Γ) = if r = -2 then manyC Γ else K (J (if r = -1 then 0 else r)) Γ := by
  have tn := hP.1.1
  have nmE : ∀ x, nmB room pa tr b ow ws k t x = (scpB pa tr b x && nmdB ow ws k t x) := fun x => by
    unfold nmB
    by_cases q : room x = true
    · have : nmdB ow ws k t x = false := by
        rw [Bool.eq_false_iff]
        intro e
        have e := nmdB_iff.mp e k hk (Nat.le_refl _)
        rw [hrm x q] at e; cases e
      rw [this, Bool.and_false, Bool.and_false]
    · rw [Bool.eq_false_iff.mpr q]; rfl
  intro d
  induction d with
  | zero =>
    intro x m f hx hm hf
    obtain ⟨m, rfl⟩ : ∃ j, m = j + 1 := ⟨m - 1, by omega⟩
    have s := NoC_s (J (k : Nat)) (J (t : Nat)) (bI b) K m (J (f : Nat)) (J (x + 1 : Nat)) Γ
    have e : loopF (NoC (J (k : Nat)) (J (t : Nat)) (bI b) K) (m + 1) (J (f : Nat), J (x + 1 : Nat), Γ) = K (J (f : Nat)) Γ := by
      rw [s]
      by_cases q : nO = 120
      · rw [if_pos (by rw [show (120 : Int32) = J 120 from rfl, J_lt (by omega) (by omega) (by omega) (by omega)]; omega)]
      · rw [if_neg (by rw [show (120 : Int32) = J 120 from rfl, J_lt (by omega) (by omega) (by omega) (by omega)]; omega), c_isObj h0 (by omega) (by omega) (by omega), Option.bind_some, if_neg (by omega)]
        dsimp only
        rw [mrgS, bndE, if_pos rfl]
    rw [e]
    rcases hs with ⟨h1, h2⟩ | ⟨y, h1, h2, h3, h4, h5⟩ | ⟨h1, y, z, h2, h3, h4, h5, h6⟩
    · rw [if_neg (by omega), if_pos h1]
      rcases hf with ⟨f1, f2⟩ | ⟨f1, f2, f3, f4⟩
      · rw [f1]; rfl
      · rw [h2 f f1 (by omega)] at f3; cases f3
    · rw [if_neg (by omega), if_neg (by omega), h3]
      rcases hf with ⟨f1, f2⟩ | ⟨f1, f2, f3, f4⟩
      · rw [f2 y h1 (by omega)] at h4; cases h4
      · rw [h5 f f1 (by omega) f3]
    · exfalso
      rcases hf with ⟨f1, f2⟩ | ⟨f1, f2, f3, f4⟩
      · rw [f2 y h2 (by omega)] at h5; cases h5
      · have e1 := f4 y h2 (by omega) h5
        have e2 := f4 z (by omega) (by omega) h6
        omega
  | succ d ih =>
    intro x m f hx hm hf
    obtain ⟨m, rfl⟩ : ∃ j, m = j + 1 := ⟨m - 1, by omega⟩
    have s := NoC_s (J (k : Nat)) (J (t : Nat)) (bI b) K m (J (f : Nat)) (J (x + 1 : Nat)) Γ
    rw [if_neg (by rw [show (120 : Int32) = J 120 from rfl, J_lt (by omega) (by omega) (by omega) (by omega)]; omega), c_isObj h0 (by omega) (by omega) (by omega), Option.bind_some, if_pos (by omega)] at s
    dsimp only at s
    rw [mrgS, bndE, if_neg (by decide), c_isNamed hW hT h12 hw (by omega) (by omega) ht (by omega), Option.bind_some] at s
    dsimp only at s
    rw [bndE] at s
    have no : nmB room pa tr b ow ws k t (x + 1) = false → loopF (NoC (J (k : Nat)) (J (t : Nat)) (bI b) K) (m + 1) (J (f : Nat), J (x + 1 : Nat), Γ) = (bnd (J (x + 1 : Nat) + 1) fun (x_43 : Int32) => loopF (NoC (J (k : Nat)) (J (t : Nat)) (bI b) K) m (J (f : Nat), x_43, Γ)) → loopF (NoC (J (k : Nat)) (J (t : Nat)) (bI b) K) (m + 1) (J (f : Nat), J (x + 1 : Nat), Γ) = if r = -2 then manyC Γ else K (J (if r = -1 then 0 else r)) Γ := fun hn e => by
      rw [e, bndE, J_suc]
      refine ih (x + 1) m f (by omega) (by omega) ?_
      rcases hf with ⟨f1, f2⟩ | ⟨f1, f2, f3, f4⟩
      · refine Or.inl ⟨f1, fun y y1 y2 => ?_⟩
        by_cases q : y = x + 1
        · rw [q]; exact hn
        · exact f2 y y1 (by omega)
      · refine Or.inr ⟨f1, by omega, f3, fun y y1 y2 y3 => ?_⟩
        by_cases q : y = x + 1
        · rw [q, hn] at y3; cases y3
        · exact f4 y y1 (by omega) y3
    by_cases q3 : nmdB ow ws k t (x + 1) = true
    · rw [if_pos q3, if_neg (by decide), c_scopeI hP (by omega) b, Option.bind_some] at s
      dsimp only at s
      rw [mrgS, bndE] at s
      by_cases q2 : scpB pa tr b (x + 1) = true
      · have hn : nmB room pa tr b ow ws k t (x + 1) = true := by rw [nmE, q2, q3]; rfl
        rw [if_pos q2, if_neg (by decide)] at s
        rcases hf with ⟨f1, f2⟩ | ⟨f1, f2, f3, f4⟩
        · rw [if_pos (show J (f : Nat) = 0 by rw [f1]; rfl), bndE, J_suc] at s
          rw [s]
          refine ih (x + 1) m (x + 1) (by omega) (by omega) (Or.inr ⟨by omega, Nat.le_refl _, hn, fun y y1 y2 y3 => ?_⟩)
          by_cases q : y = x + 1
          · exact q
          · rw [f2 y y1 (by omega)] at y3; cases y3
        · rw [if_neg (by rw [J_z0 (by omega)]; omega)] at s
          have hr : r = -2 := by
            rcases hs with ⟨h1, h2⟩ | ⟨y, h1, h2, h3, h4, h5⟩ | ⟨h1, -⟩
            · rw [h2 f f1 (by omega)] at f3; cases f3
            · have e1 := h5 f f1 (by omega) f3
              have e2 := h5 (x + 1) (by omega) (by omega) hn
              omega
            · exact h1
          rw [if_pos hr, s]; rfl
      · rw [if_neg q2, if_pos rfl] at s
        exact no (by rw [nmE, Bool.eq_false_iff.mpr q2]; rfl) s
    · rw [if_neg q3, if_pos rfl] at s
      exact no (by rw [nmE, Bool.eq_false_iff.mpr q3, Bool.and_false]) s

theorem scp_room {σ : MS} {Γ : HS} {pa fi nx : Nat → Nat} {ch : Nat → List Nat} {tr : Nat → Nat} (hP : PLT nO room nV nC σ Γ pa fi nx ch tr) (b : Bool) {x : Nat} (hx : scpB pa tr b x = true) : room x = false := by
  rw [Bool.eq_false_iff]
  intro q
  have p0 := hP.2.2.2.2.2.2.2.2.2.1 x q
  have p1 := hP.2.2.2.2.2.2.2.2.2.2.1
  have x1 : (x == 1) = false := by
    rw [beq_eq_false_iff_ne]
    rintro rfl
    rw [p1.2.2.1] at q; cases q
  have s0 : sigN pa (trB tr 2) (shB tr) (pa 1) 121 x = 0 := by
    show (if x = 0 then 0 else if trB tr 2 x = true then 0 else if pa x = 1 ∨ pa x = pa 1 then pa x else if shB tr (pa x) = true then sigN pa (trB tr 2) (shB tr) (pa 1) 120 (pa x) else 0) = 0
    split
    · rfl
    · split
      · rfl
      · rw [p0, if_neg (by have := p1.2.2.2; omega)]
        split
        · exact sigN_0 _
        · rfl
  unfold scpB at hx
  rw [x1, s0] at hx
  cases b <;> cases hx

theorem txl_nosee : TXL [89, 111, 117, 32, 115, 101, 101, 32, 110, 111, 32, 115, 117, 99, 104, 32, 116, 104, 105, 110, 103, 46] [89, 111, 117, 32, 115, 101, 101, 32, 110, 111, 32, 115, 117, 99, 104, 32, 116, 104, 105, 110, 103, 46] := by unfold TXL; decide +kernel
theorem txl_which : TXL [87, 104, 105, 99, 104, 32, 111, 110, 101, 32, 100, 111, 32, 121, 111, 117, 32, 109, 101, 97, 110, 63] [87, 104, 105, 99, 104, 32, 111, 110, 101, 32, 100, 111, 32, 121, 111, 117, 32, 109, 101, 97, 110, 63] := by unfold TXL; decide +kernel
/-- all that both know to understand a noun -/
def NCX (nO : Nat) (room : Nat → Bool) (nV nC : Nat) (ow : Nat → List (List Int)) (W : List Int) (ws : List (List Int)) (σ : MS) (Γ : HS) : Prop := PL nO room nV nC σ Γ ∧ OUT σ Γ ∧ (∀ x, x ≤ 120 → σ.2 50 x = if room x = true then 1 else 0) ∧ σ.1 78 = J (nO : Nat) ∧ (Γ 4).2.1 0 0 = J (nO : Nat) ∧ WOB σ ow ∧ WSO Γ W ow ∧ FXW Γ W ∧ (∀ x, room x = true → ow x = []) ∧ TRr σ ws ∧ TRc Γ W ws
theorem r_art {σ : MS} {ws : List (List Int)} (hT : TRr σ ws) {f t : Nat} (hf : f < t) (ht : t ≤ ws.length) (K : Int32 → MS → MR) : (bnd (fun (v4_1 : Int32) (σ_2 : MS) => K v4_1 σ_2 : Int32 → MS → MR) fun j_3 => if (J (t : Nat) - J (f : Nat)) ≤ 1 then j_3 (J (f : Nat)) σ else ( (F_X12_isTerm (J (f : Nat)) ([116, 104, 101] : List Int32) σ).bind fun u_105 => bnd (fun  (σ_107 : MS) => ( bnd (J (f : Nat) + 1) fun (x_111 : Int32) => j_3 x_111 σ_107 ) : MS → MR) fun j_108 => if u_105.1 = 0 then ( (F_X12_isTerm (J (f : Nat)) ([97] : List Int32) u_105.2).bind fun u_116 => if u_116.1 = 0 then ( (F_X12_isTerm (J (f : Nat)) ([97, 110] : List Int32) u_116.2).bind fun u_121 => if u_121.1 = 0 then ( j_3 (J (f : Nat)) u_121.2 ) else ( j_108  u_121.2 ) ) else ( j_108  u_116.2 ) ) else ( j_108  u_105.2 ) )) = K (J (artN ws f t : Nat)) σ := by
  have h12 := hT.2.1
  rw [bndE, J_sub, show ((t : Nat) : Int) - ((f : Nat) : Int) = ((t - f : Nat) : Int) by omega, show (1 : Int32) = J ((1 : Nat) : Int) from rfl]
  unfold artN
  by_cases q : 1 < t - f
  · rw [if_neg (by rw [J_le (by omega) (by omega) (by omega) (by omega)]; omega), r_isL hT (by omega) lts_4, Option.bind_some]
    dsimp only
    rw [bndE, J_add]
    by_cases q1 : ws.getD f [] = [116, 104, 101]
    · rw [if_pos q1, if_neg (by decide), if_pos ⟨q, by unfold artB; exact decide_eq_true_iff.mpr (Or.inl q1)⟩]; rfl
    rw [if_neg q1, if_pos rfl, r_isL hT (by omega) lts_5, Option.bind_some]
    dsimp only
    by_cases q2 : ws.getD f [] = [97]
    · rw [if_pos q2, if_neg (by decide), if_pos ⟨q, by unfold artB; exact decide_eq_true_iff.mpr (Or.inr (Or.inl q2))⟩]; rfl
    rw [if_neg q2, if_pos rfl, r_isL hT (by omega) lts_6, Option.bind_some]
    dsimp only
    by_cases q3 : ws.getD f [] = [97, 110]
    · rw [if_pos q3, if_neg (by decide), if_pos ⟨q, by unfold artB; exact decide_eq_true_iff.mpr (Or.inr (Or.inr q3))⟩]; rfl
    rw [if_neg q3, if_pos rfl, if_neg]
    rintro ⟨-, c⟩
    unfold artB at c
    rcases decide_eq_true_iff.mp c with c | c | c
    · exact q1 c
    · exact q2 c
    · exact q3 c
  · rw [if_pos (by rw [J_le (by omega) (by omega) (by omega) (by omega)]; omega), if_neg (fun c => q c.1)]
/-- a noun's outcome in both: an object, or it is told why not -/
def NOC (nO : Nat) (room : Nat → Bool) (σ : MS) (Γ : HS) (r : Int) (m : HR) : Prop := (∃ x : Nat, r = (x : Int) ∧ 1 ≤ x ∧ x ≤ nO ∧ room x = false ∧ m = some (J (x : Nat), Γ)) ∨ ((r = -1 ∨ r = -2) ∧ ∃ τ Δ, F_X12_refused (J r) σ = some ((0 : Int32), τ) ∧ m = some ((0 : Int32), Δ) ∧ TLS σ Γ τ Δ)
theorem refused_eq {r : Int} (h : r = -1 ∨ r = -2) (σ : MS) : F_X12_refused (J r) σ = (F_X12_line (if r = -1 then [89, 111, 117, 32, 115, 101, 101, 32, 110, 111, 32, 115, 117, 99, 104, 32, 116, 104, 105, 110, 103, 46] else [87, 104, 105, 99, 104, 32, 111, 110, 101, 32, 100, 111, 32, 121, 111, 117, 32, 109, 101, 97, 110, 63]) σ).bind fun u => some ((0 : Int32), u.2) := by
  unfold F_X12_refused F_X12_no
  rcases h with rfl | rfl
  · rw [if_pos rfl, if_pos (show J (-1) = -1 from rfl)]
    cases F_X12_line [89, 111, 117, 32, 115, 101, 101, 32, 110, 111, 32, 115, 117, 99, 104, 32, 116, 104, 105, 110, 103, 46] σ <;> rfl
  · rw [if_neg (by decide), if_neg (by decide)]
    cases F_X12_line [87, 104, 105, 99, 104, 32, 111, 110, 101, 32, 100, 111, 32, 121, 111, 117, 32, 109, 101, 97, 110, 63] σ <;> rfl
theorem W_noun {ow : Nat → List (List Int)} {W : List Int} {ws : List (List Int)} {σ : MS} {Γ : HS} (h : NCX nO room nV nC ow W ws σ Γ) {f t : Nat} (hf : f < t) (ht : t ≤ ws.length) {v : Int32} (hall : ¬ (t - artN ws f t = 1 ∧ ws.getD (artN ws f t) [] = [97, 108, 108] ∧ (v = 4 ∨ v = 5))) : ∃ r : Int, F_X12_nounOf v (J (f : Nat)) (J (t : Nat)) σ = some (J r, σ) ∧ NOC nO room σ Γ r (F_X8_nounOf (J (artN ws f t : Nat)) (J (t : Nat)) Γ) := by
  obtain ⟨hP, hO, hr, h78, h0, hB, hW, hF, hrm, hT, hTc⟩ := h
  obtain ⟨pa, fi, nx, ch, tr, P⟩ := hP
  have tn := P.1.1
  have h12 := hT.2.1
  have hw : ∀ t, t < ws.length → TW (ws.getD t []) := fun t ht => (hT.2.2 t ht).1
  have h10 : ∀ x, 1 ≤ x → x ≤ 120 → (ow x).length ≤ 10 := fun x x1 x2 => (hW.1.2 x x1 (by omega)).1
  obtain ⟨b, b1, b2⟩ := W_lightI P hr h78
  obtain ⟨k1, k2⟩ := artN_rng ws hf
  have eR := noR_eq v (J (f : Nat)) (J (t : Nat)) σ
  rw [r_art hT hf ht _] at eR
  generalize artN ws f t = k at k1 k2 hall eR
  have n120 : t ≤ 12 := by omega
  have eC := noC_eq (J (k : Nat)) (J (t : Nat)) Γ
  rw [b1, Option.bind_some] at eR
  rw [b2, Option.bind_some] at eC
  dsimp only at eR eC
  rw [mrgS, bndE, bndE, bndE] at eC
  rw [bndE] at eR
  have e1 : (J (t : Nat) - J (k : Nat) = 1) = (t - k = 1) := by
    rw [J_sub, show ((t : Nat) : Int) - ((k : Nat) : Int) = ((t - k : Nat) : Int) by omega, show (1 : Int32) = J ((1 : Nat) : Int) from rfl, J_eqN (by omega) (by omega)]
  -- told why not
  have notold : ∀ r : Int, (r = -1 ∨ r = -2) → ∀ m : HR, m = ((F_X5_line (if r = -1 then [89, 111, 117, 32, 115, 101, 101, 32, 110, 111, 32, 115, 117, 99, 104, 32, 116, 104, 105, 110, 103, 46] else [87, 104, 105, 99, 104, 32, 111, 110, 101, 32, 100, 111, 32, 121, 111, 117, 32, 109, 101, 97, 110, 63]) Γ).bind fun u => bnd (mrg (fun j => j == 8) Γ u.2) fun σ => some ((0 : Int32), σ)) → NOC nO room σ Γ r m := fun r hr m hm => by
    refine Or.inr ⟨hr, ?_⟩
    rw [refused_eq hr, hm]
    rcases hr with rfl | rfl
    · rw [if_pos rfl]
      obtain ⟨τ, Δ, a1, a2, a3, a4⟩ := W_line txl_nosee hO
      refine ⟨τ, Δ, ?_, ?_, a4⟩
      · rw [a1]; rfl
      · rw [a2, Option.bind_some]
        dsimp only
        rw [a3, bndE]
    · rw [if_neg (show ¬ (-2 : Int) = -1 by decide)]
      obtain ⟨τ, Δ, a1, a2, a3, a4⟩ := W_line txl_which hO
      refine ⟨τ, Δ, ?_, ?_, a4⟩
      · rw [a1]; rfl
      · rw [a2, Option.bind_some]
        dsimp only
        rw [a3, bndE]
  by_cases qit : t - k = 1 ∧ ws.getD k [] = [105, 116]
  · -- it
    obtain ⟨i, i1, i2⟩ := P.2.2.2.2.2.2.2.2.1
    have ic : (Γ 9).1 11 = J (i : Nat) := P.2.2.2.2.2.2.1.2.2.2.trans i1
    obtain ⟨z, z1, z2⟩ := c_term hTc h12 (t := k) (by omega)
    rw [if_pos (by rw [e1]; exact qit.1), r_isL hT (by omega) lts_2, Option.bind_some, if_pos qit.2] at eR
    dsimp only at eR
    rw [if_neg (by decide), i1] at eR
    rw [if_pos (by rw [e1]; exact qit.1), z1, Option.bind_some] at eC
    dsimp only at eC
    rw [if_pos (show J z = 2 from by rw [show (2 : Int32) = J ((2 : Nat) : Int) from rfl, fx_J hF z2 (hw k (by omega)) (by omega)]; exact qit.2), bndE, bndE, ic] at eC
    by_cases q0 : i = 0
    · refine ⟨-1, ?_, notold _ (Or.inl rfl) _ ?_⟩
      · rw [eR, if_pos (by rw [q0]; decide)]; rfl
      · rw [eC, if_pos (by rw [q0]; rfl), if_pos rfl]; rfl
    · rw [if_neg (by rw [show (0 : Int32) = J ((0 : Nat) : Int) from rfl, J_le (by omega) (by omega) (by omega) (by omega)]; omega), r_scopeI P hr i2 b, Option.bind_some] at eR
      rw [if_neg (by rw [J_z0 (by omega)]; exact q0), c_scopeI P (by omega) b, Option.bind_some] at eC
      dsimp only at eR eC
      rw [mrgS, bndE, ic] at eC
      by_cases q1 : scpB pa tr b i = true
      · rw [if_pos q1, if_neg (by decide), i1] at eR
        rw [if_pos q1, if_neg (by decide), if_neg (by rw [J_z0 (by omega)]; exact q0)] at eC
        exact ⟨(i : Nat), eR, Or.inl ⟨i, rfl, by omega, i2, scp_room P b q1, eC⟩⟩
      · rw [if_neg q1, if_pos rfl] at eR
        rw [if_neg q1, if_pos rfl, if_pos rfl] at eC
        refine ⟨-1, by rw [eR]; rfl, notold _ (Or.inl rfl) _ ?_⟩
        rw [eC, if_pos rfl]
  · -- by its words
    obtain ⟨r, r1, r2⟩ := r_nouns P hr h78 hB h10 (k := k) hT ht (by omega) b nO 0 FU (-1) (by omega) (FU_gt (by omega)) (Or.inl ⟨rfl, fun y y1 y2 => by omega⟩)
    have c1 := fun K => c_nouns P h0 hW hrm hTc h12 hw ht k2 b K r2 nO 0 FU 0 (by omega) (FU_gt (by omega)) (Or.inl ⟨rfl, fun y y1 y2 => by omega⟩)
    have eR2 : F_X12_nounOf v (J (f : Nat)) (J (t : Nat)) σ = some (J r, σ) := by
      rw [eR]
      have fin : (bnd (fun  (σ_12 : MS) => ( loopF (NoB (J (t : Nat)) (J (k : Nat)) (bI b)) FU ((-1), 1, σ_12) ) : MS → MR) fun j_13 => if J (t : Nat) - J (k : Nat) = 1 then ( (F_X12_isTerm (J (k : Nat)) ([97, 108, 108] : List Int32) σ).bind fun u_72 => if u_72.1 = 0 then ( j_13  u_72.2 ) else ( if v = 4 then ( some ((-3), u_72.2) ) else ( if v = 5 then ( some ((-3), u_72.2) ) else ( j_13  u_72.2 ) ) ) ) else ( j_13  σ )) = some (J r, σ) := by
        rw [bndE]
        by_cases q1 : t - k = 1
        · rw [if_pos (by rw [e1]; exact q1), r_isL hT (by omega) lts_3, Option.bind_some]
          dsimp only
          by_cases q2 : ws.getD k [] = [97, 108, 108]
          · rw [if_pos q2, if_neg (by decide), if_neg (fun e => hall ⟨q1, q2, Or.inl e⟩), if_neg (fun e => hall ⟨q1, q2, Or.inr e⟩)]; exact r1
          · rw [if_neg q2, if_pos rfl]; exact r1
        · rw [if_neg (by rw [e1]; exact q1)]; exact r1
      by_cases q1 : t - k = 1
      · rw [if_pos (by rw [e1]; exact q1), r_isL hT (by omega) lts_2, Option.bind_some, if_neg (fun e => qit ⟨q1, e⟩)]
        dsimp only
        rw [if_pos rfl]; exact fin
      · rw [if_neg (by rw [e1]; exact q1)]; exact fin
    refine ⟨r, eR2, ?_⟩
    have eC2 : F_X8_nounOf (J (k : Nat)) (J (t : Nat)) Γ = if r = -2 then manyC Γ else (if J (if r = -1 then 0 else r) = 0 then ( (F_X5_line ([89, 111, 117, 32, 115, 101, 101, 32, 110, 111, 32, 115, 117, 99, 104, 32, 116, 104, 105, 110, 103, 46] : List Int32) Γ).bind fun u_13 => bnd (mrg (fun j => j == 8) Γ u_13.2) fun σ_15 => some (J (if r = -1 then 0 else r), σ_15) ) else ( some (J (if r = -1 then 0 else r), Γ) )) := by
      rw [eC]
      by_cases q1 : t - k = 1
      · obtain ⟨z, z1, z2⟩ := c_term hTc h12 (t := k) (by omega)
        rw [if_pos (by rw [e1]; exact q1), z1, Option.bind_some]
        dsimp only
        rw [if_neg (show ¬ J z = 2 from by rw [show (2 : Int32) = J ((2 : Nat) : Int) from rfl, fx_J hF z2 (hw k (by omega)) (by omega)]; exact fun e => qit ⟨q1, e⟩)]
        exact c1 _
      · rw [if_neg (by rw [e1]; exact q1)]; exact c1 _
    rcases r2 with ⟨h1, h2⟩ | ⟨y, h1, h2, h3, h4, h5⟩ | ⟨h1, -⟩
    · refine notold r (Or.inl h1) _ ?_
      rw [eC2, if_neg (by omega), if_pos h1, if_pos h1, if_pos (show J 0 = 0 from rfl)]; rfl
    · refine Or.inl ⟨y, h3, h1, h2, ?_, ?_⟩
      · unfold nmB at h4
        rw [Bool.and_eq_true, Bool.and_eq_true] at h4
        simpa using h4.1.1
      · have n1 : ¬ r = -1 := by omega
        rw [eC2, if_neg (by omega), if_neg n1, h3, if_neg (by rw [J_z0 (by omega)]; omega)]
    · refine notold r (Or.inr h1) _ ?_
      rw [eC2, if_pos h1, if_neg (by omega)]; rfl
