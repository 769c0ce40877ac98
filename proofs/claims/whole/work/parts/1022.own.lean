/-! the reference finds a name, its own verbs -/
def Fn2 (b0 : List Int32) (again_2 : (Int32 × MS) → MR) (r0 : Int32) : ((Int32 × Int32 × MS) → MR) → Int32 × Int32 × MS → MR := (fun (again_18 : (Int32 × Int32 × MS) → MR) (s_17 : Int32 × Int32 × MS) => ( bnd ((Int32.ofNat (b0).length)) fun (x_21 : Int32) => bnd (fun  (σ_23 : MS) => ( if s_17.1 = 0 then ( bnd (r0 + 1) fun (x_29 : Int32) => again_2 (x_29, σ_23) ) else ( some (r0, σ_23) ) ) : MS → MR) fun j_24 => if x_21 ≤ s_17.2.1 then ( j_24  s_17.2.2 ) else ( if s_17.1 = 0 then ( j_24  s_17.2.2 ) else ( bnd (((12 * r0) + s_17.2.1)) fun (x_38 : Int32) => if x_38 < 0 ∨ 96000 ≤ x_38.toNatClampNeg then none else if s_17.2.1 < 0 ∨ Int32.ofNat (b0).length ≤ s_17.2.1 then none else bnd ((g_chr ((b0).getD s_17.2.1.toNatClampNeg 0))) fun (x_44 : Int32) => bnd (fun (t_46 : Int32) (σ_47 : MS) => ( bnd (s_17.2.1 + 1) fun (x_51 : Int32) => again_18 (t_46, x_51, σ_47) ) : Int32 → MS → MR) fun j_48 => if (s_17.2.2.2 11 x_38.toNatClampNeg) = x_44 then ( j_48 1 s_17.2.2 ) else ( j_48 0 s_17.2.2 ) ) ) ))
def Fn1 (b0 : List Int32) : ((Int32 × MS) → MR) → Int32 × MS → MR := (fun (again_2 : (Int32 × MS) → MR) (s_1 : Int32 × MS) => ( if (s_1.2.1 13) ≤ s_1.1 then ( some ((-1), s_1.2) ) else ( if s_1.1 < 0 ∨ 8000 ≤ s_1.1.toNatClampNeg then none else bnd ((Int32.ofNat (b0).length)) fun (x_10 : Int32) => bnd (fun (t_12 : Int32) (σ_13 : MS) => ( loopF (Fn2 b0 again_2 s_1.1) FU (t_12, 0, σ_13) ) : Int32 → MS → MR) fun j_14 => if (s_1.2.2 12 s_1.1.toNatClampNeg) = x_10 then ( j_14 1 s_1.2 ) else ( j_14 0 s_1.2 ) ) ))
theorem findName_eq (b0 : List Int32) (σ : MS) : F_X12_findName b0 σ = loopF (Fn1 b0) FU (0, σ) := rfl
theorem Fn2_s (b0 : List Int32) (A : (Int32 × MS) → MR) (r : Int32) (n : Nat) (f k : Int32) (σ : MS) : loopF (Fn2 b0 A r) (n + 1) (f, k, σ) = if Int32.ofNat b0.length ≤ k then (if f = 0 then A (r + 1, σ) else some (r, σ)) else if f = 0 then (if f = 0 then A (r + 1, σ) else some (r, σ)) else if ((12 * r) + k) < 0 ∨ 96000 ≤ ((12 * r) + k).toNatClampNeg then none else if k < 0 ∨ Int32.ofNat b0.length ≤ k then none else if (σ.2 11 ((12 * r) + k).toNatClampNeg) = g_chr (b0.getD k.toNatClampNeg 0) then loopF (Fn2 b0 A r) n (1, k + 1, σ) else loopF (Fn2 b0 A r) n (0, k + 1, σ) := rfl
theorem Fn1_s (b0 : List Int32) (n : Nat) (r : Int32) (σ : MS) : loopF (Fn1 b0) (n + 1) (r, σ) = if (σ.1 13) ≤ r then some ((-1 : Int32), σ) else if r < 0 ∨ 8000 ≤ r.toNatClampNeg then none else if (σ.2 12 r.toNatClampNeg) = Int32.ofNat b0.length then loopF (Fn2 b0 (loopF (Fn1 b0) n) r) FU (1, 0, σ) else loopF (Fn2 b0 (loopF (Fn1 b0) n) r) FU (0, 0, σ) := rfl
/-- a literal text and its bytes -/
def txW (b0 : List Int32) (W : List Int) : Prop := b0.length = W.length ∧ W.length ≤ 12 ∧ ∀ k, k < W.length → g_chr (b0.getD k 0) = J (W.getD k 0) ∧ 0 ≤ W.getD k 0 ∧ W.getD k 0 < 128
theorem fn2_0 {b0 : List Int32} {W : List Int} (hb : txW b0 W) (A : (Int32 × MS) → MR) (r : Int32) (n : Nat) (k : Int32) (σ : MS) : loopF (Fn2 b0 A r) (n + 1) (0, k, σ) = A (r + 1, σ) := by
  rw [Fn2_s, if_pos rfl, if_pos rfl]
  split <;> rfl
theorem fn2_1 {b0 : List Int32} {W w : List Int} (hb : txW b0 W) (A : (Int32 × MS) → MR) {r : Nat} (hr : r < 7000) {σ : MS} (hn : isNm σ r w) (hl : w.length = W.length) (hw : ∀ k, k < w.length → 0 ≤ w.getD k 0 ∧ w.getD k 0 < 128) : ∀ (d k n : Nat), k + d = W.length → d < n → (∀ j, j < k → w.getD j 0 = W.getD j 0) → loopF (Fn2 b0 A (J (r : Nat))) n (1, J (k : Nat), σ) = if w = W then some (J (r : Nat), σ) else A (J (r + 1 : Nat), σ) := by
  obtain ⟨b1, b2, b3⟩ := hb
  have er : J (r : Nat) + 1 = J (r + 1 : Nat) := by rw [J_lit, J_add]; rfl
  intro d
  induction d with
  | zero =>
    intro k n hk hn' hj
    obtain ⟨n, rfl⟩ : ∃ e, n = e + 1 := ⟨n - 1, by omega⟩
    rw [Fn2_s, b1, J_ofNat, if_pos (by rw [J_le (by omega) (by omega) (by omega) (by omega)]; omega), if_neg (by decide), if_pos]
    exact list_ext hl (fun k hk => hj k (by omega))
  | succ d ih =>
    intro k n hk hn' hj
    obtain ⟨n, rfl⟩ : ∃ e, n = e + 1 := ⟨n - 1, by omega⟩
    have e12 : (12 * J (r : Nat) + J (k : Nat)) = J ((12 * r + k : Nat) : Int) := by
      rw [show (12 : Int32) = J 12 from rfl, J_mul, J_add]; exact congrArg J (by omega)
    have ek : J (k : Nat) + 1 = J (k + 1 : Nat) := by rw [J_lit, J_add]; rfl
    rw [Fn2_s, b1, J_ofNat, if_neg (by rw [J_le (by omega) (by omega) (by omega) (by omega)]; omega), if_neg (by decide), e12, if_neg (by rw [J_natN (by omega)]; rintro (h | h); exact J_nlt0 (by omega) (by omega) h; omega), if_neg (by rintro (h | h); exact J_nlt0 (by omega) (by omega) h; rw [J_le (by omega) (by omega) (by omega) (by omega)] at h; omega), J_natN (by omega), J_natN (by omega), hn.2 k (by omega), (b3 k (by omega)).1, ek]
    have h1 := hw k (by omega)
    have h2 := b3 k (by omega)
    have ej : (J (w.getD k 0) = J (W.getD k 0)) = (w.getD k 0 = W.getD k 0) := J_eq (by omega) (by omega) (by omega) (by omega)
    by_cases q : w.getD k 0 = W.getD k 0
    · rw [if_pos (by rw [ej]; exact q)]
      refine ih (k + 1) n (by omega) (by omega) (fun j hj' => ?_)
      by_cases e : j = k
      · rw [e]; exact q
      · exact hj j (by omega)
    · obtain ⟨n, rfl⟩ : ∃ e, n = e + 1 := ⟨n - 1, by omega⟩
      rw [if_neg (by rw [ej]; exact q), fn2_0 ⟨b1, b2, b3⟩, if_neg (fun e => q (by rw [e])), er]
theorem isLF_rng {c : Int} (h : isLF c = true) : 0 ≤ c ∧ c < 128 := by have := isLF_iff.mp h; omega
theorem r_findName {b0 : List Int32} {W : List Int} (hb : txW b0 W) {m : Nat} {nm : Nat → List Int} {σ : MS} (hn : rnam m nm σ) (hm : m < 7000) : ∀ (d r n : Nat), r + d = m → d < n → (∀ j, j < r → nm j ≠ W) → ∃ x : Int, loopF (Fn1 b0) n (J (r : Nat), σ) = some (J x, σ) ∧ ((∃ q : Nat, q < m ∧ nm q = W ∧ x = q) ∨ ((∀ q, q < m → nm q ≠ W) ∧ x = -1)) := by
  obtain ⟨h13, hnm, hinj⟩ := hn
  obtain ⟨F, hF, -⟩ := FU_1
  intro d
  induction d with
  | zero =>
    intro r n hr hn' hj
    obtain ⟨n, rfl⟩ : ∃ e, n = e + 1 := ⟨n - 1, by omega⟩
    refine ⟨-1, ?_, Or.inr ⟨fun q hq => hj q (by omega), rfl⟩⟩
    rw [Fn1_s, if_pos (by rw [h13, J_le (by omega) (by omega) (by omega) (by omega)]; omega)]; rfl
  | succ d ih =>
    intro r n hr hn' hj
    obtain ⟨n, rfl⟩ : ∃ e, n = e + 1 := ⟨n - 1, by omega⟩
    obtain ⟨y1, y2⟩ := hnm r (by omega)
    have hwl := y2.2.1
    rw [Fn1_s, if_neg (by rw [h13, J_le (by omega) (by omega) (by omega) (by omega)]; omega), if_neg (by rw [J_natN (by omega)]; rintro (h | h); exact J_nlt0 (by omega) (by omega) h; omega), J_natN (by omega), y1.1, hb.1, J_ofNat]
    have ej : (J ((nm r).length : Nat) = J (W.length : Nat)) = (((nm r).length : Int) = (W.length : Nat)) := J_eq (by omega) (by omega) (by have := hb.2.1; omega) (by have := hb.2.1; omega)
    have er : J (r : Nat) + 1 = J (r + 1 : Nat) := by rw [J_lit, J_add]; rfl
    have go : nm r ≠ W → ∃ x : Int, loopF (Fn1 b0) n (J (r + 1 : Nat), σ) = some (J x, σ) ∧ ((∃ q : Nat, q < m ∧ nm q = W ∧ x = q) ∨ ((∀ q, q < m → nm q ≠ W) ∧ x = -1)) := fun hne => ih (r + 1) n (by omega) (by omega) (fun j hj' => by
      by_cases e : j = r
      · rw [e]; exact hne
      · exact hj j (by omega))
    by_cases q : ((nm r).length : Int) = (W.length : Nat)
    · rw [if_pos (by rw [ej]; exact q)]
      have key := fn2_1 hb (loopF (Fn1 b0) n) (show r < 7000 by omega) y1 (by omega) (fun k hk => isLF_rng (y2.2.2 k hk)) W.length 0 FU (by omega) (FU_gt (by have := hb.2.1; omega)) (fun j hj' => by omega)
      rw [show (0 : Int32) = J (0 : Nat) from rfl, key]
      by_cases q2 : nm r = W
      · rw [if_pos q2]; exact ⟨r, rfl, Or.inl ⟨r, by omega, q2, rfl⟩⟩
      · rw [if_neg q2]; exact go q2
    · rw [if_neg (by rw [ej]; exact q), hF, fn2_0 hb, er]
      exact go (fun e => q (by rw [e]))
/-- one of its own verbs -/
def ownS (σ : MS) (x : Int) (v : Nat) : MS := if 0 ≤ x then mA (mA (mA σ 28 (upd (σ.2 28) x.toNat 3)) 29 (upd (σ.2 29) x.toNat (J (v : Nat)))) 30 (upd (σ.2 30) x.toNat (-1)) else σ
theorem r_own {b0 : List Int32} {W : List Int} (hb : txW b0 W) {m : Nat} {nm : Nat → List Int} {σ : MS} (hn : rnam m nm σ) (hm : m < 7000) (v : Nat) : ∃ x : Int, F_X12_own b0 (J (v : Nat)) σ = some ((0 : Int32), ownS σ x v) ∧ ((∃ q : Nat, q < m ∧ nm q = W ∧ x = q) ∨ ((∀ q, q < m → nm q ≠ W) ∧ x = -1)) := by
  obtain ⟨x, e, h⟩ := r_findName hb hn hm m 0 FU (by omega) (FU_gt (by omega)) (fun j hj => by omega)
  refine ⟨x, ?_, h⟩
  unfold F_X12_own ownS
  rw [findName_eq, show (0 : Int32) = J (0 : Nat) from rfl, e, Option.bind_some]
  rcases h with ⟨q, q1, q2, q3⟩ | ⟨q1, q2⟩
  · have en : ¬ (J x < J ((0 : Nat) : Int) ∨ 8000 ≤ (J x).toNatClampNeg) := by
      rw [q3, J_natN (by omega)]; rintro (h | h); exact J_nlt0 (by omega) (by omega) h; omega
    dsimp only [bnd]
    rw [if_pos (by rw [q3, J_le (by omega) (by omega) (by omega) (by omega)]; omega), if_neg en, if_neg en, if_neg en, if_pos (by omega), q3, J_natN (by omega), Int.toNat_natCast]
    rfl
  · dsimp only
    rw [if_neg (by rw [q2]; decide), if_neg (by omega)]
theorem ownS_rnam {m : Nat} {nm : Nat → List Int} {σ : MS} {x : Int} {v : Nat} (h : rnam m nm σ) : rnam m nm (ownS σ x v) := by
  unfold ownS
  split
  · exact h
  · exact h
