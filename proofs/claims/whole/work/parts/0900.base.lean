/-! numbers, answers and loops of the pure functions -/
/-- a number as the machine holds it -/
def J (z : Int) : Int32 := Int32.ofInt z
theorem J_lit (n : Nat) : (no_index (OfNat.ofNat n) : Int32) = J (OfNat.ofNat n : Int) := by
  unfold J; rw [show (OfNat.ofNat n : Int32) = Int32.ofNat n from rfl, ← Int32.ofInt_eq_ofNat]; rfl
theorem J_add (a b : Int) : J a + J b = J (a + b) := by unfold J; simp
theorem J_sub (a b : Int) : J a - J b = J (a - b) := by unfold J; simp
theorem J_mul (a b : Int) : J a * J b = J (a * b) := by unfold J; simp
theorem J_neg (a : Int) : - J a = J (-a) := by unfold J; simp
theorem J_toInt {a : Int} (h1 : -2147483648 ≤ a) (h2 : a < 2147483648) : (J a).toInt = a := Int32.toInt_ofInt_of_le (by omega) (by omega)
theorem J_of (x : Int32) : J x.toInt = x := by unfold J; simp
theorem J_ofNat (n : Nat) : Int32.ofNat n = J n := by unfold J; rw [Int32.ofInt_eq_ofNat]
theorem J_lt {a b : Int} (h1 : -2147483648 ≤ a) (h2 : a < 2147483648) (h3 : -2147483648 ≤ b) (h4 : b < 2147483648) : (J a < J b) = (a < b) := by
  rw [Int32.lt_iff_toInt_lt, J_toInt h1 h2, J_toInt h3 h4]
theorem J_le {a b : Int} (h1 : -2147483648 ≤ a) (h2 : a < 2147483648) (h3 : -2147483648 ≤ b) (h4 : b < 2147483648) : (J a ≤ J b) = (a ≤ b) := by
  rw [Int32.le_iff_toInt_le, J_toInt h1 h2, J_toInt h3 h4]
theorem J_eq {a b : Int} (h1 : -2147483648 ≤ a) (h2 : a < 2147483648) (h3 : -2147483648 ≤ b) (h4 : b < 2147483648) : (J a = J b) = (a = b) := by
  rw [← Int32.toInt_inj, J_toInt h1 h2, J_toInt h3 h4]
theorem J_nat {a : Int} (h1 : 0 ≤ a) (h2 : a < 2147483648) : (J a).toNatClampNeg = a.toNat := by
  show (J a).toInt.toNat = _; rw [J_toInt (by omega) h2]
theorem J_natN {n : Nat} (h2 : n < 2147483648) : (J (n : Int)).toNatClampNeg = n := by rw [J_nat (by omega) (by omega)]; rfl
theorem J_rng (x : Int32) : -2147483648 ≤ x.toInt ∧ x.toInt < 2147483648 := ⟨x.le_toInt, x.toInt_lt⟩
theorem J_pos {a : Int} (h : -2147483648 ≤ a) (h2 : a < 2147483648) : (J a < J 0) = (a < 0) := J_lt h h2 (by omega) (by omega)
theorem J_i8 {c : Int} (h : -128 ≤ c) (h2 : c < 128) : (J c).toInt8.toInt32 = J c := by
  apply Int32.toInt_inj.1
  rw [J_toInt (by omega) (by omega), Int8.toInt_toInt32, Int32.toInt_toInt8, J_toInt (by omega) (by omega)]
  exact Int.bmod_eq_of_le (by omega) (by omega)
theorem J_byte {c : Int} (h : -128 ≤ c) (h2 : c < 128) : vp_nar .byte (J c) = J c := J_i8 h h2
theorem nrB_J {f : Nat → Int32} {i : Nat} {c : Int} (e : f i = J c) (h : -128 ≤ c) (h2 : c < 128) : nrB f i = J c := by
  show vp_nar .byte (f i) = J c
  rw [e]; exact J_byte h h2
theorem mA_id (σ : MS) (k : Nat) : mA σ k (σ.2 k) = σ := by
  unfold mA updA
  rw [show (fun j => if j = k then σ.2 k else σ.2 j) = σ.2 from funext fun j => by split <;> simp_all]
theorem mA_mA (σ : MS) (k : Nat) (f g : Nat → Int32) : mA (mA σ k f) k g = mA σ k g := by
  unfold mA updA
  rw [show (fun j => if j = k then g else (σ.1, fun j => if j = k then f else σ.2 j).2 j) = (fun j => if j = k then g else σ.2 j) from funext fun j => by
    by_cases q : j = k
    · rw [if_pos q, if_pos q]
    · rw [if_neg q, if_neg q]; exact if_neg q]
/-- it answers, and of the answer Q holds -/
def Ok {α : Type} (m : Option α) (Q : α → Prop) : Prop := ∃ r, m = some r ∧ Q r
def Ok2 {α β : Type} (m : Option α) (n : Option β) (Q : α → β → Prop) : Prop := ∃ r s, m = some r ∧ n = some s ∧ Q r s
theorem Ok_some {α : Type} {a : α} {Q : α → Prop} (h : Q a) : Ok (some a) Q := ⟨a, rfl, h⟩
theorem Ok_bind {α β : Type} {m : Option α} {f : α → Option β} {Q : β → Prop} (h : Ok m (fun u => Ok (f u) Q)) : Ok (m.bind f) Q := by
  obtain ⟨r, e, s, e2, q⟩ := h; exact ⟨s, by rw [e]; exact e2, q⟩
theorem Ok_mono {α : Type} {m : Option α} {Q R : α → Prop} (h : Ok m Q) (i : ∀ r, Q r → R r) : Ok m R := by
  obtain ⟨r, e, q⟩ := h; exact ⟨r, e, i r q⟩
theorem Ok2_some {α β : Type} {a : α} {b : β} {Q : α → β → Prop} (h : Q a b) : Ok2 (some a) (some b) Q := ⟨a, b, rfl, rfl, h⟩
theorem Ok2_mono {α β : Type} {m : Option α} {n : Option β} {Q R : α → β → Prop} (h : Ok2 m n Q) (i : ∀ r s, Q r s → R r s) : Ok2 m n R := by
  obtain ⟨r, s, e, e2, q⟩ := h; exact ⟨r, s, e, e2, i r s q⟩
theorem Ok2_bind {α β γ δ : Type} {m : Option α} {n : Option β} {f : α → Option γ} {g : β → Option δ} {Q : γ → δ → Prop} (h : Ok2 m n (fun u v => Ok2 (f u) (g v) Q)) : Ok2 (m.bind f) (n.bind g) Q := by
  obtain ⟨r, s, e, e2, r', s', e3, e4, q⟩ := h; exact ⟨r', s', by rw [e]; exact e3, by rw [e2]; exact e4, q⟩
theorem Ok2_l {α β γ : Type} {m : Option α} {n : Option β} {f : α → Option γ} {Q : γ → β → Prop} (h : Ok m (fun u => Ok2 (f u) n Q)) : Ok2 (m.bind f) n Q := by
  obtain ⟨r, e, r', s', e3, e4, q⟩ := h; exact ⟨r', s', by rw [e]; exact e3, e4, q⟩
theorem Ok2_r {α β γ : Type} {m : Option α} {n : Option β} {f : β → Option γ} {Q : α → γ → Prop} (h : Ok n (fun u => Ok2 m (f u) Q)) : Ok2 m (n.bind f) Q := by
  obtain ⟨r, e, r', s', e3, e4, q⟩ := h; exact ⟨r', s', e3, by rw [e]; exact e4, q⟩
theorem Ok2_sep {α β : Type} {m : Option α} {n : Option β} {Q : α → Prop} {R : β → Prop} {S : α → β → Prop} (h : Ok m Q) (i : Ok n R) (c : ∀ a b, Q a → R b → S a b) : Ok2 m n S := by
  obtain ⟨r, e, q⟩ := h; obtain ⟨s, e2, q2⟩ := i; exact ⟨r, s, e, e2, c r s q q2⟩
theorem Ok_ite {α : Type} {c : Prop} [Decidable c] {A B : Option α} {Q : α → Prop} (h : c → Ok A Q) (i : ¬ c → Ok B Q) : Ok (if c then A else B) Q := by
  by_cases q : c
  · rw [if_pos q]; exact h q
  · rw [if_neg q]; exact i q
theorem Ok_pos {α : Type} {c : Prop} [Decidable c] {A B : Option α} {Q : α → Prop} (q : c) (h : Ok A Q) : Ok (if c then A else B) Q := by rw [if_pos q]; exact h
theorem Ok_neg {α : Type} {c : Prop} [Decidable c] {A B : Option α} {Q : α → Prop} (q : ¬ c) (h : Ok B Q) : Ok (if c then A else B) Q := by rw [if_neg q]; exact h
theorem Ok_some_e {α : Type} {a : α} {Q : α → Prop} (h : ∀ x, x = a → Q x) : Ok (some a) Q := ⟨a, rfl, h a rfl⟩
theorem Ok_bnd {α β : Type} {e : α} {f : α → Option β} {Q : β → Prop} (h : Ok (f e) Q) : Ok (bnd e f) Q := h
theorem Ok_loop {σ ρ : Type} {B : (σ → Option ρ) → σ → Option ρ} {Q : ρ → Prop} (P : σ → Nat → Prop) (step : ∀ (a : σ → Option ρ) (s : σ) (k : Nat), P s k → (∀ s' k', k' < k → P s' k' → Ok (a s') Q) → Ok (B a s) Q) : ∀ (n : Nat) (s : σ) (k : Nat), k < n → P s k → Ok (loopF B n s) Q := by
  intro n
  induction n with
  | zero => intro s k h; omega
  | succ n ih => intro s k h p; exact step _ s k p (fun s' k' hk p' => ih s' k' (by omega) p')
theorem Ok2_loop {σ ρ τ κ : Type} {B : (σ → Option ρ) → σ → Option ρ} {D : (τ → Option κ) → τ → Option κ} {Q : ρ → κ → Prop} (P : σ → τ → Nat → Prop) (step : ∀ (a : σ → Option ρ) (b : τ → Option κ) (s : σ) (t : τ) (k : Nat), P s t k → (∀ s' t' k', k' < k → P s' t' k' → Ok2 (a s') (b t') Q) → Ok2 (B a s) (D b t) Q) : ∀ (n m : Nat) (s : σ) (t : τ) (k : Nat), k < n → k < m → P s t k → Ok2 (loopF B n s) (loopF D m t) Q := by
  intro n
  induction n with
  | zero => intro m s t k h; omega
  | succ n ih =>
    intro m s t k h h2 p
    cases m with
    | zero => omega
    | succ m => exact step _ _ s t k p (fun s' t' k' hk p' => ih m s' t' k' (by omega) (by omega) p')
theorem J1_ne : ¬ (J 1 = (0 : Int32)) := by decide
theorem J0_eq : J 0 = (0 : Int32) := rfl
theorem FU_gt {k : Nat} (h : k < 1000000000) : k < FU := by unfold FU; omega
theorem upd_s (f : Nat → Int32) (k : Nat) (x : Int32) (j : Nat) : upd f k x j = if j = k then x else f j := rfl
theorem mI_1 (σ : MS) (k : Nat) (v : Int32) (j : Nat) : (mI σ k v).1 j = if j = k then v else σ.1 j := rfl
theorem mI_2 (σ : MS) (k : Nat) (v : Int32) : (mI σ k v).2 = σ.2 := rfl
theorem mA_1 (σ : MS) (k : Nat) (g : Nat → Int32) : (mA σ k g).1 = σ.1 := rfl
theorem mA_2 (σ : MS) (k : Nat) (g : Nat → Int32) (j : Nat) : (mA σ k g).2 j = if j = k then g else σ.2 j := rfl
theorem cI_r (Γ : HS) (r k : Nat) (v : Int32) (j : Nat) : (cI' Γ r k v) j = if j = r then (upd (Γ r).1 k v, (Γ r).2) else Γ j := rfl
theorem cA_r (Γ : HS) (r k : Nat) (g : Nat → Int32) (j : Nat) : (cA' Γ r k g) j = if j = r then ((Γ r).1, updA (Γ r).2.1 k g, (Γ r).2.2) else Γ j := rfl
theorem cL_r (Γ : HS) (r k : Nat) (g : Nat → Int64) (j : Nat) : (cL' Γ r k g) j = if j = r then ((Γ r).1, (Γ r).2.1, fun j => if j = k then g else (Γ r).2.2 j) else Γ j := rfl
theorem mrg_r (b : Nat → Bool) (Γ Γ' : HS) (j : Nat) : mrg b Γ Γ' j = cond (b j) (Γ' j) (Γ j) := rfl
theorem updA_s (A : Nat → Nat → Int32) (k : Nat) (g : Nat → Int32) (j : Nat) : updA A k g j = if j = k then g else A j := rfl
theorem J_nlt0 {i : Int} (h : 0 ≤ i) (h2 : i < 2147483648) : ¬ (J i < (0 : Int32)) := by
  rw [show (0 : Int32) = J 0 from rfl, J_lt (by omega) (by omega) (by omega) (by omega)]; omega
theorem J_lt0 {i : Int} (h : i < 0) (h2 : -2147483648 ≤ i) : J i < (0 : Int32) := by
  rw [show (0 : Int32) = J 0 from rfl, J_lt (by omega) (by omega) (by omega) (by omega)]; omega
theorem q_g_at_in {n : Nat} {f : Nat → Int32} {i : Int} (h : 0 ≤ i) (h2 : i < n) (h3 : n < 2147483648) : g_at n f (J i) = f i.toNat := by
  unfold g_at
  rw [if_neg (by rintro (q | q); exact J_nlt0 h (by omega) q; rw [J_nat h (by omega)] at q; omega), J_nat h (by omega)]
theorem q_g_at_out {n : Nat} {f : Nat → Int32} {i : Int} (h : i < 0 ∨ n ≤ i) (h1 : -2147483648 ≤ i) (h2 : i < 2147483648) : g_at n f (J i) = J 0 := by
  unfold g_at
  by_cases q : i < 0
  · rw [if_pos (Or.inl (J_lt0 q h1))]; rfl
  · rw [if_pos (Or.inr (by rw [J_nat (by omega) (by omega)]; omega))]; rfl
theorem q_g_put_in {n : Nat} {f : Nat → Int32} {i : Int} {x : Int32} (h : 0 ≤ i) (h2 : i < n) (h3 : n < 2147483648) : g_put n f (J i) x = upd f i.toNat x := by
  unfold g_put
  rw [if_neg (by rintro (q | q); exact J_nlt0 h (by omega) q; rw [J_nat h (by omega)] at q; omega), J_nat h (by omega)]
theorem q_g_put_out {n : Nat} {f : Nat → Int32} {i : Int} {x : Int32} (h : i < 0 ∨ n ≤ i) (h1 : -2147483648 ≤ i) (h2 : i < 2147483648) : g_put n f (J i) x = f := by
  unfold g_put
  by_cases q : i < 0
  · rw [if_pos (Or.inl (J_lt0 q h1))]
  · rw [if_pos (Or.inr (by rw [J_nat (by omega) (by omega)]; omega))]
theorem tnl (n m : Nat) : ((n : Int) + (no_index (OfNat.ofNat m) : Int)).toNat = n + OfNat.ofNat m := by
  show ((n : Int) + (m : Int)).toNat = n + m; omega
theorem tnc (n m : Nat) : ((n : Int) + (m : Int)).toNat = n + m := by omega
theorem rtoken (σ : MS) (n : Nat) (k a v : Int) (h : σ.1 10 = J n) (hn : n < 16010) : F_X12_token (J k) (J a) (J v) σ = some (J 0, mA (mI (mA (mA σ 7 (upd (σ.2 7) n (J k))) 8 (upd (σ.2 8) n (J a))) 10 (J (n+1))) 9 (upd (σ.2 9) n (J v))) := by
  simp (disch := omega) [F_X12_token, bnd, mI_1, mI_2, mA_1, mA_2, h, J_lit, J_add, J_lt, J_natN, hn]
