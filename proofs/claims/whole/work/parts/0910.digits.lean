/-! names as numbers -/
def L64 (z : Int) : Int64 := Int64.ofInt z
theorem L_mul (a b : Int) : L64 a * L64 b = L64 (a * b) := by unfold L64; simp
theorem L_add (a b : Int) : L64 a + L64 b = L64 (a + b) := by unfold L64; simp
theorem L_toInt {a : Int} (h1 : -9223372036854775808 ≤ a) (h2 : a < 9223372036854775808) : (L64 a).toInt = a := Int64.toInt_ofInt_of_le (by omega) (by omega)
theorem L_inj {a b : Int} (h1 : 0 ≤ a) (h2 : a < 9223372036854775808) (h3 : 0 ≤ b) (h4 : b < 9223372036854775808) : L64 a = L64 b ↔ a = b := by
  rw [← Int64.toInt_inj, L_toInt (by omega) h2, L_toInt (by omega) h4]
theorem J_64 {a : Int} (h1 : -2147483648 ≤ a) (h2 : a < 2147483648) : (J a).toInt64 = L64 a := by
  apply Int64.toInt_inj.1
  rw [Int32.toInt_toInt64, J_toInt h1 h2, L_toInt (by omega) (by omega)]
theorem J_and {a b : Nat} (h1 : a < 2147483648) (h2 : b < 2147483648) : J (a : Int) &&& J (b : Int) = J ((a &&& b : Nat) : Int) := by
  unfold J
  rw [Int32.ofInt_eq_ofNat, Int32.ofInt_eq_ofNat, Int32.ofInt_eq_ofNat]
  apply Int32.toBitVec_inj.1
  rw [Int32.toBitVec_and]
  show BitVec.ofNat 32 a &&& BitVec.ofNat 32 b = BitVec.ofNat 32 (a &&& b)
  exact (BitVec.ofNat_and).symm
theorem J_mask {a : Nat} (h1 : a < 2147483648) : J (a : Int) &&& 8191 = J ((a % 8192 : Nat) : Int) := by
  rw [show (8191 : Int32) = J ((8191 : Nat) : Int) from rfl, J_and h1 (by omega), show (8191 : Nat) = 2 ^ 13 - 1 from rfl, Nat.and_two_pow_sub_one_eq_mod]
theorem mask_rng (x : Int32) : ∃ h : Nat, h < 8192 ∧ x &&& 8191 = J h := by
  refine ⟨(x &&& 8191).toBitVec.toNat, ?_, ?_⟩
  · rw [Int32.toBitVec_and, BitVec.toNat_and]
    have : x.toBitVec.toNat &&& (8191 : Int32).toBitVec.toNat ≤ (8191 : Int32).toBitVec.toNat := Nat.and_le_right
    have e : (8191 : Int32).toBitVec.toNat = 8191 := by decide
    omega
  · unfold J
    rw [Int32.ofInt_eq_ofNat]
    apply Int32.toBitVec_inj.1
    show _ = BitVec.ofNat 32 _
    rw [BitVec.ofNat_toNat]; simp
/-- more than there is room for can't be told apart -/
theorem pigeon : ∀ (m n : Nat) (f : Nat → Nat), (∀ i, i < n → f i < m) → (∀ i j, i < n → j < n → f i = f j → i = j) → n ≤ m := by
  intro m
  induction m with
  | zero => intro n f h _; cases n with
    | zero => omega
    | succ n => exact absurd (h 0 (by omega)) (by omega)
  | succ m ih =>
    intro n f h hi
    cases n with
    | zero => omega
    | succ n =>
      have := ih n (fun i => if f i = m then f n else f i) (fun i hin => by
        by_cases q : f i = m
        · rw [if_pos q]
          have h1 := h n (by omega)
          by_cases q2 : f n = m
          · have := hi i n (by omega) (by omega) (by rw [q, q2]); omega
          · omega
        · rw [if_neg q]; have := h i (by omega); omega) (fun i j h1 h2 h3 => by
        by_cases q : f i = m
        · by_cases q2 : f j = m
          · exact hi i j (by omega) (by omega) (by rw [q, q2])
          · rw [if_pos q, if_neg q2] at h3
            have := hi n j (by omega) (by omega) h3; omega
        · by_cases q2 : f j = m
          · rw [if_neg q, if_pos q2] at h3
            have := hi i n (by omega) (by omega) h3; omega
          · rw [if_neg q, if_neg q2] at h3
            exact hi i j (by omega) (by omega) h3)
      omega
/-- digits of 37 -/
def dgF (d : Nat → Int) : Nat → Int
  | 0 => 0
  | n + 1 => dgF d n * 37 + d n
theorem dgF_congr {d e : Nat → Int} : ∀ n, (∀ k, k < n → d k = e k) → dgF d n = dgF e n := by
  intro n
  induction n with
  | zero => intro _; rfl
  | succ n ih => intro h; unfold dgF; rw [ih (fun k hk => h k (by omega)), h n (by omega)]
theorem dgF_inj {d e : Nat → Int} : ∀ n, (∀ k, k < n → 0 ≤ d k ∧ d k < 37 ∧ 0 ≤ e k ∧ e k < 37) → dgF d n = dgF e n → ∀ k, k < n → d k = e k := by
  intro n
  induction n with
  | zero => intro _ _ k hk; omega
  | succ n ih =>
    intro h h2 k hk
    have h3 := h n (by omega)
    unfold dgF at h2
    have h4 : dgF d n = dgF e n ∧ d n = e n := by omega
    by_cases q : k = n
    · rw [q]; exact h4.2
    · exact ih (fun k hk => h k (by omega)) h4.1 k (by omega)
theorem dgF_nn {d : Nat → Int} : ∀ n, (∀ k, k < n → 0 ≤ d k) → 0 ≤ dgF d n := by
  intro n
  induction n with
  | zero => intro _; exact Int.le_refl 0
  | succ n ih => intro h; have h1 := ih (fun k hk => h k (by omega)); have h2 := h n (by omega); unfold dgF; omega
theorem dgF_lt {d : Nat → Int} : ∀ n, (∀ k, k < n → 0 ≤ d k ∧ d k < 37) → dgF d n < 37 ^ n := by
  intro n
  induction n with
  | zero => intro _; unfold dgF; decide
  | succ n ih => intro h; have h1 := ih (fun k hk => h k (by omega)); have h2 := h n (by omega); unfold dgF; rw [Int.pow_succ]; omega
/-- a letter's or figure's number -/
def nsg (c : Int) : Int := if isLt c then c - 96 else c - 21
theorem nsg_rng {c : Int} (h : isLF c = true) : 1 ≤ nsg c ∧ nsg c ≤ 36 := by
  have := isLF_iff.mp h
  unfold nsg isLt
  split
  · rename_i q; simp at q; omega
  · rename_i q; simp at q; omega
theorem nsg_inj {c e : Int} (h : isLF c = true) (h2 : isLF e = true) (h3 : nsg c = nsg e) : c = e := by
  have := isLF_iff.mp h
  have := isLF_iff.mp h2
  unfold nsg at h3
  split at h3 <;> split at h3 <;> rename_i q q2 <;> (unfold isLt at q q2; simp at q q2; omega)
/-- the digits of a word -/
def dgw (w : List Int) (k : Nat) : Int := if k < w.length then nsg (w.getD k 0) else 0
/-- a word packed -/
def pk (w : List Int) : Int := dgF (dgw w) 12
theorem dgw_rng {w : List Int} (h : nmW w) (k : Nat) : 0 ≤ dgw w k ∧ dgw w k < 37 := by
  unfold dgw
  split
  · rename_i q; have := nsg_rng (h.2.2 k q); omega
  · omega
theorem pk_rng {w : List Int} (h : nmW w) : 0 ≤ pk w ∧ pk w < 9223372036854775808 := by
  refine ⟨dgF_nn 12 (fun k _ => (dgw_rng h k).1), ?_⟩
  have := dgF_lt 12 (fun k _ => dgw_rng h k)
  have e : (37 : Int) ^ 12 = 6582952005840035281 := by decide
  unfold pk; omega
theorem pk_inj {w v : List Int} (h : nmW w) (h2 : nmW v) : pk w = pk v ↔ w = v := by
  refine ⟨fun h3 => ?_, fun h => by rw [h]⟩
  have h4 := dgF_inj 12 (fun k _ => ⟨(dgw_rng h k).1, (dgw_rng h k).2, (dgw_rng h2 k).1, (dgw_rng h2 k).2⟩) h3
  have hl : ∀ k, k < 12 → (k < w.length ↔ k < v.length) := by
    intro k hk
    have := h4 k hk
    unfold dgw at this
    split at this <;> split at this <;> rename_i q q2
    · exact ⟨fun _ => q2, fun _ => q⟩
    · have := nsg_rng (h.2.2 k q); omega
    · have := nsg_rng (h2.2.2 k q2); omega
    · exact ⟨fun h => absurd h q, fun h => absurd h q2⟩
  have hlen : w.length = v.length := by
    have a1 := h.2.1; have a2 := h2.2.1; have a3 := h.1; have a4 := h2.1
    rcases Nat.lt_trichotomy w.length v.length with q | q | q
    · have := hl w.length (by omega); omega
    · exact q
    · have := hl v.length (by omega); omega
  refine list_ext hlen (fun k hk => ?_)
  have := h4 k (by have := h.2.1; omega)
  unfold dgw at this
  rw [if_pos hk, if_pos (by omega)] at this
  exact nsg_inj (h.2.2 k hk) (h2.2.2 k (by omega)) this
theorem c_isLetter {c : Int} {Γ : HS} (h : -1000 ≤ c ∧ c ≤ 1000) : F_X11_isLetter (J c) Γ = some (J (if isLt c then 1 else 0), Γ) := by
  unfold F_X11_isLetter isLt
  simp (disch := omega) only [J_lit, J_add, J_sub, J_mul, J_neg, J_lt, J_le, J_eq, J_natN, J_nat, Int.toNat_natCast, tnl, tnc, Bool.and_eq_true, decide_eq_true_eq]
  by_cases q : c < 97
  · rw [if_pos q, if_neg (by omega)]
  · rw [if_neg q]
    by_cases q2 : 122 < c
    · rw [if_pos q2, if_neg (by omega)]
    · rw [if_neg q2, if_pos (by omega)]
theorem c_isFigure {c : Int} {Γ : HS} (h : -1000 ≤ c ∧ c ≤ 1000) : F_X11_isFigure (J c) Γ = some (J (if isFg c then 1 else 0), Γ) := by
  unfold F_X11_isFigure isFg
  simp (disch := omega) only [J_lit, J_add, J_sub, J_mul, J_neg, J_lt, J_le, J_eq, J_natN, J_nat, Int.toNat_natCast, tnl, tnc, Bool.and_eq_true, decide_eq_true_eq]
  by_cases q : c < 48
  · rw [if_pos q, if_neg (by omega)]
  · rw [if_neg q]
    by_cases q2 : 57 < c
    · rw [if_pos q2, if_neg (by omega)]
    · rw [if_neg q2, if_pos (by omega)]
theorem c_nameSign {c : Int} {Γ : HS} (h : -1000 ≤ c ∧ c ≤ 1000) : F_X11_nameSign (J c) Γ = some (J (nsg c), Γ) := by
  unfold F_X11_nameSign nsg
  rw [c_isLetter h, Option.bind_some]
  by_cases q : isLt c = true
  · rw [if_pos q, if_pos q, if_neg J1_ne]
    simp (disch := omega) only [J_lit, J_add, J_sub, J_mul, J_neg, J_lt, J_le, J_eq, J_natN, J_nat, Int.toNat_natCast, tnl, tnc]; rw [show c - 97 + 1 = c - 96 by omega]
  · rw [if_neg q, if_neg q, if_pos J0_eq]
    simp (disch := omega) only [J_lit, J_add, J_sub, J_mul, J_neg, J_lt, J_le, J_eq, J_natN, J_nat, Int.toNat_natCast, tnl, tnc]; rw [show c - 48 + 27 = c - 21 by omega]
