/-! the story behind the third going, item by item -/
variable {T N : Nat} {kd vl rv : Nat → Int} {pl : Nat → Nat}
theorem cN_le {is : Nat → Nat} {q a : Nat} : ∀ d, cN kd is q a ≤ cN kd is q (a + d) := by
  intro d
  induction d with
  | zero => exact Nat.le_refl _
  | succ d ih => rw [show a + (d + 1) = a + d + 1 by omega, cN_s]; split <;> omega
theorem cN_ltq {is : Nat → Nat} {z z' : Nat} (h : z < z') : cN kd is (qOf (kd (is z))) z < cN kd is (qOf (kd (is z))) z' := by
  have a : cN kd is (qOf (kd (is z))) (z + 1) = cN kd is (qOf (kd (is z))) z + 1 := by rw [cN_s, if_pos rfl]
  have b := cN_le (kd := kd) (is := is) (q := qOf (kd (is z))) (a := z + 1) (z' - (z + 1))
  rw [show z + 1 + (z' - (z + 1)) = z' by omega] at b
  omega
/-- items of one sort have different numbers -/
theorem inum_inj {is : Nat → Nat} {z z' : Nat} (hq : qOf (kd (is z)) = qOf (kd (is z'))) (hs : kd (is z) ≤ 232 ↔ kd (is z') ≤ 232) (h : inum kd is z = inum kd is z') : z = z' := by
  unfold inum at h
  rcases Nat.lt_trichotomy z z' with q | q | q
  · have := cN_ltq (kd := kd) (is := is) q
    rw [← hq] at h
    by_cases e : kd (is z) ≤ 232
    · rw [if_pos e, if_pos (hs.mp e)] at h; omega
    · rw [if_neg e, if_neg (fun x => e (hs.mpr x))] at h; omega
  · exact q
  · have := cN_ltq (kd := kd) (is := is) q
    rw [hq] at h
    by_cases e : kd (is z) ≤ 232
    · rw [if_pos e, if_pos (hs.mp e)] at h; omega
    · rw [if_neg e, if_neg (fun x => e (hs.mpr x))] at h; omega
theorem qOf_obj {k : Int} (h : k ≤ 231) : qOf k = 0 := by unfold qOf; rw [if_pos h]
theorem SLT_dj {Θ : HS} {c : Nat} {is : Nat → Nat} (hN : INM kd vl Θ c is) {z z' k x : Nat} (hz : z < c) (hz' : z' < c) (h : SLT kd is z k x) (h' : SLT kd is z' k x) : z = z' := by
  have i1 := fun e => (hN z hz e).2.2
  have i2 := fun e => (hN z' hz' e).2.2
  rcases h with ⟨a1, a2, a⟩ | ⟨a1, a⟩ | ⟨a1, a2, a3⟩ | ⟨a1, a2, a3, a4⟩
  · obtain ⟨r1, -⟩ := i1 (by omega)
    have r1 := r1 a2
    rcases h' with ⟨b1, b2, b⟩ | ⟨b1, b⟩ | ⟨b1, b2, b3⟩ | ⟨b1, b2, b3, b4⟩
    · obtain ⟨s1, -⟩ := i2 (by omega)
      have s1 := s1 b2
      clear i1 i2
      exact inum_inj (kd := kd) (is := is) (by rw [qOf_obj a2, qOf_obj b2]) (by omega) (by omega)
    · obtain ⟨-, s1, -⟩ := i2 (by omega)
      have s1 := s1 b1
      clear i1 i2
      omega
    · omega
    · omega
  · obtain ⟨-, r1, -⟩ := i1 (by omega)
    have r1 := r1 a1
    rcases h' with ⟨b1, b2, b⟩ | ⟨b1, b⟩ | ⟨b1, b2, b3⟩ | ⟨b1, b2, b3, b4⟩
    · obtain ⟨s1, -⟩ := i2 (by omega)
      have s1 := s1 b2
      clear i1 i2
      omega
    · obtain ⟨-, s1, -⟩ := i2 (by omega)
      have s1 := s1 b1
      clear i1 i2
      exact inum_inj (kd := kd) (is := is) (by rw [a1, b1]) (by omega) (by omega)
    · omega
    · omega
  · rcases h' with ⟨b1, b2, b⟩ | ⟨b1, b⟩ | ⟨b1, b2, b3⟩ | ⟨b1, b2, b3, b4⟩
    · omega
    · omega
    · exact inum_inj (kd := kd) (is := is) (by rw [a1, b1]) (by omega) (by omega)
    · omega
  · rcases h' with ⟨b1, b2, b⟩ | ⟨b1, b⟩ | ⟨b1, b2, b3⟩ | ⟨b1, b2, b3, b4⟩
    · omega
    · omega
    · omega
    · have e : qOf (kd (is z)) = 5 := by rw [a1]; rfl
      have e' : qOf (kd (is z')) = 5 := by rw [b1]; rfl
      rcases Nat.lt_trichotomy z z' with q | q | q
      · have := cN_ltq (kd := kd) (is := is) q
        rw [e] at this; omega
      · exact q
      · have := cN_ltq (kd := kd) (is := is) q
        rw [e'] at this; omega
/-- the row of the class's states in the third going, at the items -/
def CROW (T : Nat) (G : Nat → HS) (Θ : HS) (kd vl : Nat → Int) (cl : List Int) (is : Nat → Nat) (c : Nat) (K : Nat → HS) : Prop := (∀ z, z < c → CIT T G Θ kd vl cl is z (K z) (K (z + 1))) ∧ TEN (K 0) ∧ (K 0 3).1 15 = J 0
theorem row_run {G : Nat → HS} {Θ : HS} {cl : List Int} {σs : MS} {Γs : HS} {c : Nat} {ls is ps ds os es : Nat → Nat} (hI : ITS kd vl rv pl σs Γs c ls is ps ds os es) (hN : INM kd vl Θ c is) (hon : ∀ z, z < c → kd (is z) = 236 → cN kd is 5 z < 200) {K : Nat → HS} (hK : CROW T G Θ kd vl cl is c K) : ∀ z, z ≤ c → TEN (K z) ∧ (K z 3).1 15 = J (cN kd is 5 z : Nat) := by
  intro z
  induction z with
  | zero => intro _; exact ⟨hK.2.1, by rw [hK.2.2]; rfl⟩
  | succ z ih =>
    intro hz
    obtain ⟨a, b⟩ := ih (by omega)
    obtain ⟨a', b', -⟩ := CIT_slot (by omega) (hI z (by omega)).1 hN (hon z (by omega)) (hK.1 z (by omega)) a b
    exact ⟨a', b'⟩
/-- what an item gave stands at the end, what it found was there at first -/
theorem row_slot {G : Nat → HS} {Θ : HS} {cl : List Int} {σs : MS} {Γs : HS} {c : Nat} {ls is ps ds os es : Nat → Nat} (hI : ITS kd vl rv pl σs Γs c ls is ps ds os es) (hN : INM kd vl Θ c is) (hon : ∀ z, z < c → kd (is z) = 236 → cN kd is 5 z < 200) {K : Nat → HS} (hK : CROW T G Θ kd vl cl is c K) {k x a : Nat} : ∀ d, a + d ≤ c → (∀ z, a ≤ z → z < a + d → ¬ SLT kd is z k x) → (K (a + d) 4).2.1 k x = (K a 4).2.1 k x := by
  have hr := row_run hI hN hon hK
  intro d
  induction d with
  | zero => intro _ _; rfl
  | succ d ih =>
    intro hd hn
    obtain ⟨r1, r2⟩ := hr (a + d) (by omega)
    obtain ⟨-, -, e⟩ := CIT_slot (show a + d < c by omega) (hI (a + d) (by omega)).1 hN (hon _ (by omega)) (hK.1 (a + d) (by omega)) r1 r2
    rw [show a + (d + 1) = a + d + 1 by omega, e k x (hn (a + d) (by omega) (by omega))]
    exact ih (by omega) (fun z z1 z2 => hn z z1 (by omega))
theorem row_own {G : Nat → HS} {Θ : HS} {cl : List Int} {σs : MS} {Γs : HS} {c : Nat} {ls is ps ds os es : Nat → Nat} (hI : ITS kd vl rv pl σs Γs c ls is ps ds os es) (hN : INM kd vl Θ c is) (hon : ∀ z, z < c → kd (is z) = 236 → cN kd is 5 z < 200) {K : Nat → HS} (hK : CROW T G Θ kd vl cl is c K) {z k x : Nat} (hz : z < c) (h : SLT kd is z k x) : (K c 4).2.1 k x = (K (z + 1) 4).2.1 k x ∧ (K z 4).2.1 k x = (K 0 4).2.1 k x := by
  constructor
  · have := row_slot hI hN hon hK (k := k) (x := x) (a := z + 1) (c - (z + 1)) (by omega) (fun z' z1 z2 hh => by
      have := SLT_dj hN hz (show z' < c by omega) h hh; omega)
    rw [show z + 1 + (c - (z + 1)) = c by omega] at this
    exact this
  · have := row_slot hI hN hon hK (k := k) (x := x) (a := 0) z (by omega) (fun z' z1 z2 hh => by
      have := SLT_dj hN hz (show z' < c by omega) h hh; omega)
    rw [Nat.zero_add] at this
    exact this
/-- each object but the player is told by an item -/
theorem obj_at {is : Nat → Nat} {c : Nat} : ∀ m, m ≤ c → (∀ z, z < c → 230 ≤ kd (is z) ∧ kd (is z) ≤ 237) → ∀ k, 2 ≤ k → k ≤ cN kd is 0 m → ∃ z, z < m ∧ kd (is z) ≤ 231 ∧ inum kd is z = k := by
  intro m
  induction m with
  | zero => intro _ _ k k1 k2; exact absurd k2 (by show ¬ k ≤ 1; omega)
  | succ m ih =>
    intro hm hk k k1 k2
    rcases Nat.lt_or_ge (cN kd is 0 m) k with q | q
    · rw [cN_s] at k2
      by_cases e : 0 = qOf (kd (is m))
      · rw [if_pos e] at k2
        have e2 : kd (is m) ≤ 231 := by
          have := hk m (by omega)
          unfold qOf at e
          by_cases e3 : kd (is m) ≤ 231
          · exact e3
          · rw [if_neg e3] at e
            exfalso
            revert e
            repeat' split
            all_goals omega
        refine ⟨m, by omega, e2, ?_⟩
        unfold inum
        rw [if_pos (by omega), ← e]; omega
      · rw [if_neg e] at k2; omega
    · obtain ⟨z, z1, z2⟩ := ih (by omega) hk k k1 q
      exact ⟨z, by omega, z2⟩
theorem inum_le {is : Nat → Nat} {z c : Nat} (hz : z < c) (hk : kd (is z) ≤ 231) : 2 ≤ inum kd is z ∧ inum kd is z ≤ cN kd is 0 c := by
  have a : cN kd is 0 (z + 1) = cN kd is 0 z + 1 := by rw [cN_s, if_pos (by rw [qOf_obj hk])]
  have b := cN_le (kd := kd) (is := is) (q := 0) (a := z + 1) (c - (z + 1))
  have d := cN_le (kd := kd) (is := is) (q := 0) (a := 0) z
  rw [show z + 1 + (c - (z + 1)) = c by omega] at b
  rw [Nat.zero_add] at d
  have e : cN kd is 0 0 = 1 := rfl
  unfold inum
  rw [if_pos (by omega), qOf_obj hk]
  omega
/-! a way up that comes to nothing -/
def itn (s : Nat → Nat) : Nat → Nat → Nat
  | 0, k => k
  | m + 1, k => s (itn s m k)
theorem itn_add {s : Nat → Nat} {a k : Nat} : ∀ b, itn s (b + a) k = itn s b (itn s a k) := by
  intro b
  induction b with
  | zero => rw [Nat.zero_add]; rfl
  | succ b ih => rw [show b + 1 + a = b + a + 1 by omega]; show s _ = s _; rw [ih]
theorem itn_0 {s : Nat → Nat} (h0 : s 0 = 0) : ∀ m, itn s m 0 = 0 := by
  intro m
  induction m with
  | zero => rfl
  | succ m ih => show s (itn s m 0) = 0; rw [ih, h0]
theorem itn_le {s : Nat → Nat} {n : Nat} (hs : ∀ k, k ≤ n → s k ≤ n) {k : Nat} (hk : k ≤ n) : ∀ m, itn s m k ≤ n := by
  intro m
  induction m with
  | zero => exact hk
  | succ m ih => exact hs _ ih
theorem itn_keep {s : Nat → Nat} (h0 : s 0 = 0) {m k : Nat} (h : itn s m k = 0) {m' : Nat} (hm : m ≤ m') : itn s m' k = 0 := by
  rw [show m' = (m' - m) + m by omega, itn_add, h, itn_0 h0]
theorem itn_end {s : Nat → Nat} {n : Nat} (h0 : s 0 = 0) (hs : ∀ k, k ≤ n → s k ≤ n) {k : Nat} (hk : k ≤ n) : ∀ m, itn s m k = 0 → itn s n k = 0 := by
  intro m
  induction m using Nat.strongRecOn with
  | _ m ih =>
    intro h
    by_cases q : ∃ m', m' < m ∧ itn s m' k = 0
    · obtain ⟨m', a, b⟩ := q
      exact ih m' a b
    · have hne : ∀ m', m' < m → itn s m' k ≠ 0 := fun m' a b => q ⟨m', a, b⟩
      have hinj : ∀ i j, i < m → j < m → i < j → itn s i k ≠ itn s j k := by
        intro i j hi hj hij e
        have a : itn s ((m - j) + i) k = itn s ((m - j) + j) k := by rw [itn_add, itn_add, e]
        rw [show m - j + j = m by omega, h] at a
        exact hne _ (by omega) a
      have := pigeon n m (fun i => itn s i k - 1) (fun i hi => by
        have a := itn_le hs hk i
        have b := hne i hi
        omega) (fun i j hi hj e => by
        have a := hne i hi
        have b := hne j hj
        have e' : itn s i k = itn s j k := by
          have e : itn s i k - 1 = itn s j k - 1 := e
          omega
        rcases Nat.lt_trichotomy i j with q | q | q
        · exact absurd e' (hinj i j hi hj q)
        · exact q
        · exact absurd e'.symm (hinj j i hj hi q))
      exact itn_keep h0 h this
theorem itn_iff {s : Nat → Nat} {n : Nat} (h0 : s 0 = 0) (hs : ∀ k, k ≤ n → s k ≤ n) {k : Nat} (hk : k ≤ n) {m m' : Nat} (h1 : n ≤ m) (h2 : n ≤ m') : itn s m k = 0 ↔ itn s m' k = 0 := ⟨fun h => itn_keep h0 (itn_end h0 hs hk m h) h2, fun h => itn_keep h0 (itn_end h0 hs hk m' h) h1⟩
