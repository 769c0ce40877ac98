/-! the words as both have them -/
/-- a key's number in the reference, by its number in the class -/
def KRL : List Int := [25, 39, 10, 47, 44, 8, 51, 52, 53, 54, 55, 56, 5, 0, 28, 43, 2, 29, 26, 18, 14, 16, 13, 23, 31, 15, 24, 36, 30, 22, 34, 41, 46, 45, 4, 6, 27, 9, 40, 12, 50, 35, 19, 21, 42, 32, 37, 38, 17, 11, 48, 33, 7, 49, 20, 3, 1]
def kdOk (k : Int) : Prop := k = 0 ∨ k = 1 ∨ k = 2 ∨ k = 3 ∨ k = 4 ∨ (5 ≤ k ∧ k ≤ 8) ∨ (sgnOk k = true ∧ 37 ≤ k ∧ k ≤ 125) ∨ (200 ≤ k ∧ k ≤ 256)
def rkO (k : Int) : Int := if k = 0 then 0 else if k = 1 then 6 else if k = 2 then 2 else if k = 3 then 3 else if k = 4 then 4 else if 200 ≤ k then 1 else 5
def rvS (k : Int) : Int := if 200 ≤ k then KRL.getD (k - 200).toNat 0 else if k = 5 then 317 else if k = 6 then 289 else if k = 7 then 316 else if k = 8 then 318 else if k = 1 then 0 else k
def rvO (kd vl rv : Nat → Int) (i : Nat) : Int := if kd i = 2 then rv i else if kd i = 3 then vl i else if kd i = 4 then rv i else rvS (kd i)
theorem KRL_rng : ∀ c, c < 57 → 0 ≤ KRL.getD c 0 ∧ KRL.getD c 0 < 57 := by decide +kernel
theorem KRL_inj : ∀ c, c < 57 → ∀ e, e < 57 → KRL.getD c 0 = KRL.getD e 0 → c = e := by decide +kernel
theorem KRL_51 : ∀ c, c < 57 → (51 ≤ KRL.getD c 0 ↔ 6 ≤ c ∧ c ≤ 11) ∧ (51 ≤ KRL.getD c 0 → KRL.getD c 0 - 51 = (c : Int) - 6) := by decide +kernel
/-- the words, cut: T is the last one's number, N how many the class has -/
def TKE (T N : Nat) (kd vl rv : Nat → Int) (pl : Nat → Nat) : Prop := T ≤ 4096 ∧ (∀ i, i < T → kdOk (kd i) ∧ kd i ≠ 0 ∧ kd i ≠ 1) ∧ ((kd T = 0 ∧ N = T + 1) ∨ (kd T = 1 ∧ kd (T + 1) = 0 ∧ N = T + 2)) ∧ ∀ i, i ≤ T + 1 → pl i ≤ 4096 ∧ (kd i = 2 → 0 ≤ rv i ∧ rv i < 8000 ∧ 57 ≤ vl i ∧ vl i < 4500) ∧ (kd i = 3 → 0 ≤ vl i ∧ vl i ≤ 32767) ∧ (kd i = 4 → 0 ≤ rv i ∧ rv i ≤ 200 ∧ 0 ≤ vl i ∧ vl i ≤ 4096)
def TKr (T : Nat) (kd vl rv : Nat → Int) (pl : Nat → Nat) (σ : MS) : Prop := ∀ i, i ≤ T → σ.2 7 i = J (rkO (kd i)) ∧ σ.2 8 i = J (pl i) ∧ σ.2 9 i = J (rvO kd vl rv i)
def TKc (N : Nat) (kd vl : Nat → Int) (pl : Nat → Nat) (Γ : HS) : Prop := (Γ 1).1 2 = J N ∧ ∀ i, i < N → (Γ 1).2.1 3 i = J (kd i) ∧ (Γ 1).2.1 4 i = J (pl i) ∧ (Γ 1).2.1 5 i = J (vl i)
variable {T N : Nat} {kd vl rv : Nat → Int} {pl : Nat → Nat}
theorem TKE_ok (h : TKE T N kd vl rv pl) {i : Nat} (hi : i ≤ T) : kdOk (kd i) := by
  rcases Nat.lt_or_ge i T with q | q
  · exact (h.2.1 i q).1
  · rw [show i = T by omega]
    rcases h.2.2.1 with ⟨h1, _⟩ | ⟨h1, _⟩
    · exact Or.inl h1
    · exact Or.inr (Or.inl h1)
theorem TKE_lt (h : TKE T N kd vl rv pl) {i : Nat} (hi : i ≤ T) (h0 : kd i ≠ 0) (h1 : kd i ≠ 1) : i < T := by
  rcases Nat.lt_or_ge i T with q | q
  · exact q
  · exfalso
    rw [show i = T by omega] at h0 h1
    rcases h.2.2.1 with ⟨h2, _⟩ | ⟨h2, _⟩
    · exact h0 h2
    · exact h1 h2
theorem kdOk_rng {k : Int} (h : kdOk k) : 0 ≤ k ∧ k ≤ 256 := by unfold kdOk at h; omega
theorem rkO_rng (k : Int) : 0 ≤ rkO k ∧ rkO k ≤ 6 := by unfold rkO; repeat' split <;> omega
theorem rvO_rng (h : TKE T N kd vl rv pl) {i : Nat} (hi : i ≤ T) : 0 ≤ rvO kd vl rv i ∧ rvO kd vl rv i < 40000 := by
  have h1 := TKE_ok h hi
  obtain ⟨-, h2, h3, h4⟩ := h.2.2.2 i (by omega)
  unfold rvO
  split
  · have := h2 (by assumption); omega
  · split
    · have := h3 (by assumption); omega
    · split
      · have := h4 (by assumption); omega
      · unfold rvS
        split
        · have := KRL_rng (kd i - 200).toNat (by have := kdOk_rng h1; omega); omega
        · have := kdOk_rng h1
          repeat' split
          all_goals omega
theorem sgnOk_rng {c : Int} (h : sgnOk c = true) : 37 ≤ c ∧ c ≤ 125 := by
  unfold sgnOk at h
  simp at h; omega
/-- a sign of one byte stands there -/
theorem tk_sign (h : TKE T N kd vl rv pl) {i : Nat} (hi : i ≤ T) {c : Int} (hc : sgnOk c = true) : (rkO (kd i) = 5 ∧ rvO kd vl rv i = c) ↔ kd i = c := by
  have hr := sgnOk_rng hc
  have h1 := TKE_ok h hi
  unfold rkO rvO rvS
  constructor
  · rintro ⟨a, b⟩
    unfold kdOk at h1
    repeat' split at a
    all_goals try omega
    repeat' split at b
    all_goals omega
  · intro e
    rw [e]
    refine ⟨?_, ?_⟩
    · repeat' split
      all_goals omega
    · repeat' split
      all_goals omega
theorem tk_key (h : TKE T N kd vl rv pl) {i : Nat} (hi : i ≤ T) {k : Int} {c : Nat} (hc : c < 57) (hk : KRL.getD c 0 = k) : (rkO (kd i) = 1 ∧ rvO kd vl rv i = k) ↔ kd i = 200 + c := by
  have h1 := TKE_ok h hi
  constructor
  · rintro ⟨a, b⟩
    have h2 : 200 ≤ kd i := by
      unfold rkO at a
      repeat' split at a
      all_goals omega
    have h3 := kdOk_rng h1
    unfold rvO rvS at b
    rw [if_neg (by omega), if_neg (by omega), if_neg (by omega), if_pos h2] at b
    have := KRL_inj (kd i - 200).toNat (by omega) c hc (by rw [b, hk])
    omega
  · intro e
    unfold rkO rvO rvS
    rw [e]
    refine ⟨?_, ?_⟩
    · repeat' split
      all_goals omega
    · rw [if_neg (by omega), if_neg (by omega), if_neg (by omega), if_pos (by omega), show (200 + (c : Int) - 200).toNat = c by omega, hk]
theorem tk_kind (h : TKE T N kd vl rv pl) {i : Nat} (hi : i ≤ T) {k : Int} (hk : k = 2 ∨ k = 3 ∨ k = 4) : rkO (kd i) = k ↔ kd i = k := by
  have h1 := TKE_ok h hi
  unfold kdOk at h1
  unfold rkO
  constructor
  · intro a
    repeat' split at a
    all_goals omega
  · intro e; rw [e]
    repeat' split
    all_goals omega
theorem tk_bad (h : TKE T N kd vl rv pl) {i : Nat} (hi : i ≤ T) : rkO (kd i) = 6 ↔ kd i = 1 := by
  unfold rkO
  constructor
  · intro a
    repeat' split at a
    all_goals omega
  · intro e; rw [e]; rfl
theorem tk_end (h : TKE T N kd vl rv pl) {i : Nat} (hi : i ≤ T) : rkO (kd i) = 0 ↔ kd i = 0 := by
  unfold rkO
  constructor
  · intro a
    repeat' split at a
    all_goals omega
  · intro e; rw [e]; rfl
/-- the reference reads on, all fits so far: at word a, so many stand open, so many nodes -/
def RN (T : Nat) (kd vl rv : Nat → Int) (pl : Nat → Nat) (σ : MS) (a dp nn : Nat) : Prop := TKr T kd vl rv pl σ ∧ σ.1 25 = J a ∧ σ.1 26 = J dp ∧ σ.1 27 = J 0 ∧ σ.1 14 = J 0 ∧ σ.1 23 = J nn ∧ a ≤ T ∧ dp ≤ 31
/-- the reference has met a fault -/
def RX (T : Nat) (kd vl rv : Nat → Int) (pl : Nat → Nat) (σ : MS) (f : Int) (p nn : Nat) : Prop := TKr T kd vl rv pl σ ∧ σ.1 27 = J 1 ∧ σ.1 14 = J f ∧ σ.1 15 = J p ∧ σ.1 23 = J nn ∧ ∃ a : Nat, a ≤ T + 1 ∧ σ.1 25 = J a
/-- a fault is met -/
def stp (σ : MS) (f : Int) (p : Nat) : MS := mI (mI (mI σ 27 1) 14 (J f)) 15 (J p)
/-- a word is passed -/
def psd (σ : MS) (a : Nat) : MS := mI σ 25 (J (a + 1 : Nat))
theorem RN_psd {σ : MS} {a dp nn : Nat} (h : RN T kd vl rv pl σ a dp nn) (ha : a < T) : RN T kd vl rv pl (psd σ a) (a + 1) dp nn := ⟨h.1, rfl, h.2.2.1, h.2.2.2.1, h.2.2.2.2.1, h.2.2.2.2.2.1, ha, h.2.2.2.2.2.2.2⟩
theorem RX_stp {σ : MS} {a dp nn : Nat} {f : Int} {p : Nat} (h : RN T kd vl rv pl σ a dp nn) : RX T kd vl rv pl (stp σ f p) f p nn := ⟨h.1, rfl, rfl, rfl, h.2.2.2.2.2.1, a, by have := h.2.2.2.2.2.2.1; omega, h.2.1⟩
variable {σ : MS} {a dp nn : Nat}
theorem r_isSign (hT : TKE T N kd vl rv pl) (h : RN T kd vl rv pl σ a dp nn) {c : Int} (hc : sgnOk c = true) : F_X12_isSign (J c) σ = some (J (if kd a = c then 1 else 0), σ) := by
  obtain ⟨htk, h25, h26, h27, -, -, ha, -⟩ := h
  obtain ⟨k1, k2, k3⟩ := htk a ha
  have hTL := hT.1
  have hr := sgnOk_rng hc
  have hv := rvO_rng hT ha
  have hk := rkO_rng (kd a)
  have hs := tk_sign hT ha hc
  unfold F_X12_isSign
  simp (disch := omega) only [bnd, h25, h27, J_lit, J_add, J_sub, J_mul, J_neg, J_lt, J_le, J_eq, J_natN, J_nat, Int.toNat_natCast, tnl, tnc, k1, k3, if_neg]
  by_cases q : kd a = c
  · obtain ⟨e1, e2⟩ := hs.mpr q
    rw [if_pos q, if_pos e1, if_pos e2]; rfl
  · rw [if_neg q]
    by_cases q2 : rkO (kd a) = 5
    · rw [if_pos q2, if_neg (fun e => q (hs.mp ⟨q2, e⟩))]; rfl
    · rw [if_neg q2]; rfl
