/-! the reference's words, all of them -/
theorem ixF_spec {l : List Int32} {c : Int32} : ∀ (n k : Nat), (∃ j, j < n ∧ l.getD (k + j) 0 = c ∧ tx_ixF l c n k = nI (k + j)) ∨ ((∀ j, j < n → l.getD (k + j) 0 ≠ c) ∧ tx_ixF l c n k = -1) := by
  intro n
  induction n with
  | zero => intro k; exact Or.inr ⟨fun j hj => by omega, rfl⟩
  | succ n ih =>
    intro k
    by_cases q : l.getD k 0 = c
    · exact Or.inl ⟨0, by omega, q, by rw [tx_ixF, if_pos q]; rfl⟩
    · rcases ih (k + 1) with ⟨j, h1, h2, h3⟩ | ⟨h1, h2⟩
      · exact Or.inl ⟨j + 1, by omega, by rw [show k + (j + 1) = k + 1 + j by omega]; exact h2, by rw [tx_ixF, if_neg q, h3]; rw [show k + (j + 1) = k + 1 + j by omega]⟩
      · refine Or.inr ⟨fun j hj => ?_, by rw [tx_ixF, if_neg q, h2]⟩
        cases j with
        | zero => exact q
        | succ j => rw [show k + (j + 1) = k + 1 + j by omega]; exact h1 j (by omega)
def SGN : List Int32 := [123, 125, 40, 41, 91, 93, 59, 44, 61, 60, 62, 43, 45, 42, 47, 37]
theorem sgn_tab : ∀ n : Nat, n < 128 → (0 ≤ tx_ixOf SGN (J n) ↔ sgnOk n = true) := by decide +kernel
theorem sgn_ix {c : Int} (h : 0 ≤ c) (h2 : c < 128) : (0 ≤ tx_ixOf SGN (J c)) ↔ sgnOk c = true := by
  have := sgn_tab c.toNat (by omega)
  rwa [show ((c.toNat : Nat) : Int) = c by omega] at this
theorem r_sign {b : Nat → Int} {L t i : Nat} {σ : MS} (hs : rsrc b L σ) (ht : σ.1 10 = J t) (htn : t < 16010) (hi : i < L) : Ok (F_X12_sign (J i) σ) fun u => ((dbl (b i) = true ∧ byt b L (i + 1) = 61) → u = (J (i + 2 : Nat), tokS σ t 5 i (256 + b i))) ∧ (¬ (dbl (b i) = true ∧ byt b L (i + 1) = 61) → sgnOk (b i) = true → u = (J (i + 1 : Nat), tokS σ t 5 i (b i))) ∧ (¬ (dbl (b i) = true ∧ byt b L (i + 1) = 61) → ¬ sgnOk (b i) = true → u = (J (-1), σ)) := by
  obtain ⟨hL, h6, h5, hb⟩ := hs
  have hbi := hb i hi
  unfold F_X12_sign
  simp only [bnd]
  refine Ok_neg (by simp (disch := omega) only [J_lit, J_add, J_sub, J_mul, J_neg, J_lt, J_le, J_eq, J_natN, J_nat, Int.toNat_natCast, tnl, tnc] <;> omega) ?_
  rw [J_natN (by omega), h5 i hi, show ([123, 125, 40, 41, 91, 93, 59, 44, 61, 60, 62, 43, 45, 42, 47, 37] : List Int32) = SGN from rfl]
  have hone : ∀ Q : Int32 × MS → Prop, ((sgnOk (b i) = true → Q (J (i + 1 : Nat), tokS σ t 5 i (b i))) ∧ (¬ sgnOk (b i) = true → Q (J (-1), σ))) → Ok (if 0 ≤ tx_ixOf SGN (J (b i)) then (F_X12_token 5 (J i) (J (b i)) σ).bind fun u_19 => some (J i + 1, u_19.2) else some (-1, σ)) Q := by
    intro Q ⟨h1, h2⟩
    by_cases q : sgnOk (b i) = true
    · refine Ok_pos ((sgn_ix (by omega) (by omega)).mpr q) ?_
      rw [show (5 : Int32) = J 5 from rfl, rtok _ _ _ ht htn]
      refine Ok_some ?_
      rw [show J (i : Nat) + 1 = J (i + 1 : Nat) by rw [J_lit, J_add]; rfl]
      exact h1 q
    · exact Ok_neg (fun h => q ((sgn_ix (by omega) (by omega)).mp h)) (Ok_some (h2 q))
  have htwo : ∀ Q : Int32 × MS → Prop, Q (J (i + 2 : Nat), tokS σ t 5 i (256 + b i)) → Ok ((F_X12_token 5 (J i) (256 + J (b i)) σ).bind fun u_28 => some (J i + 2, u_28.2)) Q := by
    intro Q h1
    rw [show (5 : Int32) = J 5 from rfl, show (256 : Int32) + J (b i) = J (256 + b i) by rw [J_lit, J_add], rtok _ _ _ ht htn]
    refine Ok_some ?_
    rw [show J (i : Nat) + 2 = J (i + 2 : Nat) by rw [J_lit, J_add]; rfl]
    exact h1
  have hmid : ∀ (x : Int) , x = byt b L (i + 1) → Ok (
      if J (b i) = 61 then if J x = 61 then (F_X12_token 5 (J i) (256 + J (b i)) σ).bind fun u_28 => some (J i + 2, u_28.2) else if 0 ≤ tx_ixOf SGN (J (b i)) then (F_X12_token 5 (J i) (J (b i)) σ).bind fun u_19 => some (J i + 1, u_19.2) else some (-1, σ)
      else if J (b i) = 33 then if J x = 61 then (F_X12_token 5 (J i) (256 + J (b i)) σ).bind fun u_28 => some (J i + 2, u_28.2) else if 0 ≤ tx_ixOf SGN (J (b i)) then (F_X12_token 5 (J i) (J (b i)) σ).bind fun u_19 => some (J i + 1, u_19.2) else some (-1, σ)
      else if J (b i) = 60 then if J x = 61 then (F_X12_token 5 (J i) (256 + J (b i)) σ).bind fun u_28 => some (J i + 2, u_28.2) else if 0 ≤ tx_ixOf SGN (J (b i)) then (F_X12_token 5 (J i) (J (b i)) σ).bind fun u_19 => some (J i + 1, u_19.2) else some (-1, σ)
      else if J (b i) = 62 then if J x = 61 then (F_X12_token 5 (J i) (256 + J (b i)) σ).bind fun u_28 => some (J i + 2, u_28.2) else if 0 ≤ tx_ixOf SGN (J (b i)) then (F_X12_token 5 (J i) (J (b i)) σ).bind fun u_19 => some (J i + 1, u_19.2) else some (-1, σ)
      else if 0 ≤ tx_ixOf SGN (J (b i)) then (F_X12_token 5 (J i) (J (b i)) σ).bind fun u_19 => some (J i + 1, u_19.2) else some (-1, σ)) fun u => ((dbl (b i) = true ∧ byt b L (i + 1) = 61) → u = (J (i + 2 : Nat), tokS σ t 5 i (256 + b i))) ∧ (¬ (dbl (b i) = true ∧ byt b L (i + 1) = 61) → sgnOk (b i) = true → u = (J (i + 1 : Nat), tokS σ t 5 i (b i))) ∧ (¬ (dbl (b i) = true ∧ byt b L (i + 1) = 61) → ¬ sgnOk (b i) = true → u = (J (-1), σ)) := by
    intro x hx
    have hxb : 0 ≤ x ∧ x ≤ 126 := by
      rw [hx]; unfold byt; split
      · rename_i h; have := hb _ h; omega
      · omega
    have hd : dbl (b i) = true ↔ (b i = 61 ∨ b i = 33 ∨ b i = 60 ∨ b i = 62) := by
      unfold dbl; simp [or_assoc]
    have hno : ¬ (dbl (b i) = true ∧ byt b L (i + 1) = 61) → Ok (if 0 ≤ tx_ixOf SGN (J (b i)) then (F_X12_token 5 (J i) (J (b i)) σ).bind fun u_19 => some (J i + 1, u_19.2) else some (-1, σ)) fun u => ((dbl (b i) = true ∧ byt b L (i + 1) = 61) → u = (J (i + 2 : Nat), tokS σ t 5 i (256 + b i))) ∧ (¬ (dbl (b i) = true ∧ byt b L (i + 1) = 61) → sgnOk (b i) = true → u = (J (i + 1 : Nat), tokS σ t 5 i (b i))) ∧ (¬ (dbl (b i) = true ∧ byt b L (i + 1) = 61) → ¬ sgnOk (b i) = true → u = (J (-1), σ)) := by
      intro hn
      exact hone _ ⟨fun q => ⟨fun h => absurd h hn, fun _ _ => rfl, fun _ h => absurd q h⟩, fun q => ⟨fun h => absurd h hn, fun _ h => absurd h q, fun _ _ => rfl⟩⟩
    have hyes : (dbl (b i) = true) → Ok (if J x = 61 then (F_X12_token 5 (J i) (256 + J (b i)) σ).bind fun u_28 => some (J i + 2, u_28.2) else if 0 ≤ tx_ixOf SGN (J (b i)) then (F_X12_token 5 (J i) (J (b i)) σ).bind fun u_19 => some (J i + 1, u_19.2) else some (-1, σ)) fun u => ((dbl (b i) = true ∧ byt b L (i + 1) = 61) → u = (J (i + 2 : Nat), tokS σ t 5 i (256 + b i))) ∧ (¬ (dbl (b i) = true ∧ byt b L (i + 1) = 61) → sgnOk (b i) = true → u = (J (i + 1 : Nat), tokS σ t 5 i (b i))) ∧ (¬ (dbl (b i) = true ∧ byt b L (i + 1) = 61) → ¬ sgnOk (b i) = true → u = (J (-1), σ)) := by
      intro hy
      refine Ok_ite (fun q => ?_) (fun q => ?_)
      · have q' : x = 61 := by simp (disch := omega) only [J_lit, J_add, J_sub, J_mul, J_neg, J_lt, J_le, J_eq, J_natN, J_nat, Int.toNat_natCast, tnl, tnc] at q; exact q
        exact htwo _ ⟨fun _ => rfl, fun h => absurd ⟨hy, by rw [← hx]; exact q'⟩ h, fun h => absurd ⟨hy, by rw [← hx]; exact q'⟩ h⟩
      · have q' : ¬ x = 61 := by simp (disch := omega) only [J_lit, J_add, J_sub, J_mul, J_neg, J_lt, J_le, J_eq, J_natN, J_nat, Int.toNat_natCast, tnl, tnc] at q; exact q
        exact hno (fun h => q' (by rw [hx]; exact h.2))
    refine Ok_ite (fun q => ?_) (fun q => ?_)
    · simp (disch := omega) only [J_lit, J_add, J_sub, J_mul, J_neg, J_lt, J_le, J_eq, J_natN, J_nat, Int.toNat_natCast, tnl, tnc] at q; exact hyes (hd.mpr (by omega))
    simp (disch := omega) only [J_lit, J_add, J_sub, J_mul, J_neg, J_lt, J_le, J_eq, J_natN, J_nat, Int.toNat_natCast, tnl, tnc] at q
    refine Ok_ite (fun q => ?_) (fun q => ?_)
    · simp (disch := omega) only [J_lit, J_add, J_sub, J_mul, J_neg, J_lt, J_le, J_eq, J_natN, J_nat, Int.toNat_natCast, tnl, tnc] at q; exact hyes (hd.mpr (by omega))
    simp (disch := omega) only [J_lit, J_add, J_sub, J_mul, J_neg, J_lt, J_le, J_eq, J_natN, J_nat, Int.toNat_natCast, tnl, tnc] at q
    refine Ok_ite (fun q => ?_) (fun q => ?_)
    · simp (disch := omega) only [J_lit, J_add, J_sub, J_mul, J_neg, J_lt, J_le, J_eq, J_natN, J_nat, Int.toNat_natCast, tnl, tnc] at q; exact hyes (hd.mpr (by omega))
    simp (disch := omega) only [J_lit, J_add, J_sub, J_mul, J_neg, J_lt, J_le, J_eq, J_natN, J_nat, Int.toNat_natCast, tnl, tnc] at q
    refine Ok_ite (fun q => ?_) (fun q => ?_)
    · simp (disch := omega) only [J_lit, J_add, J_sub, J_mul, J_neg, J_lt, J_le, J_eq, J_natN, J_nat, Int.toNat_natCast, tnl, tnc] at q; exact hyes (hd.mpr (by omega))
    simp (disch := omega) only [J_lit, J_add, J_sub, J_mul, J_neg, J_lt, J_le, J_eq, J_natN, J_nat, Int.toNat_natCast, tnl, tnc] at q
    exact hno (fun h => by have := hd.mp h.1; omega)
  by_cases q : i + 1 < L
  · refine Ok_neg (by rw [h6]; simp (disch := omega) only [J_lit, J_add, J_sub, J_mul, J_neg, J_lt, J_le, J_eq, J_natN, J_nat, Int.toNat_natCast, tnl, tnc] <;> omega) ?_
    refine Ok_neg (by simp (disch := omega) only [J_lit, J_add, J_sub, J_mul, J_neg, J_lt, J_le, J_eq, J_natN, J_nat, Int.toNat_natCast, tnl, tnc] <;> omega) ?_
    have z : (J (i : Nat) + 1).toNatClampNeg = i + 1 := by simp (disch := omega) only [J_lit, J_add, J_sub, J_mul, J_neg, J_lt, J_le, J_eq, J_natN, J_nat, Int.toNat_natCast, tnl, tnc]
    rw [z, h5 _ q]
    exact hmid _ (by unfold byt; rw [if_pos q])
  · refine Ok_pos (by rw [h6]; simp (disch := omega) only [J_lit, J_add, J_sub, J_mul, J_neg, J_lt, J_le, J_eq, J_natN, J_nat, Int.toNat_natCast, tnl, tnc] <;> omega) ?_
    exact hmid 0 (by unfold byt; rw [if_neg q])
/-- the word that begins there, as its bytes -/
def wd (b : Nat → Int) (L p : Nat) : List Int := wl b p (wEnd b L p - p)
/-- the row of a word that can be -/
def rTk (b : Nat → Int) (L m : Nat) (nm : Nat → List Int) (K V : Int32) (p : Nat) : Prop :=
  if isLt (b p) then (if 0 ≤ kix (wd b L p) then K = J 1 ∧ V = J (kix (wd b L p)) else K = J 2 ∧ ∃ r : Nat, r < m ∧ V = J r ∧ nm r = wd b L p)
  else if isFg (b p) then K = J 3 ∧ V = J (valN b p (wEnd b L p - p))
  else if b p = 34 then K = J 4 ∧ V = J ((wEnd b L p - p - 2 : Nat) : Int)
  else K = J 5 ∧ V = J (if dbl (b p) = true ∧ byt b L (p + 1) = 61 then 256 + b p else b p)
theorem rTk_mono {b : Nat → Int} {L m m' : Nat} {nm nm' : Nat → List Int} {K V : Int32} {p : Nat} (h : rTk b L m nm K V p) (hm : m ≤ m') (hn : ∀ r, r < m → nm' r = nm r) : rTk b L m' nm' K V p := by
  unfold rTk at h ⊢
  split at h
  · rename_i q; rw [if_pos q]
    split at h
    · rename_i q2; rw [if_pos q2]; exact h
    · rename_i q2; rw [if_neg q2]
      obtain ⟨h1, r, h2, h3, h4⟩ := h
      exact ⟨h1, r, by omega, h3, by rw [hn r h2]; exact h4⟩
  · rename_i q; rw [if_neg q]; exact h
def lexF (m : Nat) (k : Nat) : Prop := k ≠ 10 ∧ k ≠ m
/-- what the lexing leaves alone -/
def rlxF (σ σ' : MS) : Prop := (∀ k, k ≠ 10 → k ≠ 13 → σ'.1 k = σ.1 k) ∧ (∀ k, k ≠ 7 → k ≠ 8 → k ≠ 9 → k ≠ 11 → k ≠ 12 → σ'.2 k = σ.2 k)
theorem rlxF_tok {σ σ' : MS} {t : Nat} {k a v : Int} (h : rlxF σ σ') : rlxF σ (tokS σ' t k a v) := by
  refine ⟨fun j h1 h2 => ?_, fun j h1 h2 h3 h4 h5 => ?_⟩
  · rw [← h.1 j h1 h2]; simp only [tokS, mA_1, mI_1, if_neg h1]
  · rw [← h.2 j h1 h2 h3 h4 h5]; simp only [tokS, mA_2, mI_2, if_neg h1, if_neg h2, if_neg h3]
/-- t words are cut -/
def rLx (b : Nat → Int) (L t m : Nat) (nm : Nat → List Int) (σ : MS) : Prop := rsrc b L σ ∧ σ.1 10 = J t ∧ rnam m nm σ ∧ m ≤ t ∧ ∀ j, j < t → σ.2 8 j = J (posW b L j) ∧ rTk b L m nm (σ.2 7 j) (σ.2 9 j) (posW b L j)
theorem rLx_tok {b : Nat → Int} {L t m m' : Nat} {nm nm' : Nat → List Int} {σ τ : MS} {k v : Int} (h : rLx b L t m nm σ) (hτ1 : ∀ k, k ≠ 13 → τ.1 k = σ.1 k) (hτ2 : ∀ k, k ≠ 11 → k ≠ 12 → τ.2 k = σ.2 k) (hn : rnam m' nm' τ) (hm : m ≤ m') (hm2 : m' ≤ t + 1) (hnn : ∀ r, r < m → nm' r = nm r) (hk : rTk b L m' nm' (J k) (J v) (posW b L t)) : rLx b L (t + 1) m' nm' (tokS τ t k (posW b L t) v) := by
  obtain ⟨⟨hL, h6, h5, hb⟩, h10, _, _, htk⟩ := h
  have e5 : (tokS τ t k (posW b L t) v).2 5 = σ.2 5 := by simp only [tokS, mA_2, mI_2]; simp; exact hτ2 5 (by omega) (by omega)
  have e6 : (tokS τ t k (posW b L t) v).1 6 = σ.1 6 := by simp only [tokS, mA_1, mI_1]; simp; exact hτ1 6 (by omega)
  refine ⟨⟨hL, by rw [e6]; exact h6, fun i hi => by rw [e5]; exact h5 i hi, hb⟩, rfl, ?_, hm2, fun j hj => ?_⟩
  · exact hn
  · have e8 : (tokS τ t k (posW b L t) v).2 8 j = if j = t then J (posW b L t) else σ.2 8 j := by
      show upd (τ.2 8) t _ j = _
      rw [upd_s, hτ2 8 (by omega) (by omega)]
    have e7 : (tokS τ t k (posW b L t) v).2 7 j = if j = t then J k else σ.2 7 j := by
      show upd (τ.2 7) t _ j = _
      rw [upd_s, hτ2 7 (by omega) (by omega)]
    have e9 : (tokS τ t k (posW b L t) v).2 9 j = if j = t then J v else σ.2 9 j := by
      show upd (τ.2 9) t _ j = _
      rw [upd_s, hτ2 9 (by omega) (by omega)]
    rw [e7, e8, e9]
    by_cases q : j = t
    · rw [if_pos q, if_pos q, if_pos q, q]; exact ⟨rfl, hk⟩
    · rw [if_neg q, if_neg q, if_neg q]
      have := htk j (by omega)
      exact ⟨this.1, rTk_mono this.2 hm hnn⟩
