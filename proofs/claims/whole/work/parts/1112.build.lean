/-! a text is read and given its meanings: both, from its bytes -/
variable {T N : Nat} {kd vl rv : Nat → Int} {pl : Nat → Nat}
/-- what building leaves of all else, in the reference -/
def rfU (σ υ : MS) : Prop := (∀ k, 44 ≤ k → υ.1 k = σ.1 k) ∧ (∀ k, 44 ≤ k → k ≠ 85 → υ.2 k = σ.2 k) ∧ (υ.1 4 = 0 ∧ υ.1 0 = 0) ∧ (∀ k, k < 6 → k ≠ 0 → k ≠ 4 → υ.1 k = σ.1 k) ∧ ∀ k, k < 5 → υ.2 k = σ.2 k
/-- the reference before the words are cut -/
theorem r_front {σ : MS} {b : Nat → Int} {L : Nat} (hL : L ≤ 4096) (h4 : σ.1 4 = J (L : Nat)) (h3 : ∀ i, i < L → σ.2 3 i = J (b i)) (hb : ∀ i, i < L → b i = 10 ∨ (32 ≤ b i ∧ b i ≤ 126)) : ∃ τ : MS, F_X12_build σ = ((F_X12_lex τ).bind fun u_17 => (F_X12_parse u_17.2).bind fun u_19 => BdH u_19.2) ∧ rsrc b L τ ∧ τ.1 14 = 0 ∧ rfU σ τ := by
  have key : Ok (some (0, σ)) fun u => True := Ok_some trivial
  have hl : ∀ (d k : Nat) (τ : MS), k + d = L → (∀ i, i < k → τ.2 5 i = J (b i)) → τ.1 6 = J (L : Nat) → τ.1 4 = J (L : Nat) → τ.1 0 = 0 → (∀ j, 4 ≤ j → j ≠ 6 → τ.1 j = σ.1 j) → (∀ j, j < 4 → j ≠ 0 → τ.1 j = σ.1 j) → (∀ j, j ≠ 5 → τ.2 j = σ.2 j) → ∀ n, d < n → ∃ υ : MS, loopF Bu1 n (J (k : Nat), τ) = ((F_X12_lex υ).bind fun u_17 => (F_X12_parse u_17.2).bind fun u_19 => BdH u_19.2) ∧ rsrc b L υ ∧ υ.1 14 = 0 ∧ rfU σ υ := by
    intro d
    induction d with
    | zero =>
      intro k τ hk t5 t6 t4 t0 f1 f0 f2 n hn
      obtain ⟨n, rfl⟩ : ∃ n', n = n' + 1 := ⟨n - 1, by omega⟩
      refine ⟨mI (mI (mI τ 4 0) 14 0) 15 (-1), ?_, ⟨hL, t6, fun i hi => t5 i (by omega), hb⟩, rfl, ⟨fun j hj => ?_, fun j hj _ => f2 j (by omega), ⟨rfl, by rw [mI_1, if_neg (by omega), mI_1, if_neg (by omega), mI_1, if_neg (by omega)]; exact t0⟩, fun j j6 j0 j4 => ?_, fun j hj => f2 j (by omega)⟩⟩
      · show Bu1 (loopF Bu1 n) (J (k : Nat), τ) = _
        unfold Bu1
        rw [if_pos (show τ.1 4 ≤ J (k : Nat) by rw [t4, show k = L by omega]; exact Int32.le_refl _)]
        simp only [bndE]
      · rw [mI_1, if_neg (by omega), mI_1, if_neg (by omega), mI_1, if_neg (by omega)]; exact f1 j (by omega) (by omega)
      · rw [mI_1, if_neg (by omega), mI_1, if_neg (by omega), mI_1, if_neg (by omega)]
        rcases Nat.lt_or_ge j 4 with q | q
        · exact f0 j q j0
        · exact f1 j q (by omega)
    | succ d ih =>
      intro k τ hk t5 t6 t4 t0 f1 f0 f2 n hn
      obtain ⟨n, rfl⟩ : ∃ n', n = n' + 1 := ⟨n - 1, by omega⟩
      have e3 : τ.2 3 k = J (b k) := by rw [f2 3 (by omega)]; exact h3 k (by omega)
      have hbk := hb k (by omega)
      obtain ⟨υ, u1, u2⟩ := ih (k + 1) (mA τ 5 (upd (τ.2 5) k (J (b k)))) (by omega) (fun i hi => by
        rw [mA_2, if_pos rfl, upd_s]
        by_cases e : i = k
        · rw [if_pos e, e]
        · rw [if_neg e]; exact t5 i (by omega)) t6 t4 t0 f1 f0 (fun j hj => by rw [mA_2, if_neg hj]; exact f2 j hj) n (by omega)
      refine ⟨υ, ?_, u2⟩
      rw [← u1]
      show Bu1 (loopF Bu1 n) (J (k : Nat), τ) = _
      have hg : ¬ (J (k : Nat) < 0 ∨ 16000 ≤ (J (k : Nat)).toNatClampNeg) := by
        rintro (c | c)
        · exact J_nlt0 (by omega) (by omega) c
        · rw [J_natN (by omega)] at c; omega
      have hnb : vp_nar .byte (J (b k)) = J (b k) := J_byte (by omega) (by omega)
      unfold Bu1
      simp only [bndE]
      rw [if_neg (show ¬ τ.1 4 ≤ J (k : Nat) by rw [t4, J_le (by omega) (by omega) (by omega) (by omega)]; omega), if_neg hg, if_neg hg, J_natN (by omega), e3, hnb, show J (k : Nat) + 1 = J (k + 1 : Nat) by rw [J_lit, J_add]; rfl]
  obtain ⟨τ, e, a, b', c⟩ := hl L 0 (mI (mI σ 0 0) 6 (σ.1 4)) (by omega) (fun i hi => by omega) (by rw [mI_1, if_pos rfl]; exact h4) (by rw [mI_1, if_neg (by omega), mI_1, if_neg (by omega)]; exact h4) (by rw [mI_1, if_neg (by omega), mI_1, if_pos rfl]) (fun j j4 j6 => by rw [mI_1, if_neg j6, mI_1, if_neg (by omega)]) (fun j j4 j0 => by rw [mI_1, if_neg (by omega), mI_1, if_neg j0]) (fun j hj => rfl) FU (FU_gt (by omega))
  exact ⟨τ, by rw [build_eq, bndE, bndE]; exact e, a, b', c⟩
