/-! laying's join: the loop over the items -/
variable {T N : Nat} {kd vl rv : Nat → Int} {pl : Nat → Nat}
theorem KE_keep {Θ : HS} {ρ ρ' : MS} (h : KE T kd vl rv Θ ρ) (e : ∀ k, k ≤ 44 → ρ'.2 k = ρ.2 k) : KE T kd vl rv Θ ρ' := by
  unfold KE at h ⊢
  rw [e 28 (by omega), e 29 (by omega)]; exact h
/-- what every item leaves -/
theorem ly_keep {Θ : HS} {m : Nat} {nm : Nat → List Int} {σs ρ ρ' : MS} (e : ∀ k, k ≤ 44 → ρ'.2 k = ρ.2 k) (e13 : ρ'.1 13 = ρ.1 13) (h : AGM σs ρ ∧ KE T kd vl rv Θ ρ ∧ rnam m nm ρ) : AGM σs ρ' ∧ KE T kd vl rv Θ ρ' ∧ rnam m nm ρ' := ⟨AGM_keep h.1 (fun k _ _ => e k (by omega)), KE_keep h.2.1 e, rnam_congr h.2.2 e13 (e 11 (by omega)) (e 12 (by omega))⟩
/-- all items are laid, one behind the other -/
theorem ly_loop {ls : Nat → Nat} {c : Nat} {P : Nat → MS → Prop} (hls : ∀ z, z < c → ls z < 39900) (hstep : ∀ z ρ, z < c → P z ρ → ∃ ρ', F_X12_layOne (J (ls z : Nat)) ρ = some ((0 : Int32), ρ') ∧ P (z + 1) ρ' ∧ ρ'.2 22 (ls z) = if z + 1 < c then J (ls (z + 1) : Nat) else J (-1)) : ∀ (d z n : Nat) (ρ : MS), z + d = c → d < n → P z ρ → ∃ τ, loopF LyJ n (if z < c then J (ls z : Nat) else J (-1), ρ) = some ((0 : Int32), τ) ∧ P c τ := by
  intro d
  induction d with
  | zero =>
    intro z n ρ hz hn h
    obtain ⟨n, rfl⟩ : ∃ q, n = q + 1 := ⟨n - 1, by omega⟩
    have e : z = c := by omega
    subst e
    refine ⟨ρ, ?_, h⟩
    rw [if_neg (Nat.lt_irrefl z)]
    show LyJ (loopF LyJ n) (J (-1), ρ) = _
    unfold LyJ
    rw [if_pos (show J (-1) < 0 by decide)]
  | succ d ih =>
    intro z n ρ hz hn h
    obtain ⟨n, rfl⟩ : ∃ q, n = q + 1 := ⟨n - 1, by omega⟩
    have hl := hls z (by omega)
    obtain ⟨ρ', e1, e2, e3⟩ := hstep z ρ (by omega) h
    obtain ⟨τ, f1, f2⟩ := ih (z + 1) n ρ' (by omega) (by omega) e2
    refine ⟨τ, ?_, f2⟩
    rw [if_pos (show z < c by omega)]
    show LyJ (loopF LyJ n) (J (ls z : Nat), ρ) = _
    unfold LyJ
    dsimp only
    rw [if_neg (J_nlt0 (by omega) (by omega)), e1, Option.bind_some]
    dsimp only
    rw [if_neg (gNn (k := ls z) (n := 40000) (by omega) (by omega)), J_natN (by omega), e3, bndE]
    exact f1
