/-! a break is told, by both -/
variable {nO nV nC : Nat} {room : Nat → Bool}
theorem txl_brk : TXL [91, 98, 114, 101, 97, 107, 32] [91, 98, 114, 101, 97, 107, 32] := by unfold TXL; decide +kernel
theorem txl_brk2 : TXL [93] [93] := by unfold TXL; decide +kernel
theorem OL_nil {f : Nat → Int32} : OL f 0 [] := ⟨rfl, by decide, fun i hi => absurd hi (by simp)⟩
theorem W_tellBreak {σ : MS} {Γ : HS} {n : Int} (hn : 1 ≤ n ∧ n ≤ 6) (h1 : σ.1 105 = J n) (h2 : (Γ 10).1 5 = J n) : ∃ τ Δ, ((F_X12_say ([91, 98, 114, 101, 97, 107, 32] : List Int32) (mI σ 103 0)).bind fun u_12 => (F_X12_sayNumber (u_12.2.1 105) u_12.2).bind fun u_14 => (F_X12_line ([93] : List Int32) u_14.2).bind fun u_17 => some ((2 : Int32), u_17.2)) = some ((2 : Int32), τ) ∧ F_X8_tellBreak Γ = some ((0 : Int32), Δ) ∧ oR3 σ τ ∧ SYF Γ Δ ∧ OUT τ Δ := by
  have e0 : F_X5_wipe Γ = some ((0 : Int32), cI' Γ 8 1 0) := by unfold F_X5_wipe; rw [bndE]; try rfl
  have o8 : o8 Γ (cI' Γ 8 1 0) := fun r hr => by rw [cI_r, if_neg hr]
  have oR0 : oR3 σ (mI σ 103 0) := ⟨fun k hk => by rw [mI_1, if_neg hk], fun _ _ => rfl⟩
  have hO : OUT (mI σ 103 0) (cI' Γ 8 1 0) := ⟨[], OL_nil, OL_nil⟩
  obtain ⟨τ1, Δ1, a1, a2, a3, a4⟩ := W_say txl_brk hO
  obtain ⟨w, o1, o2⟩ := a4.2.2
  obtain ⟨τ2, b1, b2, b3⟩ := rt_num (z := n) (by omega) o1
  obtain ⟨Δ2, c1, c2, c3⟩ := ot_num (z := n) (by omega) o2
  obtain ⟨τ3, Δ3, d1, d2, d3, d4⟩ := W_line txl_brk2 ⟨_, b3, c3⟩
  refine ⟨τ3, Δ3, ?_, ?_, oR3_trans oR0 (oR3_trans a4.1 (oR3_trans b2 d4.1)), SYF_trans (SYF_8 o8) (SYF_trans a4.2.1 (SYF_trans (SYF_8 c2) d4.2.1)), d4.2.2⟩
  · rw [a1, Option.bind_some]
    dsimp only
    rw [a4.1.1 105 (by omega), show (mI σ 103 0).1 105 = J n from h1, b1, Option.bind_some]
    dsimp only
    rw [d1, Option.bind_some]
  · unfold F_X8_tellBreak
    rw [e0, Option.bind_some]
    dsimp only
    rw [mrg8 o8, bndE, a2, Option.bind_some]
    dsimp only
    rw [a3, bndE, show (Δ1 10).1 5 = J n by rw [a4.2.1.2.1]; exact h2, c1, Option.bind_some]
    dsimp only
    rw [mrg8 c2, bndE, d2, Option.bind_some]
    dsimp only
    rw [d3, bndE]
