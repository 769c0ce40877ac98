/-! time passes, in both; the scope -/
variable {R : Nat → Nat → Int32} {nO nV nC nA ln : Nat} {room : Nat → Bool} {en : Nat → Nat} {TX : Nat → Int → Int → Prop} {DN : Nat → Nat → Nat → Prop}
theorem PL_turn {σ : MS} {Γ : HS} (h : PL nO room nV nC σ Γ) : PL nO room nV nC (mI σ 94 (σ.1 94 + 1)) (cI' Γ 9 9 ((Γ 9).1 9 + 1)) := by
  obtain ⟨pa, fi, nx, ch, tr, t, r, c, p4, p5, p6, ⟨p7, p8, p9, p10⟩, p11, p12, p13, p14, p15⟩ := h
  refine ⟨pa, fi, nx, ch, tr, t, r, c, p4, p5, p6, ⟨p7, ?_, p9, p10⟩, p11, p12, p13, p14, p15⟩
  have e1 : ((cI' Γ 9 9 ((Γ 9).1 9 + 1)) 9).1 9 = (Γ 9).1 9 + 1 := rfl
  rw [e1, mI_1, if_pos rfl, p8]
theorem W_pass {Γ0 : HS} {ne : Nat} (hDN : DNF R nV nA ln TX DN Γ0) {σ : MS} {Γ : HS} {pw : Nat} (hS : STA R nO nV nC nA room en ln TX σ Γ) (hR : RRl nO room nV nC σ Γ) (hσ : RVw σ 0 0 0 pw) (h13 : (Γ 10).1 13 = J (pw : Nat)) (hpw : pw ≤ 20000) (hb5 : (Γ 10).1 5 = J 0) (h5 : Γ 5 = Γ0 5) (hE : EAS R nV nA ln TX DN Γ0 σ ne) (hn : (Γ 4).2.1 0 6 = J (ne : Nat)) : ∃ τ Δ b, (∀ K : MS → MR, loopF (EaB K) FU (0, mI σ 94 (σ.1 94 + 1)) = K τ) ∧ F_X8_passTime Γ = some ((0 : Int32), Δ) ∧ AOC nO nV nC room σ Γ τ Δ b := by
  have wr : rWk σ (mI σ 94 (σ.1 94 + 1)) := ⟨fun k a b c d e => by rw [mI_1, if_neg (by omega)], fun _ _ _ _ _ _ => rfl⟩
  have wc : cWk Γ (cI' Γ 9 9 ((Γ 9).1 9 + 1)) := fun r r8 r9 r10 => by rw [cI_r, if_neg r9]
  obtain ⟨τ, Δ, b, e1, e2, e3⟩ := W_each (en := en) (TX := TX) (DN := DN) (nO := nO) (room := room) (nC := nC) hDN hE.2.1 ne 0 (by omega) FU (mI σ 94 (σ.1 94 + 1)) (cI' Γ 9 9 ((Γ 9).1 9 + 1)) pw (FU_gt (by have := hE.2.1; omega)) (STA_keep hS wr wc) ⟨PL_turn hR.1, hR.2.1, hR.2.2⟩ hσ h13 hpw hb5 h5 (EAS_keep hE wr)
  refine ⟨τ, Δ, b, e1, ?_, AOC_pre wr wc (fun h => h) e3⟩
  unfold F_X8_passTime
  rw [bndE, show (6 : Int32) = J ((6 : Nat) : Int) from rfl, q_g_at_in (by omega) (by omega) (by omega), Int.toNat_natCast, show ((cI' Γ 9 9 ((Γ 9).1 9 + 1)) 4).2.1 0 6 = J (ne : Nat) from hn, bndE]
  exact e2
/-- what may be spoken of -/
def scpB (pa : Nat → Nat) (tr : Nat → Nat) (light : Bool) (x : Nat) : Bool := x == 1 || (sigN pa (trB tr 2) (shB tr) (pa 1) 121 x == 1) || (light && (sigN pa (trB tr 2) (shB tr) (pa 1) 121 x != 0))
theorem c_scope {σ : MS} {Γ : HS} {pa fi nx : Nat → Nat} {ch : Nat → List Nat} {tr : Nat → Nat} (h : PLT nO room nV nC σ Γ pa fi nx ch tr) {x : Nat} (hx : x ≤ 120) (light : Bool) : F_X6_isInScope (J (x : Nat)) (if light = true then 1 else 0) Γ = some (if scpB pa tr light x = true then 1 else 0, Γ) := by
  have tn := h.1.1
  have hlt : sigN pa (trB tr 2) (shB tr) (pa 1) 121 x ≤ nO := by
    have : ∀ k y, sigN pa (trB tr 2) (shB tr) (pa 1) k y ≤ nO := by
      intro k
      induction k with
      | zero => intro y; exact Nat.zero_le _
      | succ k ih =>
        intro y
        unfold sigN
        split
        · exact Nat.zero_le _
        · split
          · exact Nat.zero_le _
          · split
            · exact h.1.2.2.2.1 y
            · split
              · exact ih _
              · exact Nat.zero_le _
    exact this 121 x
  unfold F_X6_isInScope scpB
  rw [c_sight h hx, Option.bind_some]
  dsimp only
  generalize sigN pa (trB tr 2) (shB tr) (pa 1) 121 x = s at hlt ⊢
  by_cases q1 : x = 1
  · rw [if_pos (show J (x : Nat) = 1 by rw [q1]; rfl), q1]; rfl
  have b1 : (x == 1) = false := by simpa using q1
  rw [if_neg (show ¬ J (x : Nat) = 1 by rw [show (1 : Int32) = J ((1 : Nat) : Int) from rfl, J_eqN (by omega) (by omega)]; exact q1), b1]
  by_cases q2 : s = 1
  · rw [if_pos (show J (s : Nat) = 1 by rw [q2]; rfl), q2]; rfl
  have b2 : (s == 1) = false := by simpa using q2
  rw [if_neg (show ¬ J (s : Nat) = 1 by rw [show (1 : Int32) = J ((1 : Nat) : Int) from rfl, J_eqN (by omega) (by omega)]; exact q2), b2]
  cases light with
  | false => rfl
  | true =>
    have e : ((if true = true then (1 : Int32) else 0)) = 1 := rfl
    rw [e, if_neg (by decide)]
    by_cases q3 : s = 0
    · rw [if_pos (show J (s : Nat) = 0 by rw [q3]; rfl), q3]; rfl
    · have b3 : (s != 0) = true := by simpa using q3
      rw [if_neg (show ¬ J (s : Nat) = 0 by rw [J_z0 (by omega)]; exact q3), b3]; rfl
