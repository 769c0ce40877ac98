/-! the third going: exit and in, the class -/
variable {T N : Nat} {kd vl rv : Nat → Int} {pl : Nat → Nat}
theorem FS3_4 {Γ X : HS} {w k : Nat} {g : Nat → Int32} (h : FS3 T N kd vl pl Γ X w) : FS3 T N kd vl pl Γ (cA' X 4 k g) w := by
  obtain ⟨h1, h2, h3, h4, h5⟩ := h
  exact ⟨⟨h1.1, h1.2⟩, h2, h3, ⟨fun k hk => h4.1 k hk, h4.2⟩, fun r r3 r4 => by rw [cA_r, if_neg r4]; exact h5 r r3 r4⟩
def exS (Γ : HS) (k v : Int32) : HS := cA' Γ 4 6 (g_put 726 ((Γ 4).2.1 6) (((((Γ 3).1 13) * 6) + k) - 200) v)
theorem exitPart_eq (p0 : Int32) (Γ : HS) : F_X4_exitPart p0 Γ = (F_X4_sortOf (p0 + 2) Γ).bind fun u_1 => bnd (fun (σ_3 : HS) => ((F_X10_kindOf (p0 + 1) σ_3).bind fun u_7 => (F_X4_numberOf (p0 + 2) (mrg (fun j => j == 1) σ_3 u_7.2)).bind fun u_11 => some (0, cA' u_11.2 4 6 (g_put 726 ((u_11.2 4).2.1 6) (((((σ_3 3).1 13) * 6) + u_7.1) - 200) u_11.1)) : HR)) fun j_4 => if u_1.1 = 1 then j_4 u_1.2 else ((F_X4_fail 3 (p0 + 2) u_1.2).bind fun u_18 => j_4 u_18.2) := rfl
theorem c_exit (hT : TKE T N kd vl rv pl) {G : Nat → HS} {Θ Γs Γ : HS} {t : Nat} (h : CT3 T N kd vl pl G Θ Γs t Γ) (ht : t + 2 ≤ T) (hk : kd (t + 2) = 2) (hs0 : (G t 3).2.1 5 (vl (t + 2)).toNat = 0) (hks : 0 ≤ ksF Θ vl (t + 2) ∧ ksF Θ vl (t + 2) ≤ 6 ∧ (ksF Θ vl (t + 2) ≠ 0 → (Θ 3).2.1 4 (vl (t + 2)).toNat = J (nsF Θ vl (t + 2) : Nat))) : (ksF Θ vl (t + 2) = 1 → F_X4_exitPart (J (t : Nat)) Γ = some ((0 : Int32), exS Γ (J (kd (t + 1))) (J (nsF Θ vl (t + 2) : Nat)))) ∧ (ksF Θ vl (t + 2) ≠ 1 → ∃ X, F_X4_exitPart (J (t : Nat)) Γ = some ((0 : Int32), X) ∧ FS3 T N kd vl pl Γ X (t + 2)) := by
  obtain ⟨n1, n2, n3, n4⟩ := TKE_N hT
  obtain ⟨hc, h16, hA, -⟩ := id h
  have j1 : J (t : Nat) + 1 = J (t + 1 : Nat) := by rw [J_lit, J_add]; rfl
  have j2 : J (t : Nat) + 2 = J (t + 2 : Nat) := by rw [J_lit, J_add]; rfl
  rw [exitPart_eq, j1, j2, c_sortB hT h ht hk, Option.bind_some, bndE, if_pos hs0]
  dsimp only
  refine ⟨fun q => ?_, fun q => ?_⟩
  · rw [if_pos (show J (ksF Θ vl (t + 2)) = 1 by rw [q]; rfl), c_kindOf hT hc (show t + 1 < N by omega), Option.bind_some, mrg1_id, c_numOf hT h ht hk, Option.bind_some, if_pos hs0, hks.2.2 (by omega)]
    rfl
  · rw [if_neg (show ¬ J (ksF Θ vl (t + 2)) = 1 by rw [show (1 : Int32) = J 1 from rfl, J_eq (by omega) (by omega) (by omega) (by omega)]; exact q)]
    rw [show F_X4_fail 3 (J (t + 2 : Nat)) Γ = some (J 0, failS Γ pl 3 (t + 2)) from c_fail4 hT (f := 3) hc h16 (show t + 2 < N by omega), Option.bind_some]
    have hF := FS3_fail (T := T) (w := t + 2) (Γ := Γ) hc AGR_rfl (fun _ _ _ => rfl)
    dsimp only
    rw [c_kindOf hT hF.1 (show t + 1 < N by omega), Option.bind_some, mrg1_id]
    obtain ⟨x, hx⟩ := numAny hT hF.1 (show t + 2 < N by omega)
    rw [hx, Option.bind_some]
    exact ⟨_, rfl, FS3_4 hF⟩
