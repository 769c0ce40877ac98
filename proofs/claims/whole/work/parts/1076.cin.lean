/-! the third going: in, the class -/
variable {T N : Nat} {kd vl rv : Nat → Int} {pl : Nat → Nat}
def inS (Γ : HS) (v : Int32) : HS := cA' Γ 4 4 (g_put 121 ((Γ 4).2.1 4) ((Γ 3).1 13) v)
def In13 (p0 t : Int32) (σ : HS) : HR := if t = 0 then (F_X4_numberOf p0 σ).bind fun u_25 => some (0, cA' u_25.2 4 4 (g_put 121 ((u_25.2 4).2.1 4) ((σ 3).1 13) u_25.1)) else some (0, cA' σ 4 4 (g_put 121 ((σ 4).2.1 4) ((σ 3).1 13) 1))
def In9 (p0 s t : Int32) (σ : HS) : HR := if t = 0 then (if s = 1 then In13 p0 t σ else if s = 2 then In13 p0 t σ else (F_X4_fail 3 p0 σ).bind fun u_36 => In13 p0 t u_36.2) else In13 p0 t σ
theorem inPart_eq (p0 : Int32) (Γ : HS) : F_X4_inPart p0 Γ = (F_X4_sortOf p0 Γ).bind fun u_1 => (F_X10_kindOf p0 u_1.2).bind fun u_3 => bnd (mrg (fun j => j == 1) u_1.2 u_3.2) fun σ_5 => if u_3.1 = 228 then In9 p0 u_1.1 1 σ_5 else In9 p0 u_1.1 0 σ_5 := rfl
theorem c_inP (hT : TKE T N kd vl rv pl) {Γ : HS} {u : Nat} (hc : TKc N kd vl pl Γ) (hu : u < N) (hk : kd u = 228) : F_X4_inPart (J (u : Nat)) Γ = some ((0 : Int32), inS Γ 1) := by
  rw [inPart_eq, sortAny hT hc hu (by omega), Option.bind_some]
  dsimp only
  rw [c_kindOf hT hc hu, Option.bind_some, bndE, mrg1_id, hk]
  dsimp only
  rw [if_pos (show J 228 = 228 from rfl)]
  unfold In9 In13
  rw [if_neg (by decide), if_neg (by decide)]
  rfl
theorem c_in (hT : TKE T N kd vl rv pl) {G : Nat → HS} {Θ Γs Γ : HS} {t u : Nat} (h : CT3 T N kd vl pl G Θ Γs t Γ) (hu : u ≤ T) (hk : kd u = 2) (hs0 : (G t 3).2.1 5 (vl u).toNat = 0) (hks : 0 ≤ ksF Θ vl u ∧ ksF Θ vl u ≤ 6 ∧ (ksF Θ vl u ≠ 0 → (Θ 3).2.1 4 (vl u).toNat = J (nsF Θ vl u : Nat))) : ((ksF Θ vl u = 1 ∨ ksF Θ vl u = 2) → F_X4_inPart (J (u : Nat)) Γ = some ((0 : Int32), inS Γ (J (nsF Θ vl u : Nat)))) ∧ ((ksF Θ vl u ≠ 1 ∧ ksF Θ vl u ≠ 2) → ∃ X, F_X4_inPart (J (u : Nat)) Γ = some ((0 : Int32), X) ∧ FS3 T N kd vl pl Γ X u) := by
  obtain ⟨n1, n2, n3, n4⟩ := TKE_N hT
  obtain ⟨hc, h16, hA, -⟩ := id h
  have huN : u < N := by omega
  have js : ∀ c : Int, 0 ≤ c ∧ c ≤ 1000 → (J (ksF Θ vl u) = J c) = (ksF Θ vl u = c) := fun c hc => J_eq (by omega) (by omega) (by omega) (by omega)
  rw [inPart_eq, c_sortB hT h hu hk, Option.bind_some, if_pos hs0]
  dsimp only
  rw [c_kindOf hT hc huN, Option.bind_some, bndE, mrg1_id, hk]
  dsimp only
  rw [if_neg (show ¬ J 2 = 228 by decide)]
  unfold In9
  rw [if_pos rfl]
  have ok : ksF Θ vl u ≠ 0 → In13 (J (u : Nat)) 0 Γ = some ((0 : Int32), inS Γ (J (nsF Θ vl u : Nat))) := fun hne => by
    unfold In13
    rw [if_pos rfl, c_numOf hT h hu hk, Option.bind_some, if_pos hs0, hks.2.2 hne]
    rfl
  by_cases q1 : ksF Θ vl u = 1
  · rw [if_pos (show J (ksF Θ vl u) = 1 by rw [q1]; rfl)]
    exact ⟨fun _ => ok (by omega), fun hh => absurd q1 hh.1⟩
  rw [if_neg (show ¬ J (ksF Θ vl u) = 1 by rw [show (1 : Int32) = J 1 from rfl, js 1 (by omega)]; exact q1)]
  by_cases q2 : ksF Θ vl u = 2
  · rw [if_pos (show J (ksF Θ vl u) = 2 by rw [q2]; rfl)]
    exact ⟨fun _ => ok (by omega), fun hh => absurd q2 hh.2⟩
  rw [if_neg (show ¬ J (ksF Θ vl u) = 2 by rw [show (2 : Int32) = J 2 from rfl, js 2 (by omega)]; exact q2)]
  refine ⟨fun hh => by omega, fun _ => ?_⟩
  rw [show F_X4_fail 3 (J (u : Nat)) Γ = some (J 0, failS Γ pl 3 u) from c_fail4 hT (f := 3) hc h16 huN, Option.bind_some]
  have hF := FS3_fail (T := T) (w := u) (Γ := Γ) hc AGR_rfl (fun _ _ _ => rfl)
  obtain ⟨x, hx⟩ := numAny hT hF.1 huN
  unfold In13
  rw [if_pos rfl, hx, Option.bind_some]
  exact ⟨_, rfl, FS3_4 hF⟩
