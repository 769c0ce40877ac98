/-! all items declared, one behind the other -/
variable {T N : Nat} {kd vl rv : Nat → Int} {pl : Nat → Nat}
def Dc1 : ((Int32 × MS) → MR) → Int32 × MS → MR := (fun (again_56 : (Int32 × MS) → MR) (s_55 : Int32 × MS) => ( if s_55.1 < 0 then ( some (0, s_55.2) ) else ( (F_X12_declareOne s_55.1 s_55.2).bind fun u_62 => if s_55.1 < 0 ∨ 40000 ≤ s_55.1.toNatClampNeg then none else bnd ((u_62.2.2 22 s_55.1.toNatClampNeg)) fun (x_66 : Int32) => again_56 (x_66, u_62.2) ) ))
theorem Dc1_s (n : Nat) (l : Int32) (τ : MS) : loopF Dc1 (n + 1) (l, τ) = if l < 0 then some ((0 : Int32), τ) else (F_X12_declareOne l τ).bind fun u_62 => if l < 0 ∨ 40000 ≤ l.toNatClampNeg then none else bnd (u_62.2.2 22 l.toNatClampNeg) fun (x_66 : Int32) => loopF Dc1 n (x_66, u_62.2) := rfl
theorem agA_rD0 {σ τ υ : MS} (h : agA σ τ) (i : rD0 τ υ) : agA σ υ := fun k k1 k2 => by rw [i.2 k (by omega) (by omega) (by omega), h k k1 k2]
/-- item z's part in the row of states S -/
def aAt (T N : Nat) (kd vl rv : Nat → Int) (pl : Nat → Nat) (σs : MS) (Γs : HS) (is : Nat → Nat) (z x : Nat) (S : Nat → MS) : Prop := F_X12_declareOne (J (x : Nat)) (S z) = some ((0 : Int32), S (z + 1)) ∧ dT kd rv pl z (is z) x (S z) (S (z + 1)) ∧ ∀ (τ : MS) (Γ : HS) (ta : Nat → Nat), agA σs τ → DR T kd vl rv is z (S z) Γ → G0 T N kd vl pl Γ → TA T kd rv ta (is z) (S z) → TAC T kd vl ta Γ → STT T kd vl rv τ Γ → (Γ 1).2.1 6 = (Γs 1).2.1 6 → fStp T N kd vl rv pl is σs z x (S z) (S (z + 1)) τ Γ
theorem dcl_loop (hT : TKE T N kd vl rv pl) (hN : NMI T kd vl rv) (hp : plm T pl) (hpb : ∀ i, i ≤ T + 1 → pl i ≤ 5000) {σs : MS} {Γs : HS} {c : Nat} {ls is ps ds os es : Nat → Nat} (hI : ITS kd vl rv pl σs Γs c ls is ps ds os es) (hl : ls c ≤ 39000) (hi : is c ≤ T) : ∀ (d k : Nat) (σ : MS), k + d = c → agA σs σ → CNn σ k → ∃ S : Nat → MS, S k = σ ∧ (∀ z, k ≤ z → z < c → aAt T N kd vl rv pl σs Γs is z (ls z) S) ∧ ∀ n, d < n → loopF Dc1 n (J (if k < c then (ls k : Int) else -1), σ) = some ((0 : Int32), S c) := by
  have hT1 := hT.1
  have hr := ITS_rng hI
  intro d
  induction d with
  | zero =>
    intro k σ hk hA hC
    obtain rfl : k = c := by omega
    refine ⟨fun _ => σ, rfl, fun z z1 z2 => by omega, fun n hn => ?_⟩
    obtain ⟨n, rfl⟩ : ∃ z, n = z + 1 := ⟨n - 1, by omega⟩
    rw [if_neg (by omega), Dc1_s, if_pos (by decide)]
  | succ d ih =>
    intro k σ hk hA hC
    obtain ⟨b1, b2, b3, b4, -⟩ := hI k (by omega)
    have r1 := hr (c - (k + 1)) (k + 1) (by omega)
    rw [show k + 1 + (c - (k + 1)) = c by omega] at r1
    have r0 := hr k 0 (by omega)
    rw [Nat.zero_add] at r0
    obtain ⟨υ, e1, e2, e3⟩ := allItm hT hN hp hpb b1 b4 (by omega) (by omega) hA hC (by omega)
    have hA2 := agA_rD0 hA e2.1
    obtain ⟨S, s1, s2, s3⟩ := ih (k + 1) υ (by omega) hA2 e2.2.2.1
    have en := g_en (n := ls k) (by omega)
    have en2 := (ng (n := ls k) (by omega)).2
    refine ⟨fun z => if z ≤ k then σ else S z, if_pos (Nat.le_refl k), fun z z1 z2 => ?_, fun n hn => ?_⟩
    · by_cases q : z = k
      · subst q
        unfold aAt
        dsimp only
        rw [if_pos (Nat.le_refl z), if_neg (show ¬ z + 1 ≤ z by omega), s1]
        exact ⟨e1, e2, e3⟩
      · have := s2 z (by omega) z2
        unfold aAt at this ⊢
        dsimp only
        rw [if_neg (show ¬ z ≤ k by omega), if_neg (show ¬ z + 1 ≤ k by omega)]
        exact this
    · obtain ⟨n, rfl⟩ : ∃ z, n = z + 1 := ⟨n - 1, by omega⟩
      rw [if_pos (show k < c by omega), Dc1_s, if_neg (J_nlt0 (by omega) (by omega)), show F_X12_declareOne (J ((ls k : Nat) : Int)) σ = _ from e1, Option.bind_some]
      dsimp only
      rw [if_neg en, bndE, en2, hA2 22 (by omega) (by omega), b2, if_neg (show ¬ c ≤ k by omega)]
      have := s3 n (by omega)
      by_cases q : k + 1 < c
      · rw [if_pos q] at this ⊢; exact this
      · rw [if_neg q] at this ⊢; exact this
