/-! a command is performed; time passes: in both -/
variable {R : Nat → Nat → Int32} {nO nV nC nA ln : Nat} {room : Nat → Bool} {en : Nat → Nat} {TX : Nat → Int → Int → Prop} {DN : Nat → Nat → Nat → Prop}
def EaB (K : MS → MR) : ((Int32 × MS) → MR) → Int32 × MS → MR := (fun (again_79 : (Int32 × MS) → MR) (s_78 : Int32 × MS) => ( if (s_78.2.1 84) ≤ s_78.1 then ( K  s_78.2 ) else ( if (s_78.2.1 104) = 0 then ( if s_78.1 < 0 ∨ 20 ≤ s_78.1.toNatClampNeg then none else (F_X12_block_ (s_78.2.2 75 s_78.1.toNatClampNeg) 0 s_78.2).bind fun u_89 => bnd (fun  (σ_91 : MS) => ( bnd (s_78.1 + 1) fun (x_95 : Int32) => again_79 (x_95, σ_91) ) : MS → MR) fun j_92 => if (u_89.2.1 104) = 1 then ( bnd (mI u_89.2 104 0) fun σ_99 => j_92  σ_99 ) else ( j_92  u_89.2 ) ) else ( K  s_78.2 ) ) ))
theorem EaB_s (K : MS → MR) (n : Nat) (a : Int32) (X : MS) : loopF (EaB K) (n + 1) (a, X) = ( if (X.1 84) ≤ a then ( K  X ) else ( if (X.1 104) = 0 then ( if a < 0 ∨ 20 ≤ a.toNatClampNeg then none else (F_X12_block_ (X.2 75 a.toNatClampNeg) 0 X).bind fun u_89 => bnd (fun  (σ_91 : MS) => ( bnd (a + 1) fun (x_95 : Int32) => loopF (EaB K) n (x_95, σ_91) ) : MS → MR) fun j_92 => if (u_89.2.1 104) = 1 then ( bnd (mI u_89.2 104 0) fun σ_99 => j_92  σ_99 ) else ( j_92  u_89.2 ) ) else ( K  X ) ) ) := rfl
def PtC (x_3 : Int32) : ((Int32 × Int32 × HS) → HR) → Int32 × Int32 × HS → HR := (fun (again_6 : (Int32 × Int32 × HS) → HR) (s_5 : Int32 × Int32 × HS) => ( if x_3 ≤ s_5.2.1 then ( some (0, s_5.2.2) ) else ( if 20 ≤ s_5.2.1 then ( some (0, s_5.2.2) ) else ( if s_5.1 = 0 then ( some (0, s_5.2.2) ) else ( (F_X3_run (300 + s_5.2.1) s_5.2.2).bind fun u_18 => bnd (mrg (fun j => j == 10 || j == 9 || j == 8 || j == 4 || j == 5 || j == 6 || j == 7) s_5.2.2 u_18.2) fun σ_20 => bnd (fun (t_22 : Int32) (σ_23 : HS) => ( bnd (s_5.2.1 + 1) fun (x_27 : Int32) => again_6 (t_22, x_27, σ_23) ) : Int32 → HS → HR) fun j_24 => bnd (fun  (σ_29 : HS) => ( j_24 1 σ_29 ) : HS → HR) fun j_30 => if u_18.1 = 1 then ( j_30  σ_20 ) else ( if u_18.1 = 2 then ( j_30  σ_20 ) else ( j_24 0 σ_20 ) ) ) ) ) ))
theorem PtC_s (x_3 : Int32) (n : Nat) (a b : Int32) (X : HS) : loopF (PtC x_3) (n + 1) (a, b, X) = ( if x_3 ≤ b then ( some (0, X) ) else ( if 20 ≤ b then ( some (0, X) ) else ( if a = 0 then ( some (0, X) ) else ( (F_X3_run (300 + b) X).bind fun u_18 => bnd (mrg (fun j => j == 10 || j == 9 || j == 8 || j == 4 || j == 5 || j == 6 || j == 7) X u_18.2) fun σ_20 => bnd (fun (t_22 : Int32) (σ_23 : HS) => ( bnd (b + 1) fun (x_27 : Int32) => loopF (PtC x_3) n (t_22, x_27, σ_23) ) : Int32 → HS → HR) fun j_24 => bnd (fun  (σ_29 : HS) => ( j_24 1 σ_29 ) : HS → HR) fun j_30 => if u_18.1 = 1 then ( j_30  σ_20 ) else ( if u_18.1 = 2 then ( j_30  σ_20 ) else ( j_24 0 σ_20 ) ) ) ) ) ) := rfl
def EAI (R : Nat → Nat → Int32) (nV nA ln : Nat) (TX : Nat → Int → Int → Prop) (DN : Nat → Nat → Nat → Prop) (Γ0 : HS) (σ : MS) (i : Nat) : Prop := ∃ (z lo hi p q m y : Nat) (D : Nat → Nat → Prop) (Dq : Prop), σ.2 75 i = J (y : Nat) ∧ y < 39990 ∧ R 21 z = J (m : Nat) ∧ R 19 m = J (y : Nat) ∧ m < 39990 ∧ (Γ0 5).2.1 2 (300 + i) = J (p : Nat) ∧ hi ≤ 39990 ∧ q ≤ ln ∧ ¬ Dq ∧ (∀ u, ¬ D p u) ∧ RTQ (I1 Γ0 D) (I3 Γ0 D nV nA) R DN TX Dq z lo hi p q
def EAS (R : Nat → Nat → Int32) (nV nA ln : Nat) (TX : Nat → Int → Int → Prop) (DN : Nat → Nat → Nat → Prop) (Γ0 : HS) (σ : MS) (ne : Nat) : Prop := σ.1 84 = J (ne : Nat) ∧ ne ≤ 20 ∧ ∀ i, i < ne → EAI R nV nA ln TX DN Γ0 σ i
theorem EAS_keep {Γ0 : HS} {σ τ : MS} {ne : Nat} (h : EAS R nV nA ln TX DN Γ0 σ ne) (hr : rWk σ τ) : EAS R nV nA ln TX DN Γ0 τ ne := by
  refine ⟨by rw [hr.1 84 (by omega) (by omega) (by omega) (by omega) (by omega)]; exact h.1, h.2.1, fun i hi => ?_⟩
  obtain ⟨z, lo, hi', p, q, m, y, D, Dq, k1, k2⟩ := h.2.2 i hi
  exact ⟨z, lo, hi', p, q, m, y, D, Dq, by rw [hr.2 75 (by omega) (by omega) (by omega) (by omega) (by omega)]; exact k1, k2⟩
theorem W_each {Γ0 : HS} {ne : Nat} (hDN : DNF R nV nA ln TX DN Γ0) (hne : ne ≤ 20) : ∀ (d i : Nat), i + d = ne → ∀ (n : Nat) (σ : MS) (Γ : HS) (pw : Nat), d < n → STA R nO nV nC nA room en ln TX σ Γ → RRl nO room nV nC σ Γ → RVw σ 0 0 0 pw → (Γ 10).1 13 = J (pw : Nat) → pw ≤ 20000 → (Γ 10).1 5 = J 0 → Γ 5 = Γ0 5 → EAS R nV nA ln TX DN Γ0 σ ne → ∃ τ Δ b, (∀ K : MS → MR, loopF (EaB K) n (J (i : Nat), σ) = K τ) ∧ loopF (PtC (J (ne : Nat))) n (1, J (i : Nat), Γ) = some ((0 : Int32), Δ) ∧ AOC nO nV nC room σ Γ τ Δ b := by
  intro d
  induction d with
  | zero =>
    intro i hi n σ Γ pw hn hS hR hσ h13 hpw hb5 h5 hO
    obtain ⟨n, rfl⟩ : ∃ m, n = m + 1 := ⟨n - 1, by omega⟩
    refine ⟨σ, Γ, 1, fun K => ?_, ?_, hR, rWk_rfl, cWk_rfl, hσ.2.2.2.1, ⟨hσ.2.2.2.2, fun h => h⟩, Or.inl ⟨rfl, pw, hpw, hσ.1, hσ.2.1, hσ.2.2.1, h13, hb5⟩⟩
    · rw [EaB_s, hO.1, if_pos (by rw [J_le (by omega) (by omega) (by omega) (by omega)]; omega)]
    · rw [PtC_s, if_pos (by rw [J_le (by omega) (by omega) (by omega) (by omega)]; omega)]
  | succ d ih =>
    intro i hi n σ Γ pw hn hS hR hσ h13 hpw hb5 h5 hO
    obtain ⟨n, rfl⟩ : ∃ m, n = m + 1 := ⟨n - 1, by omega⟩
    obtain ⟨z, lo, hi', p, q, m, y', D, Dq, k1, k2, k3, k4, k5, k6, k7, k8, k9, k10, k11⟩ := hO.2.2 i (by omega)
    obtain ⟨yy, τ, w, Δ, pw', ⟨m2, v1, v2, v3⟩, v4, v5, v6, v7, v8, v9, v10, ⟨v11, vW⟩, v12⟩ := R_run (k := 300 + i) hDN k11 k9 k10 k7 k8 k6 (by omega) h5 hS hR hσ h13 hpw hb5
    have em : m2 = m := by
      have := v1.symm.trans k3
      rwa [J_eqN (by omega) (by omega)] at this
    have ey : yy = y' := by
      rw [em] at v2
      have := v2.symm.trans k4
      rwa [J_eqN (by omega) (by omega)] at this
    subst ey
    have eM : mrg (fun j => j == 10 || j == 9 || j == 8 || j == 4 || j == 5 || j == 6 || j == 7) Γ Δ = Δ := mrgE (fun r hr => v9 r (by rintro rfl; exact absurd hr (by decide)) (by rintro rfl; exact absurd hr (by decide)) (by rintro rfl; exact absurd hr (by decide)))
    have sB : ∀ K : MS → MR, loopF (EaB K) (n + 1) (J (i : Nat), σ) = if τ.1 104 = 1 then loopF (EaB K) n (J (i + 1 : Nat), mI τ 104 0) else loopF (EaB K) n (J (i + 1 : Nat), τ) := fun K => by
      rw [EaB_s, hO.1, if_neg (by rw [J_le (by omega) (by omega) (by omega) (by omega)]; omega), if_pos (show σ.1 104 = 0 from hσ.1), if_neg (by rw [J_natN (by omega)]; rintro (h | h); exact J_nlt0 (by omega) (by omega) h; omega), J_natN (by omega), k1, v5, Option.bind_some, bndE]
      dsimp only
      rw [bndE, J_suc, bndE]; rfl
    have sC := PtC_s (J (ne : Nat)) n 1 (J (i : Nat)) Γ
    rw [if_neg (by rw [J_le (by omega) (by omega) (by omega) (by omega)]; omega), if_neg (by rw [show (20 : Int32) = J 20 from rfl, J_le (by omega) (by omega) (by omega) (by omega)]; omega), if_neg (by decide), show (300 : Int32) = J 300 from rfl, J_add, show (300 : Int) + (i : Nat) = ((300 + i : Nat) : Int) by omega, v6, Option.bind_some] at sC
    dsimp only at sC
    rw [eM, bndE, bndE, bndE, J_suc] at sC
    dsimp only at sC
    have next : ∀ (τ' : MS), rMk τ τ' → τ'.1 104 = J 0 → τ'.1 107 = J 0 → τ'.1 106 = J (pw' : Nat) → τ'.1 113 = J 0 → τ'.1 115 = J 0 → pw' ≤ 20000 → (Δ 10).1 13 = J (pw' : Nat) → (Δ 10).1 5 = J 0 → ∃ υ Θ b, (∀ K : MS → MR, loopF (EaB K) n (J (i + 1 : Nat), τ') = K υ) ∧ loopF (PtC (J (ne : Nat))) n (1, J (i + 1 : Nat), Δ) = some ((0 : Int32), Θ) ∧ AOC nO nV nC room σ Γ υ Θ b := fun τ' fr g1 g2 g3 g4 g5 g6 g7 g8 => by
      have w1 : rWk σ τ' := rWk_trans v8 (rWk_M fr)
      obtain ⟨υ, Θ, b, e1, e2, e3⟩ := ih (i + 1) (by omega) n τ' Δ pw' (by omega) (STA_keep hS w1 v9) (RR_M v7 fr rfl rfl rfl rfl (fun h => h)) ⟨g1, g2, g3, g4, g5⟩ g7 g6 g8 ((v9 5 (by omega) (by omega) (by omega)).trans h5) (EAS_keep hO w1)
      exact ⟨υ, Θ, b, e1, e2, AOC_pre w1 v9 (fun _ => vW) e3⟩
    have stop : ∀ K : MS → MR, ¬ τ.1 104 = 0 → ¬ τ.1 104 = 1 → loopF (EaB K) (n + 1) (J (i : Nat), σ) = K τ := fun K h h1 => by
      rw [sB K, if_neg h1]
      obtain ⟨n, rfl⟩ : ∃ m, n = m + 1 := ⟨n - 1, by omega⟩
      rw [EaB_s, if_neg h, ite_self]
    have stopC : ∀ Θ, loopF (PtC (J (ne : Nat))) n (0, J (i + 1 : Nat), Θ) = some ((0 : Int32), Θ) := fun Θ => by
      obtain ⟨n, rfl⟩ : ∃ m, n = m + 1 := ⟨n - 1, by omega⟩
      rw [PtC_s, if_pos rfl, ite_self, ite_self]
    rcases v12 with ⟨⟨r1, rfl⟩ | ⟨r1, rfl⟩, r2, r3, r4, r5, r6⟩ | ⟨r1, rfl, r2⟩ | ⟨r1, rfl, r6⟩
    · rw [if_pos (show J 1 = 1 from rfl), bndE] at sC
      obtain ⟨υ, Θ, b, e1, e2, e3⟩ := next τ rMk_rfl r1 r3 r4 v10 v11 r2 r5 r6
      exact ⟨υ, Θ, b, fun K => by rw [sB K, if_neg (by rw [r1]; decide), e1 K], by rw [sC, e2], e3⟩
    · rw [if_neg (show ¬ J 2 = 1 by decide), if_pos (show J 2 = 2 from rfl), bndE] at sC
      obtain ⟨υ, Θ, b, e1, e2, e3⟩ := next (mI τ 104 0) (rMk_mI rMk_rfl (by omega)) rfl r3 r4 v10 v11 r2 r5 r6
      exact ⟨υ, Θ, b, fun K => by rw [sB K, if_pos (show τ.1 104 = 1 from r1), e1 K], by rw [sC, e2], e3⟩
    · rw [if_neg (show ¬ J 4 = 1 by decide), if_neg (show ¬ J 4 = 2 by decide), bndE] at sC
      exact ⟨τ, Δ, 0, fun K => stop K (by rw [r1]; decide) (by rw [r1]; decide), by rw [sC, stopC], v7, v8, v9, v10, ⟨v11, fun _ => vW⟩, Or.inr ⟨rfl, Or.inl ⟨r1, r2⟩⟩⟩
    · rw [if_neg (show ¬ J 3 = 1 by decide), if_neg (show ¬ J 3 = 2 by decide), bndE] at sC
      exact ⟨τ, Δ, 0, fun K => stop K (by rw [r1]; decide) (by rw [r1]; decide), by rw [sC, stopC], v7, v8, v9, v10, ⟨v11, fun _ => vW⟩, Or.inr ⟨rfl, Or.inr ⟨r1, r6⟩⟩⟩
