/-! the reference lays a room or thing, whole: in both -/
variable {T N : Nat} {kd vl rv : Nat → Int} {pl : Nat → Nat}
def LpH43 (p0 p1 : Int32) (σ_42 : MS) : MR := if p0 < 0 ∨ 40000 ≤ p0.toNatClampNeg then none else bnd ((σ_42.2 20 p0.toNatClampNeg)) fun (x_48 : Int32) => loopF (LpO p1) FU (x_48, σ_42)
def LpH37 (p0 p1 : Int32) (σ_36 : MS) : MR := if p1 < 0 ∨ 121 ≤ p1.toNatClampNeg then none else bnd (LpH43 p0 p1) fun j_43 => if (σ_36.2 50 p1.toNatClampNeg) = 0 then (F_X12_toldPlace p0 σ_36).bind fun u_192 => if p1 < 0 ∨ 121 ≤ p1.toNatClampNeg then none else bnd (mA u_192.2 52 (upd (u_192.2.2 52) p1.toNatClampNeg u_192.1)) fun σ_196 => j_43 σ_196 else j_43 σ_36
def LpH27 (p0 p1 : Int32) (t_25 : Int32) (σ_26 : MS) : MR := if p1 < 0 ∨ 121 ≤ p1.toNatClampNeg then none else bnd (mA σ_26 50 (upd (σ_26.2 50) p1.toNatClampNeg (vp_nar .boolean t_25))) fun σ_32 => if p1 < 0 ∨ 121 ≤ p1.toNatClampNeg then none else bnd (LpH37 p0 p1) fun j_37 => if (σ_32.2 50 p1.toNatClampNeg) = 0 then j_37 σ_32 else (if (σ_32.1 63) = 0 then bnd (mI σ_32 63 p1) fun σ_204 => j_37 σ_204 else j_37 σ_32)
theorem layPlace_eq2 (p0 p1 : Int32) (σ : MS) : F_X12_layPlace p0 p1 σ = if p0 < 0 ∨ 40000 ≤ p0.toNatClampNeg then none else bnd ((σ.2 21 p0.toNatClampNeg)) fun (x_3 : Int32) => if x_3 < 0 ∨ 40000 ≤ x_3.toNatClampNeg then none else bnd (((σ.2 18 x_3.toNatClampNeg) + 1)) fun (x_7 : Int32) => if p1 < 0 ∨ 121 ≤ p1.toNatClampNeg then none else bnd (mA σ 46 (upd (σ.2 46) p1.toNatClampNeg x_7)) fun σ_11 => if p0 < 0 ∨ 40000 ≤ p0.toNatClampNeg then none else bnd ((σ_11.2 21 p0.toNatClampNeg)) fun (x_15 : Int32) => if x_15 < 0 ∨ 40000 ≤ x_15.toNatClampNeg then none else if p1 < 0 ∨ 121 ≤ p1.toNatClampNeg then none else bnd (mA σ_11 47 (upd (σ_11.2 47) p1.toNatClampNeg (σ_11.2 20 x_15.toNatClampNeg))) fun σ_21 => if p0 < 0 ∨ 40000 ≤ p0.toNatClampNeg then none else bnd (LpH27 p0 p1) fun j_27 => if (σ_21.2 17 p0.toNatClampNeg) = 1 then j_27 1 σ_21 else j_27 0 σ_21 := rfl
/-- what both know of room or thing n, but its words -/
def OBF (T : Nat) (kd rv vl : Nat → Int) (pl : Nat → Nat) (ρ : MS) (Γ : HS) (n : Nat) : Prop := OBX T kd rv vl pl ρ Γ n ∧ (∃ t, t < T ∧ kd t = 4 ∧ ρ.2 46 n = J (pl t + 1 : Nat) ∧ ρ.2 47 n = J (rv t) ∧ (Γ 4).2.1 2 n = J (vl t)) ∧ (∃ r : Nat, r ≤ 1 ∧ ρ.2 50 n = J (r : Nat) ∧ (Γ 4).2.1 1 n = J (r : Nat)) ∧ ∃ s : Nat, s ≤ 120 ∧ ρ.2 52 n = J (s : Nat) ∧ (Γ 4).2.1 4 n = J (s : Nat)
/-- only room or thing n's rows, and the first room, have changed -/
def PFP (n : Nat) (σ τ : MS) : Prop := (∀ k, k ≠ 63 → τ.1 k = σ.1 k) ∧ (∀ k, ¬ (46 ≤ k ∧ k ≤ 56) → k ≠ 122 → τ.2 k = σ.2 k) ∧ (∀ x, x ≠ n → ∀ k, (46 ≤ k ∧ k ≤ 50) ∨ k = 52 ∨ k = 122 → τ.2 k x = σ.2 k x) ∧ ∀ y, ¬ (7 * n ≤ y ∧ y < 7 * n + 7) → τ.2 51 y = σ.2 51 y ∧ τ.2 53 y = σ.2 53 y
/-- a room's number, if it is the first -/
def fRm (σ : MS) (w : Int) (n : Nat) : Int32 := if w = 1 ∧ σ.1 63 = 0 then J (n : Nat) else σ.1 63
/-- the head of a room or thing -/
def plS (σ : MS) (w : Int) (n t : Nat) (a b s : Int32) : MS := mA (mI (mA (mA (mA σ 46 (upd (σ.2 46) n a)) 47 (upd (σ.2 47) n b)) 50 (upd (σ.2 50) n (J (t : Nat)))) 63 (fRm σ w n)) 52 (upd (σ.2 52) n s)
theorem mI_same {σ : MS} {k : Nat} : mI σ k (σ.1 k) = σ := by
  refine Prod.ext (funext fun j => ?_) rfl
  rw [mI_1]
  by_cases q : j = k
  · rw [if_pos q, q]
  · rw [if_neg q]
theorem mA_same {σ : MS} {k n : Nat} : mA σ k (upd (σ.2 k) n (σ.2 k n)) = σ := by
  refine Prod.ext rfl (funext fun j => ?_)
  rw [mA_2]
  by_cases q : j = k
  · rw [if_pos q, q]
    funext y
    rw [upd_s]
    by_cases q2 : y = n
    · rw [if_pos q2, q2]
    · rw [if_neg q2]
  · rw [if_neg q]
theorem r_placeHead {σ : MS} {w : Int} {x n r : Nat} {p : Nat} {s : Int32} (hx : x + 2 < 39990) (hn : n ≤ 120) (hw : w = 1 ∨ w = 2) (h17 : σ.2 17 x = J w) (h21 : σ.2 21 x = J (x + 2 : Nat)) (h18 : σ.2 18 (x + 2) = J (p : Nat)) (h20 : σ.2 20 (x + 2) = J (r : Nat)) (hs : w = 1 → s = σ.2 52 n) (htold : w = 2 → ∀ υ : MS, (∀ k, 17 ≤ k → k ≤ 45 → υ.2 k = σ.2 k) → F_X12_toldPlace (J (x : Nat)) υ = some (s, υ)) : F_X12_layPlace (J (x : Nat)) (J (n : Nat)) σ = loopF (LpO (J (n : Nat))) FU (σ.2 20 x, plS σ w n (if w = 1 then 1 else 0) (J (p + 1 : Nat)) (J (r : Nat)) s) := by
  have gx := gNn (k := x) (n := 40000) (by omega) (by omega)
  have gx2 := gNn (k := x + 2) (n := 40000) (by omega) (by omega)
  have gn := gNn (k := n) (n := 121) (by omega) (by omega)
  have j43 : ∀ υ : MS, υ.2 20 = σ.2 20 → LpH43 (J (x : Nat)) (J (n : Nat)) υ = loopF (LpO (J (n : Nat))) FU (σ.2 20 x, υ) := fun υ h => by
    unfold LpH43
    rw [if_neg gx, bndE, J_natN (by omega), h]
  have gn' := gKn (k := 121) (x := n) (by omega) (by omega)
  have gx' := g40 (show x < 39990 by omega)
  have gx2' := g40 (show x + 2 < 39990 by omega)
  rw [layPlace_eq2, if_neg gx, bndE, J_natN (by omega), h21, if_neg gx2, bndE, if_neg gn, bndE, J_natN (by omega), J_natN (by omega), h18, if_neg gx', bndE, show (mA σ 46 (upd (σ.2 46) n (J (p : Nat) + 1))).2 21 x = J (x + 2 : Nat) from h21, if_neg gx2, if_neg gn', bndE, J_natN (by omega), show (mA σ 46 (upd (σ.2 46) n (J (p : Nat) + 1))).2 20 (x + 2) = J (r : Nat) from h20, if_neg gx', bndE, J_suc]
  generalize hσ2 : mA (mA σ 46 (upd (σ.2 46) n (J (p + 1 : Nat)))) 47 (upd ((mA σ 46 (upd (σ.2 46) n (J (p + 1 : Nat)))).2 47) n (J (r : Nat))) = σ2
  have e17 : σ2.2 17 x = J w := by rw [← hσ2]; exact h17
  have h27 : ∀ t : Nat, t ≤ 1 → LpH27 (J (x : Nat)) (J (n : Nat)) (J (t : Nat)) σ2 = if t = 0 then LpH37 (J (x : Nat)) (J (n : Nat)) (mA σ2 50 (upd (σ2.2 50) n (J (t : Nat)))) else (if σ.1 63 = 0 then LpH37 (J (x : Nat)) (J (n : Nat)) (mI (mA σ2 50 (upd (σ2.2 50) n (J (t : Nat)))) 63 (J (n : Nat))) else LpH37 (J (x : Nat)) (J (n : Nat)) (mA σ2 50 (upd (σ2.2 50) n (J (t : Nat))))) := fun t ht => by
    have hb : vp_nar .boolean (J (t : Nat)) = J (t : Nat) := by
      rcases (show t = 0 ∨ t = 1 by omega) with rfl | rfl <;> rfl
    unfold LpH27
    rw [if_neg gn, bndE, if_neg gn, J_natN (by omega), hb]
    have e50 : (mA σ2 50 (upd (σ2.2 50) n (J (t : Nat)))).2 50 n = J (t : Nat) := by rw [mA_2, if_pos rfl, upd_s, if_pos rfl]
    have e63 : (mA σ2 50 (upd (σ2.2 50) n (J (t : Nat)))).1 63 = σ.1 63 := by rw [← hσ2]; rfl
    rw [e50, e63, bndE]
    rcases (show t = 0 ∨ t = 1 by omega) with rfl | rfl
    · rw [if_pos (show J ((0 : Nat) : Int) = 0 from rfl), if_pos rfl]
    · rw [if_neg (show ¬ J ((1 : Nat) : Int) = 0 by decide), if_neg (show ¬ (1 : Nat) = 0 by omega), bndE]
  rcases hw with rfl | rfl
  · rw [e17, if_pos (show J 1 = 1 from rfl), if_pos rfl]
    have := h27 1 (by omega)
    rw [show (1 : Int32) = J ((1 : Nat) : Int) from rfl, this, if_neg (show ¬ (1 : Nat) = 0 by omega)]
    have j37 : ∀ υ : MS, υ.2 50 n = J ((1 : Nat) : Int) → υ.2 20 = σ.2 20 → LpH37 (J (x : Nat)) (J (n : Nat)) υ = loopF (LpO (J (n : Nat))) FU (σ.2 20 x, υ) := fun υ h h' => by
      unfold LpH37
      rw [if_neg gn, bndE, J_natN (by omega), h, if_neg (show ¬ J ((1 : Nat) : Int) = 0 by decide), j43 υ h']
    have e5 : plS σ 1 n 1 (J (p + 1 : Nat)) (J (r : Nat)) s = mI (mA σ2 50 (upd (σ2.2 50) n (J (1 : Nat)))) 63 (fRm σ 1 n) := by
      unfold plS
      rw [hs rfl, ← hσ2]
      exact mA_same (σ := mI (mA (mA (mA σ 46 (upd (σ.2 46) n (J (p + 1 : Nat)))) 47 (upd (σ.2 47) n (J (r : Nat)))) 50 (upd (σ.2 50) n (J (1 : Nat)))) 63 (fRm σ 1 n)) (k := 52) (n := n)
    rw [e5]
    unfold fRm
    by_cases q : σ.1 63 = 0
    · rw [if_pos q, if_pos ⟨rfl, q⟩, j37 _ (by rw [show (mI (mA σ2 50 (upd (σ2.2 50) n (J ((1 : Nat) : Int)))) 63 (J (n : Nat))).2 50 n = (mA σ2 50 (upd (σ2.2 50) n (J ((1 : Nat) : Int)))).2 50 n from rfl, mA_2, if_pos rfl, upd_s, if_pos rfl]) (by rw [← hσ2]; rfl)]
    · rw [if_neg q, if_neg (fun h => q h.2), j37 _ (by rw [mA_2, if_pos rfl, upd_s, if_pos rfl]) (by rw [← hσ2]; rfl), show σ.1 63 = (mA σ2 50 (upd (σ2.2 50) n (J ((1 : Nat) : Int)))).1 63 by rw [← hσ2]; rfl, mI_same]
  · rw [e17, if_neg (show ¬ J 2 = 1 by decide), if_neg (by omega)]
    have := h27 0 (by omega)
    rw [show (0 : Int32) = J ((0 : Nat) : Int) from rfl, this, if_pos rfl]
    generalize hσ3 : mA σ2 50 (upd (σ2.2 50) n (J ((0 : Nat) : Int))) = σ3
    have e50 : σ3.2 50 n = J ((0 : Nat) : Int) := by rw [← hσ3, mA_2, if_pos rfl, upd_s, if_pos rfl]
    have e20 : σ3.2 20 = σ.2 20 := by rw [← hσ3, ← hσ2]; rfl
    unfold LpH37
    rw [if_neg gn, bndE, J_natN (by omega), e50, if_pos (show J ((0 : Nat) : Int) = 0 from rfl), htold rfl σ3 (fun k k1 k2 => by rw [← hσ3, mA_2, if_neg (by omega), ← hσ2, mA_2, if_neg (by omega), mA_2, if_neg (by omega)]), Option.bind_some]
    dsimp only
    rw [if_neg gn', bndE, j43 _ (by rw [mA_2, if_neg (by omega)]; exact e20)]
    have e5 : plS σ 2 n 0 (J (p + 1 : Nat)) (J (r : Nat)) s = mA σ3 52 (upd (σ3.2 52) n s) := by
      unfold plS fRm
      rw [if_neg (by omega), ← hσ3, ← hσ2]
      have e : mI (mA (mA (mA σ 46 (upd (σ.2 46) n (J (p + 1 : Nat)))) 47 (upd (σ.2 47) n (J (r : Nat)))) 50 (upd (σ.2 50) n (J ((0 : Nat) : Int)))) 63 (σ.1 63) = mA (mA (mA σ 46 (upd (σ.2 46) n (J (p + 1 : Nat)))) 47 (upd (σ.2 47) n (J (r : Nat)))) 50 (upd (σ.2 50) n (J ((0 : Nat) : Int))) := mI_same (σ := mA (mA (mA σ 46 (upd (σ.2 46) n (J (p + 1 : Nat)))) 47 (upd (σ.2 47) n (J (r : Nat)))) 50 (upd (σ.2 50) n (J ((0 : Nat) : Int)))) (k := 63)
      rw [e]
      rfl
    rw [e5]
