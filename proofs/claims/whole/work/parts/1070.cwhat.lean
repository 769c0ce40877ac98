/-! the third going: a WHAT, the class -/
variable {T N : Nat} {kd vl rv : Nat → Int} {pl : Nat → Nat}
theorem numAny (hT : TKE T N kd vl rv pl) {Γ : HS} {u : Nat} (hc : TKc N kd vl pl Γ) (hu : u < N) : ∃ x : Int32, F_X4_numberOf (J (u : Nat)) Γ = some (x, Γ) := by
  unfold F_X4_numberOf
  rw [c_worthOf hT hc hu, Option.bind_some, bndE, mrg1_id, bndE]
  dsimp only
  by_cases q : g_at 4500 ((Γ 3).2.1 5) (J (vl u)) = 0
  · rw [if_pos q, bndE]; exact ⟨_, rfl⟩
  · rw [if_neg q, bndE]; exact ⟨_, rfl⟩
theorem sortAny (hT : TKE T N kd vl rv pl) {Γ : HS} {u : Nat} (hc : TKc N kd vl pl Γ) (hu : u < N) (hk : kd u ≠ 2) : F_X4_sortOf (J (u : Nat)) Γ = some ((0 : Int32), Γ) := by
  have hkr := kd_le hT hu
  unfold F_X4_sortOf
  rw [c_worthOf hT hc hu, Option.bind_some, bndE, mrg1_id, c_kindOf hT hc hu, Option.bind_some, bndE, mrg1_id]
  dsimp only
  rw [if_neg (show ¬ J (kd u) = 2 by rw [show (2 : Int32) = J 2 from rfl, J255 2 hkr (by omega)]; exact hk)]
/-- the states that a fault leaves -/
def flt3 (pl : Nat → Nat) (Γ Δ : HS) (u : Nat) : Prop := Δ = failS Γ pl 3 u
def Wj32 (p1 : Int32) (σ : HS) : HR := (F_X4_fail 3 p1 σ).bind fun u_35 => (F_X4_numberOf p1 u_35.2).bind fun u_29 => some (u_29.1, u_29.2)
def Wj22 (p0 p1 : Int32) (σ : HS) : HR := if p0 = 11 then Wj32 p1 σ else (F_X4_sortOf p1 σ).bind fun u_40 => if u_40.1 = 2 then (F_X4_numberOf p1 u_40.2).bind fun u_29 => some (u_29.1, u_29.2) else Wj32 p1 u_40.2
def Wj18 (p0 p1 k : Int32) (σ : HS) : HR := if p0 = 11 then Wj22 p0 p1 σ else if k = 228 then some (1, σ) else Wj22 p0 p1 σ
def Wj11 (p0 p1 k : Int32) (σ : HS) : HR := if k = 255 then some (0, σ) else if p0 = 11 then (if k < 200 then Wj18 p0 p1 k σ else if 205 < k then Wj18 p0 p1 k σ else some (((k - 200) + 1), σ)) else Wj18 p0 p1 k σ
theorem whatOf_eq (p0 p1 p2 : Int32) (Γ : HS) : F_X4_whatOf p0 p1 p2 Γ = (F_X10_kindOf p1 Γ).bind fun u_1 => bnd (mrg (fun j => j == 1) Γ u_1.2) fun σ_3 => if u_1.1 = 123 then some ((-1), σ_3) else if p2 ≤ g_at 61 ((σ_3 4).2.1 7) p0 then Wj11 p0 p1 u_1.1 σ_3 else (F_X4_fail 3 p1 σ_3).bind fun u_63 => Wj11 p0 p1 u_1.1 u_63.2 := rfl
/-- with a fault already told nothing changes -/
theorem w_dead (hT : TKE T N kd vl rv pl) {Γ : HS} {u : Nat} {f : Int} (hc : TKc N kd vl pl Γ) (h16 : (Γ 3).1 16 = J f) (hf : 0 < f ∧ f ≤ 6) (hu : u < N) (p0 k : Int32) : ∃ x : Int32, Wj11 p0 (J (u : Nat)) k Γ = some (x, Γ) := by
  obtain ⟨y, hy⟩ := numAny hT hc hu
  have e32 : Wj32 (J (u : Nat)) Γ = some (y, Γ) := by
    unfold Wj32
    rw [fail_no 3 (J (u : Nat)) h16 hf, Option.bind_some, hy, Option.bind_some]
  have e22 : ∃ x : Int32, Wj22 p0 (J (u : Nat)) Γ = some (x, Γ) := by
    unfold Wj22
    by_cases q : p0 = 11
    · rw [if_pos q]; exact ⟨y, e32⟩
    · rw [if_neg q]
      have hs : ∃ s : Int32, F_X4_sortOf (J (u : Nat)) Γ = some (s, Γ) := by
        by_cases q2 : kd u = 2
        · unfold F_X4_sortOf
          rw [c_worthOf hT hc hu, Option.bind_some, bndE, mrg1_id, c_kindOf hT hc hu, Option.bind_some, bndE, mrg1_id, q2, if_pos (show J 2 = 2 from rfl), bndE]
          dsimp only
          by_cases q3 : g_at 4500 ((Γ 3).2.1 5) (J (vl u)) = 0
          · rw [if_pos q3, bndE]; exact ⟨_, rfl⟩
          · rw [if_neg q3]; exact ⟨_, rfl⟩
        · exact ⟨_, sortAny hT hc hu q2⟩
      obtain ⟨s, hs⟩ := hs
      rw [hs, Option.bind_some]
      dsimp only
      by_cases q4 : s = 2
      · rw [if_pos q4, hy, Option.bind_some]; exact ⟨_, rfl⟩
      · rw [if_neg q4]; exact ⟨_, e32⟩
  have e18 : ∃ x : Int32, Wj18 p0 (J (u : Nat)) k Γ = some (x, Γ) := by
    unfold Wj18
    by_cases q : p0 = 11
    · rw [if_pos q]; exact e22
    · rw [if_neg q]
      by_cases q2 : k = 228
      · rw [if_pos q2]; exact ⟨_, rfl⟩
      · rw [if_neg q2]; exact e22
  unfold Wj11
  by_cases q : k = 255
  · rw [if_pos q]; exact ⟨_, rfl⟩
  rw [if_neg q]
  by_cases q2 : p0 = 11
  · rw [if_pos q2]
    by_cases q3 : k < 200
    · rw [if_pos q3]; exact e18
    rw [if_neg q3]
    by_cases q4 : 205 < k
    · rw [if_pos q4]; exact e18
    · rw [if_neg q4]; exact ⟨_, rfl⟩
  · rw [if_neg q2]; exact e18
