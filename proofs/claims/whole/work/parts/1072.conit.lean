/-! the third going: an on's head, the class -/
variable {T N : Nat} {kd vl rv : Nat → Int} {pl : Nat → Nat}
theorem wo_dead (hT : TKE T N kd vl rv pl) {Γ : HS} {u : Nat} {f : Int} (hc : TKc N kd vl pl Γ) (h16 : (Γ 3).1 16 = J f) (hf : 0 < f ∧ f ≤ 6) (hu : u < N) (p0 p2 : Int32) : ∃ x : Int32, F_X4_whatOf p0 (J (u : Nat)) p2 Γ = some (x, Γ) := by
  rw [whatOf_eq, c_kindOf hT hc hu, Option.bind_some, bndE, mrg1_id]
  dsimp only
  by_cases q : J (kd u) = 123
  · rw [if_pos q]; exact ⟨_, rfl⟩
  rw [if_neg q]
  obtain ⟨x, hx⟩ := w_dead hT hc h16 hf hu p0 (J (kd u))
  by_cases q2 : p2 ≤ g_at 61 ((Γ 4).2.1 7) p0
  · rw [if_pos q2]; exact ⟨x, hx⟩
  · rw [if_neg q2, fail_no 3 (J (u : Nat)) h16 hf, Option.bind_some]; exact ⟨x, hx⟩
def o13 (Γ : HS) (v : Int32) : HS := cA' Γ 4 13 (g_put 200 ((Γ 4).2.1 13) ((Γ 3).1 15) v)
def o14 (Γ : HS) (o w : Int32) : HS := cA' Γ 4 14 (g_put 200 ((Γ 4).2.1 14) o w)
def o15 (Γ : HS) (o w : Int32) : HS := cI' (cA' Γ 4 15 (g_put 200 ((Γ 4).2.1 15) o w)) 3 15 (((cA' Γ 4 15 (g_put 200 ((Γ 4).2.1 15) o w)) 3).1 15 + 1)
theorem onItem_eq (p0 : Int32) (Γ : HS) : F_X4_onItem p0 Γ = (F_X4_sortOf (p0 + 1) Γ).bind fun u_1 => if u_1.1 = 3 then ((F_X4_numberOf (p0 + 1) u_1.2).bind fun u_5 => (F_X4_whatOf u_5.1 (p0 + 2) 1 (o13 u_5.2 u_5.1)).bind fun u_9 => (F_X10_kindOf (p0 + 2) (o14 u_9.2 (((o13 u_5.2 u_5.1) 3).1 15) u_9.1)).bind fun u_13 => bnd (mrg (fun j => j == 1) (o14 u_9.2 (((o13 u_5.2 u_5.1) 3).1 15) u_9.1) u_13.2) fun σ_15 => if u_13.1 = 123 then some (0, o15 σ_15 (((o14 u_9.2 (((o13 u_5.2 u_5.1) 3).1 15) u_9.1) 3).1 15) (-1)) else (F_X4_whatOf u_5.1 (p0 + 3) 2 σ_15).bind fun u_29 => some (0, o15 u_29.2 (((o14 u_9.2 (((o13 u_5.2 u_5.1) 3).1 15) u_9.1) 3).1 15) u_29.1)) else ((F_X4_fail 3 (p0 + 1) u_1.2).bind fun u_32 => some (0, u_32.2)) := rfl
/-- a state with a fault at word w -/
def FS3 (T N : Nat) (kd vl : Nat → Int) (pl : Nat → Nat) (Γ X : HS) (w : Nat) : Prop := TKc N kd vl pl X ∧ (X 3).1 16 = J 3 ∧ (X 3).1 17 = J (pl w : Nat) ∧ AGR T kd vl Γ X ∧ ∀ r, r ≠ 3 → r ≠ 4 → X r = Γ r
theorem FS3_fail {Γ Δ : HS} {w : Nat} (hc : TKc N kd vl pl Δ) (hA : AGR T kd vl Γ Δ) (hr : ∀ r, r ≠ 3 → r ≠ 4 → Δ r = Γ r) : FS3 T N kd vl pl Γ (failS Δ pl 3 w) w := by
  refine ⟨⟨hc.1, hc.2⟩, rfl, rfl, ⟨fun k hk => ?_, hA.2⟩, fun r r3 r4 => by unfold failS; rw [cI_r, if_neg r3, cI_r, if_neg r3]; exact hr r r3 r4⟩
  rw [← hA.1 k hk]
  show upd (upd _ _ _) _ _ _ = _
  unfold scI at hk
  rw [upd_s, if_neg (by omega), upd_s, if_neg (by omega)]
theorem FS3_14 {Γ X : HS} {w : Nat} {a b : Int32} (h : FS3 T N kd vl pl Γ X w) : FS3 T N kd vl pl Γ (o14 X a b) w := by
  obtain ⟨h1, h2, h3, h4, h5⟩ := h
  exact ⟨⟨h1.1, h1.2⟩, h2, h3, ⟨fun k hk => h4.1 k hk, h4.2⟩, fun r r3 r4 => by unfold o14; rw [cA_r, if_neg r4]; exact h5 r r3 r4⟩
theorem FS3_15 {Γ X : HS} {w : Nat} {a b : Int32} (h : FS3 T N kd vl pl Γ X w) : FS3 T N kd vl pl Γ (o15 X a b) w := by
  obtain ⟨h1, h2, h3, h4, h5⟩ := h
  refine ⟨⟨h1.1, h1.2⟩, h2, h3, ⟨fun k hk => ?_, h4.2⟩, fun r r3 r4 => by unfold o15; rw [cI_r, if_neg r3, cA_r, if_neg r4]; exact h5 r r3 r4⟩
  rw [← h4.1 k hk]
  show upd _ _ _ _ = _
  unfold scI at hk
  rw [upd_s, if_neg (by omega)]; rfl
theorem CT3_13 {G : Nat → HS} {Θ Γs Γ : HS} {t : Nat} {v : Int32} (h : CT3 T N kd vl pl G Θ Γs t Γ) : CT3 T N kd vl pl G Θ Γs t (o13 Γ v) := h
theorem CT3_14 {G : Nat → HS} {Θ Γs Γ : HS} {t : Nat} {o v : Int32} (h : CT3 T N kd vl pl G Θ Γs t Γ) : CT3 T N kd vl pl G Θ Γs t (o14 Γ o v) := h
