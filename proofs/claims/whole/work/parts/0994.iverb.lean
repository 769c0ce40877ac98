/-! verbs are told and declared alike -/
variable {T N : Nat} {kd vl rv : Nat → Int} {pl : Nat → Nat}
theorem NMS_agA {σ τ : MS} {n c i : Nat} (hA : agA σ τ) (h : NMS kd rv pl σ n c i) : NMS kd rv pl τ n c i := by
  intro k hk
  obtain ⟨⟨h1, h2, h3⟩, h4, h5, h6⟩ := h k hk
  exact ⟨⟨by rw [hA 17 (by omega) (by omega)]; exact h1, by rw [hA 18 (by omega) (by omega)]; exact h2, by rw [hA 19 (by omega) (by omega)]; exact h3⟩, h4, by rw [hA 22 (by omega) (by omega)]; exact h5, h6⟩
def fmS (Γ : HS) (c : Nat) (v : Int32) : HS := cA' Γ 4 7 (g_put 61 ((Γ 4).2.1 7) (J (c : Nat)) v)
theorem c_verb (hT : TKE T N kd vl rv pl) {Γ Γ1 : HS} {i c1 c : Nat} (hc : TKc N kd vl pl Γ1) (h16 : (Γ1 3).1 16 = J 0) (hN : i + 2 + 2 * c ≤ N) (h : F_X4_tellItem (J (i + 1 : Nat)) 3 1 60 Γ = some (J 0, Γ1)) (hcc : (Γ1 4).2.1 0 1 = J (c1 : Nat)) (hc1 : 1 ≤ c) (hk2 : ∀ k, k < c → kd (i + 2 + 2 * k) = 2) (hk44 : ∀ k, k + 1 < c → kd (i + 2 + 2 * k + 1) = 44) (hke : kd (i + 2 + 2 * c - 1) ≠ 2 ∧ kd (i + 2 + 2 * c - 1) ≠ 44) : F_X4_tellVerb (J (i : Nat)) Γ = some ((0 : Int32), if c ≤ 10 then fmS (cI' Γ1 3 14 (J (c : Nat))) c1 (J (kd (i + 2 + 2 * c - 1) - 213)) else fmS (failS (cI' Γ1 3 14 (J (11 : Nat))) pl 5 (i + 2 + 20)) c1 (J (kd (i + 2 + 20) - 213))) := by
  have hNN := TKE_N hT
  have e1 : J (i : Nat) + 1 = J (i + 1 : Nat) := by rw [J_lit, J_add]; rfl
  have e2 : J (i : Nat) + 2 = J (i + 2 : Nat) := by rw [J_lit, J_add]; rfl
  have hc' : TKc N kd vl pl (cI' Γ1 3 14 0) := ⟨hc.1, hc.2⟩
  have key := c_count (b := 0) hT hc' h16 hN hk2 hk44 hke hc1 (by omega) rfl
  have fin : ∀ (Θ : HS) (e : Nat), TKc N kd vl pl Θ → e < N → (Θ 4).2.1 0 1 = J (c1 : Nat) → (bnd (g_at 7 ((Θ 4).2.1 0) 1) fun (x_9 : Int32) => (F_X10_kindOf (J (e : Nat)) Θ).bind fun u_11 => bnd (mrg (fun j => j == 1) Θ u_11.2) fun σ_13 => bnd ((u_11.1 - 213)) fun (x_15 : Int32) => bnd (cA' σ_13 4 7 (g_put 61 ((σ_13 4).2.1 7) x_9 x_15)) fun σ_17 => some ((0 : Int32), σ_17)) = some ((0 : Int32), fmS Θ c1 (J (kd e - 213))) := by
    intro Θ e hΘ he h0
    simp only [bndE]
    rw [c_kindOf hT hΘ he, Option.bind_some, mrg1_id, show (1 : Int32) = J 1 from rfl, q_g_at_in (n := 7) (i := 1) (by omega) (by omega) (by omega), show (Θ 4).2.1 0 (1 : Int).toNat = J (c1 : Nat) from h0, show (213 : Int32) = J 213 from rfl, J_sub]
    rfl
  unfold F_X4_tellVerb
  rw [e1, h, Option.bind_some, if_pos (by rw [h16]; rfl), bndE, e2, key]
  by_cases q : c ≤ 10
  · rw [if_pos (show 0 + c ≤ 10 by omega), if_pos q, Option.bind_some, cI_cI, Nat.zero_add]
    exact fin _ _ ⟨hc.1, hc.2⟩ (by omega) hcc
  · rw [if_neg (show ¬ 0 + c ≤ 10 by omega), if_neg q, Option.bind_some, cI_cI]
    exact fin _ _ ⟨hc.1, hc.2⟩ (by omega) hcc
def vbX (pl : Nat → Nat) (X : MS) (i c : Nat) : MS := noF X (twF pl (flt X) 0 (i + 2) c)
theorem rVerb (hT : TKE T N kd vl rv pl) (hpb : ∀ i, i ≤ T + 1 → pl i ≤ 5000) (hp : plm T pl) {σs σ : MS} {x hi i j n c : Nat} (hA : agA σs σ) (hI : VRB kd rv pl σs x hi i j) (hx : hi ≤ 39000) (hj : j ≤ T) (hC : CNn σ n) (hn : n ≤ 4500) (hc : σ.1 (fcq 1) = J (c : Nat)) (hc5 : c ≤ 5000) : ∃ d, (1 ≤ d ∧ i + 2 * d + 3 ≤ j ∧ NMS kd rv pl σs (x + 2) d (i + 2) ∧ 213 ≤ kd (i + 1 + 2 * d) ∧ kd (i + 1 + 2 * d) ≤ 215 ∧ fmO kd j = kd (i + 1 + 2 * d) - 213 ∧ ∀ t, i < t → t < j → qp (kd t)) ∧ F_X12_declareOne (J (x : Nat)) σ = some ((0 : Int32), vbX pl (nmX rv pl σ i 60 1 c 3 (c + 1 : Nat) x) i d) ∧ dT kd rv pl n i x σ (vbX pl (nmX rv pl σ i 60 1 c 3 (c + 1 : Nat) x) i d) := by
  obtain ⟨k0, k1, k2, k3, k4, k5, k6, d, k7, k8, k9, k10, k11, k12⟩ := hI
  have hNN := TKE_N hT
  have hb : i + 2 * d + 3 ≤ j ∧ x + 3 + d ≤ hi := by rcases k12 with ⟨-, -, h1, h2, -⟩ | ⟨-, -, h1, h2, -⟩ <;> omega
  have hXA : agA σs (nmX rv pl σ i 60 1 c 3 (c + 1 : Nat) x) := nmX_agA hA (by unfold fcq; rw [if_pos (by omega)]; omega)
  have q5 : ∀ t k, (k = 2 ∨ k = 44 ∨ k = 213 ∨ k = 214 ∨ k = 215 ∨ k = 59) → kd t = k → qp (kd t) := fun t k hk e => by rw [e]; exact qp_of (by omega) (by omega) (by omega) (by omega) (by omega)
  refine ⟨d, ⟨k7, hb.1, k9, ?_, ?_, ?_, fun t t1 t2 => ?_⟩, ?_, ?_⟩
  · rcases k12 with ⟨h, -⟩ | ⟨h, -⟩ <;> omega
  · rcases k12 with ⟨-, h, -⟩ | ⟨h, -⟩ <;> omega
  · unfold fmO
    rcases k12 with ⟨h1, h2, h3, -⟩ | ⟨h1, h2, h3, -⟩
    · rw [show j - 2 = i + 1 + 2 * d by omega, if_neg (by omega)]
    · rw [show j - 2 = i + 2 + 2 * d by omega, if_pos h2, h1]; omega
  · by_cases z0 : t = j - 1
    · exact q5 t 59 (by omega) (by rw [z0]; exact k2)
    by_cases z1 : t = i + 1
    · exact q5 t 2 (by omega) (by rw [z1]; exact k1)
    by_cases z2 : t < i + 1 + 2 * d
    · rcases NMS_words k9 t (by omega) (by omega) with h | h
      · exact q5 t 2 (by omega) h
      · exact q5 t 44 (by omega) h
    rcases k12 with ⟨h1, h2, h3, -⟩ | ⟨h1, h2, h3, -⟩
    · rw [show t = i + 1 + 2 * d by omega]
      exact qp_of (by omega) (by omega) (by omega) (by omega) (by omega)
    · by_cases z3 : t = i + 1 + 2 * d
      · exact q5 t 215 (by omega) (by rw [z3]; exact h1)
      · exact q5 t 2 (by omega) (by rw [show t = i + 2 + 2 * d by omega]; exact h2)
  · refine rNm (w := 3) (num := (c + 1 : Nat)) (q := 1) (lim := 60) hT hA (by omega) k1 (by omega) k3 k5 k6 (Or.inr (Or.inl ⟨rfl, rfl, rfl, rfl⟩)) hc hc5 ?_
    exact D8_3 (n := x + 2) (by omega) k7 (by omega) (by omega) (by rw [hXA 20 (by omega) (by omega)]; exact k8) (NMS_agA hXA k9)
  · refine dT_nmX hp hpb (by omega) ?_ (Or.inl rfl) hC hn (by omega) hc hc5 (by omega) (by omega) ⟨by omega, by rw [k0]; rfl, by rw [k0]; rfl, by rw [k0]; rfl⟩
    rw [nmX_flt]
    exact nGe_le (twF_nGe hp hpb d 0 (i + 2) _ (by omega)) (by have := hp i (i + 2) (by omega) (by omega); omega)
