/-! a verb of the class: its words and its joint -/
variable {T N : Nat} {kd vl rv : Nat → Int} {pl : Nat → Nat}
theorem WSO_pre {Γ Δ : HS} {W V : List Int} {ow : Nat → List (List Int)} (h : WSO Γ W ow) (hD : DOK Δ V) (hp : PRE W V) (e9 : (Δ 4).2.1 9 = (Γ 4).2.1 9) (e10 : (Δ 4).2.1 10 = (Γ 4).2.1 10) : WSO Δ V ow := ⟨⟨hD, fun o o1 o2 => by
  obtain ⟨a, b, c⟩ := h.1.2 o o1 o2
  rw [e9, e10]
  exact ⟨a, b, fun e he => by
    obtain ⟨k, k1, k2, k3⟩ := c e he
    exact ⟨k, Nat.lt_of_lt_of_le k1 hp.1, k2, by rw [hp.2 k k1]; exact k3⟩⟩⟩, h.2⟩
theorem c_verbL {b : Nat → Int} {L m : Nat} {nm : Nat → List Int} {cl : List Int} (hF : NMF b L T m nm cl kd vl rv pl) {Θ : HS} {t n d : Nat} {Γ E : HS} {W : List Int} {ow : Nat → List (List Int)} (hW : WEF Θ kd vl cl t Γ E) (hk : kd t = 232) (hN : nsF Θ vl (t + 1) = n) (hn : 1 ≤ n ∧ n ≤ 60) (hd : 1 ≤ d ∧ NML kd (t + 2) d) (hd10 : d ≤ 10) (hj : t + 2 + 2 * d ≤ T) (h2 : kd (t + 1 + 2 * d) = 215 → kd (t + 2 + 2 * d) = 2) (hw : WSO Γ W ow) (h0 : (ow (120 + n)).length = 0) (hWl : W.length + 12 ≤ 1999) : ∃ V, WSO E V (owA ow (120 + n) (wdsF nm rv (t + 2) d)) ∧ PRE W V ∧ V.length ≤ W.length + 11 ∧ (kd (t + 1 + 2 * d) = 215 → ∃ k : Nat, k < V.length ∧ (E 4).2.1 8 n = J (k : Nat) ∧ V.getD k 0 = tm9 (nm (rv (t + 2 + 2 * d)).toNat)) ∧ (∀ j, j ≠ 8 → j ≠ 9 → j ≠ 10 → (E 4).2.1 j = (Γ 4).2.1 j) ∧ ∀ y, y ≠ n → (E 4).2.1 8 y = (Γ 4).2.1 8 y := by
  obtain ⟨E0, ⟨E1, c, c1, c2, c3, c4⟩, c5⟩ := WEF_vrb hW hk
  rw [hN] at c3 c4
  obtain rfl := NML_u c2 hd.2 c1 hd.1
  obtain ⟨⟨V, v1, v2, v3⟩, v4⟩ := OWN_WSO hF (by omega) hd.2 hd.1 (by omega) c3 hw (by omega) (by omega)
  have m4 : E 4 = E0 4 := c5.1 4 (by omega)
  have m7 : E 7 = E0 7 := c5.1 7 (by omega)
  have ef : t + 2 + 2 * c - 1 = t + 1 + 2 * c := by omega
  rw [ef] at c4
  unfold JNT at c4
  by_cases q : kd (t + 1 + 2 * c) = 215
  · rw [if_pos q] at c4
    obtain ⟨d1, W', V', m', d2, d3, d4, d5⟩ := c4
    obtain rfl := DOK_u v1.1.1 d2
    obtain ⟨k, rfl, hk'⟩ := d4 (by omega)
    obtain ⟨p1, p2⟩ := lrnW_pre hk'
    have e8 : (E 4).2.1 8 = upd ((E1 4).2.1 8) n (J (k : Nat)) := by
      rw [m4, d5, cA4g, if_pos rfl, q_g_put_in (n := 61) (i := (n : Nat)) (by omega) (by omega) (by omega), Int.toNat_natCast]
    have eo : ∀ j, j ≠ 8 → (E 4).2.1 j = (E1 4).2.1 j := fun j hj => by rw [m4, d5, cA4g, if_neg hj]
    have ht := (trm_tm9 (kd := kd) hF (u := t + 2 + 2 * c) (by omega) (h2 q)).1
    rw [show t + 1 + 2 * c + 1 = t + 2 + 2 * c by omega, ht] at hk'
    refine ⟨V', WSO_pre v1 (DOK_7 d3 m7) p1 (eo 9 (by omega)) (eo 10 (by omega)), PRE_trans v2 p1, by omega, fun _ => ⟨k, hk'.1, by rw [e8, upd_s, if_pos rfl], hk'.2.1⟩, fun j j8 j9 j10 => by rw [eo j j8, v4.2.2 j j9 j10], fun y hy => by rw [e8, upd_s, if_neg hy, v4.2.2 8 (by omega) (by omega)]⟩
  · rw [if_neg q] at c4
    subst c4
    refine ⟨V, WSO_pre v1 (DOK_7 v1.1.1 m7) PRE_rfl (by rw [m4]) (by rw [m4]), v2, by omega, fun h => absurd h q, fun j j8 j9 j10 => by rw [m4, v4.2.2 j j9 j10], fun y _ => by rw [m4, v4.2.2 8 (by omega) (by omega)]⟩
