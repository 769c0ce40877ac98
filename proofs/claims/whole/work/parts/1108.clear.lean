/-! a story with nothing of its own: its words -/
variable {T N : Nat} {kd vl rv : Nat → Int} {pl : Nat → Nat}
def Cl2 (σ : HS) : HR := ( (F_X0_wipe σ).bind fun u_25 => bnd (mrg (fun j => j == 5) σ u_25.2) fun σ_27 => (F_X9_wipe σ_27).bind fun u_29 => bnd (mrg (fun j => j == 6) σ_27 u_29.2) fun σ_31 => (F_X1_wipe σ_31).bind fun u_33 => bnd (mrg (fun j => j == 7) σ_31 u_33.2) fun σ_35 => (F_X7_learnOwned 0 OFX σ_35).bind fun u_38 => (F_X11_packed ([109, 101] : List Int32) 0 2 9 u_38.2).bind fun u_41 => (F_X7_addWord 1 u_41.1 u_38.2).bind fun u_43 => (F_X7_addVerb 1 0 OV1 u_43.2).bind fun u_46 => (F_X7_addVerb 2 0 OV2 u_46.2).bind fun u_49 => (F_X7_addVerb 3 0 OV3 u_49.2).bind fun u_52 => (F_X7_addVerb 4 1 OV4 u_52.2).bind fun u_55 => (F_X7_addVerb 5 1 OV5 u_55.2).bind fun u_58 => (F_X7_addVerb 6 1 OV6 u_58.2).bind fun u_61 => (F_X7_addVerb 7 1 OV7 u_61.2).bind fun u_64 => (F_X7_addVerb 8 1 OV8 u_64.2).bind fun u_67 => (F_X7_addVerb 9 2 OV9 u_67.2).bind fun u_70 => (F_X7_addVerb 10 2 OV9 u_70.2).bind fun u_73 => (F_X11_packed ([105, 110] : List Int32) 0 2 9 u_73.2).bind fun u_76 => (F_X1_learn u_76.1 u_73.2).bind fun u_78 => bnd (mrg (fun j => j == 7) u_73.2 u_78.2) fun σ_80 => bnd (cA' σ_80 4 8 (upd ((σ_80 4).2.1 8) (9 : Int32).toNatClampNeg u_78.1)) fun σ_82 => (F_X11_packed ([111, 110] : List Int32) 0 2 9 σ_82).bind fun u_85 => (F_X1_learn u_85.1 σ_82).bind fun u_87 => bnd (mrg (fun j => j == 7) σ_82 u_87.2) fun σ_89 => bnd (cA' σ_89 4 8 (upd ((σ_89 4).2.1 8) (10 : Int32).toNatClampNeg u_87.1)) fun σ_91 => (F_X7_addVerb 11 1 ([] : List Int32) σ_91).bind fun u_94 => some (0, u_94.2) )
/-- the words of the verbs that each story has -/
def vwL : List (List (List Int)) := [OV1w, OV2w, OV3w, OV4w, OV5w, OV6w, OV7w, OV8w, OV9w, OV9w]
def owS (k o : Nat) : List (List Int) := if o = 1 then [[109, 101]] else if 121 ≤ o ∧ o ≤ 120 + k then vwL.getD (o - 121) [] else []
/-- k verbs have their words -/
def CLP (Γ0 : HS) (k : Nat) (W : List Int) (Γ : HS) : Prop := WST Γ W (fun o => (owS k o).length) (fun o e => tm9 ((owS k o).getD e [])) ∧ (∀ r, r ≠ 4 → r ≠ 7 → Γ r = Γ0 r) ∧ (Γ 4).1 = (Γ0 4).1 ∧ (∀ j, j ≠ 7 → j ≠ 8 → j ≠ 9 → j ≠ 10 → (Γ 4).2.1 j = (Γ0 4).2.1 j) ∧ (∀ v, 1 ≤ v → v ≤ k → (Γ 4).2.1 7 v = J (bform v))
theorem CLP_wfr {Γ0 Γ Δ : HS} {k : Nat} {W V : List Int} (h : CLP Γ0 k W Γ) (i : wfr Γ Δ) (hw : WST Δ V (fun o => (owS k o).length) (fun o e => tm9 ((owS k o).getD e []))) : CLP Γ0 k V Δ := ⟨hw, fun r a b => by rw [i.1 r a b, h.2.1 r a b], by rw [i.2.1, h.2.2.1], fun j a b c d => by rw [i.2.2 j c d, h.2.2.2.1 j a b c d], fun v v1 v2 => by rw [i.2.2 7 (by omega) (by omega)]; exact h.2.2.2.2 v v1 v2⟩
theorem CLP_8 {Γ0 Γ : HS} {k : Nat} {W : List Int} {g : Nat → Int32} (h : CLP Γ0 k W Γ) : CLP Γ0 k W (cA' Γ 4 8 g) := by
  obtain ⟨⟨⟨p, w1, w2, w3, w4, w5, w6⟩, w7⟩, a2, a3, a4, a5⟩ := h
  refine ⟨⟨⟨p, w1, w2, w3, w4, w5, w6⟩, fun o o1 o2 => ?_⟩, fun r a b => by rw [cA_r, if_neg a]; exact a2 r a b, a3, fun j a b c d => by rw [cA4g, if_neg b]; exact a4 j a b c d, fun v v1 v2 => by rw [cA4g, if_neg (by omega)]; exact a5 v v1 v2⟩
  rw [cA4g, if_neg (by omega), cA4g, if_neg (by omega)]
  exact w7 o o1 o2
/-- a verb more -/
theorem c_addVb {Γ0 Γ : HS} {k f : Nat} {W : List Int} {S : List Int32} {Wl : List (List Int)} {s : List Nat} (h : CLP Γ0 k W Γ) (hk : k < 10) (hL : lstOk S Wl s) (hv : vwL.getD k [] = Wl) (hn : Wl.length ≤ 2) (hf : (f : Int) = bform (k + 1)) (hW : W.length < 1900) : ∃ (V : List Int) (Δ : HS), F_X7_addVerb (J (k + 1 : Nat)) (J (f : Nat)) S Γ = some ((0 : Int32), Δ) ∧ CLP Γ0 (k + 1) V Δ ∧ PRE W V ∧ V.length ≤ W.length + 2 ∧ (Δ 4).2.1 8 = (Γ 4).2.1 8 := by
  obtain ⟨hw, a2, a3, a4, a5⟩ := h
  generalize hΓ1 : cA' Γ 4 7 (g_put 61 ((Γ 4).2.1 7) (J (k + 1 : Nat)) (J (f : Nat))) = Γ1
  have e7 : ∀ j, (Γ1 4).2.1 j = if j = 7 then upd ((Γ 4).2.1 7) (k + 1) (J (f : Nat)) else (Γ 4).2.1 j := fun j => by
    rw [← hΓ1, cA4g, q_g_put_in (n := 61) (i := (k + 1 : Nat)) (by omega) (by omega) (by omega), Int.toNat_natCast]
  have er : ∀ r, r ≠ 4 → Γ1 r = Γ r := fun r hr => by rw [← hΓ1, cA_r, if_neg hr]
  have hw1 : WST Γ1 W (fun o => (owS k o).length) (fun o e => tm9 ((owS k o).getD e [])) := by
    obtain ⟨⟨p, w1, w2, w3, w4, w5, w6⟩, w7⟩ := hw
    refine ⟨⟨p, by rw [er 7 (by omega)]; exact w1, w2, w3, by rw [er 7 (by omega)]; exact w4, w5, w6⟩, fun o o1 o2 => ?_⟩
    rw [e7, if_neg (by omega), e7, if_neg (by omega)]
    exact w7 o o1 o2
  obtain ⟨E, e1, K, K0, Kn, hK⟩ := c_learnOwned hL (o := J (120 + (k + 1) : Nat)) (R := fun t => AWR (120 + (k + 1)) t) (fun t Γ Δ h => (AWR_D h).1) (fun w Γ hw hD => by
    obtain ⟨Δ, e, hΔ⟩ := c_addWord (o := 120 + (k + 1)) (by omega) (by omega) hD (tm9_rng hw).1 (tm9_rng hw).2
    exact ⟨Δ, e, hΔ⟩) ⟨W, hw1.1⟩
  rw [← K0] at hw1
  have hz : (owS k (120 + (k + 1))).length = 0 := by
    unfold owS
    rw [if_neg (by omega), if_neg (by omega)]; rfl
  obtain ⟨⟨V, v1, v2, v3⟩, v4⟩ := WST_chain (o := 120 + (k + 1)) (t := fun e => tm9 (Wl.getD e [])) (by omega) (by omega) hw1 Wl.length hK (by omega) (by rw [hz]; omega)
  rw [Kn, K0] at v4
  rw [Kn] at v1
  refine ⟨V, E, ?_, ⟨WST_congr v1 (fun o _ _ => ?_) (fun o e _ _ he => ?_), fun r a b => by rw [v4.1 r a b, er r a, a2 r a b], by rw [v4.2.1, ← hΓ1]; exact a3, fun j a b c d => by rw [v4.2.2 j c d, e7, if_neg a]; exact a4 j a b c d, fun v b1 b2 => ?_⟩, v2, by omega, by rw [v4.2.2 8 (by omega) (by omega), e7, if_neg (by omega)]⟩
  · unfold F_X7_addVerb
    rw [bndE, hΓ1, show (120 : Int32) + J (k + 1 : Nat) = J (120 + (k + 1) : Nat) by rw [show (120 : Int32) = J 120 from rfl, J_add]; rfl, e1, Option.bind_some]
  · by_cases q : o = 120 + (k + 1)
    · rw [if_pos q, hz, q]
      unfold owS
      rw [if_neg (by omega), if_pos (by omega), show 120 + (k + 1) - 121 = k by omega, hv]; omega
    · rw [if_neg q]
      unfold owS
      by_cases q1 : o = 1
      · rw [if_pos q1, if_pos q1]
      · rw [if_neg q1, if_neg q1]
        by_cases q2 : 121 ≤ o ∧ o ≤ 120 + k
        · rw [if_pos q2, if_pos (by omega)]
        · rw [if_neg q2, if_neg (by omega)]
  · by_cases q : o = 120 + (k + 1)
    · rw [if_pos (show o = 120 + (k + 1) ∧ (owS k (120 + (k + 1))).length ≤ e from ⟨q, by omega⟩), hz, q]
      unfold owS
      rw [if_neg (by omega), if_pos (by omega), show 120 + (k + 1) - 121 = k by omega, hv]; rfl
    · rw [if_neg (show ¬ (o = 120 + (k + 1) ∧ _) from fun h => q h.1)]
      unfold owS
      by_cases q1 : o = 1
      · rw [if_pos q1, if_pos q1]
      · rw [if_neg q1, if_neg q1]
        by_cases q2 : 121 ≤ o ∧ o ≤ 120 + k
        · rw [if_pos q2, if_pos (by omega)]
        · rw [if_neg q2, if_neg (by omega)]
  · rw [v4.2.2 7 (by omega) (by omega), e7, if_pos rfl, upd_s]
    by_cases q : v = k + 1
    · rw [if_pos q, q, ← hf]
    · rw [if_neg q]; exact a5 v b1 (by omega)
/-- a word that is only learned -/
theorem WST_learn {Γ : HS} {W : List Int} {bn : Nat → Nat} {bt : Nat → Nat → Int} {t : Int} (h : WST Γ W bn bt) (h0 : 0 ≤ t ∧ t < 9223372036854775808) (hW : W.length < 1999) : ∃ (V : List Int) (m : Nat) (Δ : HS), F_X1_learn (L64 t) Γ = some (J (m : Nat), Δ) ∧ WST Δ V bn bt ∧ (∀ r, r ≠ 7 → Δ r = Γ r) ∧ PRE W V ∧ V.length ≤ W.length + 1 ∧ m < V.length ∧ V.getD m 0 = t := by
  obtain ⟨hD, hO⟩ := h
  obtain ⟨V, m, Δ, a, b, c, d⟩ := d_learn hD h0.1 h0.2 hW
  obtain ⟨p1, p2⟩ := lrnW_pre d
  refine ⟨V, m, Δ, a, ⟨c, fun o o1 o2 => ?_⟩, b, p1, p2, d.1, d.2.1⟩
  rw [b 4 (by omega)]
  obtain ⟨c1, c2, c3⟩ := hO o o1 o2
  exact ⟨c1, c2, fun e he => by
    obtain ⟨k, k1, k2, k3⟩ := c3 e he
    exact ⟨k, Nat.lt_of_lt_of_le k1 p1.1, k2, by rw [p1.2 k k1]; exact k3⟩⟩
/-- new words that nobody owns -/
theorem W0_chain {t : Nat → Int} {K : Nat → HS} (h : DOK (K 0) []) : ∀ n, n ≤ 100 → (∀ e, e < n → AW0 (t e) (K e) (K (e + 1))) → (∀ i j, i < j → j < n → t i ≠ t j) → DOK (K n) ((List.range n).map t) ∧ ∀ r, r ≠ 7 → K n r = K 0 r := by
  intro n
  induction n with
  | zero => exact fun _ _ _ => ⟨h, fun _ _ => rfl⟩
  | succ n ih =>
    intro hn hA hd
    obtain ⟨i1, i2⟩ := ih (by omega) (fun e he => hA e (by omega)) (fun i j a b => hd i j a (by omega))
    obtain ⟨a1, W, V, a2, a3, a4⟩ := hA n (by omega)
    obtain rfl := DOK_u i1 a2
    obtain ⟨m, m1, m2, m3⟩ := a4 (by rw [List.length_map, List.length_range]; omega)
    have el : ((List.range n).map t).length = n := by rw [List.length_map, List.length_range]
    have eg : ∀ k, k < n → ((List.range n).map t).getD k 0 = t k := fun k hk => by
      rw [List.getD_eq_getElem?_getD, List.getElem?_eq_getElem (by rw [el]; exact hk), List.getElem_map, List.getElem_range]; rfl
    refine ⟨?_, fun r hr => by rw [a1 r hr, i2 r hr]⟩
    rcases m3 with ⟨rfl, b⟩ | ⟨-, rfl, -⟩
    · exfalso
      rw [el] at b
      rw [eg m b] at m2
      exact hd m n b (by omega) m2
    · rw [List.range_succ, List.map_append]; exact a3
