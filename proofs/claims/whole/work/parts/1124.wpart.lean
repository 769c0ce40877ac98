/-! the words of a thing: in both -/
variable {T N : Nat} {kd vl rv : Nat → Int} {pl : Nat → Nat}
/-- the reference's words of rooms and things -/
def WOB (ρ : MS) (ow : Nat → List (List Int)) : Prop := ∀ o, 1 ≤ o → o ≤ 120 → ρ.2 56 o = J ((ow o).length : Nat) ∧ ∀ e, e < (ow o).length → RW 54 55 ρ (10 * o + e) ((ow o).getD e [])
/-- the class's words of all owners -/
def WSO (Γ : HS) (W : List Int) (ow : Nat → List (List Int)) : Prop := WST Γ W (fun o => (ow o).length) (fun o e => tm9 ((ow o).getD e [])) ∧ ∀ o e, 1 ≤ o → o ≤ 180 → e < (ow o).length → nmW ((ow o).getD e [])
theorem WST_m3 {Γ Δ : HS} {W : List Int} {bn : Nat → Nat} {bt : Nat → Nat → Int} (h : WST Γ W bn bt) (e4 : Δ 4 = Γ 4) (e7 : Δ 7 = Γ 7) : WST Δ W bn bt := ⟨DOK_7 h.1 e7, fun o o1 o2 => by rw [e4]; exact h.2 o o1 o2⟩
theorem map_rng {f : Nat → List Int} {n : Nat} : ((List.range n).map f).length = n ∧ ∀ e, e < n → ((List.range n).map f).getD e [] = f e := by
  have h : ((List.range n).map f).length = n := by rw [List.length_map, List.length_range]
  refine ⟨h, fun e he => ?_⟩
  rw [List.getD_eq_getElem?_getD, List.getElem?_eq_getElem (by rw [h]; exact he), List.getElem_map, List.getElem_range]; rfl
theorem app_l {a b : List (List Int)} {e : Nat} (h : e < a.length) : (a ++ b).getD e [] = a.getD e [] := by
  rw [List.getD_eq_getElem?_getD, List.getD_eq_getElem?_getD, List.getElem?_append_left h]
theorem app_r {a b : List (List Int)} {e : Nat} (h : a.length ≤ e) : (a ++ b).getD e [] = b.getD (e - a.length) [] := by
  rw [List.getD_eq_getElem?_getD, List.getD_eq_getElem?_getD, List.getElem?_append_right h]
/-- the words that stand from word i on -/
def wdsF (nm : Nat → List Int) (rv : Nat → Int) (i c : Nat) : List (List Int) := (List.range c).map (fun e => nm (rv (i + 2 * e)).toNat)
def owA (ow : Nat → List (List Int)) (n : Nat) (ws : List (List Int)) (o : Nat) : List (List Int) := if o = n then ow n ++ ws else ow o
/-- an owner's words, in the class -/
theorem OWN_WSO {b : Nat → Int} {L m : Nat} {nm : Nat → List Int} {cl : List Int} (hF : NMF b L T m nm cl kd vl rv pl) {o i c : Nat} {Γ E : HS} {W : List Int} {ow : Nat → List (List Int)} (ho : 1 ≤ o ∧ o ≤ 180) (hn : NML kd i c) (hc : 1 ≤ c) (hi : i + 2 * c ≤ T + 1) (h : OWN kd vl cl o i Γ E) (hw : WSO Γ W ow) (hten : (ow o).length + c ≤ 10) (hW : W.length + 10 ≤ 1999) : (∃ V, WSO E V (owA ow o (wdsF nm rv i c)) ∧ PRE W V ∧ V.length ≤ W.length + c) ∧ wfr Γ E := by
  obtain ⟨c', K, c1, c2, rfl, rfl, c3⟩ := h
  obtain rfl := NML_u c2 hn c1 hc
  obtain ⟨⟨V, v1, v2, v3⟩, v4⟩ := WST_chain (t := fun e => trm cl vl (i + 2 * e)) ho.1 ho.2 hw.1 c' c3 (by omega) hten
  have hl := map_rng (f := fun e => nm (rv (i + 2 * e)).toNat) (n := c')
  have ht : ∀ e, e < c' → trm cl vl (i + 2 * e) = tm9 (nm (rv (i + 2 * e)).toNat) ∧ nmW (nm (rv (i + 2 * e)).toNat) := fun e he => trm_tm9 hF (by omega) (hn.1 e he)
  refine ⟨⟨V, ⟨WST_congr v1 (fun x _ _ => ?_) (fun x e _ _ he => ?_), fun x e x1 x2 he => ?_⟩, v2, v3⟩, v4⟩
  · unfold owA
    by_cases q : x = o
    · rw [if_pos q, if_pos q, List.length_append]
      unfold wdsF
      rw [hl.1]
    · rw [if_neg q, if_neg q]
  · unfold owA
    by_cases q : x = o
    · rw [if_pos q] at he
      rw [if_pos q]
      by_cases q2 : (ow o).length ≤ e
      · rw [if_pos ⟨q, q2⟩, app_r q2]
        unfold wdsF
        rw [hl.2 _ (by omega), (ht _ (by omega)).1]
      · rw [if_neg (fun h => q2 h.2), app_l (by omega), q]
    · rw [if_neg q, if_neg (fun h => q h.1)]
  · unfold owA at he ⊢
    by_cases q : x = o
    · rw [if_pos q] at he ⊢
      rw [List.length_append] at he
      by_cases q2 : (ow o).length ≤ e
      · rw [app_r q2]
        unfold wdsF at he ⊢
        rw [hl.1] at he
        rw [hl.2 _ (by omega)]
        exact (ht _ (by omega)).2
      · rw [app_l (by omega)]; exact hw.2 o e ho.1 ho.2 (by omega)
    · rw [if_neg q] at he ⊢; exact hw.2 x e x1 x2 he
/-- words laid, in the reference -/
theorem WOB_LWR {n c : Nat} {ws : Nat → List Int} {ρ ρ' : MS} {ow : Nat → List (List Int)} (hn : 1 ≤ n ∧ n ≤ 120) (hb : WOB ρ ow) (hl : ∀ o, 1 ≤ o → o ≤ 120 → (ow o).length ≤ 10) (h : LWR n (ow n).length c ws ρ ρ') (hc : (ow n).length + c ≤ 10) {ws' : List (List Int)} (hws : ws'.length = c ∧ ∀ e, e < c → ws'.getD e [] = ws e) : WOB ρ' (owA ow n ws') := by
  obtain ⟨h1, h2, h3, h4, h5, h6, h7⟩ := h
  have keep : ∀ o e, 1 ≤ o → o ≤ 120 → e < (ow o).length → RW 54 55 ρ' (10 * o + e) ((ow o).getD e []) := fun o e o1 o2 he => by
    obtain ⟨a, b⟩ := (hb o o1 o2).2 e he
    have hlo := hl o o1 o2
    have hlt : ¬ (10 * n + (ow n).length ≤ 10 * o + e ∧ 10 * o + e < 10 * n + ((ow n).length + c)) := by
      by_cases q : o = n
      · rw [q] at he ⊢; omega
      · omega
    refine ⟨by rw [h6 _ hlt]; exact a, fun k hk => ?_⟩
    have := wmn_le ((ow o).getD e [])
    rw [h7 _ (by omega)]; exact b k hk
  intro o o1 o2
  unfold owA
  by_cases q : o = n
  · subst q
    rw [if_pos rfl]
    refine ⟨by rw [h3, List.length_append, hws.1], fun e he => ?_⟩
    rw [List.length_append, hws.1] at he
    by_cases q2 : (ow o).length ≤ e
    · have := h5 (e - (ow o).length) (by omega)
      rw [show (ow o).length + (e - (ow o).length) = e by omega] at this
      rw [app_r q2, hws.2 _ (by omega)]; exact this
    · rw [app_l (by omega)]; exact keep o e o1 o2 (by omega)
  · rw [if_neg q]
    exact ⟨by rw [h4 o q]; exact (hb o o1 o2).1, fun e he => keep o e o1 o2 he⟩
theorem lp_wpart {b : Nat → Int} {L m : Nat} {nm : Nat → List Int} {cl : List Int} (hF : NMF b L T m nm cl kd vl rv pl) {Θ : HS} {σs ρ : MS} {x hi i j n : Nat} {Γ Δ : HS} {W : List Int} {ow : Nat → List (List Int)} {again : Int32 × MS → MR} (hP : PRT kd rv pl 2 σs x hi i j) (hA : AGM σs ρ) (hrn : rnam m nm ρ) (hrv : ∀ u, u ≤ T → kd u = 2 → 0 ≤ rv u ∧ rv u < 8000) (hj : j ≤ T) (hx : hi < 39900) (hn : 1 ≤ n ∧ n ≤ 120) (h13 : (Γ 3).1 13 = J (n : Nat)) (hW : WEF Θ kd vl cl i Γ Δ) (hk : kd i = 240) (hw : WSO Γ W ow) (hb : WOB ρ ow) (hten : (ow n).length + (j - i - 1) / 2 ≤ 10) (hWl : W.length + 10 ≤ 1999) : ∃ (ρ' : MS) (V : List Int), LpO (J (n : Nat)) again (J (x : Nat), ρ) = again (σs.2 22 x, ρ') ∧ WSO Δ V (owA ow n (wdsF nm rv (i + 1) ((j - i - 1) / 2))) ∧ WOB ρ' (owA ow n (wdsF nm rv (i + 1) ((j - i - 1) / 2))) ∧ PRE W V ∧ V.length ≤ W.length + (j - i - 1) / 2 ∧ (ρ'.1 = ρ.1 ∧ ∀ k, k ≠ 54 → k ≠ 55 → k ≠ 56 → ρ'.2 k = ρ.2 k) ∧ ∀ k, k ≠ 9 → k ≠ 10 → (Δ 4).2.1 k = (Γ 4).2.1 k := by
  obtain ⟨p1, p2, p3, hP⟩ := hP
  obtain ⟨c, hc, ⟨h0, h1⟩, h3, h4, h5, h6, h7, h8⟩ : ∃ c, 1 ≤ c ∧ ((2 : Int) = 2 ∧ kd i = 240) ∧ j = i + 2 * c + 1 ∧ hi = x + 1 + c ∧ σs.2 17 x = J 14 ∧ σs.2 18 x = J (pl i) ∧ σs.2 19 x = J (x + 1 : Nat) ∧ NMS kd rv pl σs (x + 1) c (i + 1) := by
    rcases hP with ⟨a, -⟩ | ⟨⟨a, -⟩, -⟩ | ⟨⟨a, -⟩, -⟩ | ⟨⟨-, a⟩, -⟩ | ⟨⟨-, a⟩, -⟩ | h | ⟨⟨-, a⟩, a', -⟩
    · omega
    · omega
    · omega
    · omega
    · omega
    · exact h
    · omega
  clear hP
  have ecc : (j - i - 1) / 2 = c := by omega
  rw [ecc] at hten ⊢
  have e17 : ρ.2 17 x = J 14 := by rw [hA.1 17 (by omega), h5]
  have hN : NML kd (i + 1) c := NMS_NML h8 hc ⟨by rw [show i + 1 + 2 * c - 1 = j - 1 by omega, p3]; omega, by rw [show i + 1 + 2 * c - 1 = j - 1 by omega, p3]; omega⟩
  obtain ⟨o, E, o1, o2, o3, o4, o5⟩ := WEF_wrd hW hk
  rw [h13, J_eq (by omega) (by omega) (by omega) (by omega)] at o3
  obtain rfl : n = o := by omega
  obtain ⟨⟨V, v1, v2, v3⟩, v4⟩ := OWN_WSO hF (by omega) hN hc (by omega) o4 hw hten hWl
  have m4 : Δ 4 = E 4 := o5.1 4 (by omega)
  obtain ⟨τ, t1, t2⟩ := r_words (nm := nm) (n := n) (b := (ow n).length) (c := c) (y0 := x + 1) (r := fun e => rv (i + 1 + 2 * e)) (again := again) (x := x) (ρ0 := ρ) hn.2 hten (by omega) (by omega) (fun e he => ⟨(hrv _ (by omega) (hN.1 e he)).1, (hF _ (by omega) (hN.1 e he)).1, (hrv _ (by omega) (hN.1 e he)).2⟩) c 0 ρ (by omega) hrn (fun e he => ⟨by rw [hA.1 19 (by omega)]; exact (h8 e he).1.2.2, by
    rw [hA.1 22 (by omega), (h8 e he).2.2.1]
    split <;> rfl⟩) ⟨rfl, fun _ _ _ _ => rfl, (hb n hn.1 hn.2).1, fun _ _ => rfl, fun e he => absurd he (by omega), fun _ _ => rfl, fun _ _ => rfl⟩ FU (FU_gt (by omega))
  refine ⟨τ, V, ?_, ⟨WST_m3 v1.1 m4 (o5.1 7 (by omega)), v1.2⟩, WOB_LWR hn hb (fun o a b => (hw.1.2 o a (by omega)).1) t2 hten (map_rng (f := fun e => nm (rv (i + 1 + 2 * e)).toNat) (n := c)), v2, v3, ⟨t2.1, t2.2.1⟩, fun k k9 k10 => by rw [m4, v4.2.2 k k9 k10]⟩
  rw [lpO_no (by omega) e17 (by omega), lpT11_no (by omega) e17 (by omega), lpT12_no (by omega) e17 (by omega), lpT15_no (by omega) e17 (by omega), lpT14_yes (by omega) e17, hA.1 19 (by omega), h7]
  rw [if_pos (by omega)] at t1
  rw [show J ((x + 1 : Nat) : Int) = J ((x + 1 + 0 : Nat) : Int) from rfl, t1, t2.2.1 22 (by omega) (by omega) (by omega), hA.1 22 (by omega)]
