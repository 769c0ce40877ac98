/-! the third going through a room, thing, verb, var or array, the class -/
variable {T N : Nat} {kd vl rv : Nat → Int} {pl : Nat → Nat}
theorem CT3_r {G : Nat → HS} {Θ Γs Γ Δ : HS} {t : Nat} (h : CT3 T N kd vl pl G Θ Γs t Γ) (e : ∀ r, r ≠ 4 → r ≠ 7 → Δ r = Γ r) : CT3 T N kd vl pl G Θ Γs t Δ := by
  have e1 := e 1 (by omega) (by omega)
  have e3 := e 3 (by omega) (by omega)
  have e5 := e 5 (by omega) (by omega)
  obtain ⟨⟨hc1, hc2⟩, h16, hA, h3, h4, h6, h54⟩ := h
  exact ⟨⟨by rw [e1]; exact hc1, by rw [e1]; exact hc2⟩, by rw [e3]; exact h16, ⟨fun k hk => by rw [e3]; exact hA.1 k hk, by rw [e3]; exact hA.2⟩, by rw [e3]; exact h3, by rw [e3]; exact h4, by rw [e1]; exact h6, by rw [e5]; exact h54⟩
theorem CT3_obS {G : Nat → HS} {Θ Γs Γ : HS} {t n : Nat} {a b : Int32} (h : CT3 T N kd vl pl G Θ Γs t Γ) : CT3 T N kd vl pl G Θ Γs t (obS Γ n a b) := by
  obtain ⟨hc, h16, hA, h3, h4, h6, h54⟩ := h
  refine ⟨⟨hc.1, hc.2⟩, h16, ⟨fun k hk => ?_, hA.2⟩, h3, h4, h6, h54⟩
  rw [← hA.1 k hk]
  show upd _ _ _ _ = _
  unfold scI at hk
  rw [upd_s, if_neg (by omega)]
theorem fl_good (hT : TKE T N kd vl rv pl) {G : Nat → HS} (hG : GRW T N kd vl pl G) {Θ Γs Γ Γ1 : HS} {t : Nat} {x : Int32} (h : CT3 T N kd vl pl G Θ Γs t Γ) (ht : t < T) (hk : kd t ≠ 235) (hb : ¬ bodyW G t) (hi : F_X4_itemWord (J (t : Nat)) Γ = some (x, Γ1)) (h1 : CT3 T N kd vl pl G Θ Γs t Γ1) : ∃ Γ', (∀ n, loopF W3 (n + 1) (J (t : Nat), Γ) = loopF W3 n (J (t + 1 : Nat), Γ')) ∧ CT3 T N kd vl pl G Θ Γs (t + 1) Γ' ∧ m3 Γ1 Γ' := by
  obtain ⟨Γ', z1, z2, z3⟩ := c_istep hT hG h ht hk hb hi h1.1 (AGR_trans (AGR_symm h.2.2.1) h1.2.2.1)
  exact ⟨Γ', z1, CT3_m3 h1 z3 z2, z3⟩
/-- a fault that is found at word t -/
theorem fl_bad (hT : TKE T N kd vl rv pl) {G : Nat → HS} (hG : GRW T N kd vl pl G) {Θ Γs Γ X : HS} {t w j : Nat} {bad : Nat → Prop} {P : HS → HS → Prop} (h : CT3 T N kd vl pl G Θ Γs t Γ) (ht : t < T) (hk : kd t ≠ 235) (hb : ¬ bodyW G t) (hi : F_X4_itemWord (J (t : Nat)) Γ = some ((0 : Int32), X)) (hF : FS3 T N kd vl pl Γ X w) (hw : t ≤ w ∧ w < j) (hbw : bad w) (hn : ∀ v, t ≤ v → v < w → ¬ bad v) : CST T N kd vl pl G Θ Γs bad P t j Γ := by
  obtain ⟨n1, n2, n3, n4⟩ := TKE_N hT
  left
  obtain ⟨y, Γ', z1, z2, z3⟩ := g_next hT hG (t := t) ht hk hF.1 (AGR_trans h.2.2.1 hF.2.2.2.1)
  refine ⟨w, hw.1, hw.2, hbw, hn, Γ', fun n hn => ?_, by rw [z3.2.1 17 (by omega) (by omega) (by omega) (by omega) (by omega)]; exact hF.2.2.1, fun r r1 r3 r4 r7 => by rw [z3.1 r r3]; exact hF.2.2.2.2 r r3 r4⟩
  rw [show n = (n - 2) + 1 + 1 by omega, W3_item hT h.1 (show t < N by omega) h.2.1 h.2.2.1 hb, hi, Option.bind_some, z1, Option.bind_some]
  exact W3_fault (by rw [m3_16 z3]; exact hF.2.1) (by omega) _ _
/-- the words of a room, thing, verb, var or array as they must be -/
def FWT (kd vl : Nat → Int) (Θ : HS) (i j t : Nat) : Prop := ¬ (235 ≤ kd t ∧ kd t ≤ 237) ∧
  ((kd t = 230 ∨ kd t = 231) → t = i ∧ i + 2 < j ∧ kd (i + 1) = 2 ∧ ksF Θ vl (i + 1) ≠ 0 ∧ 1 ≤ nsF Θ vl (i + 1) ∧ nsF Θ vl (i + 1) ≤ 120)
  ∧ (kd t = 239 → kd i = 230 ∧ t + 2 < j ∧ kd (t + 2) = 2 ∧ kd (t + 1) ≠ 2)
  ∧ (kd t = 219 → kd i = 231 ∧ t + 1 < j ∧ (kd (t + 1) = 228 ∨ kd (t + 1) = 2))
  ∧ (kd t = 240 → kd i = 231 ∧ ∃ c, 1 ≤ c ∧ NML kd (t + 1) c ∧ t + 1 + 2 * c ≤ j)
  ∧ (kd t = 232 → kd (t + 1) = 2 ∧ (ksF Θ vl (t + 1) ≠ 0 ∧ nsF Θ vl (t + 1) ≤ 60) ∧ ∃ c, 1 ≤ c ∧ NML kd (t + 2) c ∧ t + 2 + 2 * c ≤ j ∧ (kd (t + 2 + 2 * c - 1) = 215 → kd (t + 2 + 2 * c) = 2))
  ∧ (kd t = 233 → kd (t + 1) = 2 ∧ ksF Θ vl (t + 1) ≠ 0 ∧ t + 4 < j ∧ (kd (t + 3) = 45 ∨ kd (t + 3) = 3))
def FWH (T : Nat) (kd vl : Nat → Int) (G : Nat → HS) (Θ : HS) (i j : Nat) : Prop := ∀ t, i ≤ t → t < j → ¬ bodyW G t ∧ (∀ u, u ≤ T → kd u = 2 → (G t 3).2.1 5 (vl u).toNat = 0) ∧ FWT kd vl Θ i j t
/-- a word outside of blocks that is no trait -/
def IWA (t : Nat) (kd : Nat → Int) (Γ : HS) : HR := if J (kd t) = 219 then (F_X4_inPart (J (t : Nat) + 1) Γ).bind fun u_11 => some ((0 : Int32), u_11.2) else if J (kd t) = 230 ∨ J (kd t) = 231 then (if J (kd t) = 230 then IWobj (J (t : Nat)) 1 Γ else IWobj (J (t : Nat)) 0 Γ) else if J (kd t) = 232 then (F_X4_verbItem (J (t : Nat)) Γ).bind fun u_39 => some (0, u_39.2) else if J (kd t) = 233 then (F_X4_varItem (J (t : Nat)) Γ).bind fun u_44 => some (0, u_44.2) else if J (kd t) = 235 then loopF Di1 FU ((J (t : Nat) + 3), Γ) else if J (kd t) = 236 then (F_X4_onItem (J (t : Nat)) Γ).bind fun u_74 => some (0, u_74.2) else if J (kd t) = 238 then (F_X10_worthOf (J (t : Nat) + 1) Γ).bind fun u_79 => some (0, cA' (mrg (fun j => j == 1) Γ u_79.2) 4 3 (g_put 121 (((mrg (fun j => j == 1) Γ u_79.2) 4).2.1 3) ((Γ 3).1 13) u_79.1)) else if J (kd t) = 239 then (F_X4_exitPart (J (t : Nat)) Γ).bind fun u_88 => some (0, u_88.2) else if J (kd t) = 240 then (F_X4_ownWords ((Γ 3).1 13) (J (t : Nat) + 1) Γ).bind fun u_93 => some (0, u_93.2) else some (0, Γ)
theorem iw_A (hT : TKE T N kd vl rv pl) {Γ : HS} {t : Nat} (hc : TKc N kd vl pl Γ) (ht : t < N) (hk : ¬ (206 ≤ kd t ∧ kd t ≤ 212)) : F_X4_itemWord (J (t : Nat)) Γ = IWA t kd Γ := by
  have hkr := kd_le hT ht
  rw [itemWord_eq, c_kindOf hT hc ht, Option.bind_some, bndE, mrg1_id, bndE]
  dsimp only
  by_cases q : kd t < 206
  · rw [if_pos (show J (kd t) < 206 by rw [show (206 : Int32) = J 206 from rfl, J_lt (by omega) (by omega) (by omega) (by omega)]; exact q)]
    rfl
  · rw [if_neg (show ¬ J (kd t) < 206 by rw [show (206 : Int32) = J 206 from rfl, J_lt (by omega) (by omega) (by omega) (by omega)]; exact q), if_pos (show 212 < J (kd t) by rw [show (212 : Int32) = J 212 from rfl, J_lt (by omega) (by omega) (by omega) (by omega)]; omega)]
    rfl
theorem iw_T (hT : TKE T N kd vl rv pl) {Γ : HS} {t : Nat} (hc : TKc N kd vl pl Γ) (ht : t < N) (hk : 206 ≤ kd t ∧ kd t ≤ 212) : F_X4_itemWord (J (t : Nat)) Γ = some ((0 : Int32), IWtrait (J (kd t)) Γ) := by
  have hkr := kd_le hT ht
  rw [itemWord_eq, c_kindOf hT hc ht, Option.bind_some, bndE, mrg1_id, bndE]
  dsimp only
  rw [if_neg (show ¬ J (kd t) < 206 by rw [show (206 : Int32) = J 206 from rfl, J_lt (by omega) (by omega) (by omega) (by omega)]; omega), if_neg (show ¬ 212 < J (kd t) by rw [show (212 : Int32) = J 212 from rfl, J_lt (by omega) (by omega) (by omega) (by omega)]; omega)]
theorem c_flat (hT : TKE T N kd vl rv pl) {cl : List Int} (hcl : cl.length ≤ 4500) (hvl : ∀ u, u ≤ T → kd u = 2 → (vl u).toNat < cl.length) {G : Nat → HS} (hG : GRW T N kd vl pl G) {Θ Γs : HS} {c z : Nat} {is : Nat → Nat} (hm : ∀ z, z < c → is z < is (z + 1)) (hz : z < c) (hj : is (z + 1) ≤ T) (hks : ∀ u, u ≤ T → kd u = 2 → 0 ≤ ksF Θ vl u ∧ ksF Θ vl u ≤ 6 ∧ (ksF Θ vl u ≠ 0 → (Θ 3).2.1 4 (vl u).toNat = J (nsF Θ vl u : Nat))) (hpre : is z ≠ 0 → kd (is z - 1) ≠ 239) (hki : kd (is z) ≠ 236 ∧ kd (is z) ≠ 2 ∧ kd (is z) ≠ 239) (hW : FWH T kd vl G Θ (is z) (is (z + 1))) : ∀ (d t : Nat) (Γ : HS), t + d = is (z + 1) → is z ≤ t → CT3 T N kd vl pl G Θ Γs t Γ → cnam cl Γ → (∃ W, DOK Γ W) → (is z < t → kd (is z) = 230 ∨ kd (is z) = 231 → (Γ 3).1 13 = J (nsF Θ vl (is z + 1) : Nat) ∧ 1 ≤ nsF Θ vl (is z + 1) ∧ nsF Θ vl (is z + 1) ≤ 120) → (∀ v, is z ≤ v → v < t → (kd v = 239 → ksF Θ vl (v + 2) = 1) ∧ (kd v = 219 → kd (v + 1) = 2 → ksF Θ vl (v + 1) = 1 ∨ ksF Θ vl (v + 1) = 2)) → CST T N kd vl pl G Θ Γs (badW G Θ Γs kd vl c is) (fun Γ E => FLT Θ kd vl cl t (is (z + 1)) Γ E ∧ (∃ W, DOK E W) ∧ (∀ r, r ≠ 3 → r ≠ 4 → r ≠ 7 → E r = Γ r) ∧ (∀ k, k ≠ 7 → k ≠ 8 → k ≠ 9 → k ≠ 11 → k ≠ 12 → k ≠ 13 → (E 3).1 k = (Γ 3).1 k)) t (is (z + 1)) Γ := by
  obtain ⟨n1, n2, n3, n4⟩ := TKE_N hT
  intro d
  induction d with
  | zero =>
    intro t Γ ht hit h hcn hD _ _
    obtain rfl : t = is (z + 1) := by omega
    exact Or.inr ⟨fun w w1 w2 => by omega, Γ, fun n => by rw [Nat.sub_self]; rfl, h, ⟨fun _ => Γ, rfl, rfl, fun t t1 t2 => by omega⟩, hD, fun _ _ _ _ => rfl, fun _ _ _ _ _ _ _ => rfl⟩
  | succ d ih =>
    intro t Γ ht hit h hcn hD h13 hgd
    obtain ⟨w1, w2, w3, w4, w5, w6, w7, w8, w9⟩ := hW t hit (by omega)
    have htj : t < is (z + 1) := by clear w4 w5 w6 w7 w8 w9; omega
    have h235 : kd t ≠ 235 ∧ kd t ≠ 236 := by clear w4 w5 w6 w7 w8 w9; omega
    have hkr := kd_le hT (show t < N by omega)
    have hA' := fun v (v1 : is z ≤ v) (v2 : v < is (z + 1)) => badW_A (Γs := Γs) (Θ := Θ) (kd := kd) (vl := vl) (G := G) hm hz v1 v2 (hW v v1 v2).1
    have nb2 : ∀ v, is z ≤ v → v < is (z + 1) → kd v ≠ 2 → ¬ badW G Θ Γs kd vl c is v := fun v v1 v2 hk hb => badA_k hki.1 hk ((hA' v v1 v2).mp hb)
    have nbt : ¬ badW G Θ Γs kd vl c is t := by
      intro hb
      rcases (hA' t hit htj).mp hb with ⟨a1, a2, a3, a4⟩ | ⟨a1, a2, a3, a4, a5⟩ | a | a | a
      · rcases Nat.lt_or_ge (t - 2) (is z) with q | q
        · by_cases e : t = is z
          · rw [e] at a3; exact hki.2.1 a3
          · have et : t = is z + 1 := by omega
            rw [et, show is z + 1 - 2 = is z - 1 by omega] at a2
            exact hpre (by omega) a2
        · by_cases e : t < 2
          · rw [show t - 2 = 0 by omega] at a2 q
            rw [show is z = 0 by omega] at hki
            exact hki.2.2 a2
          · have := (hgd (t - 2) q (by omega)).1 a2
            rw [show t - 2 + 2 = t by omega] at this
            exact a4 this
      · by_cases e : t = is z
        · rw [e] at a3; exact hki.2.1 a3
        · have := (hgd (t - 1) (by omega) (by omega)).2 a2
          rw [show t - 1 + 1 = t by omega] at this
          rcases this a3 with q | q
          · exact a4 q
          · exact a5 q
      · exact hki.1 a.1
      · exact hki.1 a.1
      · exact hki.1 a.1
    -- a good word
    have good : ∀ (x : Int32) (Γ1 : HS), F_X4_itemWord (J (t : Nat)) Γ = some (x, Γ1) → CT3 T N kd vl pl G Θ Γs t Γ1 → (∃ W, DOK Γ1 W) → (∀ r, r ≠ 3 → r ≠ 4 → r ≠ 7 → Γ1 r = Γ r) → (∀ k, k ≠ 13 → (Γ1 3).1 k = (Γ 3).1 k) → (kd (is z) = 230 ∨ kd (is z) = 231 → (Γ1 3).1 13 = J (nsF Θ vl (is z + 1) : Nat) ∧ 1 ≤ nsF Θ vl (is z + 1) ∧ nsF Θ vl (is z + 1) ≤ 120) → ((kd t = 239 → ksF Θ vl (t + 2) = 1) ∧ (kd t = 219 → kd (t + 1) = 2 → ksF Θ vl (t + 1) = 1 ∨ ksF Θ vl (t + 1) = 2)) → (∀ Δ, m3 Γ1 Δ → WEF Θ kd vl cl t Γ Δ) → CST T N kd vl pl G Θ Γs (badW G Θ Γs kd vl c is) (fun Γ E => FLT Θ kd vl cl t (is (z + 1)) Γ E ∧ (∃ W, DOK E W) ∧ (∀ r, r ≠ 3 → r ≠ 4 → r ≠ 7 → E r = Γ r) ∧ (∀ k, k ≠ 7 → k ≠ 8 → k ≠ 9 → k ≠ 11 → k ≠ 12 → k ≠ 13 → (E 3).1 k = (Γ 3).1 k)) t (is (z + 1)) Γ := by
      intro x Γ1 e1 e2 e3 e4 e5 e6 e7 e8
      obtain ⟨Γ', z1, z2, z3⟩ := fl_good hT hG h (show t < T by omega) h235.1 w1 e1 e2
      have er : ∀ r, r ≠ 3 → r ≠ 4 → r ≠ 7 → Γ' r = Γ r := fun r r3 r4 r7 => by rw [z3.1 r r3, e4 r r3 r4 r7]
      have hcn' : cnam cl Γ' := cnam_congr hcn (by rw [er 1 (by omega) (by omega) (by omega)]) (by rw [er 1 (by omega) (by omega) (by omega)]) (by rw [er 1 (by omega) (by omega) (by omega)])
      have hD' : ∃ W, DOK Γ' W := by
        obtain ⟨W, p, hp⟩ := e3
        have e7 := z3.1 7 (by omega)
        refine ⟨W, p, ?_⟩
        unfold DOp at hp ⊢
        rw [e7]; exact hp
      have key := ih (t + 1) Γ' (by omega) (by omega) z2 hcn' hD' (fun _ hk => by rw [z3.2.1 13 (by omega) (by omega) (by omega) (by omega) (by omega)]; exact e6 hk) (fun v v1 v2 => by
        by_cases e : v = t
        · rw [e]; exact e7
        · exact hgd v v1 (by omega))
      have e53 : ∀ k, k ≠ 7 → k ≠ 8 → k ≠ 9 → k ≠ 11 → k ≠ 12 → k ≠ 13 → (Γ' 3).1 k = (Γ 3).1 k := fun k k1 k2 k3 k4 k5 k6 => by rw [z3.2.1 k k1 k2 k3 k4 k5, e5 k k6]
      rcases key with ⟨w, x1, x2, x3, x4, X, x5, x6, x7⟩ | ⟨x1, E, x2, x3, ⟨H, y1, y2, y3⟩, x5, x6, x7⟩
      · refine Or.inl ⟨w, by omega, x2, x3, fun v v1 v2 => ?_, X, fun n hn => ?_, x6, fun r r1 r3 r4 r7 => by rw [x7 r r1 r3 r4 r7, er r r3 r4 r7]⟩
        · by_cases q : v = t
          · rw [q]; exact nbt
          · exact x4 v (by omega) v2
        · rw [show n = (n - 1) + 1 by omega, z1]
          exact x5 _ (by omega)
      · refine Or.inr ⟨fun w v1 v2 => ?_, E, fun n => ?_, x3, ⟨fun y => if y = t then Γ else H y, by dsimp only; rw [if_pos rfl], by dsimp only; rw [if_neg (by omega)]; exact y2, fun y v1 v2 => ?_⟩, x5, fun r r3 r4 r7 => by rw [x6 r r3 r4 r7, er r r3 r4 r7], fun k k1 k2 k3 k4 k5 k6 => by rw [x7 k k1 k2 k3 k4 k5 k6, e53 k k1 k2 k3 k4 k5 k6]⟩
        · by_cases q : w = t
          · rw [q]; exact nbt
          · exact x1 w (by omega) v2
        · rw [show n + (is (z + 1) - t) = (n + (is (z + 1) - (t + 1))) + 1 by omega, z1]
          exact x2 n
        · dsimp only
          by_cases q : y = t
          · subst q
            rw [if_pos rfl, if_neg (by omega), y1]
            exact e8 Γ' z3
          · rw [if_neg q, if_neg (by omega)]
            exact y3 y (by omega) v2
    have j1 : J (t : Nat) + 1 = J (t + 1 : Nat) := by rw [J_lit, J_add]; rfl
    have h13' : kd t ≠ kd (is z) → kd (is z) = 230 ∨ kd (is z) = 231 → (Γ 3).1 13 = J (nsF Θ vl (is z + 1) : Nat) ∧ 1 ≤ nsF Θ vl (is z + 1) ∧ nsF Θ vl (is z + 1) ≤ 120 := fun hne hk => h13 (by
      have : t ≠ is z := fun e => hne (by rw [e])
      omega) hk
    by_cases qT : 206 ≤ kd t ∧ kd t ≤ 212
    · exact good 0 _ (iw_T hT h.1 (show t < N by omega) qT) h hD (fun r _ r4 _ => by unfold IWtrait; rw [cA_r, if_neg r4]) (fun _ _ => rfl) (fun hk => h13' (by omega) hk) ⟨fun q => by omega, fun q => by omega⟩ (fun Δ hΔ => by unfold WEF; rw [if_neg (by omega), if_neg (by omega), if_pos qT]; exact hΔ)
    have iw := iw_A hT h.1 (show t < N by omega) qT
    by_cases q1 : 230 ≤ kd t ∧ kd t ≤ 231
    · obtain ⟨e1, e2, e3, e4, e5, e6⟩ := w4 (by omega)
      subst e1
      have hu := hks (is z + 1) (by omega) e3
      have go := fun (isR : Int32) => c_objW hT (isR := isR) h (show is z + 2 ≤ T by omega) e3 (w2 _ (by omega) e3) (hu.2.2 e4) e6
      refine good 0 (obS Γ (nsF Θ vl (is z + 1)) (if kd (is z) = 230 then 1 else 0) (J (vl (is z + 2)))) ?_ (CT3_obS h) hD (fun r r3 r4 _ => by unfold obS; rw [cA_r, if_neg r4, cA_r, if_neg r4, cI_r, if_neg r3]) (fun k hk => ?_) (fun _ => ⟨rfl, e5, e6⟩) ⟨fun q => by omega, fun q => by omega⟩ (fun Δ hΔ => by unfold WEF; rw [if_pos (by omega)]; exact hΔ)
      · rw [iw]
        unfold IWA
        by_cases q : kd (is z) = 230
        · rw [q, if_neg (show ¬ J 230 = 219 by decide), if_pos (show J 230 = 230 ∨ J 230 = 231 from Or.inl rfl), if_pos (show J 230 = 230 from rfl), if_pos rfl]
          exact go 1
        · have q' : kd (is z) = 231 := by omega
          rw [q', if_neg (show ¬ J 231 = 219 by decide), if_pos (show J 231 = 230 ∨ J 231 = 231 from Or.inr rfl), if_neg (by decide), if_neg (by decide)]
          exact go 0
      · show upd _ _ _ _ = _
        rw [upd_s, if_neg hk]
    by_cases q2 : kd t = 238
    · refine good 0 (dsS Γ (J (vl (t + 1)))) ?_ h hD (fun r _ r4 _ => by unfold dsS; rw [cA_r, if_neg r4]) (fun _ _ => rfl) (fun hk => h13' (by omega) hk) ⟨fun q => by omega, fun q => by omega⟩ (fun Δ hΔ => by unfold WEF; rw [if_neg (by omega), if_pos q2]; exact hΔ)
      rw [iw]
      unfold IWA
      rw [q2, if_neg (show ¬ J 238 = 219 by decide), if_neg (by decide), if_neg (by decide), if_neg (by decide), if_neg (by decide), if_neg (by decide), if_pos (show J 238 = 238 from rfl), j1, c_worthOf hT h.1 (show t + 1 < N by omega), Option.bind_some]
      dsimp only
      rw [mrg1_id]
      rfl
    by_cases q3 : kd t = 239
    · obtain ⟨e1, e2, e3, e4⟩ := w5 q3
      have hu := hks (t + 2) (by omega) e3
      obtain ⟨c1, c2⟩ := c_exit hT h (show t + 2 ≤ T by omega) e3 (w2 _ (by omega) e3) hu
      have ei : ∀ X, F_X4_exitPart (J (t : Nat)) Γ = some ((0 : Int32), X) → F_X4_itemWord (J (t : Nat)) Γ = some ((0 : Int32), X) := by
        intro X hX
        rw [iw]
        unfold IWA
        rw [q3, if_neg (show ¬ J 239 = 219 by decide), if_neg (by decide), if_neg (by decide), if_neg (by decide), if_neg (by decide), if_neg (by decide), if_neg (by decide), if_pos (show J 239 = 239 from rfl), hX, Option.bind_some]
      by_cases q : ksF Θ vl (t + 2) = 1
      · exact good 0 _ (ei _ (c1 q)) h hD (fun r _ r4 _ => by unfold exS; rw [cA_r, if_neg r4]) (fun _ _ => rfl) (fun hk => h13' (by omega) hk) ⟨fun _ => q, fun q => by omega⟩ (fun Δ hΔ => by unfold WEF; rw [if_neg (by omega), if_neg (by omega), if_neg (by omega), if_pos q3]; exact hΔ)
      · obtain ⟨X, x1, x2⟩ := c2 q
        exact fl_bad hT hG h (show t < T by omega) h235.1 w1 (ei _ x1) x2 ⟨by omega, e2⟩ ((hA' (t + 2) (by omega) e2).mpr (Or.inl ⟨e1, by rw [show t + 2 - 2 = t by omega]; exact q3, e3, q⟩)) (fun v v1 v2 => nb2 v (by omega) (by omega) (by
          by_cases e : v = t
          · rw [e]; omega
          · rw [show v = t + 1 by omega]; exact e4))
    by_cases q4 : kd t = 219
    · obtain ⟨e1, e2, e3⟩ := w6 q4
      have ei : ∀ X, F_X4_inPart (J (t + 1 : Nat)) Γ = some ((0 : Int32), X) → F_X4_itemWord (J (t : Nat)) Γ = some ((0 : Int32), X) := by
        intro X hX
        rw [iw]
        unfold IWA
        rw [q4, if_pos (show J 219 = 219 from rfl), j1, hX, Option.bind_some]
      have wef : ∀ Δ, m3 (inS Γ (if kd (t + 1) = 228 then 1 else J (nsF Θ vl (t + 1) : Nat))) Δ → WEF Θ kd vl cl t Γ Δ := fun Δ hΔ => by unfold WEF; rw [if_neg (by omega), if_neg (by omega), if_neg (by omega), if_neg (by omega), if_pos q4]; exact hΔ
      by_cases q : kd (t + 1) = 228
      · rw [if_pos q] at wef
        exact good 0 _ (ei _ (c_inP hT h.1 (show t + 1 < N by omega) q)) h hD (fun r _ r4 _ => by unfold inS; rw [cA_r, if_neg r4]) (fun _ _ => rfl) (fun hk => h13' (by omega) hk) ⟨fun q => by omega, fun _ q' => by omega⟩ wef
      · rw [if_neg q] at wef
        have e3 : kd (t + 1) = 2 := by omega
        have hu := hks (t + 1) (by omega) e3
        obtain ⟨c1, c2⟩ := c_in hT h (show t + 1 ≤ T by omega) e3 (w2 _ (by omega) e3) hu
        by_cases q5 : ksF Θ vl (t + 1) = 1 ∨ ksF Θ vl (t + 1) = 2
        · exact good 0 _ (ei _ (c1 q5)) h hD (fun r _ r4 _ => by unfold inS; rw [cA_r, if_neg r4]) (fun _ _ => rfl) (fun hk => h13' (by omega) hk) ⟨fun q => by omega, fun _ _ => q5⟩ wef
        · obtain ⟨X, x1, x2⟩ := c2 ⟨fun q => q5 (Or.inl q), fun q => q5 (Or.inr q)⟩
          exact fl_bad hT hG h (show t < T by omega) h235.1 w1 (ei _ x1) x2 ⟨by omega, e2⟩ ((hA' (t + 1) (by omega) e2).mpr (Or.inr (Or.inl ⟨e1, by rw [show t + 1 - 1 = t by omega]; exact q4, e3, fun q => q5 (Or.inl q), fun q => q5 (Or.inr q)⟩))) (fun v v1 v2 => nb2 v (by omega) (by omega) (by rw [show v = t by omega]; omega))
    by_cases q5 : kd t = 240
    · obtain ⟨e1, cc, e2, e3, e4⟩ := w7 q5
      have hb := h13' (by omega) (Or.inr e1)
      obtain ⟨E, f1, f2⟩ := c_ownWords hT hcl hvl (o := nsF Θ vl (is z + 1)) (i := t + 1) hb.2.1 (by omega) e2 e3 (by omega) h.1 hcn hD
      obtain ⟨f3, f4⟩ := OWN_D f2 hD
      refine good 0 E ?_ (CT3_r h f4) f3 (fun r _ r4 r7 => f4 r r4 r7) (fun k _ => by rw [f4 3 (by omega) (by omega)]) (fun hk => by rw [f4 3 (by omega) (by omega)]; exact hb) ⟨fun q => by omega, fun q => by omega⟩ (fun Δ hΔ => by unfold WEF; rw [if_neg (by omega), if_neg (by omega), if_neg (by omega), if_neg (by omega), if_neg (by omega), if_pos q5]; exact ⟨_, E, hb.2.1, hb.2.2, hb.1, f2, hΔ⟩)
      rw [iw]
      unfold IWA
      rw [q5, if_neg (show ¬ J 240 = 219 by decide), if_neg (by decide), if_neg (by decide), if_neg (by decide), if_neg (by decide), if_neg (by decide), if_neg (by decide), if_neg (by decide), if_pos (show J 240 = 240 from rfl), hb.1, j1, f1, Option.bind_some]
    by_cases q6 : kd t = 232
    · obtain ⟨e1, e2, cc, e3, e4, e5, e6⟩ := w8 q6
      have hu := hks (t + 1) (by omega) e1
      obtain ⟨E, f1, f2⟩ := c_verbW hT hcl hvl h hcn hD e1 (w2 _ (by omega) e1) (hu.2.2 e2.1) e2.2 e3 e4 (by omega) e6
      have f3 : (∃ W, DOK E W) ∧ ∀ r, r ≠ 4 → r ≠ 7 → E r = Γ r := by
        obtain ⟨F, c', -, -, g1, g2⟩ := f2
        obtain ⟨g3, g4⟩ := OWN_D g1 hD
        unfold JNT at g2
        by_cases q : kd (t + 2 + 2 * c' - 1) = 215
        · rw [if_pos q] at g2
          obtain ⟨g5, W, V, m, -, g6, -⟩ := g2
          exact ⟨⟨V, g6⟩, fun r r4 r7 => by rw [g5 r r4 r7, g4 r r4 r7]⟩
        · rw [if_neg q] at g2
          rw [g2]; exact ⟨g3, g4⟩
      refine good 0 E ?_ (CT3_r h f3.2) f3.1 (fun r _ r4 r7 => f3.2 r r4 r7) (fun k _ => by rw [f3.2 3 (by omega) (by omega)]) (fun hk => by rw [f3.2 3 (by omega) (by omega)]; exact h13' (by omega) hk) ⟨fun q => by omega, fun q => by omega⟩ (fun Δ hΔ => by unfold WEF; rw [if_neg (by omega), if_neg (by omega), if_neg (by omega), if_neg (by omega), if_neg (by omega), if_neg (by omega), if_pos q6]; exact ⟨E, f2, hΔ⟩)
      rw [iw]
      unfold IWA
      rw [q6, if_neg (show ¬ J 232 = 219 by decide), if_neg (by decide), if_pos (show J 232 = 232 from rfl), f1, Option.bind_some]
    by_cases q7 : kd t = 233
    · obtain ⟨e1, e2, e3, e4⟩ := w9 q7
      have hu := hks (t + 1) (by omega) e1
      have f1 := c_varW hT h (show t + 4 ≤ T by omega) e1 (w2 _ (by omega) e1) (hu.2.2 e2) e4
      refine good 0 _ ?_ (show CT3 T N kd vl pl G Θ Γs t (vrS Γ (nsF Θ vl (t + 1)) (if kd (t + 3) = 45 then J (-(vl (t + 4))) else J (vl (t + 3)))) from h) hD (fun r _ r4 _ => by unfold vrS; rw [cA_r, if_neg r4]) (fun _ _ => rfl) (fun hk => h13' (by omega) hk) ⟨fun q => by omega, fun q => by omega⟩ (fun Δ hΔ => by unfold WEF; rw [if_neg (by omega), if_neg (by omega), if_neg (by omega), if_neg (by omega), if_neg (by omega), if_neg (by omega), if_neg (by omega), if_pos q7]; exact hΔ)
      rw [iw]
      unfold IWA
      rw [q7, if_neg (show ¬ J 233 = 219 by decide), if_neg (by decide), if_neg (by decide), if_pos (show J 233 = 233 from rfl), f1, Option.bind_some]
    · exact good 0 Γ (ci_no hT h.1 (show t < N by omega) ⟨qT, q4, by clear w4 w5 w6 w7 w8 w9; omega, h235.1, h235.2, by clear w4 w5 w6 w7 w8 w9; omega⟩) h hD (fun _ _ _ _ => rfl) (fun _ _ => rfl) (fun hk => h13 (by
        have : t ≠ is z := fun e => by rw [e] at q1; omega
        omega) hk) ⟨fun q => absurd q q3, fun q => absurd q q4⟩ (fun Δ hΔ => by unfold WEF; rw [if_neg (by omega), if_neg q2, if_neg qT, if_neg q3, if_neg q4, if_neg q5, if_neg q6, if_neg q7]; exact hΔ)
