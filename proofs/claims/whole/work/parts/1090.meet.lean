/-! a room, and no circle: both the same -/
variable {T N : Nat} {kd vl rv : Nat → Int} {pl : Nat → Nat}
theorem ITM_hd {σ : MS} {Γ : HS} {x hi i j p q nd no ne : Nat} (h : ITM kd vl rv pl σ Γ x hi i j p q nd no ne) : σ.2 17 x = J (kd i - 229) ∧ (kd i ≤ 236 → σ.2 19 x = J (x + 1 : Nat) ∧ NMN rv pl σ (x + 1) (i + 1)) ∧ σ.2 18 x = J (pl i) := by
  rcases h with ⟨a0, a1, k1, k2, k3, k4, k5, k6, k7, k8, k9, k10, -⟩ | ⟨a0, a1, k1, k2, k3, k4, k5, k6, k7, k8, k9, k10, -⟩ | ⟨a1, b1, b2, b3, b4, b5, b6, b7, -⟩ | ⟨a1, b1, b2, b3, b4, b5, b6, b7, b8, b9, -⟩ | ⟨a1, b1, b2, b3, b4, b5, b6, b7, b8, b9, b10, b11, b12, -⟩ | ⟨k0, k1, k2, k3, k4, k5, k6, -⟩ | ⟨k0, k1, k2, k3, k4, k5, -⟩ | ⟨k0, k1, k2, -⟩
  · exact ⟨by rw [a0]; exact k7, fun _ => ⟨k9, k10⟩, k8⟩
  · exact ⟨by rw [a0]; exact k7, fun _ => ⟨k9, k10⟩, k8⟩
  · exact ⟨by rw [b1]; exact b4, fun _ => ⟨b6, b7⟩, b5⟩
  · exact ⟨by rw [b1]; exact b6, fun _ => ⟨b8, b9⟩, b7⟩
  · exact ⟨by rw [b1]; exact b9, fun _ => ⟨b11, b12⟩, b10⟩
  · exact ⟨by rw [k0]; exact k3, fun _ => ⟨k5, k6⟩, k4⟩
  · exact ⟨by rw [k0]; exact k2, fun _ => ⟨k4, k5⟩, k3⟩
  · exact ⟨by rw [k0]; exact k1, fun h => by omega, k2⟩
theorem WEF_12 {Θ : HS} {cl : List Int} {g : Int} {σ : MS} {x hi i j : Nat} {Γ Δ : HS} (hP : PRT kd rv pl g σ x hi i j) (h : WEF Θ kd vl cl i Γ Δ) {k : Nat} (hk12 : k = 1 ∨ k = 2) : (Δ 4).2.1 k = (Γ 4).2.1 k := by
  obtain ⟨hk, -⟩ := PRT_key hP
  by_cases q : kd i = 219
  · rw [(WEF_in h q).1 4 (by omega)]; unfold inS; rw [cA4, if_neg (by omega)]
  by_cases q1 : kd i = 238
  · rw [(WEF_txt h q1).1 4 (by omega)]; unfold dsS; rw [cA4, if_neg (by omega)]
  by_cases q2 : kd i = 239
  · rw [(WEF_exi h q2).1 4 (by omega)]; unfold exS; rw [cA4, if_neg (by omega)]
  by_cases q3 : kd i = 240
  · obtain ⟨o, E, -, -, -, a, b⟩ := WEF_wrd h q3
    rw [b.1 4 (by omega), (OWN_fr a).1 k (by omega) (by omega)]
  · rw [(WEF_trt h (by omega)).1 4 (by omega)]; unfold IWtrait; rw [cA4, if_neg (by omega)]
/-- what a room or thing is, and where it is told to be -/
theorem pl_fix {Θ : HS} {cl : List Int} {σ : MS} {w : Int} {x hi i j n : Nat} {Γ E : HS} (hI : PLC kd rv pl w σ x hi i j) (hk : (w = 1 ∧ kd i = 230) ∨ (w = 2 ∧ kd i = 231)) (hF : FLT Θ kd vl cl i j Γ E) (hn : nsF Θ vl (i + 1) = n) (hn2 : 1 ≤ n ∧ n ≤ 120) : (E 4).2.1 1 n = vp_nar .boolean (if kd i = 230 then 1 else 0) ∧ (E 4).2.1 2 n = J (vl (i + 2)) ∧ (kd i = 230 → (E 4).2.1 4 n = (Γ 4).2.1 4 n) ∧ ((E 4).2.1 4 n = (Γ 4).2.1 4 n ∨ (E 4).2.1 4 n = 1 ∨ ∃ u, i ≤ u ∧ u + 1 < j ∧ kd u = 219 ∧ kd (u + 1) = 2 ∧ (E 4).2.1 4 n = J (nsF Θ vl (u + 1) : Nat)) := by
  have hk' : kd i = 230 ∨ kd i = 231 := by omega
  obtain ⟨f, cc, xs, it, H, f1, f2, f3, f4, f5, f6, f7, f8, f9, f10⟩ := pl_row hI hk' hF
  have e1 := WEF_obj f7 hk'
  rw [hn] at e1
  have h13 : (H 0 3).1 13 = J (n : Nat) := by
    rw [e1.2.1 13 (by omega) (by omega) (by omega) (by omega) (by omega)]; rfl
  have e4 := e1.1 4 (by omega)
  have key : ∀ k, k ≤ cc → (H k 3).1 13 = J (n : Nat) ∧ (H k 4).2.1 1 n = vp_nar .boolean (if kd i = 230 then 1 else 0) ∧ (H k 4).2.1 2 n = J (vl (i + 2)) ∧ (kd i = 230 → (H k 4).2.1 4 n = (Γ 4).2.1 4 n) ∧ ((H k 4).2.1 4 n = (Γ 4).2.1 4 n ∨ (H k 4).2.1 4 n = 1 ∨ ∃ u, i ≤ u ∧ u + 1 < j ∧ kd u = 219 ∧ kd (u + 1) = 2 ∧ (H k 4).2.1 4 n = J (nsF Θ vl (u + 1) : Nat)) := by
    intro k
    induction k with
    | zero =>
      intro _
      have a1 : ∀ r x, ((obS Γ n r x) 4).2.1 1 n = vp_nar .boolean r := fun r x => by unfold obS; rw [cA4, if_neg (by omega), cA4, if_pos rfl, upd_s, if_pos rfl]
      have a2 : ∀ r x, ((obS Γ n r x) 4).2.1 2 n = x := fun r x => by unfold obS; rw [cA4, if_pos rfl, gput_at (by omega) (by omega), if_pos rfl]
      have a4 : ∀ r x, ((obS Γ n r x) 4).2.1 4 n = (Γ 4).2.1 4 n := fun r x => by unfold obS; rw [cA4, if_neg (by omega), cA4, if_neg (by omega)]; rfl
      rw [e4, a1, a2, a4]
      exact ⟨h13, rfl, rfl, fun _ => rfl, Or.inl rfl⟩
    | succ k ih =>
      intro hkc
      obtain ⟨i1, i2, i3, i4, i5⟩ := ih (by omega)
      obtain ⟨g1, hi', hP, g2, g3⟩ := f6 k (by omega)
      have g4 := f10 k (by omega)
      have g5 := f10 (k + 1) (by omega)
      have es := WEF_start hP (f8 k (by omega)) i1 hn2.2
      refine ⟨by rw [WEF_13 hP (f8 k (by omega))]; exact i1, by rw [WEF_12 hP (f8 k (by omega)) (Or.inl rfl)]; exact i2, by rw [WEF_12 hP (f8 k (by omega)) (Or.inr rfl)]; exact i3, fun e => ?_, ?_⟩
      · have hne : kd (it k) ≠ 219 := by
          have hw : w = 1 := by omega
          rw [hw] at hP
          obtain ⟨-, -, -, hP⟩ := hP
          rcases hP with ⟨m0, -⟩ | ⟨m0, -⟩ | ⟨m0, -⟩ | ⟨m0, -⟩ | ⟨m0, -⟩ | ⟨e, he, m0, -⟩ | ⟨m0, -⟩ <;> omega
        rw [es, if_neg hne]; exact i4 e
      · rw [es]
        by_cases q : kd (it k) = 219
        · rw [if_pos q]
          by_cases q2 : kd (it k + 1) = 228
          · rw [if_pos q2]; exact Or.inr (Or.inl rfl)
          · rw [if_neg q2]
            refine Or.inr (Or.inr ⟨it k, by omega, ?_, q, ?_, rfl⟩)
            · obtain ⟨p1, p2, p3, hP⟩ := hP
              rcases hP with ⟨m0, -⟩ | ⟨m0, -⟩ | ⟨m0, -⟩ | ⟨m0, m1, m2, -⟩ | ⟨m0, m1, m2, -⟩ | ⟨e, he, m0, -⟩ | ⟨m0, m1, -⟩ <;> omega
            · obtain ⟨p1, p2, p3, hP⟩ := hP
              rcases hP with ⟨m0, -⟩ | ⟨m0, -⟩ | ⟨m0, -⟩ | ⟨m0, m1, m2, -⟩ | ⟨m0, m1, m2, -⟩ | ⟨e, he, m0, -⟩ | ⟨m0, m1, -⟩ <;> omega
        · rw [if_neg q]; exact i5
  obtain ⟨-, a, b, c, d⟩ := key cc (Nat.le_refl _)
  rw [f9.1 4 (by omega)]
  exact ⟨a, b, c, d⟩
theorem nar_b1 : vp_nar .boolean 1 = 1 := by decide
theorem nar_b0 : vp_nar .boolean 0 = 0 := by decide
/-- where each object is told to be -/
def stF (E : HS) (n k : Nat) : Nat := if 1 ≤ k ∧ k ≤ n then ((E 4).2.1 4 k).toInt.toNat else 0
/-- rooms, and where things are told to be: no circle -/
def WHX (kd : Nat → Int) (is : Nat → Nat) (c : Nat) (E : HS) (n : Nat) : Prop := (∃ z, z < c ∧ kd (is z) = 230) ∧ ∃ s : Nat → Nat, s 0 = 0 ∧ (∀ k, k ≤ n → s k ≤ n) ∧ (∀ k, 1 ≤ k → k ≤ n → (E 4).2.1 4 k = J (s k : Nat)) ∧ ∀ k, 1 ≤ k → k ≤ n → itn s n k = 0
theorem meet {G : Nat → HS} {Θ Γs : HS} {σs σK : MS} (hT : TKE T N kd vl rv pl) (hp : plm T pl) {cl : List Int} {c : Nat} {ls is ps ds os es : Nat → Nat} {S : Nat → MS} (hSD : SDN T N kd vl rv pl σs Γs c ls is S σK Θ) (hI : ITS kd vl rv pl σs Γs c ls is ps ds os es) (hl : ls c ≤ 39000) (hcT : is c = T) {K : Nat → HS} (hK : CROW T G Θ kd vl cl is c K) (hC : CT3 T N kd vl pl G Θ Γs T (K c)) (hc0 : (K c 4).2.1 0 0 = J (cN kd is 0 c : Nat)) (hn120 : cN kd is 0 c ≤ 120) (hi1 : ∀ x, x ≤ 120 → (K 0 4).2.1 1 x = 0) (hi4 : ∀ x, x ≤ 120 → (K 0 4).2.1 4 x = 0) (hgood : ∀ z, z < c → kd (is z) = 231 → ∀ u, is z ≤ u → u < is (z + 1) → kd u = 219 → kd (u + 1) = 2 → ksF Θ vl (u + 1) = 1 ∨ ksF Θ vl (u + 1) = 2) {υ : MS} (hA : AGM σs υ) (hKE : KE T kd vl rv Θ υ) (h35 : υ.1 35 = J (cN kd is 0 c : Nat)) (h24 : υ.1 24 = J (lsX ls c 0)) : Ok (F_X12_holds υ) (fun u => (∃ g, u.2 = mA υ 85 g) ∧ ((u.1 = 1 ∧ E3 (K c) = some ((0 : Int32), K c) ∧ WHX kd is c (K c) (cN kd is 0 c)) ∨ (u.1 = 0 ∧ E3 (K c) = some (J 6, failS (K c) pl 6 (N - 1))))) := by
  obtain ⟨hS, -, -, -, hfl, hc45, -, hr, hTB, hIk, hI2⟩ := id hSD
  have hN := INM_of hT hp hSD
  have hm := ITS_lt hI
  have hon : ∀ z, z < c → kd (is z) = 236 → cN kd is 5 z < 200 := fun z hz h => by
    have := row_lim hp hS hSD.2.1 hm.1 (by omega) hfl hc45 hz
    rw [h] at this; exact this
  have hobj : ∀ k, 2 ≤ k → k ≤ cN kd is 0 c → ∃ z, z < c ∧ kd (is z) ≤ 231 ∧ inum kd is z = k := obj_at c (Nat.le_refl _) hIk
  have hls : ∀ z, z < c → ls z < ls (z + 1) ∧ ls (z + 1) ≤ ls c := fun z hz => by
    have a := hm.2 z hz
    have b := is_le hm.2 (a := z + 1) (b := c) (by omega) (Nat.le_refl _)
    omega
  have hisT : ∀ z, z < c → is z < is (z + 1) ∧ is (z + 1) ≤ T := fun z hz => by
    have a := hm.1 z hz
    have b := is_le hm.1 (a := z + 1) (b := c) (by omega) (Nat.le_refl _)
    omega
  -- an object's item
  have plc : ∀ z, z < c → kd (is z) ≤ 231 → ∃ w, ((w = 1 ∧ kd (is z) = 230) ∨ (w = 2 ∧ kd (is z) = 231)) ∧ PLC kd rv pl w σs (ls z) (ls (z + 1)) (is z) (is (z + 1)) := fun z hz h => by
    have hk0 := hIk z hz
    rcases (hI z hz).1 with ⟨a0, a1, a⟩ | ⟨a0, a1, a⟩ | ⟨a1, a⟩ | ⟨a1, a⟩ | ⟨a1, a⟩ | a | a | a
    · exact ⟨1, Or.inl ⟨rfl, a0⟩, a⟩
    · exact ⟨2, Or.inr ⟨rfl, a0⟩, a⟩
    all_goals
      have := a.1
      omega
  have own : ∀ z, z < c → kd (is z) ≤ 231 → ∀ k, 1 ≤ k → k ≤ 5 → (K c 4).2.1 k (inum kd is z) = (K (z + 1) 4).2.1 k (inum kd is z) ∧ (K z 4).2.1 k (inum kd is z) = (K 0 4).2.1 k (inum kd is z) := fun z hz h k k1 k5 => row_own hI hN hon hK hz (Or.inl ⟨(hIk z hz).1, h, Or.inl ⟨k1, k5, rfl⟩⟩)
  have fix : ∀ z, z < c → kd (is z) ≤ 231 → (K (z + 1) 4).2.1 1 (inum kd is z) = vp_nar .boolean (if kd (is z) = 230 then 1 else 0) ∧ (K (z + 1) 4).2.1 2 (inum kd is z) = J (vl (is z + 2)) ∧ (kd (is z) = 230 → (K (z + 1) 4).2.1 4 (inum kd is z) = (K z 4).2.1 4 (inum kd is z)) ∧ ((K (z + 1) 4).2.1 4 (inum kd is z) = (K z 4).2.1 4 (inum kd is z) ∨ (K (z + 1) 4).2.1 4 (inum kd is z) = 1 ∨ ∃ u, is z ≤ u ∧ u + 1 < is (z + 1) ∧ kd u = 219 ∧ kd (u + 1) = 2 ∧ (K (z + 1) 4).2.1 4 (inum kd is z) = J (nsF Θ vl (u + 1) : Nat)) := fun z (hz : z < c) (h : kd (is z) ≤ 231) => by
    obtain ⟨w, hw, hP⟩ := plc z hz h
    obtain ⟨i1, i2, i3, -⟩ := hN z hz (by omega)
    exact pl_fix hP hw ((hK.1 z hz).1 (by omega)) i2 (i3 h)
  have hnam : ∀ u, u ≤ T → kd u = 2 → ksF Θ vl u = 1 ∨ ksF Θ vl u = 2 → nsF Θ vl u ≤ cN kd is 0 c := fun u hu hk h => by
    obtain ⟨z, z1, z2, z3⟩ := (nam_of hT hp hSD hu hk).1 h
    rw [z3]; exact (inum_le z1 (by omega)).2
  -- the places are numbers of objects
  have hst : ∀ k, 1 ≤ k → k ≤ cN kd is 0 c → (K c 4).2.1 4 k = J (stF (K c) (cN kd is 0 c) k : Nat) ∧ stF (K c) (cN kd is 0 c) k ≤ cN kd is 0 c := by
    intro k k1 k2
    have val : ∀ m : Nat, m ≤ cN kd is 0 c → (K c 4).2.1 4 k = J (m : Nat) → (K c 4).2.1 4 k = J (stF (K c) (cN kd is 0 c) k : Nat) ∧ stF (K c) (cN kd is 0 c) k ≤ cN kd is 0 c := fun m hm e => by
      have : stF (K c) (cN kd is 0 c) k = m := by
        unfold stF
        rw [if_pos ⟨k1, k2⟩, e, J_toInt (by omega) (by omega)]; rfl
      rw [this]; exact ⟨e, hm⟩
    rcases Nat.lt_or_ge k 2 with q | q
    · refine val 0 (by omega) ?_
      have := row_slot hI hN hon hK (k := 4) (x := k) (a := 0) c (by omega) (fun z _ z2 hh => by
        rcases hh with ⟨a1, a2, a⟩ | ⟨a1, a⟩ | ⟨a1, a2, a3⟩ | ⟨a1, a2, a3, a4⟩
        · have := inum_le (kd := kd) (is := is) (z := z) (c := c) (by omega) a2; omega
        · omega
        · omega
        · omega)
      rw [Nat.zero_add] at this
      rw [this, hi4 k (by omega)]; rfl
    · obtain ⟨z, z1, z2, z3⟩ := hobj k q k2
      obtain ⟨o1, o2⟩ := own z z1 z2 4 (by omega) (by omega)
      obtain ⟨x1, x2, x3, x4⟩ := fix z z1 z2
      rw [z3] at o1 o2 x4
      rw [o2, hi4 k (by omega)] at x4
      have ht := hisT z z1
      rcases x4 with e | e | ⟨u, u1, u2, u3, u4, e⟩
      · exact val 0 (by omega) (by rw [o1, e]; rfl)
      · exact val 1 (by omega) (by rw [o1, e]; rfl)
      · by_cases hroom : kd (is z) = 230
        · exact val 0 (by omega) (by have x3' := x3 hroom; rw [z3] at x3'; rw [o1, x3', o2, hi4 k (by omega)]; rfl)
        · have hk31 : kd (is z) = 231 := by have := hIk z z1; omega
          exact val _ (hnam (u + 1) (by omega) u4 (hgood z z1 hk31 u u1 (by omega) u3 u4)) (by rw [o1, e])
  have h0 : stF (K c) (cN kd is 0 c) 0 = 0 := by unfold stF; rw [if_neg (by omega)]
  have hle : ∀ k, k ≤ cN kd is 0 c → stF (K c) (cN kd is 0 c) k ≤ cN kd is 0 c := fun k hk => by
    by_cases e : 1 ≤ k
    · exact (hst k e hk).2
    · rw [show k = 0 by omega, h0]; omega
  -- rooms
  have hroom : (∃ k, 1 ≤ k ∧ k ≤ cN kd is 0 c ∧ (K c 4).2.1 1 k ≠ 0) ↔ ∃ z, z < c ∧ kd (is z) = 230 := by
    constructor
    · rintro ⟨k, k1, k2, k3⟩
      rcases Nat.lt_or_ge k 2 with q | q
      · exfalso
        apply k3
        have := row_slot hI hN hon hK (k := 1) (x := k) (a := 0) c (by omega) (fun z _ z2 hh => by
          rcases hh with ⟨a1, a2, a⟩ | ⟨a1, a⟩ | ⟨a1, a2, a3⟩ | ⟨a1, a2, a3, a4⟩
          · have := inum_le (kd := kd) (is := is) (z := z) (c := c) (by omega) a2; omega
          · omega
          · omega
          · omega)
        rw [Nat.zero_add] at this
        rw [this, hi1 k (by omega)]
      · obtain ⟨z, z1, z2, z3⟩ := hobj k q k2
        obtain ⟨o1, -⟩ := own z z1 z2 1 (by omega) (by omega)
        obtain ⟨x1, -⟩ := fix z z1 z2
        refine ⟨z, z1, ?_⟩
        by_cases e : kd (is z) = 230
        · exact e
        · exfalso
          apply k3
          rw [← z3, o1, x1, if_neg e, nar_b0]
    · rintro ⟨z, z1, z2⟩
      obtain ⟨o1, -⟩ := own z z1 (by omega) 1 (by omega) (by omega)
      obtain ⟨x1, -⟩ := fix z z1 (by omega)
      have := inum_le (kd := kd) (is := is) (z := z) (c := c) z1 (by omega)
      refine ⟨inum kd is z, by omega, this.2, ?_⟩
      rw [o1, x1, if_pos z2, nar_b1]; decide
  obtain ⟨g1, g2⟩ := c_E3 hT hC.1 hC.2.1 hc0 hn120 (fun k k1 k2 => (hst k k1 k2).1) h0 hle
  refine Ok_mono (r_holds (rv := rv) (kd := kd) (n := cN kd is 0 c) (c := c) (s := stF (K c) (cN kd is 0 c)) (ls := ls) (is := is) h35 hn120 h24 (by omega) (fun z hz => by have := hls z hz; omega) (fun z hz => by
    rw [ag_k hA (by omega), (hI z hz).2.1]
    unfold lsX; split <;> rfl) (fun z hz => ⟨(hIk z hz).1, (hIk z hz).2, by rw [ag_k hA (by omega)]; exact (ITM_hd (hI z hz).1).1⟩) (fun z hz h => ?_) (fun z z' hz hz' h h' e => inum_inj (kd := kd) (is := is) (by rw [h, h']) (by rw [h, h']) e) (fun k hk hno => ?_) h0 hle) (fun u hu => ⟨hu.1, ?_⟩)
  · obtain ⟨b1, b2, -⟩ := ITM_hd (hI z hz).1
    obtain ⟨b3, b4, b5, b6⟩ := b2 (by omega)
    obtain ⟨w1, w2⟩ := hI2 z hz (by omega)
    have hv := SC_vl hT w2 w1
    obtain ⟨i1, i2, i3, -⟩ := hN z hz (by omega)
    have i3 := i3 (by omega)
    obtain ⟨k1, k2, k3, k4⟩ := hKE (is z + 1) w2 w1
    have hil := inum_le (kd := kd) (is := is) (z := z) (c := c) hz (by omega)
    obtain ⟨o1, o2⟩ := own z hz (by omega) 4 (by omega) (by omega)
    refine ⟨by rw [ag_k hA (by omega)]; exact b3, by rw [ag_k hA (by omega)]; exact b6, ⟨by omega, by omega⟩, by rw [k2 (by omega), i2], hil.2, fun g => ?_⟩
    obtain ⟨w, hw, hP⟩ := plc z hz (by omega)
    have hw2 : w = 2 := by omega
    subst hw2
    have ht := hisT z hz
    have hl' := hls z hz
    have hAg : AGM σs (mA υ 85 g) := ⟨fun k hk => by rw [mA_2, if_neg (by omega)]; exact hA.1 k hk, fun y hy => by rw [mA_2, if_neg (by omega)]; exact hA.2.1 y hy, fun y h1 h2 h3 h4 => by rw [mA_2, if_neg (by omega)]; exact hA.2.2 y h1 h2 h3 h4⟩
    have hKg : KE T kd vl rv Θ (mA υ 85 g) := fun u hu hk => by rw [mA_2, if_neg (by omega), mA_2, if_neg (by omega)]; exact hKE u hu hk
    rw [r_told hT hP h ((hK.1 z hz).1 (by omega)) hAg hKg (by omega) (by omega) (by have := b1; rw [h] at this; exact this) i2 (by omega) (by rw [o2]; exact hi4 _ (by omega)) (fun u u1 u2 u3 u4 => by
      have := hgood z hz h u u1 u2 u3 u4; omega), ← o1, (hst _ (by omega) hil.2).1]
  · by_cases e : 1 ≤ k
    · rcases Nat.lt_or_ge k 2 with q | q
      · have hk1 : k = 1 := by omega
        have := row_slot hI hN hon hK (k := 4) (x := k) (a := 0) c (by omega) (fun z _ z2 hh => by
          rcases hh with ⟨a1, a2, a⟩ | ⟨a1, a⟩ | ⟨a1, a2, a3⟩ | ⟨a1, a2, a3, a4⟩
          · have := inum_le (kd := kd) (is := is) (z := z) (c := c) (by omega) a2; omega
          · omega
          · omega
          · omega)
        rw [Nat.zero_add] at this
        unfold stF
        rw [if_pos ⟨e, hk⟩, this, hi4 k (by omega)]; rfl
      · obtain ⟨z, z1, z2, z3⟩ := hobj k q hk
        have hr30 : kd (is z) = 230 := by
          have hq := hIk z z1
          by_cases e231 : kd (is z) = 231
          · exact absurd z3 (hno z z1 e231)
          · clear hno hobj plc own fix hst hroom; omega
        obtain ⟨o1, o2⟩ := own z z1 z2 4 (by omega) (by omega)
        obtain ⟨x1, x2, x3, x4⟩ := fix z z1 z2
        rw [z3] at o1 o2 x3
        unfold stF
        rw [if_pos ⟨e, hk⟩, o1, x3 hr30, o2, hi4 k (by omega)]; rfl
    · rw [show k = 0 by omega]; exact h0
  · rcases hu.2 with ⟨a, b, d⟩ | ⟨a, b⟩
    · exact Or.inl ⟨a, g1 ⟨hroom.mpr b, d⟩, b, _, h0, hle, fun k k1 k2 => (hst k k1 k2).1, d⟩
    · exact Or.inr ⟨a, g2 (fun h => b ⟨hroom.mp h.1, h.2⟩)⟩
