/-! who has which word, in both -/
/-- the letters of a term are those of a source's word: the terms' numbers are one -/
theorem eqT_tm {w v : List Int} (hw : nmW w) (hv : TW v) : eqT w v = true ↔ tm9 w = tm9 v := by
  obtain ⟨v1, v2, v3⟩ := hv
  have hn := TW_nmW ⟨v1, v2, v3⟩
  rw [eqT_iff]
  constructor
  · rintro ⟨h1, h2⟩
    have hs := wsz_or w
    have hl : wmn w = v.length := by
      rcases hs with hs | ⟨hs, -⟩ <;> omega
    unfold tm9
    refine dgF_congr 9 (fun k hk => ?_)
    unfold dgw
    unfold wmn at hl
    by_cases q : k < v.length
    · rw [if_pos q, if_pos (by split at hl <;> omega), h2 k q]
    · rw [if_neg q, if_neg (by split at hl <;> omega)]
  · intro h
    have hd := tm9_inj hw hn h
    have w1 := hw.1
    have hl : ∀ k, k < 9 → (k < w.length ↔ k < v.length) := by
      intro k hk
      have := hd k hk
      unfold dgw at this
      split at this <;> split at this <;> rename_i q q2
      · exact ⟨fun _ => q2, fun _ => q⟩
      · have := nsg_rng (hw.2.2 k q); omega
      · have := nsg_rng (hn.2.2 k q2); omega
      · exact ⟨fun h => absurd h q, fun h => absurd h q2⟩
    have hc : ∀ k, k < v.length → w.getD k 0 = v.getD k 0 := by
      intro k hk
      have hkw := (hl k (by omega)).mpr hk
      have := hd k (by omega)
      unfold dgw at this
      rw [if_pos hk, if_pos hkw] at this
      exact nsg_inj (hw.2.2 k hkw) (hn.2.2 k hk) this
    have hm : wmn w = v.length := by
      unfold wmn
      by_cases q : w.length < 9
      · rw [if_pos q]
        have a1 := hl w.length q
        rcases Nat.lt_or_ge v.length 9 with g | g
        · have a2 := hl v.length g
          omega
        · omega
      · rw [if_neg q]
        have := hl 8 (by omega)
        omega
    refine ⟨?_, hc⟩
    unfold wsz
    rw [if_pos (fun k hk => ?_), hm]
    have := isLt_iff.mp (v3 k (by omega))
    rw [hc k (by omega)]
    exact lowB_iff.mpr this
/-- the dictionary has each word once -/
theorem DOK_inj {Γ : HS} {W : List Int} (h : DOK Γ W) {m m' : Nat} (hm : m < W.length) (hm' : m' < W.length) (e : W.getD m 0 = W.getD m' 0) : m = m' := by
  obtain ⟨p, a1, a2, a3, a4, a5, a6⟩ := h
  obtain ⟨i, i1, rfl⟩ := a6 m hm
  obtain ⟨j, j1, rfl⟩ := a6 m' hm'
  rcases Nat.lt_trichotomy i j with q | q | q
  · have := a5 i j q j1; omega
  · rw [q]
  · have := a5 j i q i1; omega
/-- a term's number is a word's: they are one word -/
theorem TNO_eq {Γ : HS} {W : List Int} (h : DOK Γ W) {z : Int} {t : Int} {m : Nat} (hz : TNO W z t) (hm : m < W.length) : z = (m : Int) ↔ W.getD m 0 = t := by
  rcases hz with ⟨k, rfl, k1, k2⟩ | ⟨rfl, k2⟩
  · constructor
    · intro e
      have : k = m := by omega
      rw [← this]; exact k2
    · intro e
      have := DOK_inj h k1 hm (k2.trans e.symm)
      rw [this]
  · constructor
    · intro e; omega
    · intro e; exact absurd e (k2 m hm)
theorem TNO_rng {W : List Int} {z : Int} {t : Int} (hz : TNO W z t) (hW : W.length < 2000) : -1 ≤ z ∧ z < 2000 := by
  rcases hz with ⟨k, rfl, k1, k2⟩ | ⟨rfl, k2⟩ <;> omega
theorem DOK_len {Γ : HS} {W : List Int} (h : DOK Γ W) : W.length < 2000 := by
  obtain ⟨p, a1, a2, -⟩ := h; exact a2
/-- whether one of the words is the term -/
def anyT (ws : List (List Int)) (v : List Int) : Bool := ws.any (fun w => eqT w v)
theorem anyT_iff {ws : List (List Int)} {v : List Int} : anyT ws v = true ↔ ∃ e, e < ws.length ∧ eqT (ws.getD e []) v = true := by
  unfold anyT
  rw [List.any_eq_true]
  constructor
  · rintro ⟨w, hw, he⟩
    obtain ⟨i, hi, rfl⟩ := List.getElem_of_mem hw
    exact ⟨i, hi, by rw [List.getD_eq_getElem?_getD, List.getElem?_eq_getElem hi]; exact he⟩
  · rintro ⟨e, he, h⟩
    refine ⟨ws.getD e [], ?_, h⟩
    rw [List.getD_eq_getElem?_getD, List.getElem?_eq_getElem he]; exact List.getElem_mem he
theorem c_owns {Γ : HS} {W : List Int} {ow : Nat → List (List Int)} (h : WSO Γ W ow) {o : Nat} (ho : 1 ≤ o) (ho2 : o ≤ 180) {z : Int} {v : List Int} (hz : TNO W z (tm9 v)) (hv : TW v) : F_X7_owns (J (o : Nat)) (J z) Γ = some (if anyT (ow o) v = true then 1 else 0, Γ) := by
  obtain ⟨⟨hD, hO⟩, hN⟩ := h
  obtain ⟨b1, b2, b3⟩ := hO o ho ho2
  have hW := DOK_len hD
  have hzr := TNO_rng hz hW
  dsimp only at b1 b2 b3
  have go : ∀ (d e m : Nat), e + d = (ow o).length → d < m → (∀ j, j < e → eqT ((ow o).getD j []) v = false) → loopF (OwB (J (o : Nat)) (J z) (J ((ow o).length : Nat))) m (J (e : Nat), Γ) = some (if anyT (ow o) v = true then 1 else 0, Γ) := by
    intro d
    induction d with
    | zero =>
      intro e m he hm hd
      obtain ⟨m, rfl⟩ : ∃ j, m = j + 1 := ⟨m - 1, by omega⟩
      rw [OwB_s, if_pos (by rw [J_le (by omega) (by omega) (by omega) (by omega)]; omega), if_neg]
      intro c
      obtain ⟨j, j1, j2⟩ := anyT_iff.mp c
      rw [hd j (by omega)] at j2; cases j2
    | succ d ih =>
      intro e m he hm hd
      obtain ⟨m, rfl⟩ : ∃ j, m = j + 1 := ⟨m - 1, by omega⟩
      obtain ⟨k, k1, k2, k3⟩ := b3 e (by omega)
      rw [OwB_s, if_neg (by rw [J_le (by omega) (by omega) (by omega) (by omega)]; omega), if_neg (by rw [show (10 : Int32) = J ((10 : Nat) : Int) from rfl, J_le (by omega) (by omega) (by omega) (by omega)]; omega), show J (o : Nat) * 10 + J (e : Nat) = J (10 * o + e : Nat) by rw [show (10 : Int32) = J 10 from rfl, J_mul, J_add]; congr 1; omega, bndE, q_g_at_in (by omega) (by omega) (by omega), Int.toNat_natCast, k2, bndE]
      have ek : (J (k : Nat) = J z) = (eqT ((ow o).getD e []) v = true) := by
        rw [J_eq (by omega) (by omega) (by omega) (by omega)]
        apply propext
        rw [eqT_tm (hN o e ho ho2 (by omega)) hv, ← k3]
        rw [← TNO_eq hD hz k1]
        exact ⟨fun h => h.symm, fun h => h.symm⟩
      by_cases q : eqT ((ow o).getD e []) v = true
      · rw [if_pos (by rw [ek]; exact q), if_pos (anyT_iff.mpr ⟨e, by omega, q⟩)]
      · rw [if_neg (by rw [ek]; exact q), bndE, J_suc]
        exact ih (e + 1) m (by omega) (by omega) (fun j hj => by
          by_cases c : j = e
          · rw [c]; exact Bool.eq_false_iff.mpr q
          · exact hd j (by omega))
  rw [owns_eq, q_g_at_in (by omega) (by omega) (by omega), Int.toNat_natCast, b2, bndE]
  exact go (ow o).length 0 FU (by omega) (FU_gt (by omega)) (fun j hj => by omega)
theorem r_hasWord {σ : MS} {ow : Nat → List (List Int)} {ws : List (List Int)} (h : WOB σ ow) {x t : Nat} (hx : 1 ≤ x) (hx2 : x ≤ 120) (hT : TRr σ ws) (ht : t < ws.length) (h10 : (ow x).length ≤ 10) : F_X12_hasWord (J (x : Nat)) (J (t : Nat)) σ = some (if anyT (ow x) (ws.getD t []) = true then 1 else 0, σ) := by
  obtain ⟨b1, b2⟩ := h x hx hx2
  have go : ∀ (d e m : Nat), e + d = (ow x).length → d < m → (∀ j, j < e → eqT ((ow x).getD j []) (ws.getD t []) = false) → loopF (HwB (J (x : Nat)) (J (t : Nat))) m (J (10 * x + e : Nat), σ) = some (if anyT (ow x) (ws.getD t []) = true then 1 else 0, σ) := by
    intro d
    induction d with
    | zero =>
      intro e m he hm hd
      obtain ⟨m, rfl⟩ : ∃ j, m = j + 1 := ⟨m - 1, by omega⟩
      rw [HwB_s, if_neg (gNn (by omega) (by omega)), J_natN (by omega), b1, show 10 * J (x : Nat) + J ((ow x).length : Nat) = J (10 * x + (ow x).length : Nat) by rw [show (10 : Int32) = J 10 from rfl, J_mul, J_add]; congr 1, bndE, if_pos (by rw [J_le (by omega) (by omega) (by omega) (by omega)]; omega), if_neg]
      intro c
      obtain ⟨j, j1, j2⟩ := anyT_iff.mp c
      rw [hd j (by omega)] at j2; cases j2
    | succ d ih =>
      intro e m he hm hd
      obtain ⟨m, rfl⟩ : ∃ j, m = j + 1 := ⟨m - 1, by omega⟩
      obtain ⟨k1, k2⟩ := b2 e (by omega)
      have r := r_isO (p := 9 * (10 * x + e)) hT ht (by omega) k2
      rw [HwB_s, if_neg (gNn (by omega) (by omega)), J_natN (by omega), b1, show 10 * J (x : Nat) + J ((ow x).length : Nat) = J (10 * x + (ow x).length : Nat) by rw [show (10 : Int32) = J 10 from rfl, J_mul, J_add]; congr 1, bndE, if_neg (by rw [J_le (by omega) (by omega) (by omega) (by omega)]; omega), if_neg (gNn (by omega) (by omega)), J_natN (by omega), k1, show 9 * J (10 * x + e : Nat) = J (9 * (10 * x + e) : Nat) by rw [show (9 : Int32) = J 9 from rfl, J_mul]; rfl, r, Option.bind_some]
      dsimp only
      by_cases q : eqT ((ow x).getD e []) (ws.getD t []) = true
      · rw [if_pos q, if_neg (by decide), if_pos (anyT_iff.mpr ⟨e, by omega, q⟩)]
      · rw [if_neg q, if_pos rfl, bndE, J_suc]
        exact ih (e + 1) m (by omega) (by omega) (fun j hj => by
          by_cases c : j = e
          · rw [c]; exact Bool.eq_false_iff.mpr q
          · exact hd j (by omega))
  rw [hw_eq, show 10 * J (x : Nat) = J (10 * x + 0 : Nat) by rw [show (10 : Int32) = J 10 from rfl, J_mul]; congr 1]
  exact go (ow x).length 0 FU (by omega) (FU_gt (by omega)) (fun j hj => by omega)
/-- the words of a verb as the reference has them -/
def VWR (σ : MS) (v : Nat) (l : List (List Int)) : Prop := σ.2 59 v = J (l.length : Nat) ∧ ∀ e, e < l.length → RW 57 58 σ (10 * v + e) (l.getD e [])
theorem r_verbHas {σ : MS} {l : List (List Int)} {ws : List (List Int)} {v : Nat} (h : VWR σ v l) (hv2 : v ≤ 60) (hT : TRr σ ws) (ht : 0 < ws.length) (h10 : l.length ≤ 10) : F_X12_verbHas (J (v : Nat)) σ = some (if anyT l (ws.getD 0 []) = true then 1 else 0, σ) := by
  obtain ⟨b1, b2⟩ := h
  have go : ∀ (d e m : Nat), e + d = l.length → d < m → (∀ j, j < e → eqT (l.getD j []) (ws.getD 0 []) = false) → loopF (VhB (J (v : Nat))) m (J (10 * v + e : Nat), σ) = some (if anyT l (ws.getD 0 []) = true then 1 else 0, σ) := by
    intro d
    induction d with
    | zero =>
      intro e m he hm hd
      obtain ⟨m, rfl⟩ : ∃ j, m = j + 1 := ⟨m - 1, by omega⟩
      rw [VhB_s, if_neg (gNn (by omega) (by omega)), J_natN (by omega), b1, show 10 * J (v : Nat) + J (l.length : Nat) = J (10 * v + l.length : Nat) by rw [show (10 : Int32) = J 10 from rfl, J_mul, J_add]; congr 1, bndE, if_pos (by rw [J_le (by omega) (by omega) (by omega) (by omega)]; omega), if_neg]
      intro c
      obtain ⟨j, j1, j2⟩ := anyT_iff.mp c
      rw [hd j (by omega)] at j2; cases j2
    | succ d ih =>
      intro e m he hm hd
      obtain ⟨m, rfl⟩ : ∃ j, m = j + 1 := ⟨m - 1, by omega⟩
      obtain ⟨k1, k2⟩ := b2 e (by omega)
      have r : F_X12_isTerm__verbBytes 0 (J (9 * (10 * v + e) : Nat)) (J (wsz (l.getD e []))) σ = _ := r_isV (p := 9 * (10 * v + e)) hT ht (by omega) k2
      rw [VhB_s, if_neg (gNn (by omega) (by omega)), J_natN (by omega), b1, show 10 * J (v : Nat) + J (l.length : Nat) = J (10 * v + l.length : Nat) by rw [show (10 : Int32) = J 10 from rfl, J_mul, J_add]; congr 1, bndE, if_neg (by rw [J_le (by omega) (by omega) (by omega) (by omega)]; omega), if_neg (gNn (by omega) (by omega)), J_natN (by omega), k1, show 9 * J (10 * v + e : Nat) = J (9 * (10 * v + e) : Nat) by rw [show (9 : Int32) = J 9 from rfl, J_mul]; rfl, r, Option.bind_some]
      dsimp only
      by_cases q : eqT (l.getD e []) (ws.getD 0 []) = true
      · rw [if_pos q, if_neg (by decide), if_pos (anyT_iff.mpr ⟨e, by omega, q⟩)]
      · rw [if_neg q, if_pos rfl, bndE, J_suc]
        exact ih (e + 1) m (by omega) (by omega) (fun j hj => by
          by_cases c : j = e
          · rw [c]; exact Bool.eq_false_iff.mpr q
          · exact hd j (by omega))
  rw [vh_eq, show 10 * J (v : Nat) = J (10 * v + 0 : Nat) by rw [show (10 : Int32) = J 10 from rfl, J_mul]; congr 1]
  exact go l.length 0 FU (by omega) (FU_gt (by omega)) (fun j hj => by omega)
