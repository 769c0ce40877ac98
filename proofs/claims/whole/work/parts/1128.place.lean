/-! the reference lays a room or thing, whole: in both -/
variable {T N : Nat} {kd vl rv : Nat → Int} {pl : Nat → Nat}
theorem wsm_0 {it js : Nat → Nat} {c : Nat} (h : ∀ k, k < c → kd (it k) ≠ 240) : ∀ k, k ≤ c → wsm kd it js k = 0 := by
  intro k
  induction k with
  | zero => intro _; rfl
  | succ k ih =>
    intro hk
    show wsm kd it js k + (if _ then _ else 0) = 0
    rw [ih (by omega), if_neg (h k (by omega))]
theorem AGM_keep {σs ρ ρ' : MS} (h : AGM σs ρ) (e : ∀ k, 17 ≤ k → k ≤ 22 → ρ'.2 k = ρ.2 k) : AGM σs ρ' := ⟨fun k hk => by rw [e k (by omega) (by omega)]; exact h.1 k hk, fun y hy => by rw [e 20 (by omega) (by omega)]; exact h.2.1 y hy, fun y a b c d => by rw [e 21 (by omega) (by omega)]; exact h.2.2 y a b c d⟩
theorem plS_1 {σ : MS} {w : Int} {n t : Nat} {a b s : Int32} {k : Nat} : (plS σ w n t a b s).1 k = if k = 63 then fRm σ w n else σ.1 k := rfl
theorem plS_2 {σ : MS} {w : Int} {n t : Nat} {a b s : Int32} {k : Nat} : (plS σ w n t a b s).2 k = if k = 52 then upd (σ.2 52) n s else if k = 50 then upd (σ.2 50) n (J (t : Nat)) else if k = 47 then upd (σ.2 47) n b else if k = 46 then upd (σ.2 46) n a else σ.2 k := by
  unfold plS
  rw [mA_2]
  by_cases q : k = 52
  · rw [if_pos q, if_pos q]
  · rw [if_neg q, if_neg q]
    show (mA (mA (mA σ 46 (upd (σ.2 46) n a)) 47 (upd (σ.2 47) n b)) 50 (upd (σ.2 50) n (J (t : Nat)))).2 k = _
    rw [mA_2, mA_2, mA_2]
theorem lp_place (hT : TKE T N kd vl rv pl) {b : Nat → Int} {L m : Nat} {nm : Nat → List Int} {cl : List Int} (hF : NMF b L T m nm cl kd vl rv pl) {Θ : HS} {w : Int} {σs ρ : MS} {x hi i j n w0 : Nat} {Γ E : HS} {W : List Int} {ow : Nat → List (List Int)} (hI : PLC kd rv pl w σs x hi i j) (hk : (w = 1 ∧ kd i = 230) ∨ (w = 2 ∧ kd i = 231)) (hFL : FLT Θ kd vl cl i j Γ E) (hN : nsF Θ vl (i + 1) = n) (hn : 1 ≤ n ∧ n ≤ 120) (hA : AGM σs ρ) (hKE : KE T kd vl rv Θ ρ) (hrn : rnam m nm ρ) (hrv : ∀ u, u ≤ T → kd u = 2 → 0 ≤ rv u ∧ rv u < 8000) (hr4 : ∀ u, u ≤ T → kd u = 4 → 0 ≤ rv u) (hj : j ≤ T) (hx : hi ≤ 39000) (c3 : (Γ 4).2.1 3 n = J (-1)) (c6 : ∀ d, 1 ≤ d → d ≤ 6 → (Γ 4).2.1 6 (6 * n + d - 1) = J ((0 : Nat) : Int)) (c5 : (Γ 4).2.1 5 n = J ((0 : Nat) : Int)) (c4 : (Γ 4).2.1 4 n = 0) (z122 : ρ.2 122 n = 0) (z52 : ρ.2 52 n = 0) (z7 : ∀ y, y < 7 → ρ.2 51 (7 * n + y) = 0 ∧ ρ.2 53 (7 * n + y) = 0) (hw : WSO Γ W ow) (hb : WOB ρ ow) (h0 : (ow n).length = 0) (hW : W.length ≤ w0) (hw0 : w0 + 20 ≤ 1999) (hE : ∀ u, i ≤ u → u < j → kd u = 239 → ksF Θ vl (u + 2) = 1 ∧ nsF Θ vl (u + 2) ≤ 120) (hG : ∀ u, i ≤ u → u < j → kd u = 219 → kd (u + 1) = 2 → ksF Θ vl (u + 1) ≠ 0 ∧ nsF Θ vl (u + 1) ≤ 120) (hten : w = 2 → ∀ (d : Nat) (xs lt it js : Nat → Nat), σs.2 20 x = J (if 0 < d then (xs 0 : Int) else -1) → (∀ k, k < d → σs.2 22 (xs k) = J (if k + 1 < d then (xs (k + 1) : Int) else -1)) → (∀ k, k < d → lt k = xs k ∧ P17 kd rv pl σs (xs k) (lt (k + 1)) (it k) (js k)) → (∀ k, k ≤ d → lt k ≤ hi) → (∀ e, e < d → lt e ≤ lt (e + 1)) → PWD kd it js d → it 0 = i + 4 → it d = j - 1 → lt d ≤ lt 0 + 9000 → ∀ k, k ≤ d → wsm kd it js k ≤ 10) : ∃ (ρ' : MS) (W' : List Int) (ow' : Nat → List (List Int)), F_X12_layPlace (J (x : Nat)) (J (n : Nat)) ρ = some ((0 : Int32), ρ') ∧ OBF T kd rv vl pl ρ' E n ∧ PFP n ρ ρ' ∧ ρ'.1 63 = fRm ρ w n ∧ WSO E W' ow' ∧ WOB ρ' ow' ∧ (∀ o, o ≠ n → ow' o = ow o) ∧ W'.length ≤ w0 + 10 ∧ AGM σs ρ' ∧ KE T kd vl rv Θ ρ' ∧ rnam m nm ρ' ∧ PRE W W' ∧ PLX kd vl Θ i j w ρ' E n (ow' n).length := by
  have hT1 := hT.1
  have hw12 : w = 1 ∨ w = 2 := by omega
  have hk' : kd i = 230 ∨ kd i = 231 := by omega
  obtain ⟨x1, x2, x3, x4⟩ := pl_fix hI hk hFL hN hn
  obtain ⟨f, cc, xs, it, lt, js, H, f1, f2, f3, f4, f5, f6, f7, f8, f9, f10, f11, f12⟩ := pl_row2 hI hk' hFL
  obtain ⟨k1, k2, k3, k4, k5, k6, k7, k8, k9, k10, k11, k12, k13, k14, -⟩ := id hI
  have e1 := WEF_obj f7 hk'
  rw [hN] at e1
  have h13 : (H 0 3).1 13 = J (n : Nat) := by
    rw [e1.2.1 13 (by omega) (by omega) (by omega) (by omega) (by omega)]; rfl
  have e4 : ∀ q, q ≠ 1 → q ≠ 2 → (H 0 4).2.1 q = (Γ 4).2.1 q := fun q q1 q2 => by
    rw [e1.1 4 (by omega)]
    unfold obS
    rw [cA4g, if_neg q2, cA4g, if_neg q1]; rfl
  have e7 : H 0 7 = Γ 7 := by
    rw [e1.1 7 (by omega)]
    unfold obS
    rw [cA_r, if_neg (by omega), cA_r, if_neg (by omega), cI_r, if_neg (by omega)]
  have m4 : E 4 = H cc 4 := f9.1 4 (by omega)
  have m7 : E 7 = H cc 7 := f9.1 7 (by omega)
  -- where it is
  obtain ⟨s, s1, s2⟩ : ∃ s : Nat, s ≤ 120 ∧ (E 4).2.1 4 n = J (s : Nat) := by
    rcases x4 with e | e | ⟨u, u1, u2, u3, u4, e⟩
    · exact ⟨0, by omega, by rw [e, c4]; rfl⟩
    · exact ⟨1, by omega, by rw [e]; rfl⟩
    · exact ⟨_, (hG u u1 (by omega) u3 u4).2, e⟩
  have hs1 : w = 1 → J (s : Nat) = ρ.2 52 n := fun h => by
    rw [z52, ← s2, x3 (by omega), c4]
  have hr2 := hr4 (i + 2) (by omega) k4
  have n35 : σs.2 17 (x + 2) ≠ J 41 := by rw [k12]; decide
  have nw : ∀ v : Int, (v = 41 ∨ v = 42 ∨ v = 43 ∨ v = 33) → σs.2 17 x ≠ J v := fun v hv => by
    rw [k7, Ne, J_eq (by omega) (by omega) (by omega) (by omega)]; omega
  have a20 : ρ.2 20 x = J f := by rw [hA.2.1 x (nw 41 (by omega))]; exact f1
  have hhead := r_placeHead (σ := ρ) (w := w) (x := x) (n := n) (r := (rv (i + 2)).toNat) (p := pl (i + 2)) (s := J (s : Nat)) (by omega) hn.2 hw12 (by rw [hA.1 17 (by omega)]; exact k7) (by rw [hA.2.2 x (nw 41 (by omega)) (nw 42 (by omega)) (nw 43 (by omega)) (nw 33 (by omega))]; exact k11) (by rw [hA.1 18 (by omega)]; exact k13) (by rw [hA.2.1 (x + 2) n35, k14, Int.toNat_of_nonneg hr2]) hs1 (fun h2 υ hυ => by
    subst h2
    rw [← s2]
    exact r_told hT hI (by omega) hFL (AGM_keep hA (fun k a b => hυ k a (by omega))) (KE_K hKE ⟨hυ 28 (by omega) (by omega), hυ 29 (by omega) (by omega), hυ 30 (by omega) (by omega)⟩) (by omega) hj k7 hN hn c4 (fun u u1 u2 u3 u4 => (hG u u1 u2 u3 u4).1))
  generalize hρ1 : plS ρ w n (if w = 1 then 1 else 0) (J (pl (i + 2) + 1 : Nat)) (J ((rv (i + 2)).toNat : Nat)) (J (s : Nat)) = ρ1 at hhead
  have r2 : ∀ q, q ≠ 46 → q ≠ 47 → q ≠ 50 → q ≠ 52 → ρ1.2 q = ρ.2 q := fun q a b c d => by
    rw [← hρ1, plS_2, if_neg d, if_neg c, if_neg b, if_neg a]
  have hL : LPI T kd vl rv pl m nm Θ σs n w0 W ow (wsm kd it js 0) ρ1 ρ1 (H 0) := by
    refine ⟨AGM_keep hA (fun k a b => r2 k (by omega) (by omega) (by omega) (by omega)), KE_K hKE ⟨r2 28 (by omega) (by omega) (by omega) (by omega), r2 29 (by omega) (by omega) (by omega) (by omega), r2 30 (by omega) (by omega) (by omega) (by omega)⟩, rnam_congr hrn (by rw [← hρ1, plS_1, if_neg (by omega)]) (r2 11 (by omega) (by omega) (by omega) (by omega)) (r2 12 (by omega) (by omega) (by omega) (by omega)), ⟨Or.inl ⟨by rw [r2 122 (by omega) (by omega) (by omega) (by omega)]; exact z122, by rw [e4 3 (by omega) (by omega)]; exact c3⟩, fun d d1 d2 => ⟨0, by omega, by rw [r2 51 (by omega) (by omega) (by omega) (by omega), (z7 d (by omega)).1]; rfl, by rw [e4 6 (by omega) (by omega)]; exact c6 d d1 d2⟩, 0, by omega, by rw [e4 5 (by omega) (by omega)]; exact c5, fun a ha => ?_⟩, h13, PFO_rfl, W, ow, ⟨⟨DOK_7 hw.1.1 e7, fun o o1 o2 => by rw [e4 9 (by omega) (by omega), e4 10 (by omega) (by omega)]; exact hw.1.2 o o1 o2⟩, hw.2⟩, fun o o1 o2 => ?_, h0, fun _ _ => rfl, by omega, PRE_rfl⟩
    · rw [r2 53 (by omega) (by omega) (by omega) (by omega), (z7 a ha).2, if_neg (by rw [Nat.zero_testBit]; decide)]
    · rw [r2 56 (by omega) (by omega) (by omega) (by omega)]
      refine ⟨(hb o o1 o2).1, fun e he => ⟨?_, fun k hk => ?_⟩⟩
      · rw [r2 55 (by omega) (by omega) (by omega) (by omega)]; exact ((hb o o1 o2).2 e he).1
      · rw [r2 54 (by omega) (by omega) (by omega) (by omega)]; exact ((hb o o1 o2).2 e he).2 k hk
  have hten' : ∀ k, k ≤ cc → wsm kd it js k ≤ 10 := by
    rcases hw12 with rfl | rfl
    · intro k hk
      rw [wsm_0 (c := cc) (fun k hk => by
        obtain ⟨-, hi', hp, -⟩ := f6 k hk
        obtain ⟨-, -, -, hP'⟩ := hp
        rcases hP' with ⟨a, -⟩ | ⟨⟨-, a⟩, -⟩ | ⟨⟨-, a⟩, -⟩ | ⟨⟨a, -⟩, -⟩ | ⟨⟨a, -⟩, -⟩ | ⟨c', -, ⟨a, -⟩, -⟩ | ⟨⟨a, -⟩, -⟩
        all_goals omega) k hk]
      omega
    · obtain ⟨g1, g2, g3, g4, g5⟩ := f12 rfl
      exact hten rfl cc xs lt it js (by
        rw [f1, f2]
        by_cases q : cc = 0
        · rw [if_pos q, if_neg (by omega)]
        · rw [if_neg q, if_pos (by omega)]) f3 g1 g2 g3 g4 f4 f5 (by omega)
  obtain ⟨ρ', l1, l2⟩ := lp_loop (hi := hi) hF hw12 hrv (by omega) hn f3 (fun k hk => by
    obtain ⟨a, hi', b, c, -⟩ := f6 k hk
    exact ⟨a, hi', b, c⟩) f8 f11 (fun k hk => by have := (f10 k hk).2; omega) (fun k hk => hE (it k) (by have := (f10 k (by omega)).1; omega) (by
      have a := (f10 (k + 1) (by omega)).2
      have b := (f6 k hk).1
      omega)) hw0 hten' cc 0 ρ1 (by omega) hL FU (FU_gt (by have := (f10 cc (Nat.le_refl _)).1; omega))
  obtain ⟨q1, q2, q3, q4, q5, q6, W', ow', q7, q8, q9, q10, q11, q12⟩ := l2
  obtain ⟨p1, p2, p3, p4⟩ := q6
  have keep : ∀ k, k = 46 ∨ k = 47 ∨ k = 50 ∨ k = 52 → ρ'.2 k = ρ1.2 k := fun k hk => p2 k (by omega) (by omega) (by omega) (by omega) (by omega) (by omega)
  refine ⟨ρ', W', ow', ?_, ⟨?_, ⟨i + 2, by omega, k4, ?_, ?_, x2⟩, ⟨if w = 1 then 1 else 0, by split <;> omega, ?_, ?_⟩, s, s1, ?_, s2⟩, ⟨fun k hk => ?_, fun k hk h122 => ?_, fun y hy k hk => ?_, fun y hy => ?_⟩, ?_, ⟨WST_m3 q7.1 m4 m7, q7.2⟩, q8, q10, by have := hten' cc (Nat.le_refl _); omega, q1, q2, q3, q12, ?_, fun h => ⟨?_, ?_⟩, fun d d1 d2 => ?_⟩
  · rw [hhead, a20, f2]
    have : (if cc = 0 then (-1 : Int) else (xs 0 : Int)) = if 0 < cc then (xs 0 : Int) else -1 := by
      by_cases q : cc = 0
      · rw [if_pos q, if_neg (by omega)]
      · rw [if_neg q, if_pos (by omega)]
    rw [this]; exact l1
  · obtain ⟨y1, y2, y3⟩ := q4
    exact ⟨by rw [m4]; exact y1, fun d d1 d2 => by rw [m4]; exact y2 d d1 d2, by rw [m4]; exact y3⟩
  · rw [keep 46 (by omega), ← hρ1, plS_2, if_neg (by omega), if_neg (by omega), if_neg (by omega), if_pos rfl, upd_s, if_pos rfl]
  · rw [keep 47 (by omega), ← hρ1, plS_2, if_neg (by omega), if_neg (by omega), if_pos rfl, upd_s, if_pos rfl, Int.toNat_of_nonneg hr2]
  · rw [keep 50 (by omega), ← hρ1, plS_2, if_neg (by omega), if_pos rfl, upd_s, if_pos rfl]
  · rw [x1]
    rcases hk with ⟨rfl, hk⟩ | ⟨rfl, hk⟩
    · rw [if_pos hk]; rfl
    · rw [if_neg (by omega)]; rfl
  · rw [keep 52 (by omega), ← hρ1, plS_2, if_pos rfl, upd_s, if_pos rfl]
  · rw [p1, ← hρ1, plS_1, if_neg hk]
  · rw [p2 k (by omega) (by omega) h122 (by omega) (by omega) (by omega), r2 k (by omega) (by omega) (by omega) (by omega)]
  · obtain ⟨z1, z2, z3⟩ := p3 y hy
    have hks : k = 46 ∨ k = 47 ∨ k = 48 ∨ k = 49 ∨ k = 50 ∨ k = 52 ∨ k = 122 := by omega
    rcases hks with rfl | rfl | rfl | rfl | rfl | rfl | rfl
    · rw [keep 46 (by omega), ← hρ1, plS_2, if_neg (by omega), if_neg (by omega), if_neg (by omega), if_pos rfl, upd_s, if_neg hy]
    · rw [keep 47 (by omega), ← hρ1, plS_2, if_neg (by omega), if_neg (by omega), if_pos rfl, upd_s, if_neg hy]
    · rw [z1, r2 48 (by omega) (by omega) (by omega) (by omega)]
    · rw [z2, r2 49 (by omega) (by omega) (by omega) (by omega)]
    · rw [keep 50 (by omega), ← hρ1, plS_2, if_neg (by omega), if_pos rfl, upd_s, if_neg hy]
    · rw [keep 52 (by omega), ← hρ1, plS_2, if_pos rfl, upd_s, if_neg hy]
    · rw [z3, r2 122 (by omega) (by omega) (by omega) (by omega)]
  · obtain ⟨z1, z2⟩ := p4 y hy
    rw [z1, z2, r2 51 (by omega) (by omega) (by omega) (by omega), r2 53 (by omega) (by omega) (by omega) (by omega)]
    exact ⟨rfl, rfl⟩
  · rw [p1, ← hρ1, plS_1, if_pos rfl]
  · rw [keep 50 (by omega), ← hρ1, plS_2, if_neg (by omega), if_pos rfl, upd_s, if_pos rfl]
  · rw [keep 52 (by omega), ← hρ1, plS_2, if_pos rfl, upd_s, if_pos rfl, hs1 h]; exact z52
  · rw [q9]
    refine wsm_0 (fun k hk => ?_) cc (Nat.le_refl _)
    obtain ⟨-, hi', hp, -⟩ := f6 k hk
    obtain ⟨-, -, -, hP'⟩ := hp
    rcases hP' with ⟨a, -⟩ | ⟨⟨-, a⟩, -⟩ | ⟨⟨-, a⟩, -⟩ | ⟨⟨a, -⟩, -⟩ | ⟨⟨a, -⟩, -⟩ | ⟨c', -, ⟨a, -⟩, -⟩ | ⟨⟨a, -⟩, -⟩
    all_goals omega
  · obtain ⟨-, -, x⟩ := exi_row (i := i) (fun k hk => by
      obtain ⟨a, hi', b, -⟩ := f6 k hk
      exact ⟨a, hi', b⟩) f8 h13 hn (fun d d1 d2 => by rw [e4 6 (by omega) (by omega)]; exact c6 d d1 d2) (by omega) cc (Nat.le_refl _)
    obtain ⟨m, m1, m2⟩ := x d d1 d2
    refine ⟨m, by rw [m4]; exact m1, ?_⟩
    rcases m2 with m2 | ⟨u, u1, u2, u3⟩
    · exact Or.inl m2
    · exact Or.inr ⟨u, u1, by have := (f10 cc (Nat.le_refl _)).2; omega, u3⟩
