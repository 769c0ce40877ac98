/-! which names are seen -/
variable {T N : Nat} {kd vl rv : Nat → Int} {pl : Nat → Nat}
/-- nothing but the scope changes -/
def m3 (Γ Δ : HS) : Prop := (∀ r, r ≠ 3 → Δ r = Γ r) ∧ (∀ k, k ≠ 7 → k ≠ 8 → k ≠ 9 → k ≠ 11 → k ≠ 12 → (Δ 3).1 k = (Γ 3).1 k) ∧ (∀ k, k ≠ 5 → k ≠ 6 → k ≠ 10 → (Δ 3).2.1 k = (Γ 3).2.1 k)
theorem m3_rfl {Γ : HS} : m3 Γ Γ := ⟨fun _ _ => rfl, fun _ _ _ _ _ _ => rfl, fun _ _ _ _ => rfl⟩
theorem m3_trans {Γ Δ Θ : HS} (h : m3 Γ Δ) (i : m3 Δ Θ) : m3 Γ Θ := ⟨fun r hr => by rw [i.1 r hr, h.1 r hr], fun k a b c d e => by rw [i.2.1 k a b c d e, h.2.1 k a b c d e], fun k a b c => by rw [i.2.2 k a b c, h.2.2 k a b c]⟩
theorem m3_I {Γ : HS} {k : Nat} {v : Int32} (h : k = 7 ∨ k = 8 ∨ k = 9 ∨ k = 11 ∨ k = 12) : m3 Γ (cI' Γ 3 k v) := ⟨fun r hr => by rw [cI_r, if_neg hr], fun j a b c d e => by show upd _ _ _ _ = _; rw [upd_s, if_neg (by omega)], fun _ _ _ _ => rfl⟩
theorem m3_A {Γ : HS} {k : Nat} {g : Nat → Int32} (h : k = 5 ∨ k = 6 ∨ k = 10) : m3 Γ (cA' Γ 3 k g) := ⟨fun r hr => by rw [cA_r, if_neg hr], fun _ _ _ _ _ _ => rfl, fun j a b c => by show updA _ _ _ _ = _; rw [updA_s, if_neg (by omega)]⟩
theorem m3_TKc {Γ Δ : HS} (h : m3 Γ Δ) (hc : TKc N kd vl pl Γ) : TKc N kd vl pl Δ := ⟨by rw [h.1 1 (by omega)]; exact hc.1, fun i hi => by rw [h.1 1 (by omega)]; exact hc.2 i hi⟩
theorem m3_cfM {Γ Δ : HS} (h : m3 Γ Δ) : cfM Γ Δ := fun r _ h3 _ _ _ _ => h.1 r h3
theorem m3_16 {Γ Δ : HS} (h : m3 Γ Δ) : (Δ 3).1 16 = (Γ 3).1 16 := h.2.1 16 (by omega) (by omega) (by omega) (by omega) (by omega)
/-- the names seen: words ts 0 .. ts (s - 1), with their slots sl; m slots, D blocks -/
def SC (T : Nat) (kd vl : Nat → Int) (Γ : HS) (s m D : Nat) (ts sl : Nat → Nat) : Prop := (Γ 3).1 7 = J (s : Nat) ∧ (Γ 3).1 8 = J (m : Nat) ∧ (Γ 3).1 11 = J (D : Nat) ∧ s ≤ m ∧ m ≤ 14 ∧ D ≤ 31 ∧ (∀ k, k < s → kd (ts k) = 2 ∧ ts k ≤ T ∧ (Γ 3).2.1 6 k = J (vl (ts k)) ∧ (Γ 3).2.1 5 (vl (ts k)).toNat = J (sl k + 1 : Nat) ∧ sl k < m) ∧ (∀ u, u ≤ T → kd u = 2 → (∀ k, k < s → vl (ts k) ≠ vl u) → (Γ 3).2.1 5 (vl u).toNat = J 0) ∧ (∀ k k', k < k' → k' < s → vl (ts k) ≠ vl (ts k'))
theorem SC_vl (hT : TKE T N kd vl rv pl) {u : Nat} (hu : u ≤ T) (hk : kd u = 2) : 57 ≤ vl u ∧ vl u < 4500 ∧ 0 ≤ rv u ∧ rv u < 8000 := by
  obtain ⟨-, h2, -, -⟩ := hT.2.2.2 u (by omega)
  have := h2 hk; omega
theorem SC_m3 {Γ Δ : HS} {s m D : Nat} {ts sl : Nat → Nat} (h : SC T kd vl Γ s m D ts sl) (h1 : (Δ 3).1 7 = (Γ 3).1 7) (h2 : (Δ 3).1 8 = (Γ 3).1 8) (h3 : (Δ 3).1 11 = (Γ 3).1 11) (h4 : (Δ 3).2.1 6 = (Γ 3).2.1 6) (h5 : (Δ 3).2.1 5 = (Γ 3).2.1 5) : SC T kd vl Δ s m D ts sl := by
  unfold SC at h ⊢; rw [h1, h2, h3, h4, h5]; exact h
theorem upd_self {f : Nat → Int32} {k : Nat} {v : Int32} (h : f k = v) : upd f k v = f := by
  funext j; rw [upd_s]; by_cases q : j = k
  · rw [if_pos q, q, h]
  · rw [if_neg q]
theorem cI_self {Γ : HS} {r k : Nat} {v : Int32} (h : (Γ r).1 k = v) : cI' Γ r k v = Γ := by
  funext j; rw [cI_r]; by_cases q : j = r
  · rw [if_pos q, upd_self h, q]
  · rw [if_neg q]
/-- a name is seen -/
def seeS (Γ : HS) (s m : Nat) (v : Int) : HS := cI' (cA' (cA' (cI' Γ 3 8 (J (m + 1 : Nat))) 3 5 (upd ((Γ 3).2.1 5) v.toNat (J (m + 1 : Nat)))) 3 6 (upd ((Γ 3).2.1 6) s (J v))) 3 7 (J (s + 1 : Nat))
theorem c_see (hT : TKE T N kd vl rv pl) {Γ : HS} {s m D t : Nat} {ts sl : Nat → Nat} (h : SC T kd vl Γ s m D ts sl) (hm : m < 14) (ht : t ≤ T) (hk : kd t = 2) : F_X4_see (J (vl t)) Γ = some (J 0, seeS Γ s m (vl t)) := by
  have hv := SC_vl hT ht hk
  have h3 := h.2.2.2.1
  unfold F_X4_see seeS
  rw [h.2.1, show J (m : Nat) + 1 = J (m + 1 : Nat) by rw [J_lit, J_add]; rfl]
  dsimp only [bnd]
  rw [show ((cI' Γ 3 8 (J (m + 1 : Nat))) 3).1 8 = J (m + 1 : Nat) from rfl]
  rw [q_g_put_in (n := 4500) (i := vl t) (by omega) (by omega) (by omega)]
  rw [show ∀ g : Nat → Int32, ((cA' (cI' Γ 3 8 (J (m + 1 : Nat))) 3 5 g) 3).1 7 = J (s : Nat) from fun g => h.1, q_g_put_in (n := 14) (i := ((s : Nat) : Int)) (by omega) (by omega) (by omega), Int.toNat_natCast]
  show some ((0 : Int32), cI' _ 3 7 ((upd (Γ 3).1 8 (J (m + 1 : Nat)) 7) + 1)) = _
  rw [upd_s, if_neg (by omega), h.1, show J (s : Nat) + 1 = J (s + 1 : Nat) by rw [J_lit, J_add]; rfl]
  rfl
theorem seeS_m3 {Γ : HS} {s m : Nat} {v : Int} : m3 Γ (seeS Γ s m v) := m3_trans (m3_I (by omega)) (m3_trans (m3_A (by omega)) (m3_trans (m3_A (by omega)) (m3_I (by omega))))
def extS (f : Nat → Nat) (s v : Nat) : Nat → Nat := fun k => if k = s then v else f k
theorem seeS_SC (hT : TKE T N kd vl rv pl) {Γ : HS} {s m D t : Nat} {ts sl : Nat → Nat} (h : SC T kd vl Γ s m D ts sl) (hm : m < 14) (ht : t ≤ T) (hk : kd t = 2) (hn : ∀ k, k < s → vl (ts k) ≠ vl t) : SC T kd vl (seeS Γ s m (vl t)) (s + 1) (m + 1) D (extS ts s t) (extS sl s m) := by
  have hv := SC_vl hT ht hk
  obtain ⟨h1, h2, h3, h4, h5, h6, h7, h8, h9⟩ := h
  have hx : ∀ u, u ≤ T → kd u = 2 → vl u ≠ vl t → (vl u).toNat ≠ (vl t).toNat := fun u hu hku hne => by have := SC_vl hT hu hku; omega
  have e5 : ∀ v : Nat, ((seeS Γ s m (vl t)) 3).2.1 5 v = if v = (vl t).toNat then J (m + 1 : Nat) else (Γ 3).2.1 5 v := fun v => rfl
  have e6 : ∀ k : Nat, ((seeS Γ s m (vl t)) 3).2.1 6 k = if k = s then J (vl t) else (Γ 3).2.1 6 k := fun k => rfl
  refine ⟨rfl, rfl, h3, by omega, by omega, h6, fun k hk' => ?_, fun u hu hku hnu => ?_, fun k k' hkk hk' => ?_⟩
  · rw [e6, e5]
    unfold extS
    by_cases q : k = s
    · rw [if_pos q, if_pos q, if_pos q, if_pos rfl]; exact ⟨hk, ht, rfl, rfl, by omega⟩
    · rw [if_neg q, if_neg q, if_neg q]
      obtain ⟨g1, g2, g3, g4, g5⟩ := h7 k (by omega)
      rw [if_neg (hx _ g2 g1 (hn k (by omega)))]
      exact ⟨g1, g2, g3, g4, by omega⟩
  · have n1 : vl u ≠ vl t := by
      have := hnu s (by omega)
      unfold extS at this; rw [if_pos rfl] at this; exact fun e => this e.symm
    rw [e5, if_neg (hx u hu hku n1)]
    refine h8 u hu hku (fun k hk' => ?_)
    have := hnu k (by omega)
    unfold extS at this; rw [if_neg (by omega)] at this; exact this
  · unfold extS
    by_cases q : k' = s
    · rw [if_neg (by omega), if_pos q]; exact hn k (by omega)
    · rw [if_neg (by omega), if_neg q]; exact h9 k k' hkk (by omega)
/-- a bracket is opened -/
def opM (Γ : HS) (s D : Nat) : HS := cI' (cA' Γ 3 10 (upd ((Γ 3).2.1 10) D (J (s : Nat)))) 3 11 (J (D + 1 : Nat))
theorem fs_open (hT : TKE T N kd vl rv pl) {Γ : HS} {s m D t : Nat} {ts sl : Nat → Nat} (hc : TKc N kd vl pl Γ) (ht : t < N) (hk : kd t = 123) (h : SC T kd vl Γ s m D ts sl) (hD : D ≤ 30) : F_X4_followScope (J (t : Nat)) Γ = some (J 0, opM Γ s D) := by
  unfold F_X4_followScope opM
  rw [c_kindOf hT hc ht, Option.bind_some, hk]
  dsimp only [bnd]
  rw [mrg1_id, if_neg (by decide), if_pos (by rfl), h.1, h.2.2.1, q_g_put_in (n := 31) (i := ((D : Nat) : Int)) (by omega) (by omega) (by omega), Int.toNat_natCast]
  show some ((0 : Int32), cI' _ 3 11 ((Γ 3).1 11 + 1)) = _
  rw [h.2.2.1, show J (D : Nat) + 1 = J (D + 1 : Nat) by rw [J_lit, J_add]; rfl]
  rfl
theorem opM_m3 {Γ : HS} {s D : Nat} : m3 Γ (opM Γ s D) := m3_trans (m3_A (by omega)) (m3_I (by omega))
theorem opM_SC {Γ : HS} {s m D : Nat} {ts sl : Nat → Nat} (h : SC T kd vl Γ s m D ts sl) (hD : D ≤ 30) : SC T kd vl (opM Γ s D) s m (D + 1) ts sl := by
  obtain ⟨h1, h2, h3, h4, h5, h6, h7, h8, h9⟩ := h
  exact ⟨h1, h2, rfl, h4, h5, by omega, h7, h8, h9⟩
/-- names are forgotten, from L on -/
theorem shut_loop (hT : TKE T N kd vl rv pl) {s m D : Nat} {ts sl : Nat → Nat} {L : Nat} : ∀ (d k n : Nat) (Γ : HS), k + d = s → L ≤ k → d < n → (∀ j, j < s → kd (ts j) = 2 ∧ ts j ≤ T ∧ (Γ 3).2.1 6 j = J (vl (ts j))) → (Γ 3).1 7 = J (s : Nat) → s ≤ 14 → (Γ 3).1 11 = J (D : Nat) → D ≤ 31 → ∀ B : (Int32 × HS → HR) → Int32 × HS → HR, (∀ again q, B again q = if ((q.2 3).1 7) ≤ q.1 then (if ((cI' q.2 3 7 (J (L : Nat)) 3).1 11) = 0 then some ((0 : Int32), cI' (cI' (cI' q.2 3 7 (J (L : Nat))) 3 12 0) 3 8 0) else some ((0 : Int32), cI' q.2 3 7 (J (L : Nat)))) else again (q.1 + 1, cA' q.2 3 5 (g_put 4500 ((q.2 3).2.1 5) (g_at 14 ((q.2 3).2.1 6) q.1) 0))) → ∃ Δ, loopF B n (J (k : Nat), Γ) = some ((0 : Int32), Δ) ∧ m3 Γ Δ ∧ (Δ 3).1 7 = J (L : Nat) ∧ (Δ 3).1 8 = (if D = 0 then 0 else (Γ 3).1 8) ∧ (Δ 3).1 9 = (Γ 3).1 9 ∧ (Δ 3).1 11 = J (D : Nat) ∧ (Δ 3).1 12 = (if D = 0 then 0 else (Γ 3).1 12) ∧ (Δ 3).2.1 6 = (Γ 3).2.1 6 ∧ (Δ 3).2.1 10 = (Γ 3).2.1 10 ∧ (∀ v, (∀ j, k ≤ j → j < s → (vl (ts j)).toNat ≠ v) → (Δ 3).2.1 5 v = (Γ 3).2.1 5 v) ∧ (∀ j, k ≤ j → j < s → (Δ 3).2.1 5 (vl (ts j)).toNat = J 0) := by
  intro d
  induction d with
  | zero =>
    intro k n Γ hk hL hn h6 h7 hs h11 hD B hB
    obtain ⟨n, rfl⟩ : ∃ e, n = e + 1 := ⟨n - 1, by omega⟩
    rw [show loopF B (n + 1) (J (k : Nat), Γ) = B (loopF B n) (J (k : Nat), Γ) from rfl, hB, if_pos (by show (Γ 3).1 7 ≤ J (k : Nat); rw [h7, J_le (by omega) (by omega) (by omega) (by omega)]; omega)]
    have e11 : ((cI' Γ 3 7 (J (L : Nat)) 3).1 11) = J (D : Nat) := h11
    dsimp only
    rw [e11]
    by_cases q : D = 0
    · rw [if_pos (by rw [q]; rfl)]
      exact ⟨_, rfl, m3_trans (m3_I (by omega)) (m3_trans (m3_I (by omega)) (m3_I (by omega))), rfl, by rw [if_pos q]; rfl, rfl, h11, by rw [if_pos q]; rfl, rfl, rfl, fun v _ => rfl, fun j h1 h2 => absurd h2 (by omega)⟩
    · rw [if_neg (by rw [show (0 : Int32) = J 0 from rfl, J_eq (by omega) (by omega) (by omega) (by omega)]; omega)]
      exact ⟨_, rfl, m3_I (by omega), rfl, by rw [if_neg q]; rfl, rfl, h11, by rw [if_neg q]; rfl, rfl, rfl, fun v _ => rfl, fun j h1 h2 => absurd h2 (by omega)⟩
  | succ d ih =>
    intro k n Γ hk hL hn h6 h7 hs h11 hD B hB
    obtain ⟨n, rfl⟩ : ∃ e, n = e + 1 := ⟨n - 1, by omega⟩
    obtain ⟨g1, g2, g3⟩ := h6 k (by omega)
    have hv := SC_vl hT g2 g1
    rw [show loopF B (n + 1) (J (k : Nat), Γ) = B (loopF B n) (J (k : Nat), Γ) from rfl, hB, if_neg (by show ¬ (Γ 3).1 7 ≤ J (k : Nat); rw [h7, J_le (by omega) (by omega) (by omega) (by omega)]; omega)]
    dsimp only
    rw [q_g_at_in (n := 14) (i := ((k : Nat) : Int)) (by omega) (by omega) (by omega), Int.toNat_natCast, g3, q_g_put_in (n := 4500) (i := vl (ts k)) (by omega) (by omega) (by omega), show J (k : Nat) + 1 = J (k + 1 : Nat) by rw [J_lit, J_add]; rfl]
    obtain ⟨Δ, e1, e2, e3, e4, e5, e6, e7, e8, e9, e10, e11⟩ := ih (k + 1) n (cA' Γ 3 5 (upd ((Γ 3).2.1 5) (vl (ts k)).toNat 0)) (by omega) (by omega) (by omega) h6 h7 hs h11 hD B hB
    refine ⟨Δ, e1, m3_trans (m3_A (by omega)) e2, e3, e4, e5, e6, e7, e8, e9, fun v hvv => ?_, fun j h1 h2 => ?_⟩
    · rw [e10 v (fun j h1 h2 => hvv j (by omega) h2)]
      show upd _ _ _ _ = _
      rw [upd_s, if_neg (fun e => hvv k (Nat.le_refl k) (by omega) e.symm)]
    · by_cases q : j = k
      · subst q
        by_cases q2 : ∃ j', j + 1 ≤ j' ∧ j' < s ∧ (vl (ts j')).toNat = (vl (ts j)).toNat
        · obtain ⟨j', b1, b2, b3⟩ := q2
          rw [← b3]; exact e11 j' b1 b2
        · rw [e10 _ (fun j' b1 b2 b3 => q2 ⟨j', b1, b2, b3⟩)]
          show upd _ _ _ _ = _
          rw [upd_s, if_pos rfl]; rfl
      · exact e11 j (by omega) h2
theorem fs_shut (hT : TKE T N kd vl rv pl) {Γ : HS} {s m D t L : Nat} {ts sl : Nat → Nat} (hc : TKc N kd vl pl Γ) (ht : t < N) (hk : kd t = 125) (h : SC T kd vl Γ s m (D + 1) ts sl) (hL : L ≤ s) (hLD : (D = 0 → L = 0) ∧ (0 < D → (Γ 3).2.1 10 D = J (L : Nat))) : ∃ Δ, F_X4_followScope (J (t : Nat)) Γ = some (J 0, Δ) ∧ m3 Γ Δ ∧ SC T kd vl Δ L (if D = 0 then 0 else m) D ts sl ∧ (Δ 3).1 9 = (Γ 3).1 9 ∧ (Δ 3).1 12 = (if D = 0 then 0 else (Γ 3).1 12) ∧ (Δ 3).2.1 10 = (Γ 3).2.1 10 := by
  have h' := h
  obtain ⟨h1, h2, h3, h4, h5, h6, h7, h8, h9⟩ := h
  unfold F_X4_followScope F_X4_shutBlock
  rw [c_kindOf hT hc ht, Option.bind_some, hk]
  simp only [bndE]
  rw [mrg1_id, if_neg (by decide), if_neg (by decide), if_pos (by rfl), h3, show J ((D + 1 : Nat) : Int) - 1 = J (D : Nat) by rw [J_lit, J_sub]; exact congrArg J (by show ((D + 1 : Nat) : Int) - 1 = _; omega)]
  have e11 : ((cI' Γ 3 11 (J (D : Nat))) 3).1 11 = J (D : Nat) := rfl
  rw [e11]
  have fin : ∀ (B : (Int32 × HS → HR) → Int32 × HS → HR), (∀ again q, B again q = if ((q.2 3).1 7) ≤ q.1 then (if ((cI' q.2 3 7 (J (L : Nat)) 3).1 11) = 0 then some ((0 : Int32), cI' (cI' (cI' q.2 3 7 (J (L : Nat))) 3 12 0) 3 8 0) else some ((0 : Int32), cI' q.2 3 7 (J (L : Nat)))) else again (q.1 + 1, cA' q.2 3 5 (g_put 4500 ((q.2 3).2.1 5) (g_at 14 ((q.2 3).2.1 6) q.1) 0))) → ∃ Δ, ((loopF B FU (J (L : Nat), cI' Γ 3 11 (J (D : Nat)))).bind fun u_30 => some ((0 : Int32), u_30.2)) = some (J 0, Δ) ∧ m3 Γ Δ ∧ SC T kd vl Δ L (if D = 0 then 0 else m) D ts sl ∧ (Δ 3).1 9 = (Γ 3).1 9 ∧ (Δ 3).1 12 = (if D = 0 then 0 else (Γ 3).1 12) ∧ (Δ 3).2.1 10 = (Γ 3).2.1 10 := by
    intro B hB
    obtain ⟨Δ, e1, e2, e3, e4, e5, e6, e7, e8, e9, e10, e11⟩ := shut_loop hT (s := s) (m := m) (D := D) (ts := ts) (sl := sl) (L := L) (s - L) L FU (cI' Γ 3 11 (J (D : Nat))) (by omega) (Nat.le_refl L) (FU_gt (by omega)) (fun j hj => ⟨(h7 j hj).1, (h7 j hj).2.1, (h7 j hj).2.2.1⟩) h1 (by omega) rfl (by omega) B hB
    refine ⟨Δ, by rw [e1]; rfl, m3_trans (m3_I (by omega)) e2, ⟨e3, ?_, e6, ?_, by split <;> omega, by omega, fun k hk' => ?_, fun u hu hku hnu => ?_, fun k k' a b => h9 k k' a (by omega)⟩, e5, e7, e9⟩
    · rw [e4]; split
      · rfl
      · exact h2
    · split
      · rename_i q; have := hLD.1 q; omega
      · omega
    · obtain ⟨g1, g2, g3, g4, g5⟩ := h7 k (by omega)
      refine ⟨g1, g2, by rw [e8]; exact g3, ?_, ?_⟩
      · rw [e10 _ (fun j b1 b2 b3 => ?_)]
        · exact g4
        · have hj := h7 j b2
          have v1 := SC_vl hT g2 g1
          have v2 := SC_vl hT hj.2.1 hj.1
          exact h9 k j (by omega) b2 (by omega)
      · split
        · rename_i q; have := hLD.1 q; omega
        · exact g5
    · by_cases q : ∃ j, L ≤ j ∧ j < s ∧ vl (ts j) = vl u
      · obtain ⟨j, b1, b2, b3⟩ := q
        rw [← b3]; exact e11 j b1 b2
      · rw [e10 _ (fun j b1 b2 b3 => q ⟨j, b1, b2, by
          have hj := h7 j b2
          have v1 := SC_vl hT hu hku
          have v2 := SC_vl hT hj.2.1 hj.1
          omega⟩)]
        refine h8 u hu hku (fun k hk' => ?_)
        by_cases qk : k < L
        · exact hnu k qk
        · exact fun e => q ⟨k, by omega, hk', e⟩
  by_cases q : D = 0
  · rw [if_pos (by rw [q]; decide)]
    have hL0 : L = 0 := hLD.1 q
    subst hL0
    exact fin _ (fun again q => rfl)
  · rw [if_neg (by rw [show (0 : Int32) = J 0 from rfl, J_le (by omega) (by omega) (by omega) (by omega)]; omega), q_g_at_in (n := 31) (i := ((D : Nat) : Int)) (by omega) (by omega) (by omega), Int.toNat_natCast, show ((cI' Γ 3 11 (J (D : Nat))) 3).2.1 10 D = J (L : Nat) from hLD.2 (by omega)]
    exact fin _ (fun again q => rfl)
