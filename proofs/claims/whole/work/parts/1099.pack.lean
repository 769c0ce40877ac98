/-! a text is packed -/
variable {T N : Nat} {kd vl rv : Nat → Int} {pl : Nat → Nat}
/-- the codes of a text's signs, and behind them shifts -/
def cdF (by_ : Nat → Nat) : Nat → Nat → Nat
  | 0, _ => 31
  | k + 1, i => if i = cpz by_ k then (if sgN (by_ k) < 29 then sgN (by_ k) else 29 + (sgN (by_ k) - 29) / 32) else if i = cpz by_ k + 1 ∧ 29 ≤ sgN (by_ k) then (sgN (by_ k) - 29) % 32 else cdF by_ k i
theorem cdF_end {by_ : Nat → Nat} : ∀ m i, cpz by_ m ≤ i → cdF by_ m i = 31 := by
  intro m
  induction m with
  | zero => intro i _; rfl
  | succ m ih =>
    intro i hi
    have e : cpz by_ (m + 1) = cpz by_ m + (if sgN (by_ m) < 29 then 1 else 2) := rfl
    unfold cdF
    rw [e] at hi
    rw [if_neg (by split at hi <;> omega), if_neg (by split at hi <;> omega), ih i (by split at hi <;> omega)]
theorem cdF_lt {by_ : Nat → Nat} : ∀ m i, (∀ k, k < m → okS (by_ k)) → cdF by_ m i < 32 := by
  intro m
  induction m with
  | zero => intro i _; show 31 < 32; omega
  | succ m ih =>
    intro i h
    have := (sg_ok (h m (by omega))).1
    unfold cdF
    split
    · split <;> omega
    · split
      · omega
      · exact ih i (fun k hk => h k (by omega))
theorem cdF_keep {by_ : Nat → Nat} {m : Nat} {i : Nat} (hi : i < cpz by_ m) : ∀ d, cdF by_ (m + d) i = cdF by_ m i := by
  intro d
  induction d with
  | zero => rfl
  | succ d ih =>
    have := cpz_mono (by_ := by_) (show m ≤ m + d by omega)
    rw [show m + (d + 1) = m + d + 1 by omega]
    show (if i = cpz by_ (m + d) then _ else _) = _
    rw [if_neg (by omega), if_neg (by omega), ih]
theorem cdF_CDE {by_ : Nat → Nat} {m : Nat} (h : ∀ k, k < m → okS (by_ k)) : CDE by_ m (cdF by_ m) := by
  intro k hk
  have e : cpz by_ (k + 1) = cpz by_ k + (if sgN (by_ k) < 29 then 1 else 2) := rfl
  have kp := fun i (hi : i < cpz by_ (k + 1)) => cdF_keep (by_ := by_) (m := k + 1) hi (m - (k + 1))
  rw [show k + 1 + (m - (k + 1)) = m by omega] at kp
  refine ⟨h k hk, fun q => ?_, fun q => ⟨?_, ?_⟩⟩
  · rw [kp _ (by rw [e, if_pos q]; omega)]
    show (if cpz by_ k = cpz by_ k then _ else _) = _
    rw [if_pos rfl, if_pos q]
  · rw [kp _ (by rw [e, if_neg (by omega)]; omega)]
    show (if cpz by_ k = cpz by_ k then _ else _) = _
    rw [if_pos rfl, if_neg (by omega)]
  · rw [kp _ (by rw [e, if_neg (by omega)]; omega)]
    show (if cpz by_ k + 1 = cpz by_ k then _ else _) = _
    rw [if_neg (by omega), if_pos ⟨rfl, q⟩]
def unit3 (cd : Nat → Nat) (j : Nat) : Nat := cd (3 * j) * 1024 + cd (3 * j + 1) * 32 + cd (3 * j + 2)
def gv (cd : Nat → Nat) (U n : Nat) : Nat := if n = 0 then 0 else if n = 1 then cd (3 * U) else if n = 2 then cd (3 * U) * 32 + cd (3 * U + 1) else unit3 cd U
/-- all of the texts' object but what is gathered, its units and their number -/
def fr6 (Γ Δ : HS) : Prop := (∀ r, r ≠ 6 → Δ r = Γ r) ∧ (∀ k, k ≠ 1 → k ≠ 2 → k ≠ 3 → (Δ 6).1 k = (Γ 6).1 k) ∧ (∀ k, k ≠ 0 → (Δ 6).2.1 k = (Γ 6).2.1 k)
theorem fr6_trans {Γ Δ E : HS} (h : fr6 Γ Δ) (g : fr6 Δ E) : fr6 Γ E := ⟨fun r hr => by rw [g.1 r hr, h.1 r hr], fun k a b c => by rw [g.2.1 k a b c, h.2.1 k a b c], fun k a => by rw [g.2.2 k a, h.2.2 k a]⟩
/-- so many codes of a text that begins at unit u0 are there -/
def GAT (cd : Nat → Nat) (u0 m : Nat) (Γ0 Γ : HS) : Prop := fr6 Γ0 Γ ∧ (∀ x, x < u0 → (Γ 6).2.1 0 x = (Γ0 6).2.1 0 x) ∧ ∃ U n : Nat, m = 3 * U + n ∧ n ≤ 3 ∧ (n = 0 → U = 0) ∧ (Γ 6).1 1 = J (u0 + U : Nat) ∧ (Γ 6).1 2 = J (gv cd U n : Nat) ∧ (Γ 6).1 3 = J (n : Nat) ∧ ∀ j, j < U → (Γ 6).2.1 0 (u0 + j) = J (unit3 cd j : Nat)
theorem c_putU {Γ : HS} {u x : Nat} (h : (Γ 6).1 1 = J (u : Nat)) (hu : u < 16000) (hx : x < 65536) : F_X9_putUnit (J (x : Nat)) Γ = some ((0 : Int32), cI' (cA' Γ 6 0 (upd ((Γ 6).2.1 0) u (J (x : Nat)))) 6 1 (J (u + 1 : Nat))) := by
  unfold F_X9_putUnit
  simp only [bndE]
  rw [h, if_neg (J_nlt0 (by omega) (by omega)), if_neg (show ¬ (16000 : Int32) ≤ J (u : Nat) by rw [show (16000 : Int32) = J 16000 from rfl, J_le (by omega) (by omega) (by omega) (by omega)]; omega), if_neg (show ¬ (J (u : Nat) < 0 ∨ 16000 ≤ (J (u : Nat)).toNatClampNeg) by rintro (c | c); exact J_nlt0 (by omega) (by omega) c; rw [J_natN (by omega)] at c; omega), char16 hx, J_natN (by omega)]
  rw [nar16 hx, show ((cA' Γ 6 0 (upd ((Γ 6).2.1 0) u (J (x : Nat)))) 6).1 1 = J (u : Nat) from h, show J (u : Nat) + 1 = J (u + 1 : Nat) by rw [J_lit, J_add]; rfl]
theorem gv_lt {cd : Nat → Nat} (h : ∀ i, cd i < 32) (U n : Nat) : gv cd U n < 32768 ∧ unit3 cd U < 32768 := by
  have a := h (3 * U)
  have b := h (3 * U + 1)
  have c := h (3 * U + 2)
  have : unit3 cd U < 32768 := by unfold unit3; omega
  refine ⟨?_, this⟩
  unfold gv
  repeat' split
  all_goals omega
theorem c_gath {cd : Nat → Nat} (hc : ∀ i, cd i < 32) {u0 m : Nat} {Γ0 Γ : HS} (h : GAT cd u0 m Γ0 Γ) (hu : u0 + m < 15000) : ∃ Γ', F_X9_gather (J (cd m : Nat)) Γ = some ((0 : Int32), Γ') ∧ GAT cd u0 (m + 1) Γ0 Γ' := by
  obtain ⟨f, hx, U, n, e1, e2, e3, e4, e5, e6, e7⟩ := h
  have hg := gv_lt hc U n
  have hcm := hc m
  unfold F_X9_gather
  simp only [bndE]
  by_cases q : n = 3
  · have g3 : gv cd U 3 = unit3 cd U := by unfold gv; rw [if_neg (by omega), if_neg (by omega), if_neg (by omega)]
    rw [e6, if_pos (show J (n : Nat) = 3 by rw [q]; rfl), e5, q, g3, c_putU e4 (by omega) (by omega), Option.bind_some]
    refine ⟨_, rfl, ⟨fun r hr => ?_, fun k k1 k2 k3 => ?_, fun k k0 => ?_⟩, fun x hx' => ?_, U + 1, 1, by omega, by omega, by omega, ?_, ?_, ?_, fun j hj => ?_⟩
    · dsimp only
      rw [cI_r, if_neg hr, cI_r, if_neg hr, cI_r, if_neg hr, cI_r, if_neg hr, cI_r, if_neg hr, cA_r, if_neg hr]; exact f.1 r hr
    · show upd (upd (upd (upd (upd _ _ _) _ _) _ _) _ _) _ _ k = _
      rw [upd_s, if_neg k3, upd_s, if_neg k2, upd_s, if_neg k3, upd_s, if_neg k2, upd_s, if_neg k1]; exact f.2.1 k k1 k2 k3
    · show updA _ _ _ k = _
      rw [updA_s, if_neg k0]; exact f.2.2 k k0
    · show upd ((Γ 6).2.1 0) (u0 + U) _ x = _
      rw [upd_s, if_neg (by omega)]; exact hx x hx'
    · show J (u0 + U + 1 : Nat) = _
      rfl
    · show ((0 : Int32) <<< (5 &&& 31)) ||| J (cd m : Nat) = _
      have := shl5 (a := 0) (c := cd m) (by omega) hcm
      rw [show ((0 : Int32)) = J ((0 : Nat) : Int) from rfl, this]
      unfold gv
      rw [if_neg (by omega), if_pos rfl, show 3 * (U + 1) = m by omega]
      congr 2; omega
    · show (0 : Int32) + 1 = _
      rfl
    · show upd ((Γ 6).2.1 0) (u0 + U) (J (unit3 cd U : Nat)) (u0 + j) = _
      rw [upd_s]
      by_cases e : j = U
      · rw [if_pos (by omega), e]
      · rw [if_neg (by omega)]; exact e7 j (by omega)
  · rw [e6, if_neg (show ¬ J (n : Nat) = 3 by rw [show (3 : Int32) = J 3 from rfl, J_eq (by omega) (by omega) (by omega) (by omega)]; omega)]
    refine ⟨_, rfl, ⟨fun r hr => ?_, fun k k1 k2 k3 => ?_, fun k k0 => f.2.2 k k0⟩, hx, U, n + 1, by omega, by omega, by omega, e4, ?_, ?_, e7⟩
    · rw [cI_r, if_neg hr, cI_r, if_neg hr]; exact f.1 r hr
    · show upd (upd _ _ _) _ _ k = _
      rw [upd_s, if_neg k3, upd_s, if_neg k2]; exact f.2.1 k k1 k2 k3
    · show ((Γ 6).1 2 <<< (5 &&& 31)) ||| J (cd m : Nat) = _
      rw [e5, shl5 (by omega) hcm]
      congr 1
      unfold gv
      by_cases n0 : n = 0
      · have hU := e3 n0
        rw [if_pos n0, if_neg (by omega), if_pos (by omega), show 3 * U = m by omega]; omega
      by_cases n1 : n = 1
      · rw [if_neg n0, if_pos n1, if_neg (by omega), if_neg (by omega), if_pos (by omega), show 3 * U + 1 = m by omega]
      · rw [if_neg n0, if_neg n1, if_pos (by omega), if_neg (by omega), if_neg (by omega), if_neg (by omega)]
        unfold unit3
        rw [show 3 * U + 2 = m by omega]; omega
    · show (Γ 6).1 3 + 1 = _
      rw [e6, J_lit, J_add]; rfl
/-- the units of a text: its codes, the last unit marked -/
def UNT (Γ : HS) (cd : Nat → Nat) (u0 nu : Nat) : Prop := ∀ j, j < nu → (Γ 6).2.1 0 (u0 + j) = J (unit3 cd j + (if j + 1 = nu then 32768 else 0) : Nat)
theorem c_shutT {cd : Nat → Nat} (hc : ∀ i, cd i < 32) {u0 m : Nat} {Γ0 Γ : HS} (h : GAT cd u0 m Γ0 Γ) (hu : u0 + m < 15000) (he : ∀ i, m ≤ i → cd i = 31) : ∃ (Γ' : HS) (nu : Nat), F_X9_shutText Γ = some ((0 : Int32), Γ') ∧ fr6 Γ0 Γ' ∧ (∀ x, x < u0 → (Γ' 6).2.1 0 x = (Γ0 6).2.1 0 x) ∧ (Γ' 6).1 1 = J (u0 + nu : Nat) ∧ UNT Γ' cd u0 nu ∧ 1 ≤ nu ∧ m ≤ 3 * nu ∧ 3 * nu ≤ m + 3 ∧ nu ≤ m + 1 := by
  obtain ⟨f, hx, U, n, e1, e2, e3, e4, e5, e6, e7⟩ := h
  have key : Ok (F_X9_shutText Γ) (fun u => u.1 = 0 ∧ fr6 Γ0 u.2 ∧ (∀ x, x < u0 → (u.2 6).2.1 0 x = (Γ0 6).2.1 0 x) ∧ (u.2 6).1 1 = J (u0 + (U + 1) : Nat) ∧ UNT u.2 cd u0 (U + 1)) := by
    unfold F_X9_shutText
    refine Ok_bnd ?_
    rw [e6]
    refine Ok_loop (P := fun t z => ∃ (k : Nat) (Δ : HS), n ≤ k ∧ k ≤ 3 ∧ t = (J (k : Nat), Δ) ∧ fr6 Γ0 Δ ∧ (Δ 6).2.1 = (Γ 6).2.1 ∧ (Δ 6).1 1 = J (u0 + U : Nat) ∧ (Δ 6).1 2 = J (gv cd U k : Nat) ∧ z = 3 - k) ?_ FU _ (3 - n) (FU_gt (by omega)) ⟨n, Γ, Nat.le_refl _, e2, rfl, f, rfl, e4, e5, rfl⟩
    · rintro again t z ⟨k, Δ, k1, k2, rfl, d1, d2, d3, d4, rfl⟩ ih
      dsimp only
      have hg := gv_lt hc U k
      by_cases q : k = 3
      · rw [if_pos (show (3 : Int32) ≤ J (k : Nat) by rw [show (3 : Int32) = J 3 from rfl, J_le (by omega) (by omega) (by omega) (by omega)]; omega), d4, or15 hg.1, c_putU d3 (by omega) (by omega), Option.bind_some]
        have g3 : gv cd U k = unit3 cd U := by unfold gv; rw [if_neg (by omega), if_neg (by omega), if_neg (by omega)]
        refine Ok_some ⟨rfl, ⟨fun r hr => (by dsimp only; rw [cI_r, if_neg hr, cA_r, if_neg hr]; exact d1.1 r hr), fun j j1 j2 j3 => ?_, fun j j0 => ?_⟩, fun x hx' => ?_, ?_, fun j hj => ?_⟩
        · show upd _ _ _ j = _
          rw [upd_s, if_neg j1]; exact d1.2.1 j j1 j2 j3
        · show updA _ _ _ j = _
          rw [updA_s, if_neg j0]; exact d1.2.2 j j0
        · show upd ((Δ 6).2.1 0) (u0 + U) _ x = _
          rw [upd_s, if_neg (by omega), d2]; exact hx x hx'
        · show J (u0 + U + 1 : Nat) = _
          rfl
        · show upd ((Δ 6).2.1 0) (u0 + U) (J (gv cd U k + 32768 : Nat)) (u0 + j) = _
          rw [upd_s]
          by_cases e : j = U
          · rw [if_pos (by omega), g3, if_pos (by omega), e]
          · rw [if_neg (by omega), if_neg (by omega), Nat.add_zero, d2, e7 j (by omega)]
      · rw [if_neg (show ¬ (3 : Int32) ≤ J (k : Nat) by rw [show (3 : Int32) = J 3 from rfl, J_le (by omega) (by omega) (by omega) (by omega)]; omega)]
        refine Ok_bnd (Ok_bnd (Ok_bnd ?_))
        refine ih _ (3 - (k + 1)) (by omega) ⟨k + 1, cI' Δ 6 2 (((Δ 6).1 2 <<< (5 &&& 31)) ||| 31), by omega, by omega, by rw [J_lit, J_add]; rfl, ⟨fun r hr => by rw [cI_r, if_neg hr]; exact d1.1 r hr, fun j j1 j2 j3 => ?_, fun j j0 => d1.2.2 j j0⟩, d2, d3, ?_, rfl⟩
        · show upd _ _ _ j = _
          rw [upd_s, if_neg j2]; exact d1.2.1 j j1 j2 j3
        · show ((Δ 6).1 2 <<< (5 &&& 31)) ||| 31 = _
          have s5 := shl5 (a := gv cd U k) (c := 31) (by omega) (by omega)
          rw [d4, show (31 : Int32) = J ((31 : Nat) : Int) from rfl]
          have s5' : (J (gv cd U k : Nat) <<< ((5 : Int32) &&& J ((31 : Nat) : Int))) ||| J ((31 : Nat) : Int) = J ((gv cd U k * 32 + 31 : Nat) : Int) := s5
          rw [s5']
          congr 1
          unfold gv
          by_cases n0 : k = 0
          · have hU := e3 (by omega)
            rw [if_pos n0, if_neg (by omega), if_pos (by omega), he (3 * U) (by omega)]
          by_cases n1 : k = 1
          · rw [if_neg n0, if_pos n1, if_neg (by omega), if_neg (by omega), if_pos (by omega), he (3 * U + 1) (by omega)]
          · rw [if_neg n0, if_neg n1, if_pos (by omega), if_neg (by omega), if_neg (by omega), if_neg (by omega)]
            unfold unit3
            rw [he (3 * U + 2) (by omega)]; omega
  obtain ⟨⟨x, Γ'⟩, e, rfl, h⟩ := key
  exact ⟨Γ', U + 1, e, h.1, h.2.1, h.2.2.1, h.2.2.2, by omega, by omega, by omega, by omega⟩
