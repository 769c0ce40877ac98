/-! the words that each story has -/
variable {T N : Nat} {kd vl rv : Nat → Int} {pl : Nat → Nat}
def OFX : List Int32 := [97, 103, 97, 105, 110, 32, 103, 32, 105, 116, 32, 97, 108, 108, 32, 116, 104, 101, 32, 97, 32, 97, 110, 32, 109, 101, 32, 103, 111, 32, 110, 111, 114, 116, 104, 32, 115, 111, 117, 116, 104, 32, 101, 97, 115, 116, 32, 119, 101, 115, 116, 32, 117, 112, 32, 100, 111, 119, 110, 32, 110, 32, 115, 32, 101, 32, 119, 32, 117, 32, 100, 32]
def OFXw : List (List Int) := [[97, 103, 97, 105, 110], [103], [105, 116], [97, 108, 108], [116, 104, 101], [97], [97, 110], [109, 101], [103, 111], [110, 111, 114, 116, 104], [115, 111, 117, 116, 104], [101, 97, 115, 116], [119, 101, 115, 116], [117, 112], [100, 111, 119, 110], [110], [115], [101], [119], [117], [100]]
def OFXs : List Nat := [0, 6, 8, 11, 15, 19, 21, 24, 27, 30, 36, 42, 47, 52, 55, 60, 62, 64, 66, 68, 70, 72]
theorem OFX_ok : lstOk OFX OFXw OFXs := by unfold lstOk; decide +kernel
def OV1 : List Int32 := [108, 111, 111, 107, 32, 108, 32]
def OV1w : List (List Int) := [[108, 111, 111, 107], [108]]
def OV1s : List Nat := [0, 5, 7]
theorem OV1_ok : lstOk OV1 OV1w OV1s := by unfold lstOk; decide +kernel
def OV2 : List Int32 := [105, 110, 118, 101, 110, 116, 111, 114, 121, 32, 105, 32]
def OV2w : List (List Int) := [[105, 110, 118, 101, 110, 116, 111, 114, 121], [105]]
def OV2s : List Nat := [0, 10, 12]
theorem OV2_ok : lstOk OV2 OV2w OV2s := by unfold lstOk; decide +kernel
def OV3 : List Int32 := [119, 97, 105, 116, 32, 122, 32]
def OV3w : List (List Int) := [[119, 97, 105, 116], [122]]
def OV3s : List Nat := [0, 5, 7]
theorem OV3_ok : lstOk OV3 OV3w OV3s := by unfold lstOk; decide +kernel
def OV4 : List Int32 := [116, 97, 107, 101, 32, 103, 101, 116, 32]
def OV4w : List (List Int) := [[116, 97, 107, 101], [103, 101, 116]]
def OV4s : List Nat := [0, 5, 9]
theorem OV4_ok : lstOk OV4 OV4w OV4s := by unfold lstOk; decide +kernel
def OV5 : List Int32 := [100, 114, 111, 112, 32]
def OV5w : List (List Int) := [[100, 114, 111, 112]]
def OV5s : List Nat := [0, 5]
theorem OV5_ok : lstOk OV5 OV5w OV5s := by unfold lstOk; decide +kernel
def OV6 : List Int32 := [101, 120, 97, 109, 105, 110, 101, 32, 120, 32]
def OV6w : List (List Int) := [[101, 120, 97, 109, 105, 110, 101], [120]]
def OV6s : List Nat := [0, 8, 10]
theorem OV6_ok : lstOk OV6 OV6w OV6s := by unfold lstOk; decide +kernel
def OV7 : List Int32 := [111, 112, 101, 110, 32]
def OV7w : List (List Int) := [[111, 112, 101, 110]]
def OV7s : List Nat := [0, 5]
theorem OV7_ok : lstOk OV7 OV7w OV7s := by unfold lstOk; decide +kernel
def OV8 : List Int32 := [99, 108, 111, 115, 101, 32]
def OV8w : List (List Int) := [[99, 108, 111, 115, 101]]
def OV8s : List Nat := [0, 6]
theorem OV8_ok : lstOk OV8 OV8w OV8s := by unfold lstOk; decide +kernel
def OV9 : List Int32 := [112, 117, 116, 32]
def OV9w : List (List Int) := [[112, 117, 116]]
def OV9s : List Nat := [0, 4]
theorem OV9_ok : lstOk OV9 OV9w OV9s := by unfold lstOk; decide +kernel
/-- a word as the dictionary has it -/
def tm9 (w : List Int) : Int := dgF (dgw w) 9
theorem tm9_rng {w : List Int} (h : nmW w) : 0 ≤ tm9 w ∧ tm9 w < 9223372036854775808 := by
  have a := dgF_nn (d := dgw w) 9 (fun k _ => (dgw_rng h k).1)
  have b := dgF_lt (d := dgw w) 9 (fun k _ => dgw_rng h k)
  unfold tm9
  have : (37 : Int) ^ 9 = 129961739795077 := by decide
  omega
/-- one dictionary, one row of terms -/
theorem DOK_u {Γ : HS} {W V : List Int} (h : DOK Γ W) (i : DOK Γ V) : W = V := by
  obtain ⟨p, a1, a2, a3, a4, a5, a6⟩ := h
  obtain ⟨q, b1, b2, b3, b4, b5, b6⟩ := i
  have e : W.length = V.length := by
    rw [a1, J_eq (by omega) (by omega) (by omega) (by omega)] at b1; omega
  apply List.ext_getElem e
  intro m m1 m2
  obtain ⟨j, j1, j2⟩ := a6 m m1
  obtain ⟨c1, c2, c3⟩ := a4 j j1
  obtain ⟨d1, d2, d3⟩ := b4 j (by omega)
  have hm : q j = m := by
    rw [c2, J_eq (by omega) (by omega) (by omega) (by omega)] at d2; omega
  rw [c3, j2, hm] at d3
  have g1 := a3 m m1
  have g2 := b3 m m2
  have : W.getD m 0 = V.getD m 0 := by
    exact (L_inj g1.1 g1.2 g2.1 g2.2).mp d3
  rw [List.getD_eq_getElem?_getD, List.getD_eq_getElem?_getD, List.getElem?_eq_getElem m1, List.getElem?_eq_getElem m2] at this
  exact this
/-- a word that nobody owns -/
def AW0 (t : Int) (Γ Δ : HS) : Prop := (∀ r, r ≠ 7 → Δ r = Γ r) ∧ ∃ (W V : List Int), DOK Γ W ∧ DOK Δ V ∧ (W.length < 1999 → ∃ k : Nat, lrnW W t V k)
theorem c_addWord0 {Γ : HS} {t : Int} (hD : ∃ W, DOK Γ W) (h0 : 0 ≤ t) (h1 : t < 9223372036854775808) : ∃ Δ, F_X7_addWord 0 (L64 t) Γ = some ((0 : Int32), Δ) ∧ AW0 t Γ Δ := by
  obtain ⟨W, hW⟩ := hD
  obtain ⟨V, m, Δ, e, hr, hV, hm⟩ := d_learnA hW h0 h1
  refine ⟨Δ, ?_, hr, W, V, hW, hV, fun h => ?_⟩
  · unfold F_X7_addWord
    rw [e, Option.bind_some]
    simp only [bndE]
    rw [if_pos (show (0 : Int32) ≤ 0 by decide), mrgE (fun r hr' => hr r (by rintro rfl; exact absurd hr' (by decide)))]
  · obtain ⟨k, -, hk⟩ := hm h
    exact ⟨k, hk⟩
/-- a list of words is learned -/
theorem c_learnOwned {S : List Int32} {W : List (List Int)} {s : List Nat} (hL : lstOk S W s) {o : Int32} {R : Int → HS → HS → Prop} (hR : ∀ t Γ Δ, R t Γ Δ → ∃ V, DOK Δ V) (hA : ∀ w Γ, nmW w → (∃ V, DOK Γ V) → ∃ Δ, F_X7_addWord o (L64 (tm9 w)) Γ = some ((0 : Int32), Δ) ∧ R (tm9 w) Γ Δ) {Γ : HS} (hD : ∃ V, DOK Γ V) : ∃ E, F_X7_learnOwned o S Γ = some ((0 : Int32), E) ∧ ∃ K : Nat → HS, K 0 = Γ ∧ K W.length = E ∧ ∀ e, e < W.length → R (tm9 (W.getD e [])) (K e) (K (e + 1)) := by
  have hS := hL
  obtain ⟨l1, l2, l3, l4, l5⟩ := hL
  have key : Ok (F_X7_learnOwned o S Γ) (fun u => u.1 = 0 ∧ ∃ K : Nat → HS, K 0 = Γ ∧ K W.length = u.2 ∧ ∀ e, e < W.length → R (tm9 (W.getD e [])) (K e) (K (e + 1))) := by
    unfold F_X7_learnOwned
    refine Ok_loop (P := fun t z => ∃ (k : Nat) (K : Nat → HS), k ≤ W.length ∧ t = (J (s.getD k 0 : Nat), J (k : Nat), K k) ∧ K 0 = Γ ∧ (∃ V, DOK (K k) V) ∧ (∀ e, e < k → R (tm9 (W.getD e [])) (K e) (K (e + 1))) ∧ z = W.length - k) ?_ FU _ W.length (FU_gt (by omega)) ⟨0, fun _ => Γ, by omega, by rw [l2]; rfl, rfl, hD, fun e he => by omega, by omega⟩
    rintro again t z ⟨k, K, hk, rfl, hK0, hKD, hKe, rfl⟩ ih
    simp only [bndE]
    rw [show Int32.ofNat S.length = J (S.length : Nat) from rfl]
    by_cases q : k = W.length
    · have ek : s.getD k 0 = S.length := by rw [q, l3]
      by_cases q2 : J (S.length : Nat) ≤ J (k : Nat)
      · rw [if_pos q2]
        exact Ok_some ⟨rfl, K, hK0, by rw [q], fun e he => hKe e (by omega)⟩
      · rw [if_neg q2, ek, if_pos (Int32.le_refl _)]
        exact Ok_some ⟨rfl, K, hK0, by rw [q], fun e he => hKe e (by omega)⟩
    · obtain ⟨t1, t2, t3, t4, t5⟩ := l5 k (by omega)
      rw [if_neg (show ¬ J (S.length : Nat) ≤ J (k : Nat) by rw [J_le (by omega) (by omega) (by omega) (by omega)]; omega), if_neg (show ¬ J (S.length : Nat) ≤ J (s.getD k 0 : Nat) by rw [J_le (by omega) (by omega) (by omega) (by omega)]; omega)]
      obtain ⟨u1, e1, rfl⟩ := c_wordEnd hS (show k < W.length by omega) (K k)
      rw [e1, Option.bind_some]
      dsimp only
      obtain ⟨u2, e2, rfl⟩ := c_packed hS (show k < W.length by omega) 9 (by omega) (K k)
      rw [show (9 : Int32) = J ((9 : Nat) : Int) from rfl, e2, Option.bind_some]
      dsimp only
      obtain ⟨Δ, e3, hΔ⟩ := hA (W.getD k []) (K k) (lst_nmW hS (by omega)) hKD
      unfold tm9 at e3
      rw [e3, Option.bind_some]
      dsimp only
      rw [show J ((s.getD k 0 + (W.getD k []).length : Nat) : Int) + 1 = J (s.getD (k + 1) 0 : Nat) by rw [J_lit, J_add, t3]; rfl, show J (k : Nat) + 1 = J (k + 1 : Nat) by rw [J_lit, J_add]; rfl]
      refine ih _ (W.length - (k + 1)) (by omega) ⟨k + 1, fun e => if e ≤ k then K e else Δ, by omega, by dsimp only; rw [if_neg (show ¬ k + 1 ≤ k by omega)], by dsimp only; rw [if_pos (Nat.zero_le _)]; exact hK0, by dsimp only; rw [if_neg (show ¬ k + 1 ≤ k by omega)]; exact hR _ _ _ hΔ, fun e he => ?_, rfl⟩
      dsimp only
      by_cases ee : e = k
      · subst ee
        rw [if_pos (Nat.le_refl _), if_neg (by omega)]; exact hΔ
      · rw [if_pos (by omega), if_pos (by omega)]; exact hKe e (by omega)
  obtain ⟨⟨x, E⟩, e, h0, hK⟩ := key
  dsimp only at h0 hK
  subst h0
  exact ⟨E, e, hK⟩
theorem c_packed2 {S : List Int32} {w : List Int} {p : Nat} (t1 : 0 < w.length) (t2 : w.length ≤ 12) (h1 : S.length < 1000) (t4 : p + w.length ≤ S.length) (t5 : ∀ j, j < w.length → g_chr (S.getD (p + j) 0) = J (w.getD j 0) ∧ 97 ≤ w.getD j 0 ∧ w.getD j 0 ≤ 122) (n : Nat) (hn : n ≤ 12) (Γ : HS) : Ok (F_X11_packed S (J (p : Nat)) (J ((p + w.length : Nat) : Int)) (J n) Γ) fun u => u = (L64 (dgF (dgw w) n), Γ) := by
  unfold F_X11_packed
  simp only [bnd, J_ofNat]
  refine Ok_loop (P := fun s m => ∃ j : Nat, j ≤ n ∧ m = n - j ∧ s = (L64 (dgF (dgw w) j), J j, Γ)) ?_ FU _ n (FU_gt (by omega)) ⟨0, by omega, rfl, rfl⟩
  rintro a s m ⟨j, hj, rfl, rfl⟩ ih
  have hstep : j < n → ∀ d : Int, d = dgw w j → Ok (a (L64 (dgF (dgw w) j) * 37 + L64 d, J (j : Nat) + 1, Γ)) fun u => u = (L64 (dgF (dgw w) n), Γ) := by
    intro hjn d hd
    rw [show (37 : Int64) = L64 37 from rfl, L_mul, L_add, show J (j : Nat) + 1 = J (j + 1 : Nat) by rw [J_lit, J_add]; rfl, hd]
    exact ih _ (n - (j + 1)) (by omega) ⟨j + 1, by omega, rfl, rfl⟩
  by_cases q : j = n
  · subst q
    exact Ok_pos (Int32.le_refl _) (Ok_some rfl)
  · refine Ok_neg (by simp (disch := omega) only [J_lit, J_add, J_sub, J_mul, J_neg, J_lt, J_le, J_eq, J_natN, J_nat, Int.toNat_natCast, tnl, tnc] <;> omega) ?_
    rw [J_add, ← Int.natCast_add]
    refine Ok_neg (by simp (disch := omega) only [J_lit, J_add, J_sub, J_mul, J_neg, J_lt, J_le, J_eq, J_natN, J_nat, Int.toNat_natCast, tnl, tnc] <;> omega) ?_
    by_cases q2 : j < w.length
    · obtain ⟨y1, y2, y3⟩ := t5 j q2
      refine Ok_neg (by simp (disch := omega) only [J_lit, J_add, J_sub, J_mul, J_neg, J_lt, J_le, J_eq, J_natN, J_nat, Int.toNat_natCast, tnl, tnc] <;> omega) ?_
      refine Ok_neg (by simp (disch := omega) only [J_lit, J_add, J_sub, J_mul, J_neg, J_lt, J_le, J_eq, J_natN, J_nat, Int.toNat_natCast, tnl, tnc] <;> omega) ?_
      refine Ok_neg (by decide) ?_
      refine Ok_neg (by simp (disch := omega) only [J_lit, J_add, J_sub, J_mul, J_neg, J_lt, J_le, J_eq, J_natN, J_nat, Int.toNat_natCast, tnl, tnc] <;> omega) ?_
      rw [J_natN (by omega), y1, c_nameSign (by omega), Option.bind_some]
      have hr := nsg_rng (c := w.getD j 0) (isLF_iff.mpr (Or.inl ⟨y2, y3⟩))
      dsimp only
      rw [J_64 (by omega) (by omega)]
      exact hstep (by omega) _ (by unfold dgw; rw [if_pos q2])
    · refine Ok_pos (by simp (disch := omega) only [J_lit, J_add, J_sub, J_mul, J_neg, J_lt, J_le, J_eq, J_natN, J_nat, Int.toNat_natCast, tnl, tnc] <;> omega) ?_
      refine Ok_pos trivial ?_
      exact hstep (by omega) 0 (by unfold dgw; rw [if_neg q2])
theorem packed_me (Γ : HS) : F_X11_packed ([109, 101] : List Int32) 0 2 9 Γ = some (L64 (tm9 [109, 101]), Γ) := by
  obtain ⟨u, e, rfl⟩ := c_packed2 (S := [109, 101]) (w := [109, 101]) (p := 0) (by decide) (by decide) (by decide) (by decide) (by decide) 9 (by omega) Γ
  exact e
theorem packed_in (Γ : HS) : F_X11_packed ([105, 110] : List Int32) 0 2 9 Γ = some (L64 (tm9 [105, 110]), Γ) := by
  obtain ⟨u, e, rfl⟩ := c_packed2 (S := [105, 110]) (w := [105, 110]) (p := 0) (by decide) (by decide) (by decide) (by decide) (by decide) 9 (by omega) Γ
  exact e
theorem packed_on (Γ : HS) : F_X11_packed ([111, 110] : List Int32) 0 2 9 Γ = some (L64 (tm9 [111, 110]), Γ) := by
  obtain ⟨u, e, rfl⟩ := c_packed2 (S := [111, 110]) (w := [111, 110]) (p := 0) (by decide) (by decide) (by decide) (by decide) (by decide) 9 (by omega) Γ
  exact e
theorem learn_none (o : Int32) (Γ : HS) : F_X7_learnOwned o [] Γ = some ((0 : Int32), Γ) := rfl
