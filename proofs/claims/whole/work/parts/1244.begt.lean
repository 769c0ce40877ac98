/-! begin: everything is put into its place, in both -/
def pw (wh : Nat → Nat) (i : Nat) : Nat → Nat := fun j => if 1 ≤ j ∧ j < i then wh j else 0
theorem upP_z {pa : Nat → Nat} (h0 : pa 0 = 0) : ∀ k, upP pa k 0 = 0 := by
  intro k
  induction k with
  | zero => rfl
  | succ k ih => show upP pa k (pa 0) = 0; rw [h0]; exact ih
theorem upP_ad {pa : Nat → Nat} : ∀ a b x, upP pa (a + b) x = upP pa b (upP pa a x) := by
  intro a
  induction a with
  | zero => intro b x; rw [Nat.zero_add]; rfl
  | succ a ih => intro b x; rw [Nat.succ_add]; exact ih b (pa x)
theorem pw_up {wh : Nat → Nat} {i : Nat} : ∀ k x, upP (pw wh i) k x ≠ 0 → upP wh k x = upP (pw wh i) k x := by
  intro k
  induction k with
  | zero => intro x _; rfl
  | succ k ih =>
    intro x h
    have h' : upP (pw wh i) k (pw wh i x) ≠ 0 := h
    show upP wh k (wh x) = upP (pw wh i) k (pw wh i x)
    have e : pw wh i x = wh x := by
      by_cases c : 1 ≤ x ∧ x < i
      · exact if_pos c
      · have z : pw wh i x = 0 := if_neg c
        rw [z, upP_z (pa := pw wh i) (if_neg (by omega))] at h'
        exact absurd rfl h'
    rw [e] at h' ⊢
    exact ih _ h'
theorem no_ring {wh : Nat → Nat} {i : Nat} (h0 : wh 0 = 0) (hi : i ≠ 0) (hw : ∃ k, upP wh k i = 0) (j : Nat) : upP wh (j + 1) i ≠ i := by
  intro c
  have g : ∀ m, upP wh ((j + 1) * m) i = i := by
    intro m
    induction m with
    | zero => rfl
    | succ m ih => rw [Nat.mul_succ, upP_ad, ih]; exact c
  obtain ⟨k, hk⟩ := hw
  have l : k ≤ (j + 1) * k := by rw [Nat.succ_mul]; omega
  have e := g k
  obtain ⟨r, hr⟩ : ∃ r, (j + 1) * k = k + r := ⟨(j + 1) * k - k, by omega⟩
  rw [hr, upP_ad, hk, upP_z h0] at e
  exact hi e.symm
/-- those below i are in their places -/
def MVI (nO : Nat) (wh : Nat → Nat) (i : Nat) (σ : MS) (Γ : HS) : Prop := ∃ (fi nx : Nat → Nat) (ch : Nat → List Nat), TR nO (pw wh i) fi nx ch ∧ RT σ (pw wh i) fi nx ∧ CTr Γ (pw wh i) fi nx
/-- where everything is at first -/
def WHR (nO : Nat) (wh : Nat → Nat) : Prop := (∀ x, wh x ≤ nO) ∧ wh 0 = 0 ∧ (∀ x, nO < x → wh x = 0) ∧ ∀ x, ∃ k, upP wh k x = 0
theorem MVI_1 {nO : Nat} {wh : Nat → Nat} {σ : MS} {Γ : HS} (hn : nO ≤ 120) (h1 : ∀ i, i ≤ 120 → σ.2 87 i = 0 ∧ σ.2 88 i = 0 ∧ σ.2 89 i = 0) (h2 : ∀ i, i ≤ 120 → (Γ 9).2.1 0 i = 0 ∧ (Γ 9).2.1 1 i = 0 ∧ (Γ 9).2.1 2 i = 0) : MVI nO wh 1 σ Γ := by
  have e : pw wh 1 = fun _ => 0 := by funext j; exact if_neg (by omega)
  unfold MVI
  rw [e]
  refine ⟨fun _ => 0, fun _ => 0, fun _ => [], ⟨hn, fun h _ _ => ⟨by unfold chL; rfl, List.nodup_nil⟩, fun h x a _ => ⟨fun c => absurd c (List.not_mem_nil), fun c => by have e : 0 = h := c.2.2; omega⟩, fun _ => Nat.zero_le _, ⟨rfl, rfl, rfl⟩, fun _ _ => ⟨rfl, rfl, rfl⟩, fun x => ⟨1, rfl⟩, fun _ => Nat.zero_le _⟩, h1, h2⟩
theorem mv_step {nO i : Nat} {wh : Nat → Nat} {σ : MS} {Γ : HS} (hW : WHR nO wh) (hi : 1 ≤ i ∧ i ≤ nO) (hp : 1 ≤ wh i) (h : MVI nO wh i σ Γ) : ∃ τ Δ, F_X12_putIn (J (i : Nat)) (J (wh i : Nat)) σ = some ((0 : Int32), τ) ∧ F_X6_moveInto (J (i : Nat)) (J (wh i : Nat)) Γ = some ((0 : Int32), Δ) ∧ ofT σ τ ∧ ocT Γ Δ ∧ MVI nO wh (i + 1) τ Δ := by
  obtain ⟨w1, w2, w3, w4⟩ := hW
  obtain ⟨fi, nx, ch, t, hR, hC⟩ := h
  obtain ⟨τ, e1, e2, e3⟩ := r_putIn t hi (w1 i) hR
  obtain ⟨Δ, f1, f2, f3⟩ := c_moveInto t hi (w1 i) hC
  have hw : wiN (pw wh i) i (nO + 1) (wh i) ≠ true := by
    intro c
    obtain ⟨j, hj⟩ := (wiN_up t.2.2.2.2.1.1 (by omega) nO (wh i) (TR_up t (w1 i))).mp c
    have u := pw_up (wh := wh) (i := i) j (wh i) (by rw [hj]; omega)
    rw [hj] at u
    exact no_ring w2 (by omega) (w4 i) j u
  have t2 := TR_mv t hi ⟨hp, w1 i⟩ hw
  have e : uN (toP (pw wh i) i) i (wh i) = pw wh (i + 1) := by
    funext j
    unfold toP
    rw [uN_s]
    by_cases c : j = i
    · rw [if_pos c, c]; exact (if_pos (by omega)).symm
    · rw [if_neg c, uN_s, if_neg c]
      unfold pw
      by_cases d : 1 ≤ j ∧ j < i
      · rw [if_pos d, if_pos (by omega)]
      · rw [if_neg d, if_neg (by omega)]
  rw [e] at t2 e3 f3
  exact ⟨τ, Δ, e1, f1, e2, f2, _, _, _, t2, e3, f3⟩
theorem MVI_skip {nO i : Nat} {wh : Nat → Nat} {σ : MS} {Γ : HS} (hp : wh i = 0) (h : MVI nO wh i σ Γ) : MVI nO wh (i + 1) σ Γ := by
  have e : pw wh (i + 1) = pw wh i := by
    funext j
    unfold pw
    by_cases c : j = i
    · rw [c, if_neg (show ¬ (1 ≤ i ∧ i < i) by omega)]
      split
      · exact hp
      · rfl
    · by_cases d : 1 ≤ j ∧ j < i
      · rw [if_pos d, if_pos (by omega)]
      · rw [if_neg d, if_neg (by omega)]
  unfold MVI
  rw [e]; exact h
theorem ofT_tr {σ τ υ : MS} (h : ofT σ τ) (k : ofT τ υ) : ofT σ υ := ⟨by rw [k.1, h.1], fun j a b c => by rw [k.2 j a b c, h.2 j a b c]⟩
theorem ocT_tr {Γ Δ Θ : HS} (h : ocT Γ Δ) (k : ocT Δ Θ) : ocT Γ Θ := ⟨fun r hr => by rw [k.1 r hr, h.1 r hr], by rw [k.2.1, h.2.1], fun j hj => by rw [k.2.2 j hj, h.2.2 j hj]⟩
/-- all from i on are put into their places, by both -/
theorem mv_all {nO : Nat} {wh : Nat → Nat} (p0 : Int32) (hn : nO ≤ 120) (hW : WHR nO wh) : ∀ (d i m m' : Nat) (σ : MS) (Γ : HS), i + d = nO + 1 → 2 ≤ i → d < m → d < m' → σ.1 78 = J (nO : Nat) → (Γ 4).2.1 0 0 = J (nO : Nat) → (∀ x, 2 ≤ x → x ≤ nO → σ.2 52 x = J (wh x : Nat) ∧ (Γ 4).2.1 4 x = J (wh x : Nat)) → MVI nO wh i σ Γ → ∃ τ Δ, loopF (BgC p0) m (J (i : Nat), σ) = loopF (BgD p0) FU (0, τ) ∧ loopF BgM m' (J (i : Nat), Γ) = some ((0 : Int32), Δ) ∧ ofT σ τ ∧ ocT Γ Δ ∧ MVI nO wh (nO + 1) τ Δ := by
  intro d
  induction d with
  | zero =>
    intro i m m' σ Γ hi h2 hm hm' h78 h40 hr h
    obtain ⟨m, rfl⟩ : ∃ q, m = q + 1 := ⟨m - 1, by omega⟩
    obtain ⟨m', rfl⟩ : ∃ q, m' = q + 1 := ⟨m' - 1, by omega⟩
    have ei : i = nO + 1 := by omega
    refine ⟨σ, Γ, ?_, ?_, ⟨rfl, fun _ _ _ _ => rfl⟩, ⟨fun _ _ => rfl, rfl, fun _ _ => rfl⟩, ei ▸ h⟩
    · rw [BgC_s, h78, if_pos (show J (nO : Nat) < J (i : Nat) by rw [J_ltN (by omega) (by omega)]; omega)]
    · rw [BgM_s, c_isObj h40 hn (by omega) (by omega), Option.bind_some]
      dsimp only
      rw [mrgE (fun _ _ => rfl), bndE, if_neg (show ¬ (1 ≤ (i : Int) ∧ (i : Int) ≤ nO) by omega), if_pos rfl]
      split <;> rfl
  | succ d ih =>
    intro i m m' σ Γ hi h2 hm hm' h78 h40 hr h
    obtain ⟨m, rfl⟩ : ∃ q, m = q + 1 := ⟨m - 1, by omega⟩
    obtain ⟨m', rfl⟩ : ∃ q, m' = q + 1 := ⟨m' - 1, by omega⟩
    have ei : J (i : Nat) + 1 = J (i + 1 : Nat) := by rw [show (1 : Int32) = J 1 from rfl, J_add]; congr 1
    obtain ⟨r1, r2⟩ := hr i h2 (by omega)
    have w1 := hW.1 i
    have eR := BgC_s p0 m (J (i : Nat)) σ
    rw [h78, if_neg (show ¬ J (nO : Nat) < J (i : Nat) by rw [J_ltN (by omega) (by omega)]; omega), if_neg (gNn (by omega) (by omega)), bndE, J_natN (by omega), r1, ei] at eR
    have eC := BgM_s m' (J (i : Nat)) Γ
    rw [if_neg (show ¬ 120 < J (i : Nat) by rw [show (120 : Int32) = J ((120 : Nat) : Int) from rfl, J_ltN (by omega) (by omega)]; omega), c_isObj h40 hn (by omega) (by omega), Option.bind_some] at eC
    dsimp only at eC
    rw [mrgE (fun _ _ => rfl), bndE, if_pos (show 1 ≤ (i : Int) ∧ (i : Int) ≤ nO by omega), if_neg (show ¬ (1 : Int32) = 0 by decide), q_g_at_in (by omega) (by omega) (by omega), Int.toNat_natCast, r2, bndE, bndE, ei] at eC
    by_cases q : wh i = 0
    · rw [if_pos (show J (wh i : Nat) ≤ 0 by rw [q]; decide)] at eR
      rw [if_pos (show J (wh i : Nat) = 0 by rw [q]; rfl)] at eC
      dsimp only at eR eC
      rw [bndE] at eR eC
      rw [eR, eC]
      exact ih (i + 1) m m' σ Γ (by omega) (by omega) (by omega) (by omega) h78 h40 hr (MVI_skip q h)
    · obtain ⟨τ, Δ, e1, f1, e2, f2, h'⟩ := mv_step hW ⟨by omega, by omega⟩ (by omega) h
      rw [if_neg (show ¬ J (wh i : Nat) ≤ 0 by rw [show (0 : Int32) = J ((0 : Nat) : Int) from rfl, J_leN (by omega) (by omega)]; omega), if_neg (show ¬ (J (i : Nat) < 0 ∨ 121 ≤ i) from fun h => h.elim (fun c => J_nlt0 (by omega) (by omega) c) (fun c => by omega)), e1, Option.bind_some] at eR
      rw [if_neg (show ¬ J (wh i : Nat) = 0 by rw [J_z0 (by omega)]; exact q), bndE, f1, Option.bind_some] at eC
      dsimp only at eR eC
      rw [bndE] at eR
      rw [mrgE (fun r hr => f2.1 r (by rintro rfl; exact absurd hr (by decide))), bndE] at eC
      rw [bndE] at eC
      rw [eR, eC]
      obtain ⟨υ, Θ, a1, a2, a3, a4, a5⟩ := ih (i + 1) m m' τ Δ (by omega) (by omega) (by omega) (by omega) (by rw [e2.1]; exact h78) (by rw [f2.1 4 (by omega)]; exact h40) (fun x x2 xn => by rw [e2.2 52 (by omega) (by omega) (by omega), f2.1 4 (by omega)]; exact hr x x2 xn) h'
      exact ⟨υ, Θ, a1, a2, ofT_tr e2 a3, ocT_tr f2 a4, a5⟩
