/-! a definition's list: seen -/
variable {T N : Nat} {kd vl rv : Nat → Int} {pl : Nat → Nat}
def lsF (a : Int32 × Int32) (td : Bool) (m k p : Nat) : Int32 × Int32 := if k + 1 ≤ 6 then sawF a td m p else ntF (sawF a td m p) 5 p
theorem lsF_nGe {a : Int32 × Int32} {td : Bool} {m k p P : Nat} (hp : P ≤ p) (hp2 : p ≤ 5000) : nGe P a (lsF a td m k p) := by
  unfold lsF
  split
  · exact sawF_nGe hp hp2
  · exact nGe_trans (sawF_nGe hp hp2) (nGe_nt (by omega) hp hp2)
def lsS (τ : MS) (b : Int32 × Int32) (s m : Nat) (r : Int32) : MS := noF (sawS τ b s m r) b
theorem sawS_noF {σ : MS} {a b : Int32 × Int32} {s m : Nat} {r : Int32} : noF (sawS σ a s m r) b = sawS σ b s m r := by
  unfold sawS
  split
  · rw [show mA (mI (mI (noF σ a) 34 (J (m + 1 : Nat))) 33 (J (s + 1 : Nat))) 31 (upd (σ.2 31) s r) = mA (mI (mI (noF σ a) 34 (J (m + 1 : Nat))) 33 (J (s + 1 : Nat))) 31 (upd (σ.2 31) s r) from rfl]
    have e : ∀ (X : MS) (g : Nat → Int32), noF (mA X 31 g) b = mA (noF X b) 31 g := fun X g => rfl
    rw [e, noF_mI (by omega) (by omega), noF_mI (by omega) (by omega), noF_noF]
  · rw [noF_mI (by omega) (by omega), noF_noF]
theorem lq_step {K : MS → MR} {τ : MS} {x y t s m k : Nat} {r : Int} (hy : y < 39990) (h19 : τ.2 19 y = J r) (h18 : τ.2 18 y = J (pl t)) (hr : 0 ≤ r ∧ r < 8000) (hw : WS τ s m) (hk : k ≤ 5000) (n : Nat) : loopF (Lq2 K (J (x : Nat))) (n + 1) (J (k : Nat), J (y : Nat), τ) = loopF (Lq2 K (J (x : Nat))) n (J (k + 1 : Nat), τ.2 22 y, sawS τ (lsF (flt τ) (tdB τ s r) m k (pl t)) s m (J r)) := by
  have en := g_en (n := y) (by omega)
  have en2 := (ng (n := y) (by omega)).2
  have sa := r_seeAnew (t := t) hy h19 h18 hr hw
  rw [Lq2_s, if_neg (J_nlt0 (by omega) (by omega)), sa, Option.bind_some, bndE, bndE, show J (k : Nat) + 1 = J (k + 1 : Nat) by rw [J_lit, J_add]; rfl]
  have e22 : ∀ b, (sawS τ b s m (J r)).2 22 y = τ.2 22 y := fun b => by rw [sawS_rS.2 22 (by omega)]
  have e18 : ∀ b, (sawS τ b s m (J r)).2 18 y = J (pl t) := fun b => by rw [sawS_rS.2 18 (by omega)]; exact h18
  unfold lsF
  by_cases q : k + 1 ≤ 6
  · rw [if_pos (by rw [show (6 : Int32) = J 6 from rfl, J_le (by omega) (by omega) (by omega) (by omega)]; omega), if_pos q]
    dsimp only
    rw [if_neg en, bndE, en2, e22]
  · rw [if_neg (by rw [show (6 : Int32) = J 6 from rfl, J_le (by omega) (by omega) (by omega) (by omega)]; omega), if_neg q, if_neg en, en2]
    dsimp only
    rw [e18, show F_X12_note 5 (J (pl t : Nat)) _ = _ from r_note _ 5 (pl t), Option.bind_some, sawS_flt, sawS_noF]
    rw [en2] at en
    rw [if_neg en, bndE, e22]
/-- whatever was before -/
theorem gList (hT : TKE T N kd vl rv pl) (hp : plm T pl) (hpb : ∀ i, i ≤ T + 1 → pl i ≤ 5000) {σs : MS} {x m0 y n0 c i : Nat} (hx : x < 39990) (hm : m0 < 39990) (h21 : σs.2 21 x = J (m0 : Nat)) (h19 : σs.2 19 m0 = J (y : Nat)) (hn : n0 + c < 39980) (hS : NMS kd rv pl σs n0 c i) (hi : i + 2 * c ≤ T + 1) : ∀ (d k s m : Nat) (τ : MS), k + d = c → agA σs τ → WS τ s m → m + d ≤ 5000 → ∃ τ', (∀ (K : MS → MR) (N' : Nat), d < N' → loopF (Lq2 K (J (x : Nat))) N' (J (k : Nat), J (if k < c then ((n0 + k : Nat) : Int) else -1), τ) = ((G_X12_seeBlock (J (y : Nat)) τ').bind fun u => K u.2)) ∧ rS τ τ' ∧ nGe (pl (i + 2 * k)) (flt τ) (flt τ') ∧ ∃ s' m', WS τ' s' m' ∧ m' ≤ m + d := by
  have hT1 := hT.1
  intro d
  induction d with
  | zero =>
    intro k s m τ hk ha hw hm5
    refine ⟨τ, fun K N' hN => ?_, rS_rfl, nGe_rfl, s, m, hw, by omega⟩
    obtain ⟨N', rfl⟩ : ∃ z, N' = z + 1 := ⟨N' - 1, by omega⟩
    rw [if_neg (by omega)]
    exact lq_end hx hm (by rw [ha 21 (by omega) (by omega)]; exact h21) (by rw [ha 19 (by omega) (by omega)]; exact h19) (by decide) N'
  | succ d ih =>
    intro k s m τ hk ha hw hm5
    obtain ⟨⟨q1, q2, q3⟩, q4, q5, q6⟩ := hS k (by omega)
    have hv := SC_vl hT (show i + 2 * k ≤ T by omega) q4
    have e22 : τ.2 22 (n0 + k) = J (if k + 1 < c then ((n0 + (k + 1) : Nat) : Int) else -1) := by
      rw [ha 22 (by omega) (by omega), q5]; split <;> rfl
    have hw2 := sawS_WS (a := lsF (flt τ) (tdB τ s (rv (i + 2 * k))) m k (pl (i + 2 * k))) (r := J (rv (i + 2 * k))) hw (by omega)
    obtain ⟨τ', f1, f2, f3, s', m', f4, f5⟩ := ih (k + 1) _ _ _ (by omega) (agA_rS ha sawS_rS) hw2 (by omega)
    refine ⟨τ', fun K N' hN => ?_, rS_trans sawS_rS f2, ?_, s', m', f4, by omega⟩
    · obtain ⟨N', rfl⟩ : ∃ z, N' = z + 1 := ⟨N' - 1, by omega⟩
      rw [if_pos (show k < c by omega)]
      have st := lq_step (pl := pl) (K := K) (τ := τ) (x := x) (y := n0 + k) (t := i + 2 * k) (s := s) (m := m) (k := k) (r := rv (i + 2 * k)) (by omega) (by rw [ha 19 (by omega) (by omega)]; exact q3) (by rw [ha 18 (by omega) (by omega)]; exact q2) (by omega) hw (by omega) N'
      rw [e22] at st
      exact st.trans (f1 K N' (by omega))
    · rw [sawS_flt] at f3
      refine nGe_trans (lsF_nGe (Nat.le_refl _) (hpb _ (by omega))) (nGe_le f3 ?_)
      have := hp (i + 2 * k) (i + 2 * (k + 1)) (by omega) (by omega); omega
