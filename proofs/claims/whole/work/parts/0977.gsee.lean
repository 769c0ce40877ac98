/-! seeing goes on whatever it has met -/
variable {T N : Nat} {kd vl rv : Nat → Int} {pl : Nat → Nat}
def Sb1 (σ : MS) (rec : GF) : ((Int32 × MS) → MR) → Int32 × MS → MR := (fun (again_6 : (Int32 × MS) → MR) (s_5 : Int32 × MS) => ( if s_5.1 < 0 then ( bnd (mI s_5.2 33 (σ.1 33)) fun σ_11 => some (0, σ_11) ) else ( (rec 1 s_5.1 0 0 s_5.2).bind fun u_14 => if s_5.1 < 0 ∨ 40000 ≤ s_5.1.toNatClampNeg then none else bnd ((u_14.2.2 22 s_5.1.toNatClampNeg)) fun (x_18 : Int32) => again_6 (x_18, u_14.2) ) ))
def rS (σ τ : MS) : Prop := (∀ k, k ≠ 14 → k ≠ 15 → k ≠ 33 → k ≠ 34 → τ.1 k = σ.1 k) ∧ (∀ j, j ≠ 31 → τ.2 j = σ.2 j)
theorem rS_rfl {σ : MS} : rS σ σ := ⟨fun _ _ _ _ _ => rfl, fun _ _ => rfl⟩
theorem rS_trans {σ τ υ : MS} (h : rS σ τ) (i : rS τ υ) : rS σ υ := ⟨fun k a b c d => by rw [i.1 k a b c d, h.1 k a b c d], fun j hj => by rw [i.2 j hj, h.2 j hj]⟩
theorem rS_mI {σ : MS} {k : Nat} {v : Int32} (h : k = 33 ∨ k = 34) : rS σ (mI σ k v) := ⟨fun j a b c d => by rw [mI_1, if_neg (by omega)], fun _ _ => rfl⟩
def agA (σ τ : MS) : Prop := ∀ k, 17 ≤ k → k ≤ 22 → τ.2 k = σ.2 k
theorem agA_rS {σ τ υ : MS} (h : agA σ τ) (i : rS τ υ) : agA σ υ := fun k k1 k2 => by rw [i.2 k (by omega), h k k1 k2]
theorem sawS_rS {σ : MS} {a : Int32 × Int32} {s m : Nat} {r : Int32} : rS σ (sawS σ a s m r) := by
  unfold sawS
  split
  · exact ⟨fun k a b c d => by show (mI (mI (noF σ _) 34 _) 33 _).1 k = _; rw [mI_1, if_neg c, mI_1, if_neg d, noF_i a b], fun j hj => by rw [mA_2, if_neg hj]; rfl⟩
  · exact ⟨fun k a b c d => by rw [mI_1, if_neg d, noF_i a b], fun j hj => rfl⟩
theorem sawS_flt {σ : MS} {a : Int32 × Int32} {s m : Nat} {r : Int32} : flt (sawS σ a s m r) = a := by
  unfold sawS
  split
  · show flt (mI (mI (noF σ a) 34 (J (m + 1 : Nat))) 33 (J (s + 1 : Nat))) = _
    rw [flt_mI (by omega) (by omega), flt_mI (by omega) (by omega), noF_flt]
  · rw [flt_mI (by omega) (by omega), noF_flt]
theorem sawS_WS {σ : MS} {a : Int32 × Int32} {s m : Nat} {r : Int32} (h : WS σ s m) (hm : m < 5000) : WS (sawS σ a s m r) (if s < 16 then s + 1 else s) (m + 1) := by
  obtain ⟨h1, h2, h3, h4⟩ := h
  unfold sawS
  by_cases q : s < 16
  · rw [if_pos q, if_pos q]
    exact ⟨rfl, by omega, rfl, by omega⟩
  · rw [if_neg q, if_neg q]
    refine ⟨?_, h2, rfl, by omega⟩
    rw [mI_1, if_neg (by omega), noF_i (by omega) (by omega)]; exact h1
theorem sawF_nGe {a : Int32 × Int32} {td : Bool} {m p P : Nat} (hp : P ≤ p) (hp2 : p ≤ 5000) : nGe P a (sawF a td m p) := by
  unfold sawF
  have h1 : nGe P a (if td = true then ntF a 4 p else a) := by
    split
    · exact nGe_nt (by omega) hp hp2
    · exact nGe_rfl
  show nGe P a (if 14 ≤ m then ntF (if td = true then ntF a 4 p else a) 5 p else (if td = true then ntF a 4 p else a))
  split
  · exact nGe_trans h1 (nGe_nt (by omega) hp hp2)
  · exact h1
/-- words stand one behind the other -/
def plm (T : Nat) (pl : Nat → Nat) : Prop := ∀ i j, i < j → j ≤ T + 1 → pl i < pl j
theorem STX_kind {σ : MS} {Γ : HS} : ∀ (n g lo hi x i j p q : Nat), STX kd vl rv pl σ Γ n g lo hi x i j p q → ((g = 1 ∨ g = 3) → σ.2 17 x = J 34) ∧ ((g = 2 ∨ g = 4 ∨ g = 5) → σ.2 17 x = J 27) := by
  intro n
  induction n with
  | zero => intro g lo hi x i j p q h; exact absurd h (by simp [STX])
  | succ n ih =>
    intro g lo hi x i j p q h
    unfold STX at h
    rcases h.2.2.2.2 with h | ⟨g1, f, c, j', a1, a2, a3, a4, -⟩ | ⟨g2, a1, -⟩ | ⟨g', g3, a1⟩
    · exact ⟨fun _ => absurd h.1 (by omega), fun _ => absurd h.1 (by omega)⟩
    · exact ⟨fun _ => a4, fun _ => absurd g1 (by omega)⟩
    · exact ⟨fun _ => absurd g2 (by omega), fun _ => a1⟩
    · have := ih _ _ _ _ _ _ _ _ a1
      rcases g3 with ⟨b1, b2⟩ | ⟨b1, b2⟩ | ⟨b1, b2⟩
      · exact ⟨fun _ => this.1 (by omega), fun _ => absurd b1 (by omega)⟩
      · exact ⟨fun _ => absurd b1 (by omega), fun _ => this.2 (by omega)⟩
      · exact ⟨fun _ => absurd b1 (by omega), fun _ => this.2 (by omega)⟩
def fO (g : Nat) : Nat := if g = 0 then 3 else if g = 1 then 2 else if g = 2 then 1 else if g = 3 then 4 else if g = 4 then 5 else 3
def cO (g : Nat) : Nat := if g = 1 ∨ g = 3 then 0 else 1
def gRes (pl : Nat → Nat) (τ : MS) (i j m : Nat) (u : Int32 × MS) : Prop := rS τ u.2 ∧ nGe (pl i) (flt τ) (flt u.2) ∧ ∃ s' m', WS u.2 s' m' ∧ m' ≤ m + (j - i)
theorem q_gV_0 (d : Nat) (a : Int32) (σ : MS) : gV (d + 1) 0 a 0 0 σ = F_X12_seeBlock (gV d) a σ := rfl
theorem q_gV_1 (d : Nat) (a : Int32) (σ : MS) : gV (d + 1) 1 a 0 0 σ = F_X12_seeStatement (gV d) a σ := rfl
theorem seeBlock_eq (rec : GF) (p0 : Int32) (σ : MS) : F_X12_seeBlock rec p0 σ = if p0 < 0 ∨ 40000 ≤ p0.toNatClampNeg then none else bnd (σ.2 19 p0.toNatClampNeg) fun (x_3 : Int32) => loopF (Sb1 σ rec) FU (x_3, σ) := rfl
theorem Sb1_s (σ : MS) (rec : GF) (n : Nat) (l : Int32) (τ : MS) : loopF (Sb1 σ rec) (n + 1) (l, τ) = if l < 0 then bnd (mI τ 33 (σ.1 33)) fun σ_11 => some ((0 : Int32), σ_11) else (rec 1 l 0 0 τ).bind fun u_14 => if l < 0 ∨ 40000 ≤ l.toNatClampNeg then none else bnd (u_14.2.2 22 l.toNatClampNeg) fun (x_18 : Int32) => loopF (Sb1 σ rec) n (x_18, u_14.2) := rfl
/-- the statements of a block -/
theorem gsee_list {σs τ0 : MS} {Γs : HS} {n c lo hi i j p q d : Nat} {xs ls is js ps : Nat → Nat} (hp : plm T pl) (hj : j ≤ T + 1) (b1 : ∀ k, k < c → σs.2 22 (xs k) = J (if k + 1 < c then (xs (k + 1) : Int) else -1)) (b4 : ∀ k, k < c → ls k ≤ xs k ∧ xs k < ls (k + 1) ∧ STX kd vl rv pl σs Γs n 0 (ls k) (ls (k + 1)) (xs k) (is k) (js k) (ps k) (ps (k + 1))) (hi9 : ∀ k, k ≤ c → ls k ≤ 39000) (b9 : ∀ k, k < c → is k < js k ∧ is (k + 1) = js k) (hic : is c ≤ j) (hst : ∀ k τ s m, k < c → agA σs τ → WS τ s m → m + (js k - is k) ≤ 5000 → Ok (gV d 1 (J (xs k : Nat)) 0 0 τ) (gRes pl τ (is k) (js k) m)) : ∀ (e k N' : Nat) (τ : MS) (s m : Nat), k + e = c → e < N' → agA σs τ → WS τ s m → m + (is c - is k) ≤ 5000 → (∃ s0, WS τ0 s0 0 ∨ ∃ m0, WS τ0 s0 m0) → Ok (loopF (Sb1 τ0 (gV d)) N' (J (if k < c then (xs k : Int) else -1), τ)) fun u => rS τ u.2 ∧ (flt u.2 = flt τ ∨ nGe (pl (is k)) (flt τ) (flt u.2)) ∧ ∃ s' m', WS u.2 s' m' ∧ m' ≤ m + (is c - is k) := by
  have mono : ∀ e k, k + e ≤ c → is k + e ≤ is (k + e) := by
    intro e
    induction e with
    | zero => intro k _; exact Nat.le_refl _
    | succ e ih => intro k hk; have := ih k (by omega); have b := b9 (k + e) (by omega); rw [show k + (e + 1) = k + e + 1 by omega]; omega
  intro e
  induction e with
  | zero =>
    intro k N' τ s m hk hN ha hw hm h0
    obtain ⟨N', rfl⟩ : ∃ z, N' = z + 1 := ⟨N' - 1, by omega⟩
    have hkc : k = c := by omega
    rw [Sb1_s, if_neg (show ¬ k < c by omega), if_pos (show J (-1) < 0 by decide)]
    refine Ok_bnd (Ok_some ⟨rS_mI (by omega), Or.inl (flt_mI (by omega) (by omega)), ?_⟩)
    obtain ⟨s0, h0 | ⟨m0, h0⟩⟩ := h0
    · exact ⟨s0, m, ⟨h0.1, h0.2.1, hw.2.2.1, hw.2.2.2⟩, by omega⟩
    · exact ⟨s0, m, ⟨h0.1, h0.2.1, hw.2.2.1, hw.2.2.2⟩, by omega⟩
  | succ e ih =>
    intro k N' τ s m hk hN ha hw hm h0
    obtain ⟨N', rfl⟩ : ∃ z, N' = z + 1 := ⟨N' - 1, by omega⟩
    have hkc : k < c := by omega
    have bk := b4 k hkc
    have hl := hi9 (k + 1) (by omega)
    have b9k := b9 k hkc
    have mk := mono (c - (k + 1)) (k + 1) (by omega)
    rw [show k + 1 + (c - (k + 1)) = c by omega] at mk
    rw [Sb1_s, if_pos hkc, if_neg (J_nlt0 (by omega) (by omega))]
    refine Ok_bind (Ok_mono (hst k τ s m hkc ha hw (by omega)) (fun u hu => ?_))
    obtain ⟨u1, u2, s', m', u3, u4⟩ := hu
    refine Ok_neg (g_en (by omega)) (Ok_bnd ?_)
    have ha' := agA_rS ha u1
    rw [(ng (n := xs k) (by omega)).2, ha' 22 (by omega) (by omega), b1 k hkc]
    refine Ok_mono (ih (k + 1) N' u.2 s' m' (by omega) (by omega) ha' u3 (by omega) h0) (fun v hv => ?_)
    obtain ⟨v1, v2, s'', m'', v3, v4⟩ := hv
    refine ⟨rS_trans u1 v1, Or.inr (nGe_trans u2 ?_), s'', m'', v3, by omega⟩
    rcases v2 with v2 | v2
    · exact Or.inl v2
    · refine nGe_le v2 ?_
      rw [b9k.2]
      have := hp (is k) (js k) b9k.1 (by omega)
      omega
theorem gsee (hT : TKE T N kd vl rv pl) (hp : plm T pl) (hpb : ∀ i, i ≤ T + 1 → pl i ≤ 5000) {σs : MS} {Γs : HS} : ∀ (n g lo hi x i j p q : Nat), STX kd vl rv pl σs Γs n g lo hi x i j p q → hi ≤ 39000 → j ≤ T + 1 → ∀ (d : Nat) (τ : MS) (s m : Nat), agA σs τ → WS τ s m → m + (j - i) ≤ 5000 → 2 * n + 3 ≤ 3 * d + fO g → Ok (gV d (cO g) (J (x : Nat)) 0 0 τ) (gRes pl τ i j m) := by
  intro n
  induction n with
  | zero => intro g lo hi x i j p q h; exact absurd h (by simp [STX])
  | succ n ih =>
    intro g lo hi x i j p q h hhi hj d τ s m ha hw hm hd
    have hr := STX_rng h
    have en := g_en (n := x) (by omega)
    have en2 := (ng (n := x) (by omega)).2
    unfold STX at h
    obtain ⟨b1, b2, b3, b4, h⟩ := h
    have e17 := ha 17 (by omega) (by omega)
    rcases h with ⟨g0, hpq, h18, h⟩ | ⟨g1, f, c, j', a1, a2, a3, a4, a5, a6⟩ | ⟨g2, a0, e, b, k, k2, m3, m2, r, r2, t, a1, a2, a3, a4, a5, a6, ⟨lo', a7, a8⟩, a9, a10⟩ | ⟨g', g3, a1⟩
    · subst g0
      rcases h with ⟨j', a1, a2, a3⟩ | ⟨a1, a2, a3⟩ | ⟨e, b, k, m3, r, q', a1, a2, a3, a4, a5, a6, a7, a8, a9, a10, a11⟩
      · -- a plain statement
        obtain ⟨d, rfl⟩ : ∃ z, d = z + 1 := ⟨d - 1, by unfold fO at hd; simp at hd; omega⟩
        show Ok (gV (d + 1) 1 (J (x : Nat)) 0 0 τ) _
        rw [q_gV_1]
        unfold F_X12_seeStatement
        refine Ok_neg en (Ok_bnd ?_)
        rw [en2]
        obtain ⟨z1, z2, z3⟩ := PST_quiet a3
        have rest : ∀ (w : Int) (υ : MS), υ.2 17 x = J w → 0 ≤ w → w < 34 → w ≠ 27 → w ≠ 28 → gRes pl τ i j m (0, υ) → Ok (bnd (fun (σ_9 : MS) => (if J (x : Nat) < 0 ∨ 40000 ≤ x then none else if (σ_9.2 17 x) = 27 then (if J (x : Nat) < 0 ∨ 40000 ≤ x then none else if (σ_9.2 21 x) < 0 then some ((0 : Int32), σ_9) else (if J (x : Nat) < 0 ∨ 40000 ≤ x then none else bnd ((σ_9.2 21 x)) fun (x_24 : Int32) => if x_24 < 0 ∨ 40000 ≤ x_24.toNatClampNeg then none else if (σ_9.2 17 x_24.toNatClampNeg) = 27 then (if J (x : Nat) < 0 ∨ 40000 ≤ x then none else (gV d 1 (σ_9.2 21 x) 0 0 σ_9).bind fun u_32 => some (0, u_32.2)) else (if J (x : Nat) < 0 ∨ 40000 ≤ x then none else (gV d 0 (σ_9.2 21 x) 0 0 σ_9).bind fun u_37 => some (0, u_37.2)))) else some (0, σ_9) : MR)) fun j_10 => bnd (fun (σ_40 : MS) => (if J (x : Nat) < 0 ∨ 40000 ≤ x then none else (gV d 0 (σ_40.2 20 x) 0 0 σ_40).bind fun u_46 => j_10 u_46.2 : MR)) fun j_41 => if (υ.2 17 x) = 27 then j_41 υ else if J (x : Nat) < 0 ∨ 40000 ≤ x then none else if (υ.2 17 x) = 28 then j_41 υ else j_10 υ) (gRes pl τ i j m) := by
          intro w υ hυ w0 w1 w2 w3 hres
          rw [en2] at en
          have n27 : ¬ υ.2 17 x = 27 := by rw [hυ]; exact J_ne (by omega) (by omega) (by omega) (by omega) w2
          have n28 : ¬ υ.2 17 x = 28 := by rw [hυ]; exact J_ne (by omega) (by omega) (by omega) (by omega) w3
          exact Ok_bnd (Ok_bnd (Ok_neg n27 (Ok_neg en (Ok_neg n28 (Ok_neg en (Ok_neg n27 (Ok_some hres)))))))
        rw [en2] at en
        by_cases q21 : kd i = 242
        · rcases z2 with z2 | ⟨y0, y1, y2, y3, y, y4, y5, y6⟩
          · unfold qs at z2; omega
          · have hv := SC_vl hT (show i + 1 ≤ T by omega) y1
            refine Ok_bnd (Ok_pos (by rw [e17, y3]; rfl) (Ok_neg en ?_))
            rw [ha 19 (by omega) (by omega), y4, r_seeAnew (t := i + 1) (r := rv (i + 1)) (by omega) (by rw [ha 19 (by omega) (by omega)]; exact y5.2.2) (by rw [ha 18 (by omega) (by omega)]; exact y5.2.1) (by omega) hw]
            refine Ok_bind (Ok_some ?_)
            refine Ok_neg en (rest 21 (sawS τ (sawF (flt τ) (tdB τ s (rv (i + 1))) m (pl (i + 1))) s m (J (rv (i + 1)))) (by rw [sawS_rS.2 17 (by omega), e17]; exact y3) (by omega) (by omega) (by omega) (by omega) ⟨sawS_rS, ?_, _, _, sawS_WS hw (by omega), by omega⟩)
            rw [sawS_flt]
            exact sawF_nGe (by have := hp i (i + 1) (by omega) (by omega); omega) (hpb (i + 1) (by omega))
        · obtain ⟨w, w1, w2, w3, w4, w5, w6⟩ := z3 q21
          refine Ok_bnd (Ok_neg (by rw [e17, w1]; exact J_ne (by omega) (by omega) (by omega) (by omega) w4) ?_)
          exact Ok_neg en (rest w τ (by rw [e17]; exact w1) w2 w3 w5 w6 ⟨rS_rfl, nGe_rfl, s, m, hw, by omega⟩)
      · -- if
        refine Ok_mono (ih 2 lo hi x (i + 1) j p q a3 hhi hj d τ s m ha hw (by omega) (by unfold fO at hd ⊢; simp at hd ⊢; omega)) (fun u hu => ?_)
        obtain ⟨u1, u2, s', m', u3, u4⟩ := hu
        exact ⟨u1, nGe_le u2 (by have := hp i (i + 1) (by omega) (by omega); omega), s', m', u3, by omega⟩
      · -- while
        obtain ⟨d, rfl⟩ : ∃ z, d = z + 1 := ⟨d - 1, by unfold fO at hd; simp at hd; omega⟩
        have r11 := STX_rng a11
        have r10 := EX_rng a10
        show Ok (gV (d + 1) 1 (J (x : Nat)) 0 0 τ) _
        rw [q_gV_1]
        unfold F_X12_seeStatement
        refine Ok_neg en (Ok_bnd (Ok_neg ?_ (Ok_neg en (Ok_bnd (Ok_bnd (Ok_neg ?_ (Ok_neg en (Ok_pos ?_ (Ok_neg en ?_)))))))))
        · rw [en2, e17, a3]; decide
        · rw [en2, e17, a3]; decide
        · rw [en2, e17, a3]; rfl
        · rw [en2, ha 20 (by omega) (by omega), a5]
          refine Ok_bind (Ok_mono (ih 3 _ _ _ _ _ _ _ a11 (by omega) hj d τ s m ha hw (by omega) (by unfold fO at hd ⊢; simp at hd ⊢; omega)) (fun u hu => ?_))
          obtain ⟨u1, u2, s', m', u3, u4⟩ := hu
          rw [en2] at en
          refine Ok_neg en (Ok_neg ?_ (Ok_some ⟨u1, nGe_le u2 (by have := hp i k (by omega) (by omega); omega), s', m', u3, by omega⟩))
          rw [u1.2 17 (by omega), e17, a3]; decide
    · -- a block
      subst g1
      obtain ⟨d, rfl⟩ : ∃ z, d = z + 1 := ⟨d - 1, by unfold fO at hd; simp at hd; omega⟩
      show Ok (gV (d + 1) 0 (J (x : Nat)) 0 0 τ) _
      rw [q_gV_0, seeBlock_eq, if_neg en]
      refine Ok_bnd ?_
      rw [en2, ha 19 (by omega) (by omega), a5]
      obtain ⟨xs, ls, is, js, ps, c1, c2, c3, c4, c5, c6, c7, c8, c9, c10, c11⟩ := a6
      have hrng := LST_rng c4 c9 c10
      have c9' : ∀ k, k < c → is k < js k ∧ is (k + 1) = js k := fun k hk => ⟨(c9 k hk).1, by rw [(c9 k hk).2]; split <;> omega⟩
      have hls : ∀ k, k ≤ c → ls k ≤ 39000 := fun k hk => by
        have := hrng (c - k) k (by omega)
        rw [show k + (c - k) = c by omega] at this; omega
      have r0c := hrng c 0 (by omega)
      rw [Nat.zero_add] at r0c
      have his : ∀ k, k < c → js k ≤ is c := fun k hk => by
        have := hrng (c - (k + 1)) (k + 1) (by omega)
        rw [show k + 1 + (c - (k + 1)) = c by omega] at this
        have := c9' k hk; omega
      have hcc : ∀ k, k ≤ c → k ≤ is k := by
        intro k
        induction k with
        | zero => intro _; omega
        | succ k ihk => intro hk; have := ihk (by omega); have := c9' k (by omega); omega
      have hcc' := hcc c (Nat.le_refl c)
      have key := gsee_list (τ0 := τ) (lo := lo) (hi := hi) (i := i) (p := p) (q := q) (d := d) hp (show j ≤ T + 1 from hj) c1.2 c4 hls c9' (by omega) (fun k υ s m hk ha' hw' hm' => ih 0 _ _ _ _ _ _ _ (c4 k hk).2.2 (hls (k + 1) (by omega)) (by have := his k hk; omega) d υ s m ha' hw' hm' (by unfold fO at hd ⊢; simp at hd ⊢; omega)) c 0 FU τ s m (by omega) (FU_gt (by have := hT.1; omega)) ha hw (by omega) ⟨s, Or.inr ⟨m, hw⟩⟩
      have ef : (if 0 < c then (xs 0 : Int) else -1) = f := by
        rw [c1.1]
        by_cases q : c = 0
        · rw [if_pos q, if_neg (by omega)]
        · rw [if_neg q, if_pos (by omega)]
      rw [ef] at key
      refine Ok_mono key (fun u hu => ?_)
      obtain ⟨u1, u2, s', m', u3, u4⟩ := hu
      refine ⟨u1, ?_, s', m', u3, by omega⟩
      rcases u2 with u2 | u2
      · exact Or.inl u2
      · exact nGe_le u2 (by rw [c5]; have := hp i (i + 1) (by omega) (by omega); omega)
    · -- behind an if
      subst g2
      obtain ⟨d, rfl⟩ : ∃ z, d = z + 1 := ⟨d - 1, by unfold fO at hd; simp at hd; omega⟩
      have r8 := EX_rng a8
      have r9 := STX_rng a9
      have hk2 : k2 ≤ j := by
        rcases a10 with ⟨c1, c2, c3, c4, c5⟩ | ⟨c1, c2, c3, y, c4, ⟨c5, c6, c7⟩ | ⟨c5, c6⟩⟩
        · omega
        · have := STX_rng c7; omega
        · have := STX_rng c6; omega
      show Ok (gV (d + 1) 1 (J (x : Nat)) 0 0 τ) _
      rw [q_gV_1]
      unfold F_X12_seeStatement
      refine Ok_neg en (Ok_bnd (Ok_neg ?_ (Ok_neg en (Ok_bnd (Ok_bnd (Ok_pos ?_ (Ok_neg en ?_)))))))
      · rw [en2, e17, a0]; decide
      · rw [en2, e17, a0]; rfl
      rw [en2, ha 20 (by omega) (by omega), a2]
      refine Ok_bind (Ok_mono (ih 1 _ _ _ _ _ _ _ a9 (by omega) (by omega) d τ s m ha hw (by omega) (by unfold fO at hd ⊢; simp at hd ⊢; omega)) (fun u hu => ?_))
      obtain ⟨u1, u2, s', m', u3, u4⟩ := hu
      have ha' := agA_rS ha u1
      have n1 : nGe (pl i) (flt τ) (flt u.2) := nGe_le u2 (by have := hp i k (by omega) (by omega); omega)
      rw [en2] at en
      refine Ok_neg en (Ok_pos (by rw [ha' 17 (by omega) (by omega), a0]; rfl) (Ok_neg en ?_))
      rw [ha' 21 (by omega) (by omega)]
      rcases a10 with ⟨c1, c2, c3, c4, c5⟩ | ⟨c1, c2, c3, y, c4, c5⟩
      · rw [c5]
        exact Ok_pos (by decide) (Ok_some ⟨u1, n1, s', m', u3, by omega⟩)
      · rw [c4]
        have hy : y < hi ∧ k2 + 1 < j ∧ m2 ≤ y := by
          rcases c5 with ⟨c5, c6, c7⟩ | ⟨c5, c6⟩
          · have := STX_rng c7; omega
          · have := STX_rng c6; omega
        refine Ok_neg (J_nlt0 (by omega) (by omega)) (Ok_neg en (Ok_bnd (Ok_neg (g_en (by omega)) ?_)))
        rw [(ng (n := y) (by omega)).2, ha' 17 (by omega) (by omega)]
        have fin : ∀ v : Int32 × MS, gRes pl u.2 (k2 + 1) j m' v → gRes pl τ i j m v := fun v ⟨v1, v2, s'', m'', v3, v4⟩ => ⟨rS_trans u1 v1, nGe_trans n1 (nGe_le v2 (by have := hp i (k2 + 1) (by omega) (by omega); omega)), s'', m'', v3, by omega⟩
        rcases c5 with ⟨c5, c6, c7⟩ | ⟨c5, c6⟩
        · have r7 := STX_rng c7
          rw [(STX_kind _ _ _ _ _ _ _ _ _ c7).2 (by omega)]
          refine Ok_pos (by rfl) (Ok_neg en (Ok_bind (Ok_mono (ih 4 _ _ _ _ _ _ _ c7 (by omega) hj d u.2 s' m' ha' u3 (by omega) (by unfold fO at hd ⊢; simp at hd ⊢; omega)) (fun v hv => Ok_some ?_))))
          obtain ⟨v1, v2, v3⟩ := hv
          have := fin (0, v.2) ⟨v1, nGe_le v2 (by have := hp (k2 + 1) (k2 + 2) (by omega) (by omega); omega), by obtain ⟨s'', m'', v3, v4⟩ := v3; exact ⟨s'', m'', v3, by omega⟩⟩
          exact this
        · rw [(STX_kind _ _ _ _ _ _ _ _ _ c6).1 (by omega)]
          refine Ok_neg (by decide) (Ok_neg en (Ok_bind (Ok_mono (ih 1 _ _ _ _ _ _ _ c6 (by omega) hj d u.2 s' m' ha' u3 (by omega) (by unfold fO at hd ⊢; simp at hd ⊢; omega)) (fun v hv => Ok_some (fin (0, v.2) hv)))))
    · have hg : fO g = fO g' + 2 ∧ cO g = cO g' := by
        rcases g3 with ⟨b1, b2⟩ | ⟨b1, b2⟩ | ⟨b1, b2⟩ <;> subst b1 <;> subst b2 <;> exact ⟨rfl, rfl⟩
      rw [hg.2]
      exact ih g' lo hi x i j p q a1 hhi hj d τ s m ha hw hm (by omega)
