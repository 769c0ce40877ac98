/-! every expression runs alike -/
variable {R : Nat → Nat → Int32} {nO nV nC nA ln : Nat} {room : Nat → Bool} {en : Nat → Nat} {TX : Nat → Int → Int → Prop} {DN : Nat → Nat → Nat → Prop}
theorem EXV {Γ0 : HS} {D : Nat → Nat → Prop} {d dep bC : Nat} (hdep : dep ≤ 30) (hbC : bC ≤ 288 * dep) (hDN : ∀ k z c, DN k z c → c ≤ 6) (hCL : CLH R nO nV nC nA room en ln TX DN Γ0 dep d) : ∀ (n L lo hi x p q : Nat), EXQ (I1 Γ0 D) (I3 Γ0 D nV nA) R DN n L lo hi x p q → hi ≤ 39990 → q ≤ ln → L ≤ 4096 → ∀ (bt lw : Int32) (b w wk top pw : Nat) (σ : MS) (Γ : HS), EXS R nO nV nC nA room en ln TX Γ0 D dep bC x p top w wk pw σ Γ → bt = J (b : Nat) → b ≤ wk → bC + 14 ≤ top → top + n / 10000 + 1 ≤ bC + 288 → w + n / 10000 + 1 ≤ 288 * dep + 288 → wk + L ≤ 4096 * (dep + 1) → EXR nO nV nC room (gR (d + 1)) bt lw dep bC top w wk pw p q σ Γ := by
  intro n
  induction n using Nat.strongRecOn with
  | _ n ih =>
    intro L lo hi x p q h hhi hq hL bt lw b w wk top pw σ Γ hS hb hbw hbc htop hw hwk
    have h0 := h
    unfold EXQ at h
    obtain ⟨b0, b1, b2, b3, b4, h⟩ := h
    have hS' := hS
    obtain ⟨a1, a2, a3, a4, a5, a6, a7, a8⟩ := hS'
    have hln := a2.2.2.2.2.2.1.2
    have eN : ∀ k, 17 ≤ k → k ≤ 22 → NR σ k x = R k x := fun k k1 k2 => STA_R a2 k1 k2
    have e17 : σ.2 64 x = R 17 x := STA_17 a2
    have hMC := STA_MC a2 a6
    rcases h with ⟨v, c1, c2, c3, c4, c5, c6⟩ | ⟨bb, k, o, c1, c2, c3, c4, c5, c6⟩ | ⟨n', hn, L1, f, c, q', k, z, c1, c2, c3, c4, c5, c6, c7, c8⟩ | ⟨n', hn, L1, y, q', k, c1, c2, c3, c4, c5, c6, c7, c8⟩ | ⟨ww, o, c1, c2, c3, c4⟩ | ⟨c1, c2, c3⟩ | ⟨n', hn, L1, ww, o, y, q', lo', hi', c1, c2, c3, c4, c5, c6, c7, c8, c9⟩ | ⟨n1, hn1, n2, hn2, L1, L2, ww, o, y, z, r, q', m, c1, c2, c3, c4, c5, c6, c7, c8, c9, c10, c11, c12⟩ | ⟨n1, hn1, n2, hn2, L1, L2, ww, dd, o, y, z, r, q', m, c1, c2, c3, c4, c5, c6, c7, c8, c9, c10, c11, c12⟩ | ⟨n', hn, L1, y, q', a, c1, c2, c3, c4, c5, c6, c7, c8, c9⟩
    · -- a number
      obtain ⟨v, rfl⟩ : ∃ m : Nat, v = m := ⟨v.toNat, by omega⟩
      obtain ⟨Δ, d1, d2⟩ := m_push hMC (by omega) (by omega) (by omega) (op3_5 a1 c6.1)
      rw [← c1] at d2
      exact EX_leaf (kd := 40) a3 a4 a6 a8 hb hbw (by omega) a5 (by omega) (by omega) (by rw [e17]; exact c2) (Or.inl rfl) (fun h => by omega) (by unfold lfF; rw [if_pos rfl, eN 19 (by omega) (by omega), c3]) (VL_J (by omega) (by omega)) d1 d2 b4
    · -- a name
      have h41 : (41 : Int) = 41 → (NR σ 20 x = 9 ∧ ∃ k : Nat, NR σ 21 x = J (k : Nat) ∧ 14 * dep + k < 700) ∨ (NR σ 20 x = 4 ∧ ∃ k : Nat, NR σ 21 x = J (k : Nat) ∧ k < 100) ∨ (NR σ 20 x ≠ 9 ∧ NR σ 20 x ≠ 4) := fun _ => by
        rw [eN 20 (by omega) (by omega), eN 21 (by omega) (by omega), c3, c4]
        unfold nmO at c5
        rcases c5 with ⟨rfl, k1, -⟩ | ⟨rfl, k1, -⟩ | ⟨rfl | rfl, k1, -⟩
        · exact Or.inl ⟨rfl, k, rfl, by omega⟩
        · exact Or.inr (Or.inl ⟨rfl, k, rfl, k1⟩)
        · exact Or.inr (Or.inr ⟨by decide, by decide⟩)
        · exact Or.inr (Or.inr ⟨by decide, by decide⟩)
      have hlf : lfF σ x (14 * dep) 41 = if J bb = 9 then σ.2 111 (14 * dep + k) else if J bb = 4 then σ.2 91 k else J (k : Nat) := by
        unfold lfF
        rw [if_neg (by omega), if_pos rfl, eN 20 (by omega) (by omega), eN 21 (by omega) (by omega), c3, c4, J_add]
        have kb : k ≤ 120 := by unfold nmO at c5; omega
        rw [show ((14 * dep : Nat) : Int) + (k : Nat) = ((14 * dep + k : Nat) : Int) by omega, J_natN (by omega), J_natN (by omega)]
      unfold nmO at c5
      rcases c5 with ⟨rfl, k1, rfl⟩ | ⟨rfl, k1, rfl⟩ | ⟨kb, k1, rfl⟩
      · obtain ⟨l1, l2⟩ := a7 k (by have := c6.2.1 rfl; rwa [show ((k : Nat) : Int).toNat = k by omega] at this) k1
        obtain ⟨Δ, d1, d2⟩ := m_local hMC (by omega) (by omega) a6.2.2.2.2.1 (by omega) k1 (op3_5 a1 c6.1)
        rw [l1, ← c1] at d2
        rw [if_pos (by decide)] at hlf
        exact EX_leaf (kd := 41) a3 a4 a6 a8 hb hbw (by omega) a5 (by omega) (by omega) (by rw [e17]; exact c2) (by omega) h41 hlf l2 d1 d2 b4
      · have hkV : k < nV := by have := c6.2.2.2.2.1 (Or.inl rfl); omega
        have a3' := a3
        obtain ⟨⟨pa, fi, nx, ch, tr, P⟩, -⟩ := a3'
        obtain ⟨l1, l2⟩ := P.2.2.2.2.1 k hkV
        obtain ⟨Δ, d1, d2⟩ := m_var hMC (by omega) (by omega) k1 (op3_5 a1 c6.1)
        rw [l1, ← c1] at d2
        rw [if_neg (by decide), if_pos (by decide)] at hlf
        exact EX_leaf (kd := 41) a3 a4 a6 a8 hb hbw (by omega) a5 (by omega) (by omega) (by rw [e17]; exact c2) (by omega) h41 hlf l2 d1 d2 b4
      · obtain ⟨Δ, d1, d2⟩ := m_push hMC (by omega) (by omega) (by omega) (op3_5 a1 c6.1)
        rw [← c1] at d2
        rw [if_neg (by rcases kb with rfl | rfl <;> decide), if_neg (by rcases kb with rfl | rfl <;> decide)] at hlf
        exact EX_leaf (kd := 41) a3 a4 a6 a8 hb hbw (by omega) a5 (by omega) (by omega) (by rw [e17]; exact c2) (by omega) h41 hlf (VL_J (by omega) (by omega)) d1 d2 b4
    · -- a call
      obtain ⟨xs, ls, ps, f1, f2, f3, f4, f5, f6, f7⟩ := c8
      have hc6 := hDN k z c c5
      have lsm := LSQ_rng f5
      have lsr : ∀ i, i < c → x + 1 ≤ ls i ∧ ls (i + 1) ≤ hi := fun i hi' => by
        have r1 := (lsm i 0 (by omega)).1
        have r2 := (lsm (c - (i + 1)) (i + 1) (by omega)).1
        rw [Nat.zero_add] at r1
        rw [show i + 1 + (c - (i + 1)) = c by omega] at r2
        omega
      have psr : ∀ i, i < c → ps (i + 1) ≤ q' := fun i hi' => by
        have r2 := (lsm (c - (i + 1)) (i + 1) (by omega)).2
        rw [show i + 1 + (c - (i + 1)) = c by omega] at r2
        omega
      have hps : ∀ i, i < c → ps i < ps (i + 1) := fun i hi' => (f5 i hi').2.2.1
      subst f6
      refine EX_call (c := c) (k := k) (z := z) (f := f) (xs := xs) (ps := ps) (q' := q') hCL hS hb hbw (by omega) (fun i hi' => by have := f5 i hi'; have := lsr i hi'; omega) (by omega) (by omega) (by omega) (by omega) (by omega) (by omega) hbc c2 c3 c4 c5 c6.1 c1 hq f1 f2 f7 hps (fun i hi' u hu => EXQ_D _ _ _ _ _ _ _ (f5 i hi').2.2.2 u hu) (fun i hi' σ2 Γ2 pw2 hS2 => ?_)
      have hh := lsr i hi'
      have hp := psr i hi'
      exact ih n' (by omega) L1 _ _ _ _ _ (f5 i hi').2.2.2 (by omega) (by omega) (by omega) bt lw b _ _ _ _ _ _ hS2 hb (by omega) (by omega) (by omega) (by omega) (by omega)
    · -- a cell
      obtain ⟨e1, e2, e3, -⟩ := EXQ_rng c8
      refine EX_one (kd := 43) (y := y) (r := q') hS hb hbw (by omega) (by omega) (by omega) (by omega) hbc c2 (Or.inl ⟨rfl, c3⟩) (by omega) (by omega) (fun σ1 hS1 => ih n' (by omega) L1 _ _ _ _ _ c8 (by omega) (by omega) (by omega) bt lw b _ _ _ _ _ _ hS1 hb (by omega) hbc (by omega) (by omega) (by omega)) (fun X Δ v pw1 d1 d2 d3 d4 d5 d6 d7 => ?_)
      rw [c1]
      exact cls_cell d2 d3 d4 d5 (by omega) (by omega) (by omega) d6 d7 c2 c4 (op3_5 d1 c6.1) (by have := c6.2.2.2.2.2 (Or.inl rfl); omega)
    · -- here, first, second
      have ho : 28 ≤ o ∧ o ≤ 30 := by unfold zTq at c1; omega
      obtain ⟨Δ, d1, d2⟩ := m_hns hMC (by omega) (by omega) (op1_5 a1 c4.1) ho
      rw [← c2] at d2
      obtain ⟨n1, n2, n3, n4⟩ := a2.2.1
      unfold zTq at c1
      rcases c1 with ⟨rfl, rfl⟩ | ⟨rfl, rfl⟩ | ⟨rfl, rfl⟩
      · obtain ⟨l1, l2⟩ := PLT_t a3.1 (z := 1) (by omega) (j := 0) (by omega)
        rw [if_pos rfl, l1] at d2
        exact EX_leaf (kd := 44) a3 a4 a6 a8 hb hbw (by omega) a5 (by omega) (by omega) (by rw [e17]; exact c3) (by omega) (fun h => by omega) (by unfold lfF; rw [if_neg (by omega), if_neg (by omega), if_pos rfl]) l2 d1 d2 b4
      · rw [if_neg (by omega), if_pos rfl, a3.2.2.1] at d2
        exact EX_leaf (kd := 45) a3 a4 a6 a8 hb hbw (by omega) a5 (by omega) (by omega) (by rw [e17]; exact c3) (by omega) (fun h => by omega) (by unfold lfF; rw [if_neg (by omega), if_neg (by omega), if_neg (by omega), if_pos rfl]) a3.2.2.2.1 d1 d2 b4
      · rw [if_neg (by omega), if_neg (by omega), a3.2.2.2.2.1] at d2
        exact EX_leaf (kd := 46) a3 a4 a6 a8 hb hbw (by omega) a5 (by omega) (by omega) (by rw [e17]; exact c3) (by omega) (fun h => by omega) (by unfold lfF; rw [if_neg (by omega), if_neg (by omega), if_neg (by omega), if_neg (by omega), if_pos rfl]) a3.2.2.2.2.2.1 d1 d2 b4
    · -- player
      obtain ⟨Δ, d1, d2⟩ := m_push (v := 1) hMC (by omega) (by omega) (by omega) (op3_5 a1 c3.1)
      rw [← c1] at d2
      exact EX_leaf (kd := 47) a3 a4 a6 a8 hb hbw (by omega) a5 (by omega) (by omega) (by rw [e17]; exact c2) (by omega) (fun h => by omega) (by unfold lfF; rw [if_neg (by omega), if_neg (by omega), if_neg (by omega), if_neg (by omega), if_neg (by omega)]; rfl) (VL_J (z := 1) (by omega) (by omega)) d1 d2 b4
    · -- one side
      obtain ⟨e1, e2, e3, -⟩ := EXQ_rng c9
      have hk : 48 ≤ ww ∧ ww ≤ 53 := by unfold uTq at c1; omega
      refine EX_one (kd := ww) (y := y) (r := q') hS hb hbw (by omega) (by omega) (by omega) (by omega) hbc c3 (Or.inr ⟨by omega, c4⟩) (by omega) (by omega) (fun σ1 hS1 => ih n' (by omega) L1 _ _ _ _ _ c9 (by omega) (by omega) (by omega) bt lw b _ _ _ _ _ _ hS1 hb (by omega) hbc (by omega) (by omega) (by omega)) (fun X Δ v pw1 d1 d2 d3 d4 d5 d6 d7 => ?_)
      rw [c2]
      have ho := op1_5 d1 c5.1
      unfold uTq at c1
      rcases c1 with ⟨rfl, rfl⟩ | ⟨rfl, rfl⟩ | ⟨rfl, rfl⟩ | ⟨rfl, rfl⟩ | ⟨rfl, rfl⟩ | ⟨rfl, rfl⟩
      · exact cls_hfn d2 d3 d4 d5 (by omega) (by omega) (by omega) d6 d7 c3 ho (by omega) (by omega)
      · exact cls_hfn d2 d3 d4 d5 (by omega) (by omega) (by omega) d6 d7 c3 ho (by omega) (by omega)
      · exact cls_hfn d2 d3 d4 d5 (by omega) (by omega) (by omega) d6 d7 c3 ho (by omega) (by omega)
      · exact cls_rand d2 d3 d4 d5 (by omega) (by omega) (by omega) d6 d7 c3 ho
      · exact cls_neg d2 d3 d4 d5 (by omega) (by omega) (by omega) d6 c3 ho (by omega)
      · exact cls_neg d2 d3 d4 d5 (by omega) (by omega) (by omega) d6 c3 ho (by omega)
    · -- and, or
      obtain ⟨e1, e2, e3, -⟩ := EXQ_rng c11
      obtain ⟨e4, e5, e6, -⟩ := EXQ_rng c12
      refine EX_and (kd := ww) (y := y) (z := z) (r := r) (q' := q') (o := o) hS hb hbw (by omega) (by omega) (by omega) (by omega) (by omega) hbc (by omega) c3 c1 c4 c5 c6.1 c7.1 c2 hq hln (by omega) (by omega) (fun u hu => ?_) (fun σ1 hS1 => ih n1 hn1 L1 _ _ _ _ _ c11 (by omega) (by omega) (by omega) bt lw b _ _ _ _ _ _ hS1 hb (by omega) hbc (by omega) (by omega) (by omega)) (fun σ1 Γ1 pw1 hS1 => ih n2 (by omega) L2 _ _ _ _ _ c12 (by omega) (by omega) (by omega) bt lw b _ _ _ _ _ _ hS1 hb (by omega) hbc (by omega) (by omega) (by omega))
      refine EXQ_D _ _ _ _ _ _ _ c11 u ?_
      rcases c6.2.2.1 u hu with e | e
      · exact e
      · exfalso; unfold lTq at c1; omega
    · -- two sides
      obtain ⟨e1, e2, e3, -⟩ := EXQ_rng c11
      obtain ⟨e4, e5, e6, -⟩ := EXQ_rng c12
      exact EX_two (kd := ww) (y := y) (z := z) (m := r) (r := q') (o := o) (d := dd) hS hb hbw (by omega) (by omega) (by omega) (by omega) (by omega) hbc (by omega) c3 c1 c4 c5 c6 c7.1 (by omega) (by omega) (by omega) c2 (fun u hu => EXQ_D _ _ _ _ _ _ _ c11 u hu) (fun σ1 hS1 => ih n1 hn1 L1 _ _ _ _ _ c11 (by omega) (by omega) (by omega) bt lw b _ _ _ _ _ _ hS1 hb (by omega) hbc (by omega) (by omega) (by omega)) (fun σ1 Γ1 pw1 hS1 => ih n2 (by omega) L2 _ _ _ _ _ c12 (by omega) (by omega) (by omega) bt lw b _ _ _ _ _ _ hS1 hb (by omega) (by omega) (by omega) (by omega) (by omega))
    · -- has
      obtain ⟨e1, e2, e3, -⟩ := EXQ_rng c9
      obtain ⟨a, rfl⟩ : ∃ m : Nat, a = m := ⟨a.toNat, by omega⟩
      refine EX_one (kd := 58) (y := y) (r := q') hS hb hbw (by omega) (by omega) (by omega) (by omega) hbc c2 (Or.inr ⟨by omega, c3⟩) (by omega) (by omega) (fun σ1 hS1 => ih n' (by omega) L1 _ _ _ _ _ c9 (by omega) (by omega) (by omega) bt lw b _ _ _ _ _ _ hS1 hb (by omega) hbc (by omega) (by omega) (by omega)) (fun X Δ v pw1 d1 d2 d3 d4 d5 d6 d7 => ?_)
      rw [c1]
      exact cls_has d2 d3 d4 d5 (by omega) (by omega) (by omega) d6 d7 c2 c4 (op3_5 d1 c7.1) (by omega)
