/-! one thing after another -/
variable {R : Nat → Nat → Int32} {nO nV nC nA ln : Nat} {room : Nat → Bool} {en : Nat → Nat} {TX : Nat → Int → Int → Prop} {DN : Nat → Nat → Nat → Prop}
theorem txl_col : TXL [58, 32] [58, 32] := by unfold TXL; decide +kernel
/-- the end of such a command -/
def PaE (σ : MS) : MR := (F_X12_ends σ).bind fun u_33 => some (u_33.1, u_33.2)
/-- the nouns of the latest command, in both -/
def NOU (σ : MS) (Γ : HS) : Prop := (Γ 10).1 3 = σ.1 108 ∧ VL (σ.1 108) ∧ (Γ 10).1 4 = σ.1 109 ∧ VL (σ.1 109)
theorem NOU_R {σ : MS} {Γ : HS} (h : RRl nO room nV nC σ Γ) : NOU σ Γ := ⟨h.2.2.1, h.2.2.2.1, h.2.2.2.2.1, h.2.2.2.2.2.1⟩
/-- the world, the machine's rows, the nouns -/
def rWn (σ τ : MS) : Prop := (∀ k, ¬ (93 ≤ k ∧ k ≤ 96) → ¬ (103 ≤ k ∧ k ≤ 110) → k ≠ 113 → k ≠ 115 → τ.1 k = σ.1 k) ∧ ∀ k, ¬ (87 ≤ k ∧ k ≤ 92) → k ≠ 102 → k ≠ 111 → k ≠ 112 → k ≠ 114 → τ.2 k = σ.2 k
theorem rWn_rfl {σ : MS} : rWn σ σ := ⟨fun _ _ _ _ _ => rfl, fun _ _ _ _ _ _ => rfl⟩
theorem rWn_trans {σ τ υ : MS} (h : rWn σ τ) (g : rWn τ υ) : rWn σ υ := ⟨fun k a b c d => by rw [g.1 k a b c d, h.1 k a b c d], fun k a b c d e => by rw [g.2 k a b c d e, h.2 k a b c d e]⟩
theorem rWn_W {σ τ : MS} (h : rWk σ τ) : rWn σ τ := ⟨fun k a b c d => h.1 k a (by omega) (by omega) c d, h.2⟩
theorem rWn_O {σ τ : MS} (h : oR3 σ τ) : rWn σ τ := ⟨fun k a b c d => h.1 k (by omega), fun k a b c d e => h.2 k b⟩
theorem rWn_i {σ : MS} {k : Nat} {v : Int32} (hk : (93 ≤ k ∧ k ≤ 96) ∨ (103 ≤ k ∧ k ≤ 110) ∨ k = 113 ∨ k = 115) : rWn σ (mI σ k v) := ⟨fun j a b c d => by rw [mI_1, if_neg (by omega)], fun _ _ _ _ _ _ => rfl⟩
def cWa (Γ Δ : HS) : Prop := ∀ r, r ≠ 8 → r ≠ 9 → r ≠ 10 → r ≠ 11 → Δ r = Γ r
theorem cWa_rfl {Γ : HS} : cWa Γ Γ := fun _ _ _ _ _ => rfl
theorem cWa_trans {Γ Δ Θ : HS} (h : cWa Γ Δ) (g : cWa Δ Θ) : cWa Γ Θ := fun r a b c d => by rw [g r a b c d, h r a b c d]
theorem cWa_W {Γ Δ : HS} (h : cWk Γ Δ) : cWa Γ Δ := fun r a b c _ => h r a b c
/-- where both stand between two things -/
def MNY (R : Nat → Nat → Int32) (nO nV nC nA : Nat) (room : Nat → Bool) (en : Nat → Nat) (ln : Nat) (TX : Nat → Int → Int → Prop) (DN : Nat → Nat → Nat → Prop) (Γ0 : HS) (F : Nat → Nat) (a no t pw : Nat) (L : List Nat) (σ : MS) (Γ : HS) : Prop := STA R nO nV nC nA room en ln TX σ Γ ∧ PL nO room nV nC σ Γ ∧ OUT σ Γ ∧ RVw σ 0 0 0 pw ∧ (Γ 10).1 13 = J (pw : Nat) ∧ pw ≤ 20000 ∧ Γ 5 = Γ0 5 ∧ SLK σ Γ nO room ∧ ONS R nV nA ln TX DN Γ0 F σ Γ no ∧ (Γ 4).2.1 0 5 = J (no : Nat) ∧ (Γ 11).1 8 = J (a : Nat) ∧ (Γ 11).1 11 = J (0 : Nat) ∧ (Γ 11).1 13 = J (t : Nat) ∧ GAL σ Γ L ∧ NOU σ Γ ∧ (Γ 10).1 5 = J 0
theorem MNY_11 {Γ0 : HS} {F : Nat → Nat} {a no t pw : Nat} {L : List Nat} {σ : MS} {Γ : HS} (h : MNY R nO nV nC nA room en ln TX DN Γ0 F a no t pw L σ Γ) (v : Int32) : MNY R nO nV nC nA room en ln TX DN Γ0 F a no t pw L σ (cI' Γ 11 10 v) := by
  obtain ⟨h1, h2, h3, h4, h5, h6, h7, h8, h9, h10, h11, h12, h13, h14, h15, h16⟩ := h
  have hc : ∀ r, r = 4 ∨ r = 5 ∨ r = 6 → (cI' Γ 11 10 v) r = Γ r := fun r hr => by rw [cI_r, if_neg (by omega)]
  exact ⟨STA_i h1 rfl rfl hc, PL_keep h2 (fun _ _ => rfl) (fun _ _ => rfl) rfl, h3, h4, h5, h6, h7, SLK_i h8 rfl rfl hc, ONS_i h9 rfl rfl hc, h10, h11, h12, h13, h14, h15, h16⟩
theorem W_many {Γ0 : HS} {F : Nat → Nat} {a no t : Nat} (hDN : DNF R nV nA ln TX DN Γ0) (ha : a = 4 ∨ a = 5) (hFa : F a = 1) (ht : t ≤ 120) {L : List Nat} (hL : ∀ x, x ∈ L → 1 ≤ x ∧ x ≤ nO ∧ room x = false) (hLn : L.length ≤ 120) : ∀ (d i : Nat), i + d = L.length → ∀ (n pw : Nat) (σ : MS) (Γ : HS), d + 1 < n → MNY R nO nV nC nA room en ln TX DN Γ0 F a no t pw L σ Γ → ∃ (τ : MS) (Δ : HS) (b : Int32), loopF (PaB (J (a : Nat)) (J (t : Nat)) (J (L.length : Nat))) n (J (i : Nat), σ) = PaE τ ∧ (∀ K : Int32 → HS → HR, loopF (AaC K) n (1, J (i : Nat), Γ) = K b Δ) ∧ PL nO room nV nC τ Δ ∧ OUT τ Δ ∧ (WAI Γ → WAI Δ) ∧ rWn σ τ ∧ cWa Γ Δ ∧ (τ.1 113 = J 0 ∧ τ.1 115 = J 0) ∧ NOU τ Δ ∧ ((b = 1 ∧ ∃ pw' : Nat, MNY R nO nV nC nA room en ln TX DN Γ0 F a no t pw' L τ Δ) ∨ (b = 0 ∧ ((τ.1 104 = J 3 ∧ ∃ n : Int, 1 ≤ n ∧ n ≤ 6 ∧ τ.1 105 = J n ∧ (Δ 10).1 5 = J n) ∨ (τ.1 104 = J 2 ∧ (Δ 10).1 5 = J 0)))) := by
  intro d
  induction d with
  | zero =>
    intro i hi n pw σ Γ hn hM
    obtain ⟨n, rfl⟩ : ∃ m, n = m + 1 := ⟨n - 1, by omega⟩
    have hM' := hM
    obtain ⟨h1, h2, h3, h4, h5, h6, h7, h8, h9, h10, h11, h12, h13, h14, h15, h16⟩ := hM'
    refine ⟨σ, Γ, 1, ?_, fun K => ?_, h2, h3, fun h => h, rWn_rfl, cWa_rfl, ⟨h4.2.2.2.1, h4.2.2.2.2⟩, h15, Or.inl ⟨rfl, pw, hM⟩⟩
    · rw [PaB_s, bndE, if_pos (by rw [J_le (by omega) (by omega) (by omega) (by omega)]; omega)]; rfl
    · rw [AaC_s, bndE, h14.1, if_pos (by rw [J_le (by omega) (by omega) (by omega) (by omega)]; omega)]
  | succ d ih =>
    intro i hi n pw σ Γ hn hM
    obtain ⟨n, rfl⟩ : ∃ m, n = m + 1 := ⟨n - 1, by omega⟩
    have hM' := hM
    obtain ⟨h1, h2, h3, h4, h5, h6, h7, h8, h9, h10, h11, h12, h13, h14, h15, h16⟩ := hM'
    have hiL : i < L.length := by omega
    have xm : L.getD i 0 ∈ L := by
      rw [List.getD_eq_getElem?_getD, List.getElem?_eq_getElem hiL]
      exact List.getElem_mem hiL
    obtain ⟨x1, x2, x3⟩ := hL _ xm
    obtain ⟨g1, g2⟩ := h14.2 i hiL
    have nO120 := h8.2.2.2.2.1
    generalize L.getD i 0 = x at xm x1 x2 x3 g1 g2
    have h2' := h2
    obtain ⟨pa, fi, nx, ch, tr, P⟩ := h2'
    have px := P.1.2.2.2.1 x
    have sB := PaB_s (J (a : Nat)) (J (t : Nat)) (J (L.length : Nat)) n (J (i : Nat)) σ
    rw [bndE, if_neg (by rw [J_le (by omega) (by omega) (by omega) (by omega)]; omega), if_pos (show σ.1 104 = 0 from h4.1), if_neg (g121 (by omega)), J_natN (by omega), g1, bndE, if_neg (g121 (by omega)), J_natN (by omega), (P.2.1 x (by omega)).1, bndE] at sB
    dsimp only at sB
    have sC := fun K : Int32 → HS → HR => by
      have := AaC_s K n 1 (J (i : Nat)) Γ
      rw [bndE, h14.1, if_neg (by rw [J_le (by omega) (by omega) (by omega) (by omega)]; omega), if_neg (by decide), q_g_at_in (by omega) (by omega) (by omega), Int.toNat_natCast, g2, bndE, bndE, bndE, show ((cI' Γ 11 10 (J (x : Nat))) 11).1 10 = J (x : Nat) from rfl, show ((cI' Γ 11 10 (J (x : Nat))) 9).2.1 0 = (Γ 9).2.1 0 from rfl, q_g_at_in (by omega) (by omega) (by omega), Int.toNat_natCast, (P.2.2.1 x (by omega)).1, bndE, bndE, show ((cI' Γ 11 10 (J (x : Nat))) 11).1 13 = J (t : Nat) from h13] at this
      dsimp only at this
      exact this
    by_cases q : pa x = t
    · have e1 : J (pa x : Nat) = J (t : Nat) := by rw [q]
      rw [if_pos e1, bndE] at sB
      have hM1 := MNY_11 hM (J (x : Nat))
      obtain ⟨k1, k2, k3, k4, k5, k6, k7, k8, k9, k10, k11, k12, k13, k14, k15, k16⟩ := hM1
      -- told
      have hC1 : CAL (mI σ 96 (J (x : Nat))) (cI' Γ 11 10 (J (x : Nat))) nO := CAL_keep k8.1 (fun _ _ => rfl) rfl rfl
      obtain ⟨τ1, Δ1, a1, a2, a3, a4⟩ := W_nm (σ := mI σ 96 (J (x : Nat))) (Γ := cI' Γ 11 10 (J (x : Nat))) nO120 hC1 ⟨x1, x2⟩ k3
      obtain ⟨τ2, Δ2, b1, b2, b3, b4⟩ := W_say txl_col a4.2.2
      have tt := TLS_trans a4 b4
      -- the same without it
      have t96 : τ2.1 96 = J (x : Nat) := by rw [tt.1.1 96 (by omega), mI_1, if_pos rfl]
      have eb := it_back (a := a) (f := F a) (x := x) (τ := τ2) (v := σ.1 96) (by omega) (by omega) t96
      have t0 : TLS σ (cI' Γ 11 10 (J (x : Nat))) (mI τ2 96 (σ.1 96)) Δ2 := by
        refine ⟨⟨fun k hk => ?_, fun k hk => tt.1.2 k hk⟩, tt.2.1, tt.2.2⟩
        rw [mI_1]
        by_cases e : k = 96
        · rw [if_pos e, e]
        · rw [if_neg e, tt.1.1 k hk, mI_1, if_neg e]
      have hd := DOS_T k2 t0
      have hr := rWk_O t0.1
      have hc := cWk_D hd.2.2.2
      have c11 : Δ2 11 = (cI' Γ 11 10 (J (x : Nat))) 11 := t0.2.1.1 11 (by omega) (by omega)
      have V2 : RVw (mI τ2 96 (σ.1 96)) 0 0 0 pw := RVw_O t0.1 k4
      obtain ⟨τ, Δ, b, w1, w2, w3⟩ := W_perform (F := F) (a := a) (x := x) (y := 0) (no := no) hDN (by omega) (by omega) (by omega) (by omega) (fun _ _ => ⟨x1, x2, x3⟩) (fun h => by omega) (fun h => by omega) (fun h => by omega) (fun _ _ => ⟨x1, x2⟩) (STA_keep k1 hr hc) hd.1 hd.2.1 V2 (by rw [t0.2.1.2.1]; exact k5) k6 (by rw [t0.2.1.2.1]; exact k16) ((hc 5 (by omega) (by omega) (by omega)).trans k7) (SLK_W k8 hr hc) (ONS_keep k9 hr hc) (by rw [hc 4 (by omega) (by omega) (by omega)]; exact k10) (by rw [c11]; exact k11) (by rw [c11]; rfl) (by rw [c11]; exact k12)
      rw [eb] at w3
      rw [eb, hFa] at w1
      rw [a1, Option.bind_some] at sB
      dsimp only at sB
      rw [b1, Option.bind_some] at sB
      dsimp only at sB
      rw [show F_X12_act (J (a : Nat)) 1 (J (x : Nat)) 0 τ2 = some ((0 : Int32), τ) from w1, Option.bind_some] at sB
      dsimp only at sB
      rw [J_suc, bndE] at sB
      have sC2 := fun K : Int32 → HS → HR => by
        have := sC K
        rw [if_pos e1, a2, Option.bind_some] at this
        dsimp only at this
        rw [a3, bndE, b2, Option.bind_some] at this
        dsimp only at this
        rw [b3, bndE, w2, Option.bind_some] at this
        dsimp only at this
        rw [J_suc, bndE] at this
        exact this
      have cI0 : ∀ r, r = 4 ∨ r = 5 ∨ r = 6 → Δ2 r = Δ2 r := fun _ _ => rfl
      have m2 : (mI (mI τ2 108 (J (x : Nat))) 109 (J ((0 : Nat) : Int))).2 = (mI τ2 96 (σ.1 96)).2 := rfl
      have mk : ∀ k, k ≠ 96 → k ≠ 108 → k ≠ 109 → (mI (mI τ2 108 (J (x : Nat))) 109 (J ((0 : Nat) : Int))).1 k = (mI τ2 96 (σ.1 96)).1 k := fun k h6 h8 h9 => by
        rw [mI_1, if_neg h9, mI_1, if_neg h8, mI_1, if_neg h6]
      obtain ⟨v1, v2, v3, v4, v5, v6⟩ := w3
      have hwai : WAI Γ → WAI Δ := fun h => v5.2 (WAI_10 t0.2.1.2.1 (show WAI (cI' Γ 11 10 (J (x : Nat))) from h))
      have hrn : rWn σ τ := rWn_trans (rWn_trans (rWn_i (by omega)) (rWn_O tt.1)) (rWn_trans (rWn_trans (rWn_i (by omega)) (rWn_i (by omega))) (rWn_W v2))
      have hcn : cWa Γ Δ := fun r r8 r9 r10 r11 => by rw [v3 r r8 r9 r10, hc r r8 r9 r10, cI_r, if_neg r11]
      have d11 : Δ 11 = (cI' Γ 11 10 (J (x : Nat))) 11 := (v3 11 (by omega) (by omega) (by omega)).trans c11
      rcases v6 with ⟨rfl, pw', p1, p2, p3, p4, p5, p6⟩ | ⟨rfl, hb⟩
      · have hM2 : MNY R nO nV nC nA room en ln TX DN Γ0 F a no t pw' L τ Δ := by
          refine ⟨STA_keep (STA_i (STA_keep k1 hr hc) m2 (mk 78 (by omega) (by omega) (by omega)) cI0) v2 v3, v1.1, v1.2.1, ⟨p2, p3, p4, v4, v5.1⟩, p5, p1, (v3 5 (by omega) (by omega) (by omega)).trans ((hc 5 (by omega) (by omega) (by omega)).trans k7), SLK_W (SLK_i (SLK_W k8 hr hc) m2 (mk 78 (by omega) (by omega) (by omega)) cI0) v2 v3, ONS_keep (ONS_i (ONS_keep k9 hr hc) m2 (mk 83 (by omega) (by omega) (by omega)) cI0) v2 v3, ?_, by rw [d11]; exact k11, by rw [d11]; exact k12, by rw [d11]; exact k13, ⟨by rw [d11]; exact k14.1, fun j hj => ?_⟩, NOU_R v1, p6⟩
          · rw [v3 4 (by omega) (by omega) (by omega), hc 4 (by omega) (by omega) (by omega)]; exact k10
          · rw [d11, v2.2 121 (by omega) (by omega) (by omega) (by omega) (by omega), m2, t0.1.2 121 (by omega)]
            exact k14.2 j hj
        obtain ⟨υ, Θ, b', e2, e3, e4⟩ := ih (i + 1) (by omega) n pw' τ Δ (by omega) hM2
        exact ⟨υ, Θ, b', by rw [sB, e2], fun K => by rw [sC2 K, e3 K], e4.1, e4.2.1, fun h => e4.2.2.1 (hwai h), rWn_trans hrn e4.2.2.2.1, cWa_trans hcn e4.2.2.2.2.1, e4.2.2.2.2.2⟩
      · obtain ⟨n, rfl⟩ : ∃ m, n = m + 1 := ⟨n - 1, by omega⟩
        have h104 : ¬ τ.1 104 = 0 := by
          rcases hb with ⟨h, -⟩ | ⟨h, -⟩ <;> rw [h] <;> decide
        refine ⟨τ, Δ, 0, ?_, fun K => ?_, v1.1, v1.2.1, hwai, hrn, hcn, ⟨v4, v5.1⟩, NOU_R v1, Or.inr ⟨rfl, hb⟩⟩
        · rw [sB, PaB_s, bndE, if_neg h104, ite_self]; rfl
        · rw [sC2 K, AaC_s, bndE, if_pos rfl, ite_self]
    · have e1 : ¬ J (pa x : Nat) = J (t : Nat) := by rw [J_eqN (by omega) (by omega)]; exact q
      rw [if_neg e1, J_suc, bndE] at sB
      obtain ⟨υ, Θ, b', e2, e3, e4⟩ := ih (i + 1) (by omega) n pw σ _ (by omega) (MNY_11 hM (J (x : Nat)))
      refine ⟨υ, Θ, b', by rw [sB, e2], fun K => ?_, e4.1, e4.2.1, fun h => e4.2.2.1 h, e4.2.2.2.1, fun r r8 r9 r10 r11 => by rw [e4.2.2.2.2.1 r r8 r9 r10 r11, cI_r, if_neg r11], e4.2.2.2.2.2⟩
      have := sC K
      rw [if_neg e1, J_suc, bndE] at this
      rw [this, e3 K]
