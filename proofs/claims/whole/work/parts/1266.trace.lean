/-! laying's join: verbs, vars, arrays, defs, ons, eachs; all items -/
variable {T N : Nat} {kd vl rv : Nat → Int} {pl : Nat → Nat}
theorem LYP_verb (hT : TKE T N kd vl rv pl) (hp : plm T pl) (hpb : ∀ i, i ≤ T + 1 → pl i ≤ 5000) {b : Nat → Int} {L m : Nat} {nm : Nat → List Int} {cl : List Int} (hF : NMF b L T m nm cl kd vl rv pl) (hm : m < 7000) {G : Nat → HS} {Θ Γs : HS} {σs τ ρ0 ρ : MS} {c z : Nat} {ls is ps ds os es : Nat → Nat} {S : Nat → MS} {K : Nat → HS} {W0 : List Int} (hG : GRW T N kd vl pl G) (hD : SDN T N kd vl rv pl σs Γs c ls is S τ Θ) (hr : rDS σs τ) (hl : ls c ≤ 39000) (hI : ITS kd vl rv pl σs Γs c ls is ps ds os es) (hZ : ∀ z, z ≤ c → GZ T kd vl (G (is z))) (hK : CROW T G Θ kd vl cl is c K) (hon : ∀ z, z < c → kd (is z) = 236 → cN kd is 5 z < 200) (hz : z < c) (hlz : ls (z + 1) ≤ 39000) (hj : is (z + 1) ≤ T) (hk : kd (is z) = 232) (hv0 : cN kd is 0 z ≤ 120) (h : LYP T kd vl rv pl m nm Θ σs ls is K (K c) W0 ρ0 z ρ) : ∃ ρ', F_X12_layOne (J (ls z : Nat)) ρ = some ((0 : Int32), ρ') ∧ LYP T kd vl rv pl m nm Θ σs ls is K (K c) W0 ρ0 (z + 1) ρ' := by
  have hN := INM_of hT hp hD
  have hkr := hD.2.2.2.2.2.2.2.2.2.1
  have hn := (hN z hz (by omega)).2.2.2.1 hk
  have own : ∀ k x, SLT kd is z k x → (K c 4).2.1 k x = (K (z + 1) 4).2.1 k x ∧ (K z 4).2.1 k x = (K 0 4).2.1 k x := fun k x hs => row_own hI hN hon hK hz hs
  obtain ⟨ow, W, hJ, hW, ⟨hd1, hd2⟩, hL, ⟨hC, hO, hV, hR⟩, hv, ha, ho, he⟩ := h
  obtain ⟨d, ρ', V, ow', l1, l2, l3, l4, l5, l6, l7, l8, l9, l10, ⟨W1, l11, l12⟩, l13, l14⟩ := step_verb hT hp hpb hF hm hG hD hr hl hI hZ (hK.1 z hz) hz hlz hj hk hv0 hJ hW
  have eW : W1 = W := DOK_u l11.1.1 hd1
  subst eW
  obtain ⟨v1, v2, v3⟩ : ρ'.1 = ρ.1 ∧ (∀ k, ¬ (57 ≤ k ∧ k ≤ 62) → ρ'.2 k = ρ.2 k) ∧ True := ⟨l5.1, l5.2.1, trivial⟩
  have q1 : qOf (kd (is z)) = 1 := by rw [hk]; decide
  have len : ∀ o, 1 ≤ o → o ≤ 180 → (ow o).length ≤ 10 := fun o o1 o2 => (l11.1.2 o o1 o2).1
  have dj : ∀ z', z' < z → kd (is z') = 232 → inum kd is z' ≠ inum kd is z := fun z' hz' hk' e => by
    have a := inum_vb (kd := kd) (is := is) (z := z') hk'
    have a' := inum_vb (kd := kd) (is := is) (z := z) hk
    have b' := cN_ltq (kd := kd) (is := is) hz'
    rw [hk'] at b'
    have b'' : cN kd is 1 z' < cN kd is 1 z := b'
    omega
  refine ⟨ρ', l1, ow', V, l2, l3, ⟨l7.1.1, PRE_trans hd2 l12⟩, LFR_trans hL ⟨fun k _ _ _ => by rw [v1], fun k a _ _ => v2 k (by omega)⟩, ⟨CLX_same hC (cN_ne (by rw [q1]; omega)) (fun k hk2 => v2 k (by omega)), OBA_same hO (by omega) (fun k hk2 => v2 k (by omega)) (fun z' hz' hk' => l10 _ (by have := (hN z' (by omega) (by omega)).2.2.1 hk'; omega)), ?_, FRA_same hR (by omega) (by rw [v1])⟩, VRA_same hv (by omega) (v2 76 (by omega)), ARA_same ha (by omega) (v2 77 (by omega)), ONA_same ho (by omega) (fun k k1 k2 => v2 k (by omega)), EAA_same he (by omega) (v2 75 (by omega))⟩
  obtain ⟨c1, c2, c3⟩ := hV
  refine ⟨fun v v1 v2 => by rw [l10 _ (by omega)]; exact c1 v v1 v2, fun v v1 v2 => VBF_vfrm (c2 v v1 v2) ?_ l5 (by omega), fun z' hz' hk' => ?_⟩
  · have := owS_10 (o := 120 + v)
    unfold owS at this
    rw [if_neg (by omega), if_pos (by omega), show 120 + v - 121 = v - 1 by omega] at this
    exact this
  · by_cases q : z' = z
    · subst q
      refine ⟨d, l4, by rw [l9, ← l13]; exact l6, l13, fun h => ⟨l14 h, ?_⟩⟩
      obtain ⟨k, k1, k2, k3⟩ := l8 h
      exact ⟨k, k1, by rw [(own 8 _ (Or.inr (Or.inl ⟨hk, Or.inl ⟨rfl, rfl⟩⟩))).1]; exact k2, k3⟩
    · have hne := dj z' (by omega) hk'
      have hn' := (hN z' (by omega) (by omega)).2.2.2.1 hk'
      obtain ⟨d', d1, d2, d3, d4⟩ := c3 z' (by omega) hk'
      refine ⟨d', d1, by rw [l10 _ (by omega)]; exact VBF_vfrm d2 (len _ (by omega) (by omega)) l5 hne, d3, fun h => ?_⟩
      obtain ⟨a, k, k1, k2, k3⟩ := d4 h
      exact ⟨a, k, Nat.lt_of_lt_of_le k1 l12.1, k2, by rw [l12.2 k k1]; exact k3⟩
theorem on_rows {G : Nat → HS} {Θ : HS} {i j cc o : Nat} {Γ E : HS} (h : MV G Θ kd vl (i + 2 + cc + 1) j (onE Θ kd vl i cc Γ) E) (h15 : (Γ 3).1 15 = J (o : Nat)) (ho : o < 200) : (E 4).2.1 13 o = J (nsF Θ vl (i + 1) : Nat) ∧ (E 4).2.1 14 o = (if cc = 0 then -1 else J (whV Θ kd vl (i + 2))) ∧ (E 4).2.1 15 o = (if cc ≤ 1 then -1 else J (whV Θ kd vl (i + 3))) := by
  have e4 := h.1 4 (by omega) (by omega)
  have hx : ∀ k, (E 4).2.1 k = if k = 15 then g_put 200 ((Γ 4).2.1 15) ((Γ 3).1 15) (if cc ≤ 1 then -1 else J (whV Θ kd vl (i + 3))) else if k = 14 then g_put 200 ((Γ 4).2.1 14) ((Γ 3).1 15) (if cc = 0 then -1 else J (whV Θ kd vl (i + 2))) else if k = 13 then g_put 200 ((Γ 4).2.1 13) ((Γ 3).1 15) (J (nsF Θ vl (i + 1) : Nat)) else (Γ 4).2.1 k := by
    intro k
    rw [e4]
    show updA (updA (updA _ _ _) _ _) _ _ k = _
    rw [updA_s, updA_s, updA_s]; rfl
  have pw : ∀ (f : Nat → Int32) (v : Int32), g_put 200 f ((Γ 3).1 15) v o = v := fun f v => by
    rw [h15, q_g_put_in (n := 200) (i := (o : Nat)) (by omega) (by omega) (by omega), Int.toNat_natCast, upd_s, if_pos rfl]
  rw [hx, hx, hx, if_neg (by omega), if_neg (by omega), if_pos rfl, if_neg (by omega), if_pos rfl, if_pos rfl, pw, pw, pw]
  exact ⟨rfl, rfl, rfl⟩
/-- one item is laid -/
theorem LYP_step (hT : TKE T N kd vl rv pl) (hp : plm T pl) (hpb : ∀ i, i ≤ T + 1 → pl i ≤ 5000) {b : Nat → Int} {L m : Nat} {nm : Nat → List Int} {cl : List Int} (hF : NMF b L T m nm cl kd vl rv pl) (hm : m < 7000) {G : Nat → HS} {Θ Γs : HS} {σs τ ρ0 ρ : MS} {c z : Nat} {ls is ps ds os es : Nat → Nat} {S : Nat → MS} {K : Nat → HS} {W0 : List Int} (hG : GRW T N kd vl pl G) (hD : SDN T N kd vl rv pl σs Γs c ls is S τ Θ) (hr : rDS σs τ) (hl : ls c ≤ 39000) (hI : ITS kd vl rv pl σs Γs c ls is ps ds os es) (hZ : ∀ z, z ≤ c → GZ T kd vl (G (is z))) (hbad : ∀ t, t < T → ¬ badW G Θ Γs kd vl c is t) (hK : CROW T G Θ kd vl cl is c K) (hz : z < c) (hlim : ∀ q, q < 7 → cN kd is q z ≤ (if q = 0 then 120 else if q = 1 then 60 else if q = 2 then 100 else if q = 3 then 20 else if q = 4 then 100 else if q = 5 then 200 else 20)) (hon : ∀ z, z < c → kd (is z) = 236 → cN kd is 5 z < 200) (hea : ∀ z, z < c → kd (is z) = 237 → cN kd is 6 z < 20) (h0 : ∀ x, x ≤ 120 → (K 0 4).2.1 3 x = J (-1) ∧ (K 0 4).2.1 4 x = 0 ∧ (K 0 4).2.1 5 x = 0) (h06 : ∀ x, x < 726 → (K 0 4).2.1 6 x = 0) (h : LYP T kd vl rv pl m nm Θ σs ls is K (K c) W0 ρ0 z ρ) : ∃ ρ', F_X12_layOne (J (ls z : Nat)) ρ = some ((0 : Int32), ρ') ∧ LYP T kd vl rv pl m nm Θ σs ls is K (K c) W0 ρ0 (z + 1) ρ' := by
  have hN := INM_of hT hp hD
  have hkr := hD.2.2.2.2.2.2.2.2.2.1 z hz
  have hmm := ITS_lt hI
  have hj : is (z + 1) ≤ T := by
    have := is_le hmm.1 (a := z + 1) (b := c) (by omega) (Nat.le_refl _)
    have := hD.2.2.2.1
    omega
  have hlz : ls (z + 1) ≤ 39000 := by
    have := is_le hmm.2 (a := z + 1) (b := c) (by omega) (Nat.le_refl _)
    omega
  by_cases k0 : kd (is z) ≤ 231
  · exact LYP_place hT hp hpb hF hG hD hr hl hI hZ hbad hK hon hz hlz hj (by omega) (hlim 1 (by omega)) h0 h06 h
  by_cases k1 : kd (is z) = 232
  · exact LYP_verb hT hp hpb hF hm hG hD hr hl hI hZ hK hon hz hlz hj k1 (hlim 0 (by omega)) h
  have own : ∀ k x, SLT kd is z k x → (K c 4).2.1 k x = (K (z + 1) 4).2.1 k x ∧ (K z 4).2.1 k x = (K 0 4).2.1 k x := fun k x hs => row_own hI hN hon hK hz hs
  obtain ⟨ow, W, hJ, hW, hd, hL, hB, hv, ha, ho, he⟩ := h
  by_cases k2 : kd (is z) = 233
  · obtain ⟨v, ρ', l1, l2, l3, l4, l5, l6, l7⟩ := step_var hT hN hI (hK.1 z hz) hz hlz hj k2 hJ hW
    have f2 : ∀ k, k ≠ 76 → ρ'.2 k = ρ.2 k := fun k hk => by rw [l4, mA_2, if_neg hk]
    have f1 : ρ'.1 = ρ.1 := by rw [l4]; rfl
    refine ⟨ρ', l1, LYP_rest hI hz (hK.1 z hz) (by omega) l2 l3 hd hL ⟨fun k _ _ _ => by rw [f1], fun k _ a _ => f2 k (by omega)⟩ hB (fun k hk => f2 k (by omega)) (by rw [f1]) ⟨fun z' hz' hk' => ?_, ARA_same ha (by omega) (f2 77 (by omega)), ONA_same ho (by omega) (fun k k1 k2 => f2 k (by omega)), EAA_same he (by omega) (f2 75 (by omega))⟩⟩
    have e76 : ρ'.2 76 = upd (ρ.2 76) (inum kd is z) (J v) := by rw [l4, mA_2, if_pos rfl]
    rw [e76, upd_s]
    by_cases q : z' = z
    · subst q
      exact ⟨v, by rw [if_pos rfl], by rw [(own 11 _ (Or.inr (Or.inr (Or.inl ⟨k2, rfl, rfl⟩)))).1]; exact l5, l6, l7⟩
    · have hne : inum kd is z' ≠ inum kd is z := fun e => q (inum_inj (kd := kd) (is := is) (by rw [hk', k2]) (by rw [hk', k2]) e)
      rw [if_neg hne]; exact hv z' (by omega) hk'
  by_cases k3 : kd (is z) = 234
  · have hs := enF_row (kd := kd) (vl := vl) (is := is) z ha.2
    obtain ⟨ρ', l1, l2, l3, l4, l5, l6⟩ := step_array hT hN hI (hK.1 z hz) hz hlz hj k3 hs.1 (fun h => by
      rw [← enF_top (kd := kd) (vl := vl) (is := is) z, h, enF_0]) hJ hW
    have f2 : ∀ k, k ≠ 77 → ρ'.2 k = ρ.2 k := fun k hk => by rw [l4, mA_2, if_neg hk]
    have f1 : ρ'.1 = ρ.1 := by rw [l4]; rfl
    refine ⟨ρ', l1, LYP_rest hI hz (hK.1 z hz) (by omega) l2 l3 hd hL ⟨fun k _ _ _ => by rw [f1], fun k _ a _ => f2 k (by omega)⟩ hB (fun k hk => f2 k (by omega)) (by rw [f1]) ⟨VRA_same hv (by omega) (f2 76 (by omega)), ⟨fun k hk => ?_, fun z' hz' hk' => ?_⟩, ONA_same ho (by omega) (fun k k1 k2 => f2 k (by omega)), EAA_same he (by omega) (f2 75 (by omega))⟩⟩
    · have e77 : ρ'.2 77 = upd (ρ.2 77) (cN kd is 3 z + 1) (J (smA kd vl is (z + 1))) := by rw [l4, mA_2, if_pos rfl]
      rw [cN_3s k3] at hk
      rw [e77, upd_s, enF_s]
      by_cases q : k = cN kd is 3 z + 1
      · rw [if_pos q, if_neg (by omega)]
      · rw [if_neg q, if_pos (by omega)]; exact ha.1 k (by omega)
    · by_cases q : z' = z
      · rw [q]; exact l6
      · exact ha.2 z' (by omega) hk'
  by_cases k4 : kd (is z) = 235
  · obtain ⟨l1, l2, l3⟩ := step_def hT hN hI (hK.1 z hz) hz hlz hj k4 hJ hW
    exact ⟨ρ, l1, LYP_rest hI hz (hK.1 z hz) (by omega) l2 l3 hd hL ⟨fun _ _ _ _ => rfl, fun _ _ _ _ => rfl⟩ hB (fun _ _ => rfl) rfl ⟨VRA_same hv (by omega) rfl, ARA_same ha (by omega) rfl, ONA_same ho (by omega) (fun _ _ _ => rfl), EAA_same he (by omega) rfl⟩⟩
  by_cases k5 : kd (is z) = 236
  · obtain ⟨cc, y, ρ', l1, l2, l3, l4, l5, ⟨u1, u2, u3, u4, u5, u6, u7, u8, u9⟩, l7, l8, ⟨mm, l9⟩, l10⟩ := step_on (m := m) (nm := nm) hT hG hI hZ hbad (hK.1 z hz) hz hlz hj k5 (hon z hz k5) hJ hW
    refine ⟨ρ', l1, LYP_rest hI hz (hK.1 z hz) (by omega) l2 l3 hd hL ⟨fun k _ a _ => u1 k a, fun k _ a _ => u3 k (by omega)⟩ hB (fun k hk => u3 k (by omega)) (u1 63 (by omega)) ⟨VRA_same hv (by omega) (u3 76 (by omega)), ARA_same ha (by omega) (u3 77 (by omega)), fun z' hz' hk' => ?_, EAA_same he (by omega) (u3 75 (by omega))⟩⟩
    by_cases q : z' = z
    · subst q
      obtain ⟨-, r15⟩ := row_run hI hN hon hK z' (by omega)
      obtain ⟨w1, w2, w3⟩ := on_rows l7 r15 (hon z' hz k5)
      have so : ∀ k, 13 ≤ k → k ≤ 15 → SLT kd is z' k (cN kd is 5 z') := fun k a b => Or.inr (Or.inr (Or.inr ⟨k5, a, b, rfl⟩))
      exact ⟨cc, y, mm, ⟨l4, l5⟩, ⟨u5, u6, u7, u8, u9⟩, l9, ⟨by rw [(own 13 _ (so 13 (by omega) (by omega))).1]; exact w1, by rw [(own 14 _ (so 14 (by omega) (by omega))).1]; exact w2, by rw [(own 15 _ (so 15 (by omega) (by omega))).1]; exact w3⟩, l8, l10⟩
    · have hlt : cN kd is 5 z' < cN kd is 5 z := by
        have := cN_ltq (kd := kd) (is := is) (show z' < z by omega)
        rw [hk'] at this; exact this
      have := ho z' (by omega) hk'
      unfold ONZ at this ⊢
      rw [u4 70 _ (by omega) (by omega) (by omega), u4 71 _ (by omega) (by omega) (by omega), u4 72 _ (by omega) (by omega) (by omega), u4 73 _ (by omega) (by omega) (by omega), u4 74 _ (by omega) (by omega) (by omega)]
      exact this
  · have k6 : kd (is z) = 237 := by omega
    obtain ⟨y, ρ', l1, l2, l3, l4, mm, l5⟩ := step_each (m := m) (nm := nm) hI (hK.1 z hz) hz hlz k6 (hea z hz k6) hJ hW
    have f2 : ∀ k, k ≠ 75 → ρ'.2 k = ρ.2 k := fun k hk => by rw [l4, mA_2, if_neg hk]; rfl
    have f1 : ∀ k, k ≠ 84 → ρ'.1 k = ρ.1 k := fun k hk => by rw [l4]; show (mI ρ 84 _).1 k = _; rw [mI_1, if_neg hk]
    refine ⟨ρ', l1, LYP_rest hI hz (hK.1 z hz) (by omega) l2 l3 hd hL ⟨fun k _ _ a => f1 k a, fun k _ a _ => f2 k (by omega)⟩ hB (fun k hk => f2 k (by omega)) (f1 63 (by omega)) ⟨VRA_same hv (by omega) (f2 76 (by omega)), ARA_same ha (by omega) (f2 77 (by omega)), ONA_same ho (by omega) (fun k k1 k2 => f2 k (by omega)), fun z' hz' hk' => ?_⟩⟩
    have e75 : ρ'.2 75 = upd (ρ.2 75) (cN kd is 6 z) (J (y : Nat)) := by rw [l4, mA_2, if_pos rfl]
    rw [e75]
    by_cases q : z' = z
    · subst q
      exact ⟨y, mm, by rw [upd_s, if_pos rfl], l5⟩
    · have hlt : cN kd is 6 z' < cN kd is 6 z := by
        have := cN_ltq (kd := kd) (is := is) (show z' < z by omega)
        rw [hk'] at this; exact this
      obtain ⟨y', mm', a⟩ := he z' (by omega) hk'
      exact ⟨y', mm', by rw [upd_s, if_neg (by omega)]; exact a.1, a.2⟩
