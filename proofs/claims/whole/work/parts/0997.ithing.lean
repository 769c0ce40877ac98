/-! things: the step -/
variable {T N : Nat} {kd vl rv : Nat → Int} {pl : Nat → Nat}
theorem PRT_nodes {g : Int} {σ : MS} {t hi i j : Nat} (h : PRT kd rv pl g σ t hi i j) : hi + i ≤ t + j := by
  obtain ⟨-, -, -, ⟨-, -, h1, h2, -⟩ | ⟨-, h1, h2, -⟩ | ⟨-, -, -, -, h1, h2, -⟩ | ⟨-, -, h1, h2, -⟩ | ⟨-, -, h1, h2, -⟩ | ⟨c, hc, -, h1, h2, -⟩ | ⟨-, -, h1, h2, -⟩⟩ := h <;> omega
/-- a thing's parts, laid out -/
theorem PLC_parts {σs : MS} {x hi i j : Nat} (hI : PLC kd rv pl 2 σs x hi i j) : ∃ (c : Nat) (xs ls is js : Nat → Nat), σs.2 20 x = J (if 0 < c then (xs 0 : Int) else -1) ∧ (∀ k, k < c → σs.2 22 (xs k) = J (if k + 1 < c then (xs (k + 1) : Int) else -1)) ∧ (∀ k, k < c → ls k = xs k ∧ P17 kd rv pl σs (xs k) (ls (k + 1)) (is k) (js k)) ∧ (∀ k, k ≤ c → ls k ≤ hi) ∧ (∀ e, e < c → ls e ≤ ls (e + 1)) ∧ PWD kd is js c ∧ is 0 = i + 4 ∧ is c = j - 1 ∧ ls c + is 0 ≤ ls 0 + is c := by
  obtain ⟨k1, k2, k3, k4, k5, k6, k7, k8, k9, k10, k11, k12, k13, k14, ff, c, k15, xs, ls, is, js, ps, ⟨b0, b1⟩, b2, b3, b4, b5, b6, b7, b8, b9, b10, b11⟩ := hI
  have hmono : ∀ e, e < c → ls e ≤ ls (e + 1) := fun e he => by have := b4 e he; omega
  have hle : ∀ d k, k + d = c → ls k ≤ ls c := by
    intro d
    induction d with
    | zero => intro k hk; rw [show k = c by omega]; exact Nat.le_refl _
    | succ d ih => intro k hk; exact Nat.le_trans (hmono k (by omega)) (ih (k + 1) (by omega))
  have hnod : ∀ d, d ≤ c → ls d + is 0 ≤ ls 0 + is d := by
    intro d
    induction d with
    | zero => intro _; exact Nat.le_refl _
    | succ d ih =>
      intro hd
      have h1 := ih (by omega)
      obtain ⟨-, -, e1, -, e3⟩ := b4 d (by omega)
      have h2 := PRT_nodes e3
      have h3 : is (d + 1) = js d := by rw [(b9 d (by omega)).2]; split <;> rfl
      omega
  refine ⟨c, xs, ls, is, js, ?_, b1, fun k hk => ?_, fun k hk => ?_, hmono, fun k hk => ?_, b5, b6, hnod c (Nat.le_refl c)⟩
  · rw [k15, b0]
    by_cases q : c = 0
    · rw [if_pos q, if_neg (by omega)]
    · rw [if_neg q, if_pos (by omega)]
  · obtain ⟨-, -, e1, -, e3⟩ := b4 k hk
    exact ⟨e1, PRT_17 e3⟩
  · exact Nat.le_trans (hle (c - k) k (by omega)) b3
  · obtain ⟨-, -, e1, -, e3⟩ := b4 k hk
    obtain ⟨w1, w2, w3⟩ := PRT_words e3
    obtain ⟨g1, g2⟩ := b9 k hk
    refine ⟨g1, ?_, ?_, w1, w3⟩
    · rw [g2]; split <;> rfl
    · rcases PRT_17 e3 with ⟨h1, h2, cc, h3, h4, h5, h6, h7⟩ | ⟨h1, -⟩
      · exact Or.inl ⟨h1, cc, h3, h4, fun e he => (h7 e he).2.1, fun e he => (h7 e (by omega)).2.2.2 he⟩
      · exact Or.inr ⟨h1, w2 h1⟩
def thX (kd : Nat → Int) (pl : Nat → Nat) (X : MS) (is js : Nat → Nat) (c : Nat) : MS := noF X (tpF kd pl is js (flt X) 0 0 c)
theorem rThing (hT : TKE T N kd vl rv pl) (hpb : ∀ i, i ≤ T + 1 → pl i ≤ 5000) (hp : plm T pl) {σs σ : MS} {x hi i j n c : Nat} (hA : agA σs σ) (hk0 : kd i = 231) (hI : PLC kd rv pl 2 σs x hi i j) (hx : hi ≤ 39000) (hij : i < j) (hj : j ≤ T) (hC : CNn σ n) (hn : n ≤ 4500) (hc : σ.1 (fcq 0) = J (c : Nat)) (hc5 : c ≤ 5000) {d : Nat} {xs ls is js : Nat → Nat} (p1 : σs.2 20 x = J (if 0 < d then (xs 0 : Int) else -1)) (p2 : ∀ k, k < d → σs.2 22 (xs k) = J (if k + 1 < d then (xs (k + 1) : Int) else -1)) (p3 : ∀ k, k < d → ls k = xs k ∧ P17 kd rv pl σs (xs k) (ls (k + 1)) (is k) (js k)) (p4 : ∀ k, k ≤ d → ls k ≤ hi) (p5 : ∀ e, e < d → ls e ≤ ls (e + 1)) (p6 : PWD kd is js d) (p7 : is 0 = i + 4) (p8 : is d = j - 1) (p9 : ls d ≤ ls 0 + 9000) : F_X12_declareOne (J (x : Nat)) σ = some ((0 : Int32), thX kd pl (nmX rv pl σ i 120 0 c 2 (c + 1 : Nat) x) is js d) ∧ dT kd rv pl n i x σ (thX kd pl (nmX rv pl σ i 120 0 c 2 (c + 1 : Nat) x) is js d) := by
  obtain ⟨k1, k2, k3, k4, k5, k6, k7, k8, k9, k10, -⟩ := hI
  have hNN := TKE_N hT
  have hXA : agA σs (nmX rv pl σ i 120 0 c 2 (c + 1 : Nat) x) := nmX_agA hA (by unfold fcq; rw [if_pos (by omega)]; omega)
  have en := g_en (n := x) (by omega)
  have en2 := (ng (n := x) (by omega)).2
  have hle : ∀ e k, k + e = d → ls k ≤ ls d := by
    intro e
    induction e with
    | zero => intro k hk; rw [show k = d by omega]; exact Nat.le_refl _
    | succ e ih => intro k hk; exact Nat.le_trans (p5 k (by omega)) (ih (k + 1) (by omega))
  have hd : d ≤ 5000 := by have := PWD_le p6 d 0 (by omega); rw [Nat.zero_add] at this; omega
  constructor
  · refine rNm (w := 2) (num := (c + 1 : Nat)) (q := 0) (lim := 120) hT hA (by omega) k3 (by omega) k7 k9 k10 (Or.inl ⟨by omega, by omega, rfl, rfl, rfl⟩) hc hc5 ?_
    have key := th_loop (kd := kd) (rv := rv) (pl := pl) (x := x) (c := d) (σ := nmX rv pl σ i 120 0 c 2 (c + 1 : Nat) x) (xs := xs) (ls := ls) (is := is) (js := js) (fun k hk => by rw [hXA 22 (by omega) (by omega)]; exact p2 k hk) (fun k hk => ⟨(p3 k hk).1, P17_agA hXA (p3 k hk).2⟩) (fun k hk => by have := p4 k hk; omega) d 0 FU 0 (flt (nmX rv pl σ i 120 0 c 2 (c + 1 : Nat) x)) (by omega) (FU_gt (by omega)) (by omega) (fun e e1 e2 => ⟨p5 e e2, hle (d - (e + 1)) (e + 1) (by omega)⟩)
    rw [noF_id] at key
    rw [D8_no (by omega) (by omega), D12_no (by omega) (by omega), D16_2, if_neg en, en2, hXA 20 (by omega) (by omega), p1]
    exact key
  · refine dT_nmX hp hpb (by omega) ?_ (Or.inl rfl) hC hn (by omega) hc hc5 (by omega) (by omega) ⟨by omega, by rw [hk0]; rfl, by rw [hk0]; rfl, by rw [hk0]; rfl⟩
    rw [nmX_flt]
    exact nGe_le (tpF_nGe hp hpb p6 (by omega) d 0 0 _ (by omega)) (by rw [p7]; have := hp i (i + 4) (by omega) (by omega); omega)
theorem iThing (hT : TKE T N kd vl rv pl) (hN : NMI T kd vl rv) (hpb : ∀ i, i ≤ T + 1 → pl i ≤ 5000) (hp : plm T pl) {σs σ : MS} {Γ : HS} {is ta : Nat → Nat} {x hi j n : Nat} (k0 : kd (is n) = 231) (hI : PLC kd rv pl 2 σs x hi (is n) j) (hj : j ≤ T) (hD : DR T kd vl rv is n σ Γ) (hG : G0 T N kd vl pl Γ) (hTA : TA T kd rv ta (is n) σ) (hTC : TAC T kd vl ta Γ) {d : Nat} {ts js : Nat → Nat} (p6 : PWD kd ts js d) (p7 : ts 0 = is n + 4) (p8 : ts d = j - 1) : iStp T N kd vl rv pl is n j σ (thX kd pl (nmX rv pl σ (is n) 120 0 (cN kd is 0 n) 2 (cN kd is 0 n + 1 : Nat) x) ts js d) Γ := by
  obtain ⟨k1, k2, k3, k4, k5, k6, k7, k8, k9, k10, k11, k12, k13, k14, ff, cc, k15, k16⟩ := hI
  have hNN := TKE_N hT
  obtain ⟨Γ1, e1, h⟩ := nm_step (x := x) (w := 2) (num := (cN kd is 0 n + 1 : Nat)) (q := 0) (lim := 120) hT hN hpb hD hG.1 hG.2.1 hTA hTC (by omega) k3 (by rw [k0]; rfl) (by omega) (Or.inl ⟨by omega, by omega, rfl, rfl, rfl⟩)
  have e2 : F_X4_tellWord (J (is n : Nat)) Γ = some ((0 : Int32), cI' Γ1 3 14 0) := by
    rw [tw_231 hT hG.1 (by omega) k0, show F_X4_tellItem (J (is n + 1 : Nat)) 2 0 120 Γ = _ from e1]; rfl
  have hqf : qf (kd (is n)) := by rw [k0]; unfold qf; omega
  have gA := tpF_nGe hp hpb p6 (by omega) d 0 0 (nmF rv pl σ (is n) 120 (cN kd is 0 n)) (by omega)
  rw [p7] at gA
  rcases h with ⟨f, f1, f2, f3⟩ | ⟨f1, f2, f3, f4, f5⟩
  · subst f2
    refine Or.inl ⟨f, is n + 1, by omega, by omega, by omega, ?_, fun hb => ?_⟩
    · refine tw_fail hT hG.1 hG.2.1 (by omega) e2 (fs_q hT ⟨hG.1.1, hG.1.2⟩ (by omega) hqf) ⟨hG.1.1, hG.1.2⟩ rfl rfl (by omega) (fun r b1 b3 b4 b5 b6 b7 => ?_)
      rw [cI_r, if_neg b3]; exact failS_cfM r b1 b3 b4 b5 b6 b7
    · have e0 : nmF rv pl σ (is n) 120 (cN kd is 0 n) = (J f, J (pl (is n + 1) : Nat)) := f3 hb
      have hle := hp (is n + 1) (is n + 4) (by omega) (by omega)
      show tpF kd pl ts js _ 0 0 d = _
      rw [nmX_flt]
      rw [e0] at gA ⊢
      exact nGe_keep gA rfl (by omega) (by omega) (hpb _ (by omega))
  · subst f2
    have hG1 := G0_tlS (q := 0) (c := cN kd is 0 n) (v := vl (is n + 1)) (w := 2) (num := (cN kd is 0 n + 1 : Nat)) hG
    have fX : nmF rv pl σ (is n) 120 (cN kd is 0 n) = flt σ := f1
    have hG2 : G0 T N kd vl pl (cI' (tlS Γ 0 (cN kd is 0 n) (vl (is n + 1)) 2 (cN kd is 0 n + 1 : Nat)) 3 14 0) := ⟨⟨hG1.1.1, hG1.1.2⟩, hG1.2.1, hG1.2.2.1, hG1.2.2.2.1, SC_14 hG1.2.2.2.2⟩
    have hm : m5 Γ (cI' (tlS Γ 0 (cN kd is 0 n) (vl (is n + 1)) 2 (cN kd is 0 n + 1 : Nat)) 3 14 0) := m5_trans tlS_m5 m5_I
    have c1 : CW W2 Γ (is n) _ (is n + 1) := CW_go hT hG.1 (by omega) hG.2.1 e2 (fs_q hT hG2.1 (by omega) hqf) rfl
    have c2 := W2_p hT hG2.1 hG2.2.1 hG2.2.2.1 (i := is n + 1) (j := is n + 3) (by omega) (by omega) (fun t t1 t2 => by
      by_cases z1 : t = is n + 1
      · rw [z1, k3]; exact qp_of (by omega) (by omega) (by omega) (by omega) (by omega)
      · rw [show t = is n + 2 by omega, k4]; exact qp_of (by omega) (by omega) (by omega) (by omega) (by omega))
    have hO : TKc N kd vl pl (opM (cI' (tlS Γ 0 (cN kd is 0 n) (vl (is n + 1)) 2 (cN kd is 0 n + 1 : Nat)) 3 14 0) 0 0) := m3_TKc opM_m3 hG2.1
    have hO16 : ((opM (cI' (tlS Γ 0 (cN kd is 0 n) (vl (is n + 1)) 2 (cN kd is 0 n + 1 : Nat)) 3 14 0) 0 0) 3).1 16 = J 0 := hG2.2.1
    have hO9 : ((opM (cI' (tlS Γ 0 (cN kd is 0 n) (vl (is n + 1)) 2 (cN kd is 0 n + 1 : Nat)) 3 14 0) 0 0) 3).1 9 = J (-1) := hG2.2.2.1
    have hS : cI' (opM (cI' (tlS Γ 0 (cN kd is 0 n) (vl (is n + 1)) 2 (cN kd is 0 n + 1 : Nat)) 3 14 0) 0 0) 3 14 (J (0 : Nat)) = opM (cI' (tlS Γ 0 (cN kd is 0 n) (vl (is n + 1)) 2 (cN kd is 0 n + 1 : Nat)) 3 14 0) 0 0 := cI_self rfl
    have hcl := cl_parts hT hp hpb hO hO16 hO9 p6 (by omega) d 0 0 (by omega) (by omega)
    rw [hS, p7, p8] at hcl
    rcases hcl with ⟨⟨b', w1⟩, w2⟩ | ⟨w, w1, w2, w3, w4⟩
    · obtain ⟨Θ, c4, g4, m4⟩ := c_brace hT hG2 (i := is n + 3) (j := j) k5 k6 (by omega) (by omega) w1 ⟨_, rfl⟩
      have mΘ : m5 Γ Θ := m5_trans hm (m5_trans (m5_m3 opM_m3) (m5_trans m5_I (m5_m3 m4)))
      have hX : thX kd pl (nmX rv pl σ (is n) 120 0 (cN kd is 0 n) 2 (cN kd is 0 n + 1 : Nat) x) ts js d = nmX rv pl σ (is n) 120 0 (cN kd is 0 n) 2 (cN kd is 0 n + 1 : Nat) x := by
        unfold thX; rw [w2, noF_id]
      rw [hX]
      refine Or.inr ⟨by rw [nmX_flt]; exact f1, Θ, CW_trans c1 (CW_trans c2 c4), mΘ, g4, ?_⟩
      exact DR_keep (DR_nam hD (by omega) (by omega) (by omega) (by omega) (f3 _) (f4 _)) (fun _ _ _ => rfl) rfl rfl (fun k _ => by rw [m4.1 4 (by omega)]; rfl) (fun k hk => by rw [m4.2.2 k (by omega) (by omega) (by omega)]; rcases hk with rfl | rfl <;> rfl)
    · have e3 := fs_open hT hG2.1 (show is n + 3 < N by omega) k5 hG2.2.2.2.2 (by omega)
      have c3 := W2_f hT hG2.1 hG2.2.1 (show is n + 3 < N by omega) (by rw [k5]; unfold qt; omega) e3 rfl
      refine Or.inl ⟨5, w, by omega, by omega, by omega, ?_, fun hb => ?_⟩
      · exact CW_CF (CW_trans c1 (CW_trans c2 c3)) w3 (m5_cfM (m5_trans hm (m5_m3 opM_m3)))
      · show tpF kd pl ts js _ 0 0 d = _
        rw [nmX_flt, fX]
        exact w4 _ hb
