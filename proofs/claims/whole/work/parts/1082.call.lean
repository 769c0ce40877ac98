/-! the third going through all items, the class -/
variable {T N : Nat} {kd vl rv : Nat → Int} {pl : Nat → Nat}
/-- what the third going leaves of the story -/
def fr4 (k : Nat) : Prop := k = 0 ∨ k = 7 ∨ k = 12 ∨ k = 13 ∨ k = 14 ∨ k = 15
theorem AWR_fr {o : Nat} {t : Int} {Γ Δ : HS} (h : AWR o t Γ Δ) : (∀ k, k ≠ 9 → k ≠ 10 → (Δ 4).2.1 k = (Γ 4).2.1 k) ∧ (Δ 4).1 = (Γ 4).1 := by
  obtain ⟨-, W, V, m, -, -, -, h⟩ := h
  rw [h]
  by_cases q : 10 ≤ (Γ 4).2.1 10 o
  · rw [if_pos q]; exact ⟨fun _ _ _ => rfl, rfl⟩
  · rw [if_neg q]
    refine ⟨fun k h9 h10 => ?_, rfl⟩
    show updA (updA _ _ _) _ _ k = _
    rw [updA_s, if_neg h10, updA_s, if_neg h9]
theorem OWN_fr {cl : List Int} {o i : Nat} {Γ E : HS} (h : OWN kd vl cl o i Γ E) : (∀ k, k ≠ 9 → k ≠ 10 → (E 4).2.1 k = (Γ 4).2.1 k) ∧ (E 4).1 = (Γ 4).1 := by
  obtain ⟨c, K, -, -, rfl, rfl, h⟩ := h
  have : ∀ e, e ≤ c → (∀ k, k ≠ 9 → k ≠ 10 → (K e 4).2.1 k = (K 0 4).2.1 k) ∧ (K e 4).1 = (K 0 4).1 := by
    intro e
    induction e with
    | zero => intro _; exact ⟨fun _ _ _ => rfl, rfl⟩
    | succ e ih =>
      intro he
      obtain ⟨a, b⟩ := AWR_fr (h e (by omega))
      obtain ⟨a', b'⟩ := ih (by omega)
      exact ⟨fun k h9 h10 => by rw [a k h9 h10, a' k h9 h10], by rw [b, b']⟩
  exact this c (Nat.le_refl _)
theorem JNT_fr {cl : List Int} {n f : Nat} {E F : HS} (h : JNT kd vl cl n f E F) : (∀ k, k ≠ 8 → (F 4).2.1 k = (E 4).2.1 k) ∧ (F 4).1 = (E 4).1 := by
  unfold JNT at h
  by_cases q : kd f = 215
  · rw [if_pos q] at h
    obtain ⟨-, W, V, m, -, -, -, h⟩ := h
    rw [h]
    refine ⟨fun k h8 => ?_, rfl⟩
    show updA _ _ _ k = _
    rw [updA_s, if_neg h8]
  · rw [if_neg q] at h
    rw [h]; exact ⟨fun _ _ => rfl, rfl⟩
theorem WEF_fr {Θ : HS} {cl : List Int} {t : Nat} {Γ Δ : HS} (h : WEF Θ kd vl cl t Γ Δ) : (∀ k, fr4 k → (Δ 4).2.1 k = (Γ 4).2.1 k) ∧ (Δ 4).1 = (Γ 4).1 := by
  have one : ∀ {Γ1 : HS} {k' : Nat} {g : Nat → Int32}, ¬ fr4 k' → m3 (cA' Γ1 4 k' g) Δ → (∀ k, fr4 k → (Γ1 4).2.1 k = (Γ 4).2.1 k) ∧ (Γ1 4).1 = (Γ 4).1 → (∀ k, fr4 k → (Δ 4).2.1 k = (Γ 4).2.1 k) ∧ (Δ 4).1 = (Γ 4).1 := by
    intro Γ1 k' g hk hm h1
    rw [hm.1 4 (by omega)]
    refine ⟨fun k hk2 => ?_, h1.2⟩
    rw [← h1.1 k hk2]
    show updA _ _ _ k = _
    rw [updA_s, if_neg (fun e => hk (by rw [← e]; exact hk2))]
  have self : (∀ k, fr4 k → (Γ 4).2.1 k = (Γ 4).2.1 k) ∧ (Γ 4).1 = (Γ 4).1 := ⟨fun _ _ => rfl, rfl⟩
  have nf : ∀ k, fr4 k → k ≠ 9 ∧ k ≠ 10 ∧ k ≠ 8 := fun k hk => by unfold fr4 at hk; omega
  unfold WEF at h
  split at h
  · exact one (k' := 2) (by unfold fr4; omega) h ⟨fun k hk => by
      show updA _ _ _ k = _
      rw [updA_s, if_neg (by unfold fr4 at hk; omega)]; rfl, rfl⟩
  split at h
  · exact one (k' := 3) (by unfold fr4; omega) h self
  split at h
  · exact one (k' := 5) (by unfold fr4; omega) h self
  split at h
  · exact one (k' := 6) (by unfold fr4; omega) h self
  split at h
  · exact one (k' := 4) (by unfold fr4; omega) h self
  split at h
  · obtain ⟨o, E, -, -, -, h1, h2⟩ := h
    obtain ⟨a, b⟩ := OWN_fr h1
    rw [h2.1 4 (by omega)]
    exact ⟨fun k hk => a k (nf k hk).1 (nf k hk).2.1, b⟩
  split at h
  · obtain ⟨E, ⟨F, c, -, -, h1, h3⟩, h2⟩ := h
    obtain ⟨a, b⟩ := OWN_fr h1
    obtain ⟨a', b'⟩ := JNT_fr h3
    rw [h2.1 4 (by omega)]
    exact ⟨fun k hk => by rw [a' k (nf k hk).2.2, a k (nf k hk).1 (nf k hk).2.1], by rw [b', b]⟩
  split at h
  · exact one (k' := 11) (by unfold fr4; omega) h self
  · rw [h.1 4 (by omega)]; exact self
theorem FLT_fr {Θ : HS} {cl : List Int} {i j : Nat} {Γ Δ : HS} (hij : i ≤ j) (h : FLT Θ kd vl cl i j Γ Δ) : (∀ k, fr4 k → (Δ 4).2.1 k = (Γ 4).2.1 k) ∧ (Δ 4).1 = (Γ 4).1 := by
  obtain ⟨H, rfl, rfl, h⟩ := h
  have : ∀ d, i + d ≤ j → (∀ k, fr4 k → (H (i + d) 4).2.1 k = (H i 4).2.1 k) ∧ (H (i + d) 4).1 = (H i 4).1 := by
    intro d
    induction d with
    | zero => intro _; exact ⟨fun _ _ => rfl, rfl⟩
    | succ d ih =>
      intro hd
      obtain ⟨a, b⟩ := WEF_fr (h (i + d) (by omega) (by omega))
      obtain ⟨a', b'⟩ := ih (by omega)
      exact ⟨fun k hk => by rw [show i + (d + 1) = i + d + 1 by omega, a k hk, a' k hk], by rw [show i + (d + 1) = i + d + 1 by omega, b, b']⟩
  have := this (j - i) (by omega)
  rw [show i + (j - i) = j by omega] at this
  exact this
/-- what an item gives the story -/
def onE (Θ : HS) (kd vl : Nat → Int) (i cc : Nat) (Γ : HS) : HS := o15 (o14 (o13 Γ (J (nsF Θ vl (i + 1) : Nat))) ((Γ 3).1 15) (if cc = 0 then -1 else J (whV Θ kd vl (i + 2)))) ((Γ 3).1 15) (if cc ≤ 1 then -1 else J (whV Θ kd vl (i + 3)))
def CIT (T : Nat) (G : Nat → HS) (Θ : HS) (kd vl : Nat → Int) (cl : List Int) (is : Nat → Nat) (z : Nat) (Γ E : HS) : Prop := (kd (is z) ≤ 234 → FLT Θ kd vl cl (is z) (is (z + 1)) Γ E) ∧ (235 ≤ kd (is z) → ∃ b, is z < b ∧ b < is (z + 1) ∧ (∀ t, is z ≤ t → t < b → kd t ≠ 123) ∧ HBZ T vl G kd is z b ∧ (kd (is z) ≠ 236 → MV G Θ kd vl (b + 1) (is (z + 1)) Γ E) ∧ (kd (is z) = 236 → ∃ cc, cc ≤ 2 ∧ b = is z + 2 + cc ∧ MV G Θ kd vl (b + 1) (is (z + 1)) (onE Θ kd vl (is z) cc Γ) E))
/-- what stays as it was through all items -/
def CKP (Γ E : HS) : Prop := (∀ r, r ≠ 1 → r ≠ 3 → r ≠ 4 → r ≠ 7 → E r = Γ r) ∧ (E 4).2.1 0 = (Γ 4).2.1 0 ∧ (E 4).2.1 7 = (Γ 4).2.1 7 ∧ (E 4).2.1 12 = (Γ 4).2.1 12 ∧ (E 4).1 = (Γ 4).1 ∧ (E 1).1 = (Γ 1).1 ∧ (∀ k, k ≠ 7 → (E 1).2.1 k = (Γ 1).2.1 k) ∧ (E 1).2.2 = (Γ 1).2.2
theorem CKP_rfl {Γ : HS} : CKP Γ Γ := ⟨fun _ _ _ _ _ => rfl, rfl, rfl, rfl, rfl, rfl, fun _ _ => rfl, rfl⟩
theorem CKP_trans {Γ Δ E : HS} (h : CKP Γ Δ) (g : CKP Δ E) : CKP Γ E := by
  obtain ⟨a1, a2, a3, a4, a5, a6, a7, a8⟩ := h
  obtain ⟨b1, b2, b3, b4, b5, b6, b7, b8⟩ := g
  exact ⟨fun r r1 r3 r4 r7 => by rw [b1 r r1 r3 r4 r7, a1 r r1 r3 r4 r7], by rw [b2, a2], by rw [b3, a3], by rw [b4, a4], by rw [b5, a5], by rw [b6, a6], fun k hk => by rw [b7 k hk, a7 k hk], by rw [b8, a8]⟩
theorem CKP_cnam {cl : List Int} {Γ E : HS} (h : CKP Γ E) (g : cnam cl Γ) : cnam cl E := cnam_congr g (by rw [h.2.2.2.2.2.1]) (by rw [h.2.2.2.2.2.2.2]) (by rw [h.2.2.2.2.2.2.1 9 (by omega)])
theorem CKP_MV {G : Nat → HS} {Θ Γ E : HS} {i j : Nat} (h : MV G Θ kd vl i j Γ E) : CKP Γ E ∧ E 7 = Γ 7 := ⟨⟨fun r r1 r3 _ _ => h.1 r r1 r3, by rw [h.1 4 (by omega) (by omega)], by rw [h.1 4 (by omega) (by omega)], by rw [h.1 4 (by omega) (by omega)], by rw [h.1 4 (by omega) (by omega)], h.2.2.2.1, h.2.2.2.2.1, h.2.2.2.2.2.1⟩, h.1 7 (by omega) (by omega)⟩
theorem CKP_on {Θ Γ : HS} {i cc : Nat} : CKP Γ (onE Θ kd vl i cc Γ) ∧ (onE Θ kd vl i cc Γ) 7 = Γ 7 := by
  have e4 : ∀ k, k ≠ 13 → k ≠ 14 → k ≠ 15 → ((onE Θ kd vl i cc Γ) 4).2.1 k = (Γ 4).2.1 k := by
    intro k k1 k2 k3
    show updA (updA (updA _ _ _) _ _) _ _ k = _
    rw [updA_s, if_neg k3, updA_s, if_neg k2, updA_s, if_neg k1]
  have er : ∀ r, r ≠ 3 → r ≠ 4 → (onE Θ kd vl i cc Γ) r = Γ r := fun r r3 r4 => by
    unfold onE o15 o14 o13; rw [cI_r, if_neg r3, cA_r, if_neg r4, cA_r, if_neg r4, cA_r, if_neg r4]
  exact ⟨⟨fun r _ r3 r4 _ => er r r3 r4, e4 0 (by omega) (by omega) (by omega), e4 7 (by omega) (by omega) (by omega), e4 12 (by omega) (by omega) (by omega), rfl, by rw [er 1 (by omega) (by omega)], fun _ _ => by rw [er 1 (by omega) (by omega)], by rw [er 1 (by omega) (by omega)]⟩, er 7 (by omega) (by omega)⟩
theorem DOK_7 {Γ E : HS} {W : List Int} (h : DOK Γ W) (e : E 7 = Γ 7) : DOK E W := by
  obtain ⟨p, hp⟩ := h
  refine ⟨p, ?_⟩
  unfold DOp at hp ⊢
  rw [e]; exact hp
theorem c_items {G : Nat → HS} {Θ Γs : HS} {σs σK : MS} {DN : Nat → Nat → Nat → Prop} (hE : MEN T N kd vl rv pl G Θ Γs σs σK DN) (hTB : TB T kd vl rv σK Θ) {cl : List Int} (hcl : cl.length ≤ 4500) (hvl : ∀ u, u ≤ T → kd u = 2 → (vl u).toNat < cl.length) {c : Nat} {ls is ps ds os es : Nat → Nat} (hI : ITS kd vl rv pl σs Γs c ls is ps ds os es) (hi : is c ≤ T) (hpre : ∀ z, z < c → is z ≠ 0 → kd (is z - 1) ≠ 239) (hN : INM kd vl Θ c is) (hfm : ∀ u, u ≤ T → kd u = 2 → ksF Θ vl u = 3 → 0 ≤ frm Θ vl u ∧ frm Θ vl u ≤ 2 ∧ nsF Θ vl u ≤ 60) (hGZ : ∀ z, z ≤ c → GZ T kd vl (G (is z))) (hHB : ∀ z, z < c → ∃ b, HBZ T vl G kd is z b) : ∀ (d k : Nat) (Γ : HS), k + d = c → CT3 T N kd vl pl G Θ Γs (is k) Γ → cnam cl Γ → (∃ W, DOK Γ W) → (Γ 4).2.1 7 = (Θ 4).2.1 7 → CST T N kd vl pl G Θ Γs (badW G Θ Γs kd vl c is) (fun Γ E => ∃ K : Nat → HS, K k = Γ ∧ K c = E ∧ (∀ z, k ≤ z → z < c → CIT T G Θ kd vl cl is z (K z) (K (z + 1))) ∧ CKP Γ E ∧ ∃ W, DOK E W) (is k) (is c) Γ := by
  obtain ⟨hT, hNI, hp, hpb, hX, hG⟩ := id hE
  have hm := ITS_lt hI
  have hks : ∀ u, u ≤ T → kd u = 2 → 0 ≤ ksF Θ vl u ∧ ksF Θ vl u ≤ 6 ∧ (ksF Θ vl u ≠ 0 → (Θ 3).2.1 4 (vl u).toNat = J (nsF Θ vl u : Nat)) := fun u hu hk => by
    obtain ⟨e1, e2, e3, e4⟩ := hX.2.1 u hu hk
    refine ⟨e3, e4, fun hne => ?_⟩
    have hne2 : σK.2 28 (rv u).toNat ≠ 0 := by
      rw [e1, show (0 : Int32) = J 0 from rfl, Ne, J_eq (by omega) (by omega) (by omega) (by omega)]; exact hne
    rw [← (hTB u hu hk).2 hne2]; exact e2 hne
  intro d
  induction d with
  | zero =>
    intro k Γ hk h _ hD _
    obtain rfl : k = c := by omega
    exact Or.inr ⟨fun w w1 w2 => by omega, Γ, fun n => by rw [Nat.sub_self]; rfl, h, fun _ => Γ, rfl, rfl, fun z z1 z2 => by omega, CKP_rfl, hD⟩
  | succ d ih =>
    intro k Γ hk h hcn hD h7
    have hkc : k < c := by omega
    have m1 : is k ≤ is (k + 1) := Nat.le_of_lt (hm.1 k hkc)
    have m2 : is (k + 1) ≤ is c := by have := is_le hm.1 (a := k + 1) (b := c) (by omega) (Nat.le_refl _); omega
    have hZ := hGZ k (by omega)
    have hno := ITM_noI (hI k hkc).1
    have step : CST T N kd vl pl G Θ Γs (badW G Θ Γs kd vl c is) (fun Γ E => CIT T G Θ kd vl cl is k Γ E ∧ CKP Γ E ∧ ∃ W, DOK E W) (is k) (is (k + 1)) Γ := by
      have flat : FWH T kd vl G Θ (is k) (is (k + 1)) → kd (is k) ≤ 234 → CST T N kd vl pl G Θ Γs (badW G Θ Γs kd vl c is) (fun Γ E => CIT T G Θ kd vl cl is k Γ E ∧ CKP Γ E ∧ ∃ W, DOK E W) (is k) (is (k + 1)) Γ := by
        intro hW hk4
        have key := c_flat hT hcl hvl hG (Θ := Θ) (Γs := Γs) hm.1 hkc (by omega) hks (hpre k hkc) ⟨by omega, by omega, by omega⟩ hW (is (k + 1) - is k) (is k) Γ (by omega) (Nat.le_refl _) h hcn hD (fun h => by omega) (fun v v1 v2 => by omega)
        rcases key with e | ⟨n1, E, e1, e2, e3, e4, e5, e6⟩
        · exact Or.inl e
        · obtain ⟨f1, f2⟩ := FLT_fr m1 e3
          refine Or.inr ⟨n1, E, e1, e2, ⟨fun _ => e3, fun h => by omega⟩, ⟨fun r _ r3 r4 r7 => e5 r r3 r4 r7, f1 0 (Or.inl rfl), f1 7 (Or.inr (Or.inl rfl)), f1 12 (Or.inr (Or.inr (Or.inl rfl))), f2, by rw [e5 1 (by omega) (by omega) (by omega)], fun _ _ => by rw [e5 1 (by omega) (by omega) (by omega)], by rw [e5 1 (by omega) (by omega) (by omega)]⟩, e4⟩
      have conv : ∀ {P : HS → HS → Prop}, CST T N kd vl pl G Θ Γs (badW G Θ Γs kd vl c is) P (is k) (is (k + 1)) Γ → (∀ E, P Γ E → CIT T G Θ kd vl cl is k Γ E ∧ CKP Γ E ∧ E 7 = Γ 7) → CST T N kd vl pl G Θ Γs (badW G Θ Γs kd vl c is) (fun Γ E => CIT T G Θ kd vl cl is k Γ E ∧ CKP Γ E ∧ ∃ W, DOK E W) (is k) (is (k + 1)) Γ := by
        intro P hc hP
        rcases hc with e | ⟨n1, E, e1, e2, e3⟩
        · exact Or.inl e
        · obtain ⟨a, b, e⟩ := hP E e3
          obtain ⟨W, hW⟩ := hD
          exact Or.inr ⟨n1, E, e1, e2, a, b, W, DOK_7 hW e⟩
      rcases (hI k hkc).1 with ⟨a0, a1, a⟩ | ⟨a0, a1, a⟩ | ⟨a1, a⟩ | ⟨a1, a⟩ | ⟨a1, a⟩ | a | a | a
      · exact flat (FWH_place hT hG hkc hN (Or.inl ⟨rfl, a0⟩) a (by omega) hZ) (by omega)
      · exact flat (FWH_place hT hG hkc hN (Or.inr ⟨rfl, a0⟩) a (by omega) hZ) (by omega)
      · exact flat (FWH_item hT hG hkc hN (Or.inl a) (by omega) hZ) (by have := a.1; omega)
      · exact flat (FWH_item hT hG hkc hN (Or.inr (Or.inl a)) (by omega) hZ) (by have := a.1; omega)
      · exact flat (FWH_item hT hG hkc hN (Or.inr (Or.inr a)) (by omega) hZ) (by have := a.1; omega)
      · have k0 := a.1
        obtain ⟨b, b1, b2, b3, b5, b4⟩ := c_def hE hTB hm.1 hkc a hno.2.2.2 (by omega) hZ h (hHB k hkc)
        refine conv b4 (fun E hE' => ?_)
        obtain ⟨x, y⟩ := CKP_MV hE'
        exact ⟨⟨fun h => by omega, fun _ => ⟨b, b1, b2, b3, b5, fun _ => hE', fun h => by omega⟩⟩, x, y⟩
      · have k0 := a.1
        have k1 := a.2.1
        obtain ⟨cc, b, b0, b1, b2, b3, b5, b4⟩ := c_on hE hTB hm.1 hkc a hno.2.2.2 (by omega) hZ h (hHB k hkc) (fun h3 => by
          obtain ⟨x, y, w⟩ := hfm (is k + 1) (by have := hm.1 k hkc; omega) k1 h3
          refine ⟨?_, x, y, w⟩
          rw [h7]
          unfold frm; rw [J_of])
        refine conv b4 (fun E hE' => ?_)
        obtain ⟨x, y⟩ := CKP_MV hE'
        have g := CKP_on (kd := kd) (vl := vl) (Θ := Θ) (Γ := Γ) (i := is k) (cc := cc)
        exact ⟨⟨fun h => by omega, fun _ => ⟨b, by omega, b2, b3, b5, fun h => absurd k0 h, fun _ => ⟨cc, b0, b1, hE'⟩⟩⟩, CKP_trans g.1 x, y.trans g.2⟩
      · have k0 := a.1
        have hb : is k + 1 < is (k + 1) ∧ kd (is k + 1) = 123 := by
          obtain ⟨hh, y, m, r, ⟨x1, x1'⟩, x2, x3, -⟩ := a.2.2.2.1
          have := STX_rng x3
          exact ⟨by omega, STX_first _ _ _ _ _ _ _ _ _ x3 (Or.inl rfl)⟩
        obtain ⟨b, hB⟩ := hHB k hkc
        obtain ⟨g1, g2, g3, g4⟩ := g_rule hT hG (i := is k) (b := is k + 1) (by omega) (by omega) (Or.inr k0) (fun t t1 t2 => by omega) hZ
        have hb2 : is k + 1 + 1 < is (k + 1) := by
          obtain ⟨hh, y, m, r, ⟨x1, x1'⟩, x2, x3, -⟩ := a.2.2.2.1
          have hl := STX_last _ _ _ _ _ _ _ _ _ x3
          rcases Nat.lt_or_ge (is k + 1 + 1) (is (k + 1)) with q | q
          · exact q
          · exfalso
            rw [show is (k + 1) - 1 = is k + 1 by omega, hb.2] at hl; omega
        have eb := hbz_eq hT hG (b := is k + 1) (by omega) hB (by omega) hb2 hb.2 (fun t t1 t2 => nbody_11 (g4 t t1 t2)) g1 g3 (by omega)
        subst eb
        refine conv (c_each hE hTB hm.1 hkc hB hb.1 hno.2.2.2 (by omega) k0 rfl hb.2 h) (fun E hE' => ?_)
        obtain ⟨x, y⟩ := CKP_MV hE'
        exact ⟨⟨fun h => by omega, fun _ => ⟨is k + 1, by omega, hb.1, fun t t1 t2 => by rw [show t = is k by omega, k0]; omega, hB, fun _ => hE', fun h => by omega⟩⟩, x, y⟩
    refine CST_seq m1 m2 step (fun Δ hΔ r r1 r3 r4 r7 => hΔ.2.1.1 r r1 r3 r4 r7) (fun Δ hC hΔ => ih (k + 1) Δ (by omega) hC (CKP_cnam hΔ.2.1 hcn) hΔ.2.2 (by rw [hΔ.2.1.2.2.1, h7])) (fun Δ E hΔ hE' => ?_)
    obtain ⟨K, k1, k2, k3, k4, k5⟩ := hE'
    refine ⟨fun z => if z = k then Γ else K z, by dsimp only; rw [if_pos rfl], by dsimp only; rw [if_neg (by omega)]; exact k2, fun z z1 z2 => ?_, CKP_trans hΔ.2.1 k4, k5⟩
    dsimp only
    by_cases q : z = k
    · subst q
      rw [if_pos rfl, if_neg (by omega), k1]; exact hΔ.1
    · rw [if_neg q, if_neg (by omega)]; exact k3 z (by omega) z2
