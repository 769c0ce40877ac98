/-! no thing and no verb has more than ten words -/
variable {T N : Nat} {kd vl rv : Nat → Int} {pl : Nat → Nat}
theorem nGe_eq0 {P : Nat} {a b : Int32 × Int32} (h : nGe P a b) (hb : b.1 = 0) : b = a := by
  rcases h with h | ⟨g, q, g1, g2, -, -, h, -⟩
  · exact h
  · exact absurd (by rw [h] at hb; exact hb) (Jg_ne ⟨g1, g2⟩)
theorem tw_ten (hp : plm T pl) (hpb : ∀ i, i ≤ T + 1 → pl i ≤ 5000) : ∀ (c b i : Nat) (a : Int32 × Int32), i + 2 * c ≤ T + 2 → b ≤ 10 → (twF pl a b i c).1 = 0 → b + c ≤ 10 ∧ a.1 = 0 := by
  intro c
  induction c with
  | zero => intro b i a _ hb h; exact ⟨by omega, h⟩
  | succ c ih =>
    intro b i a hi hb h
    unfold twF at h
    by_cases q : 10 < b + 1
    · rw [if_pos q] at h
      have e := nGe_eq0 (twF_nGe hp hpb c (b + 1) (i + 2) (ntF a 5 (pl i)) (by omega)) h
      rw [e] at h
      exfalso
      unfold ntF at h
      split at h
      · exact Jg_ne (by omega) h
      · rename_i q1
        split at h
        · exact Jg_ne (by omega) h
        · exact q1 h
    · rw [if_neg q] at h
      obtain ⟨x, y⟩ := ih (b + 1) (i + 2) a (by omega) (by omega) h
      exact ⟨by omega, y⟩
/-- how many words stand in the parts ahead -/
def wsm (kd : Nat → Int) (is js : Nat → Nat) : Nat → Nat
  | 0 => 0
  | k + 1 => wsm kd is js k + if kd (is k) = 240 then (js k - is k - 1) / 2 else 0
theorem tp_ten (hp : plm T pl) (hpb : ∀ i, i ≤ T + 1 → pl i ≤ 5000) {is js : Nat → Nat} {c : Nat} (h : PWD kd is js c) (hT2 : is c ≤ T) : ∀ (d k : Nat) (a : Int32 × Int32), k + d = c → wsm kd is js k ≤ 10 → (tpF kd pl is js a (wsm kd is js k) k d).1 = 0 → a.1 = 0 ∧ ∀ k', k ≤ k' → k' ≤ c → wsm kd is js k' ≤ 10 := by
  intro d
  induction d with
  | zero =>
    intro k a hk hw h0
    exact ⟨h0, fun k' h1 h2 => by rw [show k' = k by omega]; exact hw⟩
  | succ d ih =>
    intro k a hk hw h0
    obtain ⟨p1, p2, p3, p4, p5⟩ := h k (by omega)
    have hle := PWD_le h (c - (k + 1)) (k + 1) (by omega)
    rw [show k + 1 + (c - (k + 1)) = c by omega] at hle
    unfold tpF at h0
    rcases p3 with ⟨q, cc, c1, c2, c3, c4⟩ | ⟨q, -⟩
    · have ecc : (js k - is k - 1) / 2 = cc := by omega
      rw [if_pos q, ecc] at h0
      have ew : wsm kd is js (k + 1) = wsm kd is js k + cc := by
        show _ + (if _ then _ else _) = _
        rw [if_pos q, ecc]
      rw [← ew] at h0
      have e := nGe_eq0 (tpF_nGe hp hpb h hT2 d (k + 1) (wsm kd is js (k + 1)) (twF pl a (wsm kd is js k) (is k + 1) cc) (by omega)) h0
      obtain ⟨x, y⟩ := tw_ten hp hpb cc (wsm kd is js k) (is k + 1) a (by omega) hw (by rw [← e]; exact h0)
      obtain ⟨-, z⟩ := ih (k + 1) _ (by omega) (by omega) h0
      refine ⟨y, fun k' h1 h2 => ?_⟩
      by_cases e' : k' = k
      · rw [e']; exact hw
      · exact z k' (by omega) h2
    · have ew : wsm kd is js (k + 1) = wsm kd is js k := by
        show _ + (if _ then _ else _) = _
        rw [if_neg q]; rfl
      rw [if_neg q, ← ew] at h0
      obtain ⟨y, z⟩ := ih (k + 1) a (by omega) (by omega) h0
      refine ⟨y, fun k' h1 h2 => ?_⟩
      by_cases e' : k' = k
      · rw [e']; exact hw
      · exact z k' (by omega) h2
theorem row_agA {σs : MS} {Γs : HS} {c : Nat} {ls is : Nat → Nat} {S : Nat → MS} {τ : MS} {Θ : HS} (h : SDN T N kd vl rv pl σs Γs c ls is S τ Θ) (hr : rDS σs τ) {z : Nat} (hz : z ≤ c) : agA σs (S z) := by
  obtain ⟨hS, h0, hm, hi, hfl, hc, hb, hrS, -⟩ := h
  intro k k1 k2
  have e := (row_rD0 (k := 0) (fun z _ hz => hS z hz) (c - z) z (by omega) (Nat.zero_le _)).2 k (by omega) (by omega) (by omega)
  rw [← e, ← hrS.2 k (by omega), hr.2 k (by omega) (by omega) (by omega) (by omega)]
theorem row_f0 (hp : plm T pl) {σs : MS} {Γs : HS} {c : Nat} {ls is : Nat → Nat} {S : Nat → MS} {τ : MS} {Θ : HS} (h : SDN T N kd vl rv pl σs Γs c ls is S τ Θ) {z : Nat} (hz : z ≤ c) : (flt (S z)).1 = 0 := by
  obtain ⟨hS, h0, hm, hi, hfl, -⟩ := h
  have e := nGe_eq0 (row_nGe hp (k := 0) (fun z _ hz => hS z hz) hm hi (c - z) z (by omega) (Nat.zero_le _)) hfl
  rw [← e]; exact hfl
theorem row_CNn {σs : MS} {Γs : HS} {c : Nat} {ls is : Nat → Nat} {S : Nat → MS} {τ : MS} {Θ : HS} (h : SDN T N kd vl rv pl σs Γs c ls is S τ Θ) {z : Nat} (hz : z ≤ c) : CNn (S z) z := fun q hq => by
  obtain ⟨hS, h0, hm, hi, hfl, hc, -⟩ := h
  refine ⟨cN kd is q z, ?_, row_cnt hS h0 z hz q hq⟩
  have : ∀ n, cN kd is q n ≤ n + 11 := by
    intro n
    induction n with
    | zero => exact cN_0
    | succ n ih =>
      unfold cN
      split <;> omega
  exact this z
/-- a thing's words -/
theorem thing_ten (hT : TKE T N kd vl rv pl) (hp : plm T pl) (hpb : ∀ i, i ≤ T + 1 → pl i ≤ 5000) {σs : MS} {Γs : HS} {c : Nat} {ls is ps ds os es : Nat → Nat} {S : Nat → MS} {τ : MS} {Θ : HS} (h : SDN T N kd vl rv pl σs Γs c ls is S τ Θ) (hr : rDS σs τ) (hl : ls c ≤ 39000) (hm2 : ∀ z, z < c → ls z < ls (z + 1)) {z : Nat} (hz : z < c) (hk : kd (is z) = 231) (hI : PLC kd rv pl 2 σs (ls z) (ls (z + 1)) (is z) (is (z + 1))) {d : Nat} {xs lt it js : Nat → Nat} (p1 : σs.2 20 (ls z) = J (if 0 < d then (xs 0 : Int) else -1)) (p2 : ∀ k, k < d → σs.2 22 (xs k) = J (if k + 1 < d then (xs (k + 1) : Int) else -1)) (p3 : ∀ k, k < d → lt k = xs k ∧ P17 kd rv pl σs (xs k) (lt (k + 1)) (it k) (js k)) (p4 : ∀ k, k ≤ d → lt k ≤ ls (z + 1)) (p5 : ∀ e, e < d → lt e ≤ lt (e + 1)) (p6 : PWD kd it js d) (p7 : it 0 = is z + 4) (p8 : it d = is (z + 1) - 1) (p9 : lt d ≤ lt 0 + 9000) : ∀ k, k ≤ d → wsm kd it js k ≤ 10 := by
  have hS := h.1
  have hmm := h.2.2.1
  have hi := h.2.2.2.1
  have hc45 := h.2.2.2.2.2.1
  have hle := is_le hmm (a := z + 1) (b := c) (by omega) (Nat.le_refl _)
  have hle2 := is_le hm2 (a := z + 1) (b := c) (by omega) (Nat.le_refl _)
  obtain ⟨e1, -⟩ := rThing hT hpb hp (row_agA h hr (Nat.le_of_lt hz)) hk hI (by omega) (hmm z hz) (by omega) (row_CNn h (Nat.le_of_lt hz)) (by omega) (row_cnt hS h.2.1 z (Nat.le_of_lt hz) 0 (by omega)) (by
    obtain ⟨c', c1, c2⟩ := row_CNn h (Nat.le_of_lt hz) 0 (by omega)
    have := row_cnt hS h.2.1 z (Nat.le_of_lt hz) 0 (by omega)
    have hcn : ∀ n, cN kd is 0 n ≤ n + 11 := by
      intro n
      induction n with
      | zero => exact cN_0
      | succ n ih =>
        unfold cN
        split <;> omega
    have := hcn z
    omega) p1 p2 p3 p4 p5 p6 p7 p8 p9
  have e2 := (hS z hz).1
  rw [e1] at e2
  have e3 : thX kd pl (nmX rv pl (S z) (is z) 120 0 (cN kd is 0 z) 2 (cN kd is 0 z + 1 : Nat) (ls z)) it js d = S (z + 1) := by injection e2 with e2; exact (Prod.mk.inj e2).2
  have f := row_f0 hp h (z := z + 1) (by omega)
  rw [← e3] at f
  exact fun k hk => (tp_ten hp hpb p6 (by omega) d 0 _ (by omega) (Nat.zero_le _) f).2 k (Nat.zero_le _) hk
/-- a verb's words -/
theorem verb_ten (hT : TKE T N kd vl rv pl) (hp : plm T pl) (hpb : ∀ i, i ≤ T + 1 → pl i ≤ 5000) {σs : MS} {Γs : HS} {c : Nat} {ls is : Nat → Nat} {S : Nat → MS} {τ : MS} {Θ : HS} (h : SDN T N kd vl rv pl σs Γs c ls is S τ Θ) (hr : rDS σs τ) (hl : ls c ≤ 39000) (hm2 : ∀ z, z < c → ls z < ls (z + 1)) {z : Nat} (hz : z < c) (hI : VRB kd rv pl σs (ls z) (ls (z + 1)) (is z) (is (z + 1))) : ∃ d, (1 ≤ d ∧ is z + 2 * d + 3 ≤ is (z + 1) ∧ NMS kd rv pl σs (ls z + 2) d (is z + 2) ∧ 213 ≤ kd (is z + 1 + 2 * d) ∧ kd (is z + 1 + 2 * d) ≤ 215) ∧ d ≤ 10 := by
  have hS := h.1
  have hmm := h.2.2.1
  have hi := h.2.2.2.1
  have hc45 := h.2.2.2.2.2.1
  have hle := is_le hmm (a := z + 1) (b := c) (by omega) (Nat.le_refl _)
  have hle2 := is_le hm2 (a := z + 1) (b := c) (by omega) (Nat.le_refl _)
  have hcn : ∀ n, cN kd is 1 n ≤ n + 11 := by
    intro n
    induction n with
    | zero => exact cN_0
    | succ n ih =>
      unfold cN
      split <;> omega
  have := hcn z
  obtain ⟨d, ⟨d1, d2, d3, d4, d5, -⟩, e1, -⟩ := rVerb hT hpb hp (row_agA h hr (Nat.le_of_lt hz)) hI (by omega) (by omega) (row_CNn h (Nat.le_of_lt hz)) (by omega) (row_cnt hS h.2.1 z (Nat.le_of_lt hz) 1 (by omega)) (by omega)
  have e2 := (hS z hz).1
  rw [e1] at e2
  have e3 := congrArg Prod.snd (Option.some.inj e2)
  dsimp only at e3
  have f := row_f0 hp h (z := z + 1) (by omega)
  rw [← e3] at f
  refine ⟨d, ⟨d1, d2, d3, d4, d5⟩, ?_⟩
  have := (tw_ten hp hpb d 0 (is z + 2) _ (by omega) (by omega) f).1
  omega
