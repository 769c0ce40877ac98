/-! the class's words -/
def csrc (b : Nat → Int) (L : Nat) (Γ : HS) : Prop := L ≤ 4096 ∧ (Γ 1).1 1 = J L ∧ (∀ i, i < L → (Γ 1).2.1 0 i = J (b i)) ∧ ∀ i, i < L → b i = 10 ∨ (32 ≤ b i ∧ b i ≤ 126)
theorem byt_rng {b : Nat → Int} {L : Nat} {Γ : HS} (h : csrc b L Γ) (i : Nat) : 0 ≤ byt b L i ∧ byt b L i ≤ 126 := by
  unfold byt; split
  · rename_i q; have := h.2.2.2 i q; omega
  · omega
theorem c_signAt {b : Nat → Int} {L : Nat} {Γ : HS} (h : csrc b L Γ) {i : Nat} (hi : i < 1000000) : F_X10_signAt (J i) Γ = some (J (byt b L i), Γ) := by
  obtain ⟨hL, h1, h0, hb⟩ := h
  unfold F_X10_signAt byt
  rw [h1]
  by_cases q : i < L
  · rw [if_neg (by simp (disch := omega) only [J_lit, J_add, J_sub, J_mul, J_neg, J_lt, J_le, J_eq, J_natN, J_nat, Int.toNat_natCast, tnl, tnc] <;> omega), if_neg (by simp (disch := omega) only [J_lit, J_add, J_sub, J_mul, J_neg, J_lt, J_le, J_eq, J_natN, J_nat, Int.toNat_natCast, tnl, tnc] <;> omega), if_neg (by simp (disch := omega) only [J_lit, J_add, J_sub, J_mul, J_neg, J_lt, J_le, J_eq, J_natN, J_nat, Int.toNat_natCast, tnl, tnc] <;> omega), if_neg (by simp (disch := omega) only [J_lit, J_add, J_sub, J_mul, J_neg, J_lt, J_le, J_eq, J_natN, J_nat, Int.toNat_natCast, tnl, tnc] <;> omega), J_natN (by omega), h0 i q, if_pos q]
  · rw [if_neg (by simp (disch := omega) only [J_lit, J_add, J_sub, J_mul, J_neg, J_lt, J_le, J_eq, J_natN, J_nat, Int.toNat_natCast, tnl, tnc] <;> omega), if_pos (by simp (disch := omega) only [J_lit, J_add, J_sub, J_mul, J_neg, J_lt, J_le, J_eq, J_natN, J_nat, Int.toNat_natCast, tnl, tnc] <;> omega), if_neg q]; rfl
/-- a word more, in the class -/
def ctS (Γ : HS) (t : Nat) (k p v : Int) : HS := cI' (cA' (cA' (cA' (cA' (cA' Γ 1 3 (upd ((Γ 1).2.1 3) t (J k))) 1 4 (upd ((Γ 1).2.1 4) t (J p))) 1 5 (upd ((Γ 1).2.1 5) t (J v))) 1 6 (upd ((Γ 1).2.1 6) t 0)) 1 7 (upd ((Γ 1).2.1 7) t 0)) 1 2 (J (t + 1 : Nat))
theorem c_add {Γ : HS} {t : Nat} (k p v : Int) (h : (Γ 1).1 2 = J t) (ht : t < 16000) : F_X10_add (J k) (J p) (J v) Γ = some (J p, ctS Γ t k p v) := by
  unfold F_X10_add
  rw [h, if_neg (by simp (disch := omega) only [J_lit, J_add, J_sub, J_mul, J_neg, J_lt, J_le, J_eq, J_natN, J_nat, Int.toNat_natCast, tnl, tnc] <;> omega), if_neg (by simp (disch := omega) only [J_lit, J_add, J_sub, J_mul, J_neg, J_lt, J_le, J_eq, J_natN, J_nat, Int.toNat_natCast, tnl, tnc] <;> omega), if_neg (by simp (disch := omega) only [J_lit, J_add, J_sub, J_mul, J_neg, J_lt, J_le, J_eq, J_natN, J_nat, Int.toNat_natCast, tnl, tnc] <;> omega), J_natN (by omega)]
  have e1 : J (t : Nat) + 1 = J (t + 1 : Nat) := by rw [J_lit, J_add]; rfl
  have eg : ∀ (f : Nat → Int32) (x : Int32), g_put 16001 f (J (t : Nat)) x = upd f t x := fun f x => by rw [q_g_put_in (by omega) (by omega) (by omega), Int.toNat_natCast]
  simp only [bnd, cA_r, cI_r, updA_s, if_true, h, eg]
  unfold ctS
  rw [← e1]
  rfl
/-- the row of a word, in the class -/
def cTk (b : Nat → Int) (L : Nat) (cl : List Int) (K P V N M : Int32) (p q : Nat) : Prop :=
  N = J 0 ∧ M = J 0 ∧ P = J p ∧
  if isLt (b p) then ∃ c : Nat, c < cl.length ∧ cl.getD c 0 = pk (wd b L p) ∧ K = J (if c < 57 then 200 + c else 2) ∧ V = J c
  else if isFg (b p) then K = J 3 ∧ V = J (valN b p (wEnd b L p - p))
  else if b p = 34 then K = J 4 ∧ V = J q
  else K = J (if dbl (b p) = true ∧ byt b L (p + 1) = 61 then (if b p = 61 then 5 else if b p = 33 then 6 else if b p = 60 then 7 else 8) else b p) ∧ V = J 0
theorem cTk_mono {b : Nat → Int} {L : Nat} {cl cl' : List Int} {K P V N M : Int32} {p q : Nat} (h : cTk b L cl K P V N M p q) (hl : cl.length ≤ cl'.length) (hc : ∀ c, c < cl.length → cl'.getD c 0 = cl.getD c 0) : cTk b L cl' K P V N M p q := by
  unfold cTk at h ⊢
  refine ⟨h.1, h.2.1, h.2.2.1, ?_⟩
  have := h.2.2.2
  split at this
  · rename_i q; rw [if_pos q]
    obtain ⟨c, h1, h2, h3⟩ := this
    exact ⟨c, by omega, by rw [hc c h1]; exact h2, h3⟩
  · rename_i q; rw [if_neg q]; exact this
/-- how many STRINGS stand ahead of a word -/
def strN (b : Nat → Int) (L : Nat) : Nat → Nat
  | 0 => 0
  | t + 1 => strN b L t + if b (posW b L t) = 34 then 1 else 0
theorem strN_le {b : Nat → Int} {L : Nat} : ∀ t, strN b L t ≤ t := by
  intro t
  induction t with
  | zero => exact Nat.le_refl _
  | succ t ih => unfold strN; split <;> omega
theorem strN_no {b : Nat → Int} {L t : Nat} (h : b (posW b L t) ≠ 34) : strN b L (t + 1) = strN b L t := by
  show strN b L t + (if b (posW b L t) = 34 then 1 else 0) = _; rw [if_neg h]; rfl
theorem strN_yes {b : Nat → Int} {L t : Nat} (h : b (posW b L t) = 34) : strN b L (t + 1) = strN b L t + 1 := by
  show strN b L t + (if b (posW b L t) = 34 then 1 else 0) = _; rw [if_pos h]
/-- t words are cut, in the class -/
def cLx (b : Nat → Int) (L t : Nat) (cl : List Int) (Γ : HS) : Prop := csrc b L Γ ∧ (Γ 1).1 2 = J t ∧ (Γ 1).1 11 = J (strN b L t) ∧ cnam cl Γ ∧ 67 ≤ cl.length ∧ cl.length ≤ 67 + t ∧ (∀ c, c < 67 → cl.getD c 0 = pk (KWC.getD c [])) ∧ ∀ j, j < t → cTk b L cl ((Γ 1).2.1 3 j) ((Γ 1).2.1 4 j) ((Γ 1).2.1 5 j) ((Γ 1).2.1 6 j) ((Γ 1).2.1 7 j) (posW b L j) (strN b L j)
theorem cnam_congr {cl : List Int} {Γ Δ : HS} (h : cnam cl Γ) (h1 : (Δ 1).1 10 = (Γ 1).1 10) (h2 : (Δ 1).2.2 8 = (Γ 1).2.2 8) (h3 : (Δ 1).2.1 9 = (Γ 1).2.1 9) : cnam cl Δ := by
  unfold cnam at h ⊢
  rw [h1, h2, h3]; exact h
theorem cLx_tok {b : Nat → Int} {L t : Nat} {cl cl' : List Int} {Γ Δ : HS} {k v : Int} (h : cLx b L t cl Γ) (hΔ1 : ∀ k, k ≠ 10 → k ≠ 11 → (Δ 1).1 k = (Γ 1).1 k) (h11 : (Δ 1).1 11 = J (strN b L (t + 1))) (hΔ2 : ∀ k, k ≠ 9 → (Δ 1).2.1 k = (Γ 1).2.1 k) (hn : cnam cl' Δ) (hl : cl.length ≤ cl'.length) (hl2 : cl'.length ≤ cl.length + 1) (hc : ∀ c, c < cl.length → cl'.getD c 0 = cl.getD c 0) (hk : cTk b L cl' (J k) (J (posW b L t)) (J v) 0 0 (posW b L t) (strN b L t)) : cLx b L (t + 1) cl' (ctS Δ t k (posW b L t) v) := by
  obtain ⟨⟨hL, h1, h0, hb⟩, h2, _, _, c1, c2, c3, htk⟩ := h
  have eI : ∀ j, (ctS Δ t k (posW b L t) v 1).1 j = if j = 2 then J (t + 1 : Nat) else (Δ 1).1 j := fun j => rfl
  have e0 : (ctS Δ t k (posW b L t) v 1).2.1 0 = (Δ 1).2.1 0 := rfl
  have e3 : (ctS Δ t k (posW b L t) v 1).2.1 3 = upd ((Δ 1).2.1 3) t (J k) := rfl
  have e4 : (ctS Δ t k (posW b L t) v 1).2.1 4 = upd ((Δ 1).2.1 4) t (J (posW b L t)) := rfl
  have e5 : (ctS Δ t k (posW b L t) v 1).2.1 5 = upd ((Δ 1).2.1 5) t (J v) := rfl
  have e6 : (ctS Δ t k (posW b L t) v 1).2.1 6 = upd ((Δ 1).2.1 6) t 0 := rfl
  have e7 : (ctS Δ t k (posW b L t) v 1).2.1 7 = upd ((Δ 1).2.1 7) t 0 := rfl
  refine ⟨⟨hL, by rw [eI, if_neg (by omega), hΔ1 1 (by omega) (by omega)]; exact h1, fun i hi => by rw [e0, hΔ2 0 (by omega)]; exact h0 i hi, hb⟩, by rw [eI, if_pos rfl], by rw [eI, if_neg (by omega)]; exact h11, cnam_congr hn rfl rfl rfl, by omega, by omega, fun c hc2 => by rw [hc c (by omega)]; exact c3 c hc2, fun j hj => ?_⟩
  rw [e3, e4, e5, e6, e7, hΔ2 3 (by omega), hΔ2 4 (by omega), hΔ2 5 (by omega), hΔ2 6 (by omega), hΔ2 7 (by omega)]
  simp only [upd_s]
  by_cases q : j = t
  · rw [if_pos q, if_pos q, if_pos q, if_pos q, if_pos q, q]; exact hk
  · rw [if_neg q, if_neg q, if_neg q, if_neg q, if_neg q]
    exact cTk_mono (htk j (by omega)) hl hc
def oth1 (Γ Δ : HS) : Prop := ∀ r, r ≠ 1 → Δ r = Γ r
theorem oth1_ctS {Γ Δ : HS} {t : Nat} {k p v : Int} (h : oth1 Γ Δ) : oth1 Γ (ctS Δ t k p v) := by
  intro r hr; rw [← h r hr]; simp only [ctS, cI_r, cA_r, if_neg hr]
/-- what a word's taking gives, in the class -/
def cNx (b : Nat → Int) (L t : Nat) (cl : List Int) (Γ : HS) (u : Int32 × HS) : Prop := (wOk b L (posW b L t) → u.1 = J (wEnd b L (posW b L t)) ∧ ∃ cl', cLx b L (t + 1) cl' u.2 ∧ oth1 Γ u.2) ∧ (¬ wOk b L (posW b L t) → u = (J L, ctS Γ t 1 (posW b L t) 0))
theorem c_bad {b : Nat → Int} {L t : Nat} {cl : List Int} {Γ : HS} (h : cLx b L t cl Γ) (ht : t < 8000) : F_X10_bad (J (posW b L t)) Γ = some (J L, ctS Γ t 1 (posW b L t) 0) := by
  unfold F_X10_bad
  rw [show (1 : Int32) = J 1 from rfl, show (0 : Int32) = J 0 from rfl, c_add _ _ _ h.2.1 (by omega), Option.bind_some]
  show some ((Γ 1).1 1, _) = _
  rw [h.1.2.1]
theorem c_number {b : Nat → Int} {L t : Nat} {cl : List Int} {Γ : HS} (h : cLx b L t cl Γ) (htn : t < 8000) (hi : posW b L t < L) (w1 : ¬ isLt (b (posW b L t)) = true) (w2 : isFg (b (posW b L t)) = true) : Ok (F_X10_number (J (posW b L t)) Γ) (cNx b L t cl Γ) := by
  have hbad := c_bad h htn
  have hh := h
  obtain ⟨hs, h2, h11, -⟩ := h
  have hs0 := hs
  obtain ⟨hL, h1, h0, hb⟩ := hs
  have hew : wEnd b L (posW b L t) = endF isFg b L (posW b L t) := by unfold wEnd; rw [if_neg w1, if_pos w2]
  have hmono : ∀ (k v : Int), cTk b L cl (J k) (J (posW b L t)) (J v) 0 0 (posW b L t) (strN b L t) → cLx b L (t + 1) cl (ctS Γ t k (posW b L t) v) := by
    intro k v a7
    refine cLx_tok hh (fun _ _ _ => rfl) ?_ (fun _ _ => rfl) hh.2.2.2.1 (Nat.le_refl _) (by omega) (fun _ _ => rfl) a7
    rw [h11, strN_no (by intro q; rw [q] at w2; exact absurd w2 (by decide))]
  unfold cNx wOk
  rw [if_neg w1, if_pos w2, hew]
  have hT : ∀ v : Int, v = valN b (posW b L t) (endF isFg b L (posW b L t) - posW b L t) → cLx b L (t + 1) cl (ctS Γ t 3 (posW b L t) v) := by
    intro v hv
    exact hmono 3 v ⟨rfl, rfl, rfl, by rw [if_neg w1, if_pos w2, hew, hv]; exact ⟨rfl, rfl⟩⟩
  unfold F_X10_number
  simp only [bnd]
  have hle : endF isFg b L (posW b L t) ≤ L := endF_le (by omega)
  have hge := endF_ge (p := isFg) (b := b) (L := L) (posW b L t)
  generalize hp : posW b L t = i at *
  have hv : ∀ j, i ≤ j → j ≤ endF isFg b L i → 0 ≤ valN b i (j - i) := by
    intro j h1 h2
    exact valN_ge _ (fun k hk => (endF_in (p := isFg) (b := b) (L := L) (i := i) (j := i + k) (by omega) (by omega)).2)
  have hend := endF_end (p := isFg) (b := b) (L := L) i
  have hin : ∀ j, i ≤ j → j < endF isFg b L i → j < L ∧ isFg (b j) = true := fun j a c => endF_in a c
  generalize he : endF isFg b L i = e at *
  refine Ok_loop (P := fun s k => ∃ j : Nat, i ≤ j ∧ j ≤ e ∧ k = e - j ∧ s = (J j, J (if valN b i (j - i) < 32768 then valN b i (j - i) else 32768), Γ)) ?_ FU _ (e - i) (FU_gt (by omega)) ⟨i, by omega, by omega, rfl, by simp only [Nat.sub_self, valN]; rfl⟩
  rintro a s k ⟨j, g1, g2, rfl, rfl⟩ ih
  have hvj := hv j g1 g2
  by_cases q : j < e
  · obtain ⟨q1, q2⟩ := hin j g1 q
    have hbj := isFg_iff.mp q2
    have e1 : valN b i (j + 1 - i) = valN b i (j - i) * 10 + (b j - 48) := by
      rw [show j + 1 - i = (j - i) + 1 by omega]; show valN b i (j - i) * 10 + (b (i + (j - i)) - 48) = _
      rw [show i + (j - i) = j by omega]
    have ih' := ih (J (j + 1 : Nat), J (if valN b i (j + 1 - i) < 32768 then valN b i (j + 1 - i) else 32768), Γ) (e - (j + 1)) (by omega) ⟨j + 1, by omega, by omega, rfl, rfl⟩
    have e2 : (if (if valN b i (j - i) < 32768 then valN b i (j - i) else 32768) * 10 + b j - 48 < 32768 then (if valN b i (j - i) < 32768 then valN b i (j - i) else 32768) * 10 + b j - 48 else 32768) = (if valN b i (j + 1 - i) < 32768 then valN b i (j + 1 - i) else 32768) := by
      rw [e1]; split <;> split <;> split <;> omega
    have hc : (if valN b i (j - i) < 32768 then valN b i (j - i) else 32768) ≤ 32768 ∧ 0 ≤ (if valN b i (j - i) < 32768 then valN b i (j - i) else 32768) := by split <;> omega
    refine Ok_neg (by dsimp only; rw [h1]; simp (disch := omega) only [J_lit, J_add, J_sub, J_mul, J_neg, J_lt, J_le, J_eq, J_natN, J_nat, Int.toNat_natCast, tnl, tnc] <;> omega) ?_
    dsimp only
    rw [c_signAt hs0 (by omega), Option.bind_some]
    have hby : byt b L j = b j := if_pos q1
    rw [hby, c_isFigure (by omega), Option.bind_some, if_pos q2]
    refine Ok_neg J1_ne ?_
    dsimp only
    rw [c_signAt hs0 (by omega), Option.bind_some, hby]
    generalize (if valN b i (j - i) < 32768 then valN b i (j - i) else 32768) = w at *
    rw [← e2, show J ((j + 1 : Nat) : Int) = J (j : Nat) + 1 by rw [J_lit, J_add]; rfl, apply_ite J] at ih'
    simp (disch := omega) only [J_lit, J_add, J_sub, J_mul, J_neg, J_lt, J_le, J_eq, J_natN, J_nat, Int.toNat_natCast, tnl, tnc] at ih' ⊢
    exact ih'
  · have hej : j = e := by omega
    subst hej
    have hc : (if valN b i (j - i) < 32768 then valN b i (j - i) else 32768) ≤ 32768 ∧ 0 ≤ (if valN b i (j - i) < 32768 then valN b i (j - i) else 32768) := by split <;> omega
    have hfin : Ok (if J (if valN b i (j - i) < 32768 then valN b i (j - i) else 32768) ≤ 32767 then (F_X10_add 3 (J i) (J (if valN b i (j - i) < 32768 then valN b i (j - i) else 32768)) Γ).bind fun u_11 => some (((u_11.1 + J (j : Nat)) - J (i : Nat)), u_11.2) else (F_X10_bad (J i) Γ).bind fun u_14 => some (u_14.1, u_14.2)) fun u => (valN b i (j - i) ≤ 32767 → u.1 = J j ∧ ∃ cl', cLx b L (t + 1) cl' u.2 ∧ oth1 Γ u.2) ∧ (¬ valN b i (j - i) ≤ 32767 → u = (J L, ctS Γ t 1 i 0)) := by
      by_cases q3 : valN b i (j - i) ≤ 32767
      · have ev : (if valN b i (j - i) < 32768 then valN b i (j - i) else 32768) = valN b i (j - i) := if_pos (by omega)
        rw [ev]
        refine Ok_pos (by simp (disch := omega) only [J_lit, J_add, J_sub, J_mul, J_neg, J_lt, J_le, J_eq, J_natN, J_nat, Int.toNat_natCast, tnl, tnc] <;> omega) ?_
        rw [show (3 : Int32) = J 3 from rfl, c_add _ _ _ h2 (by omega), Option.bind_some]
        refine Ok_some ⟨fun _ => ⟨?_, cl, hT _ rfl, oth1_ctS (fun _ _ => rfl)⟩, fun h => absurd q3 h⟩
        dsimp only
        rw [J_add, J_sub]; exact congrArg J (by omega)
      · have ev : (if valN b i (j - i) < 32768 then valN b i (j - i) else 32768) = 32768 := if_neg (by omega)
        rw [ev]
        refine Ok_neg (by decide) ?_
        rw [hbad, Option.bind_some]
        exact Ok_some ⟨fun h => absurd h q3, fun _ => rfl⟩
    by_cases q2 : j < L
    · have q4 : ¬ isFg (b j) = true := fun h => hend ⟨q2, h⟩
      have hbj := hb j q2
      have hby : byt b L j = b j := if_pos q2
      refine Ok_neg (by dsimp only; rw [h1]; simp (disch := omega) only [J_lit, J_add, J_sub, J_mul, J_neg, J_lt, J_le, J_eq, J_natN, J_nat, Int.toNat_natCast, tnl, tnc] <;> omega) ?_
      dsimp only
      rw [c_signAt hs0 (by omega), Option.bind_some, hby, c_isFigure (by omega), Option.bind_some, if_neg q4]
      exact Ok_pos J0_eq hfin
    · refine Ok_pos (by dsimp only; rw [h1]; simp (disch := omega) only [J_lit, J_add, J_sub, J_mul, J_neg, J_lt, J_le, J_eq, J_natN, J_nat, Int.toNat_natCast, tnl, tnc] <;> omega) ?_
      exact hfin
