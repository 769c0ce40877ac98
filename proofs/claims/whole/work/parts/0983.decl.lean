/-! items are declared: arrays, verbs, things -/
variable {T N : Nat} {kd vl rv : Nat → Int} {pl : Nat → Nat}
theorem D16_no {p0 : Int32} {w : Int} (hw : 0 ≤ w ∧ w < 1000) (h : w ≠ 2) (σ : MS) : D16 p0 (J w) σ = D20 p0 (J w) σ := by
  show (if J w = 2 then _ else D20 p0 (J w) σ) = _
  rw [if_neg (by rw [show (2 : Int32) = J 2 from rfl, J_eq (by omega) (by omega) (by omega) (by omega)]; exact h)]
theorem D12_no {p0 : Int32} {w : Int} (hw : 0 ≤ w ∧ w < 1000) (h : w ≠ 3) (σ : MS) : D12 p0 (J w) σ = D16 p0 (J w) σ := by
  show (if J w = 3 then _ else D16 p0 (J w) σ) = _
  rw [if_neg (by rw [show (3 : Int32) = J 3 from rfl, J_eq (by omega) (by omega) (by omega) (by omega)]; exact h)]
theorem D8_no {p0 : Int32} {w : Int} (hw : 0 ≤ w ∧ w < 1000) (h : w ≠ 5) (σ : MS) : D8 p0 (J w) σ = D12 p0 (J w) σ := by
  show (if J w = 5 then _ else D12 p0 (J w) σ) = _
  rw [if_neg (by rw [show (5 : Int32) = J 5 from rfl, J_eq (by omega) (by omega) (by omega) (by omega)]; exact h)]
/-- a room, a variable: nothing more -/
theorem D8_14 {p0 : Int32} {w : Int} (hw : w = 1 ∨ w = 4) (σ : MS) : D8 p0 (J w) σ = some ((0 : Int32), σ) := by
  rw [D8_no (by omega) (by omega), D12_no (by omega) (by omega), D16_no (by omega) (by omega), D20_no (by omega), D24_no (by omega)]
/-- a definition: its length -/
theorem D8_6 {p0 : Int32} (σ : MS) : D8 p0 (J 6) σ = D24 p0 (J 6) σ := by
  rw [D8_no (by omega) (by omega), D12_no (by omega) (by omega), D16_no (by omega) (by omega), D20_no (by omega)]
theorem D8_78 {p0 : Int32} {w : Int} (hw : w = 7 ∨ w = 8) (σ : MS) : D8 p0 (J w) σ = D20 p0 (J w) σ := by
  rw [D8_no (by omega) (by omega), D12_no (by omega) (by omega), D16_no (by omega) (by omega)]
/-- an array: its size -/
theorem D8_5 {x P : Nat} {b : Int} {σ : MS} (hx : x < 39990) (hb : -1000000000 ≤ b ∧ b ≤ 1000000000) (h20 : σ.2 20 x = J b) (h21 : σ.2 21 x = J (P : Nat)) : D8 (J (x : Nat)) (J 5) σ = some ((0 : Int32), noF (mI σ 39 (σ.1 39 + J b)) (if b < 1 ∨ 400 < b ∨ ¬ (σ.1 39 + J b ≤ 1000) then ntF (flt σ) 5 P else flt σ)) := by
  have en := g_en (n := x) (by omega)
  have en2 := (ng (n := x) (by omega)).2
  have tail : ∀ τ : MS, D12 (J (x : Nat)) (J 5) τ = some ((0 : Int32), τ) := fun τ => by rw [D12_no (by omega) (by omega), D16_no (by omega) (by omega), D20_no (by omega), D24_no (by omega)]
  show (if J 5 = 5 then (if J (x : Nat) < 0 ∨ 40000 ≤ (J (x : Nat)).toNatClampNeg then none else if J (x : Nat) < 0 ∨ 40000 ≤ (J (x : Nat)).toNatClampNeg then none else (if (σ.2 20 (J (x : Nat)).toNatClampNeg) < 1 then (if J (x : Nat) < 0 ∨ 40000 ≤ (J (x : Nat)).toNatClampNeg then none else (F_X12_note 5 (σ.2 21 (J (x : Nat)).toNatClampNeg) (mI σ 39 (σ.1 39 + σ.2 20 (J (x : Nat)).toNatClampNeg))).bind fun u_144 => D12 (J (x : Nat)) (J 5) u_144.2) else (if J (x : Nat) < 0 ∨ 40000 ≤ (J (x : Nat)).toNatClampNeg then none else if 400 < (σ.2 20 (J (x : Nat)).toNatClampNeg) then (if J (x : Nat) < 0 ∨ 40000 ≤ (J (x : Nat)).toNatClampNeg then none else (F_X12_note 5 (σ.2 21 (J (x : Nat)).toNatClampNeg) (mI σ 39 (σ.1 39 + σ.2 20 (J (x : Nat)).toNatClampNeg))).bind fun u_144 => D12 (J (x : Nat)) (J 5) u_144.2) else (if (σ.1 39 + σ.2 20 (J (x : Nat)).toNatClampNeg) ≤ 1000 then D12 (J (x : Nat)) (J 5) (mI σ 39 (σ.1 39 + σ.2 20 (J (x : Nat)).toNatClampNeg)) else (if J (x : Nat) < 0 ∨ 40000 ≤ (J (x : Nat)).toNatClampNeg then none else (F_X12_note 5 (σ.2 21 (J (x : Nat)).toNatClampNeg) (mI σ 39 (σ.1 39 + σ.2 20 (J (x : Nat)).toNatClampNeg))).bind fun u_144 => D12 (J (x : Nat)) (J 5) u_144.2))))) else D12 (J (x : Nat)) (J 5) σ) = _
  rw [if_pos (show J 5 = 5 from rfl), if_neg en, if_neg en, en2, h20, h21]
  rw [en2] at en
  have note : (if J (x : Nat) < 0 ∨ 40000 ≤ x then none else (F_X12_note 5 (J (P : Nat)) (mI σ 39 (σ.1 39 + J b))).bind fun u_144 => D12 (J (x : Nat)) (J 5) u_144.2) = some ((0 : Int32), noF (mI σ 39 (σ.1 39 + J b)) (ntF (flt σ) 5 P)) := by
    rw [if_neg en, show F_X12_note 5 (J (P : Nat)) (mI σ 39 (σ.1 39 + J b)) = _ from r_note _ 5 P, Option.bind_some, tail, flt_mI (by omega) (by omega)]
  by_cases q1 : b < 1
  · rw [if_pos (by rw [show (1 : Int32) = J 1 from rfl, J_lt (by omega) (by omega) (by omega) (by omega)]; exact q1), note, if_pos (Or.inl q1)]
  · rw [if_neg (by rw [show (1 : Int32) = J 1 from rfl, J_lt (by omega) (by omega) (by omega) (by omega)]; exact q1), if_neg en]
    by_cases q2 : 400 < b
    · rw [if_pos (by rw [show (400 : Int32) = J 400 from rfl, J_lt (by omega) (by omega) (by omega) (by omega)]; exact q2), note, if_pos (Or.inr (Or.inl q2))]
    · rw [if_neg (by rw [show (400 : Int32) = J 400 from rfl, J_lt (by omega) (by omega) (by omega) (by omega)]; exact q2)]
      by_cases q3 : σ.1 39 + J b ≤ 1000
      · rw [if_pos q3, tail, if_neg (by rintro (h | h | h); exact q1 h; exact q2 h; exact h q3), ← flt_mI (σ := σ) (k := 39) (v := σ.1 39 + J b) (by omega) (by omega), noF_id]
      · rw [if_neg q3, note, if_pos (Or.inr (Or.inr q3))]
/-- a verb: its words -/
theorem D8_3 {x n c i : Nat} {σ : MS} (hx : x < 39990) (hc : 1 ≤ c) (hn : n + c < 39990) (hc9 : c ≤ 9000) (h20 : σ.2 20 x = J (n : Nat)) (hS : NMS kd rv pl σ n c i) : D8 (J (x : Nat)) (J 3) σ = some ((0 : Int32), noF σ (twF pl (flt σ) 0 i c)) := by
  have en := g_en (n := x) (by omega)
  have en2 := (ng (n := x) (by omega)).2
  rw [D8_no (by omega) (by omega)]
  show (if J 3 = 3 then (if J (x : Nat) < 0 ∨ 40000 ≤ (J (x : Nat)).toNatClampNeg then none else (F_X12_tooManyWords (σ.2 20 (J (x : Nat)).toNatClampNeg) 0 σ).bind fun u_125 => D16 (J (x : Nat)) (J 3) u_125.2) else D16 (J (x : Nat)) (J 3) σ) = _
  rw [if_pos (show J 3 = 3 from rfl), if_neg en, en2, h20, show F_X12_tooManyWords (J (n : Nat)) 0 σ = _ from r_tooMany (b := 0) hc hn (by omega) hS, Option.bind_some, D16_no (by omega) (by omega), D20_no (by omega), D24_no (by omega)]
/-- a thing: the words of its parts -/
def tpF (kd : Nat → Int) (pl is js : Nat → Nat) : Int32 × Int32 → Nat → Nat → Nat → Int32 × Int32
  | a, _, _, 0 => a
  | a, b, k, d + 1 => if kd (is k) = 240 then tpF kd pl is js (twF pl a b (is k + 1) ((js k - is k - 1) / 2)) (b + (js k - is k - 1) / 2) (k + 1) d else tpF kd pl is js a b (k + 1) d
def Th1 (p0 x_3 : Int32) : ((Int32 × Int32 × MS) → MR) → Int32 × Int32 × MS → MR := (fun (again_96 : (Int32 × Int32 × MS) → MR) (s_95 : Int32 × Int32 × MS) => ( if s_95.2.1 < 0 then ( (D20 p0 x_3)  s_95.2.2 ) else ( if s_95.2.1 < 0 ∨ 40000 ≤ s_95.2.1.toNatClampNeg then none else bnd (fun (v3_104 : Int32) (σ_105 : MS) => ( if s_95.2.1 < 0 ∨ 40000 ≤ s_95.2.1.toNatClampNeg then none else bnd ((σ_105.2 22 s_95.2.1.toNatClampNeg)) fun (x_111 : Int32) => again_96 (v3_104, x_111, σ_105) ) : Int32 → MS → MR) fun j_106 => if (s_95.2.2.2 17 s_95.2.1.toNatClampNeg) = 14 then ( if s_95.2.1 < 0 ∨ 40000 ≤ s_95.2.1.toNatClampNeg then none else (F_X12_tooManyWords (s_95.2.2.2 19 s_95.2.1.toNatClampNeg) s_95.1 s_95.2.2).bind fun u_117 => j_106 u_117.1 u_117.2 ) else ( j_106 s_95.1 s_95.2.2 ) ) ))
theorem D16_eq (p0 x_3 : Int32) (σ : MS) : D16 p0 x_3 σ = if x_3 = 2 then (if p0 < 0 ∨ 40000 ≤ p0.toNatClampNeg then none else bnd (σ.2 20 p0.toNatClampNeg) fun (x_93 : Int32) => loopF (Th1 p0 x_3) FU (0, x_93, σ)) else D20 p0 x_3 σ := rfl
theorem D16_2 (p0 : Int32) (σ : MS) : D16 p0 (J 2) σ = if p0 < 0 ∨ 40000 ≤ p0.toNatClampNeg then none else loopF (Th1 p0 (J 2)) FU (0, σ.2 20 p0.toNatClampNeg, σ) := by
  rw [D16_eq, if_pos (show J 2 = 2 from rfl), bndE]
theorem Th1_s (p0 x_3 : Int32) (n : Nat) (b l : Int32) (τ : MS) : loopF (Th1 p0 x_3) (n + 1) (b, l, τ) = if l < 0 then D20 p0 x_3 τ else if l < 0 ∨ 40000 ≤ l.toNatClampNeg then none else if (τ.2 17 l.toNatClampNeg) = 14 then (if l < 0 ∨ 40000 ≤ l.toNatClampNeg then none else (F_X12_tooManyWords (τ.2 19 l.toNatClampNeg) b τ).bind fun u_117 => if l < 0 ∨ 40000 ≤ l.toNatClampNeg then none else loopF (Th1 p0 x_3) n (u_117.1, u_117.2.2 22 l.toNatClampNeg, u_117.2)) else (if l < 0 ∨ 40000 ≤ l.toNatClampNeg then none else loopF (Th1 p0 x_3) n (b, τ.2 22 l.toNatClampNeg, τ)) := rfl
theorem PRT_17 {σ : MS} {t hi i j : Nat} (h : PRT kd rv pl 2 σ t hi i j) : (kd i = 240 ∧ σ.2 17 t = J 14 ∧ ∃ c, 1 ≤ c ∧ j = i + 2 * c + 1 ∧ hi = t + 1 + c ∧ σ.2 19 t = J (t + 1 : Nat) ∧ NMS kd rv pl σ (t + 1) c (i + 1)) ∨ (kd i ≠ 240 ∧ ∃ w : Int, σ.2 17 t = J w ∧ 0 ≤ w ∧ w < 100 ∧ w ≠ 14) := by
  obtain ⟨-, -, -, ⟨h1, -, -, -, h2, -⟩ | ⟨⟨h0, -⟩, -⟩ | ⟨⟨h0, -⟩, -⟩ | ⟨⟨-, h1⟩, -, -, -, h2, -⟩ | ⟨⟨-, h1⟩, -, -, -, h2, -⟩ | ⟨c, hc, ⟨-, h1⟩, h3, h4, h2, -, h5, h6⟩ | ⟨⟨-, h1⟩, h1', -, -, h2, -⟩⟩ := h
  · exact Or.inr ⟨by omega, 10, h2, by omega, by omega, by omega⟩
  · omega
  · omega
  · exact Or.inr ⟨by omega, 13, h2, by omega, by omega, by omega⟩
  · exact Or.inr ⟨by omega, 13, h2, by omega, by omega, by omega⟩
  · exact Or.inl ⟨h1, h2, c, hc, h3, h4, h5, h6⟩
  · exact Or.inr ⟨by omega, 15, h2, by omega, by omega, by omega⟩
def P17 (kd rv : Nat → Int) (pl : Nat → Nat) (σ : MS) (t hi i j : Nat) : Prop := (kd i = 240 ∧ σ.2 17 t = J 14 ∧ ∃ c, 1 ≤ c ∧ j = i + 2 * c + 1 ∧ hi = t + 1 + c ∧ σ.2 19 t = J (t + 1 : Nat) ∧ NMS kd rv pl σ (t + 1) c (i + 1)) ∨ (kd i ≠ 240 ∧ ∃ w : Int, σ.2 17 t = J w ∧ 0 ≤ w ∧ w < 100 ∧ w ≠ 14)
theorem th_loop {x c : Nat} {σ : MS} {xs ls is js : Nat → Nat} (b1 : ∀ k, k < c → σ.2 22 (xs k) = J (if k + 1 < c then (xs (k + 1) : Int) else -1)) (b4 : ∀ k, k < c → ls k = xs k ∧ P17 kd rv pl σ (xs k) (ls (k + 1)) (is k) (js k)) (hi9 : ∀ k, k ≤ c → ls k ≤ 39900) : ∀ (d k N' b : Nat) (a : Int32 × Int32), k + d = c → d < N' → b + (ls c - ls k) ≤ 9000 → (∀ e, k ≤ e → e < c → ls e ≤ ls (e + 1) ∧ ls (e + 1) ≤ ls c) → loopF (Th1 (J (x : Nat)) (J 2)) N' (J (b : Nat), J (if k < c then (xs k : Int) else -1), noF σ a) = some ((0 : Int32), noF σ (tpF kd pl is js a b k d)) := by
  intro d
  induction d with
  | zero =>
    intro k N' b a hk hN hb hm
    obtain ⟨N', rfl⟩ : ∃ z, N' = z + 1 := ⟨N' - 1, by omega⟩
    rw [if_neg (by omega), Th1_s, if_pos (by decide), D20_no (by omega), D24_no (by omega)]; rfl
  | succ d ih =>
    intro k N' b a hk hN hb hm
    obtain ⟨N', rfl⟩ : ∃ z, N' = z + 1 := ⟨N' - 1, by omega⟩
    obtain ⟨e1, hP⟩ := b4 k (by omega)
    have hx9 := hi9 k (by omega)
    have hx9' := hi9 (k + 1) (by omega)
    have hmk := hm k (Nat.le_refl k) (by omega)
    rw [e1] at hx9 hb
    have en := g_en (n := xs k) (by omega)
    have en2 := (ng (n := xs k) (by omega)).2
    rw [if_pos (show k < c by omega), Th1_s]
    rw [show J ((xs k : Nat) : Int) = J (xs k : Nat) from rfl, if_neg (J_nlt0 (by omega) (by omega)), if_neg en, en2]
    rw [en2] at en
    have next : ∀ (b' : Nat) (a' : Int32 × Int32), b' + (ls c - ls (k + 1)) ≤ 9000 → (if J (xs k : Nat) < 0 ∨ 40000 ≤ xs k then none else loopF (Th1 (J (x : Nat)) (J 2)) N' (J (b' : Nat), (noF σ a').2 22 (xs k), noF σ a')) = some ((0 : Int32), noF σ (tpF kd pl is js a' b' (k + 1) d)) := by
      intro b' a' hb'
      rw [if_neg en, show (noF σ a').2 22 (xs k) = J (if k + 1 < c then (xs (k + 1) : Int) else -1) from b1 k (by omega)]
      exact ih (k + 1) N' b' a' (by omega) (by omega) hb' (fun e h1 h2 => hm e (by omega) h2)
    unfold tpF
    rcases hP with ⟨h1, h2, cc, h3, h4, h5, h6, h7⟩ | ⟨h1, w, h2, h3, h4, h5⟩
    · rw [if_pos (show (noF σ a).2 17 (xs k) = 14 from h2), if_neg en, if_pos h1, show (noF σ a).2 19 (xs k) = J (xs k + 1 : Nat) from h6, r_tooMany (kd := kd) (rv := rv) (pl := pl) (i := is k + 1) (σ := noF σ a) h3 (by omega) (by omega) h7, Option.bind_some, noF_noF, noF_flt, show (js k - is k - 1) / 2 = cc by omega]
      exact next (b + cc) _ (by omega)
    · rw [if_neg (show ¬ (noF σ a).2 17 (xs k) = 14 by rw [show (noF σ a).2 17 (xs k) = J w from h2, show (14 : Int32) = J 14 from rfl, J_eq (by omega) (by omega) (by omega) (by omega)]; exact h5), if_neg h1]
      exact next b a (by omega)
