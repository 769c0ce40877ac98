/-! open, close, put, go; what a command does by itself, whole -/
variable {nO nV nC : Nat} {room : Nat → Bool}
def DoOpen (p0 p1 p2 : Int32) (σ : MS) : MR := (F_X12_has p1 0 1 σ).bind fun u_81 => if u_81.1 = 0 then ( if p0 = 7 then ( (F_X12_line ([89, 111, 117, 32, 99, 97, 110, 32, 110, 111, 116, 32, 111, 112, 101, 110, 32, 116, 104, 97, 116, 46] : List Int32) u_81.2).bind fun u_88 => some (0, u_88.2) ) else ( (F_X12_line ([89, 111, 117, 32, 99, 97, 110, 32, 110, 111, 116, 32, 99, 108, 111, 115, 101, 32, 116, 104, 97, 116, 46] : List Int32) u_81.2).bind fun u_92 => some (0, u_92.2) ) ) else ( (F_X12_has p1 4 1 u_81.2).bind fun u_95 => bnd (fun (t_97 : Int32) (σ_98 : MS) => ( if u_95.1 = t_97 then ( if p0 = 7 then ( (F_X12_line ([84, 104, 97, 116, 32, 105, 115, 32, 111, 112, 101, 110, 46] : List Int32) σ_98).bind fun u_107 => some (0, u_107.2) ) else ( (F_X12_line ([84, 104, 97, 116, 32, 105, 115, 32, 99, 108, 111, 115, 101, 100, 46] : List Int32) σ_98).bind fun u_111 => some (0, u_111.2) ) ) else ( bnd (fun (t_114 : Int32) (σ_115 : MS) => ( if ((7 * p1) + 4) < 0 ∨ 847 ≤ ((7 * p1) + 4).toNatClampNeg then none else bnd (mA σ_115 90 (upd (σ_115.2 90) ((7 * p1) + 4).toNatClampNeg (vp_nar .boolean t_114))) fun σ_121 => if p0 = 7 then ( (F_X12_line ([79, 112, 101, 110, 101, 100, 46] : List Int32) σ_121).bind fun u_126 => some (0, u_126.2) ) else ( (F_X12_line ([67, 108, 111, 115, 101, 100, 46] : List Int32) σ_121).bind fun u_130 => some (0, u_130.2) ) ) : Int32 → MS → MR) fun j_116 => if p0 = 7 then ( j_116 1 σ_98 ) else ( j_116 0 σ_98 ) ) ) : Int32 → MS → MR) fun j_99 => if p0 = 7 then ( j_99 1 u_95.2 ) else ( j_99 0 u_95.2 ) )
def DoPut (p0 p1 p2 : Int32) (σ : MS) : MR := if p1 < 0 ∨ 121 ≤ p1.toNatClampNeg then none else if (σ.2 87 p1.toNatClampNeg) = 1 then ( (F_X12_within p2 p1 σ).bind fun u_145 => bnd (fun  (σ_147 : MS) => ( (F_X12_line ([89, 111, 117, 32, 99, 97, 110, 32, 110, 111, 116, 32, 100, 111, 32, 116, 104, 97, 116, 46] : List Int32) σ_147).bind fun u_152 => some (0, u_152.2) ) : MS → MR) fun j_148 => if u_145.1 = 0 then ( bnd (fun (t_156 : Int32) (σ_157 : MS) => ( (F_X12_has p2 t_156 1 σ_157).bind fun u_161 => if u_161.1 = 0 then ( j_148  u_161.2 ) else ( bnd (fun  (σ_166 : MS) => ( (F_X12_moves p1 p2 ([68, 111, 110, 101, 46] : List Int32) σ_166).bind fun u_171 => some (0, u_171.2) ) : MS → MR) fun j_167 => if p0 = 9 then ( (F_X12_has p2 4 1 u_161.2).bind fun u_175 => if u_175.1 = 0 then ( (F_X12_line ([84, 104, 97, 116, 32, 105, 115, 32, 99, 108, 111, 115, 101, 100, 46] : List Int32) u_175.2).bind fun u_180 => some (0, u_180.2) ) else ( j_167  u_175.2 ) ) else ( j_167  u_161.2 ) ) ) : Int32 → MS → MR) fun j_158 => if p0 = 9 then ( j_158 0 u_145.2 ) else ( j_158 5 u_145.2 ) ) else ( j_148  u_145.2 ) ) else ( (F_X12_line ([89, 111, 117, 32, 100, 111, 32, 110, 111, 116, 32, 104, 97, 118, 101, 32, 116, 104, 97, 116, 46] : List Int32) σ).bind fun u_190 => some (0, u_190.2) )
def DoGo (p0 p1 p2 : Int32) (σ : MS) : MR := bnd (((7 * (σ.2 87 (1 : Int32).toNatClampNeg)) + p1)) fun (x_195 : Int32) => if x_195 < 0 ∨ 847 ≤ x_195.toNatClampNeg then none else if (σ.2 51 x_195.toNatClampNeg) = 0 then ( (F_X12_line ([89, 111, 117, 32, 99, 97, 110, 32, 110, 111, 116, 32, 103, 111, 32, 116, 104, 101, 114, 101, 46] : List Int32) σ).bind fun u_202 => some (0, u_202.2) ) else ( bnd (((7 * (σ.2 87 (1 : Int32).toNatClampNeg)) + p1)) fun (x_205 : Int32) => if x_205 < 0 ∨ 847 ≤ x_205.toNatClampNeg then none else (F_X12_putIn 1 (σ.2 51 x_205.toNatClampNeg) σ).bind fun u_209 => (F_X12_look u_209.2).bind fun u_211 => some (0, u_211.2) )
theorem does_eq (p0 p1 p2 : Int32) (σ : MS) : F_X12_does p0 p1 p2 σ = if p0 = 1 then ((F_X12_look σ).bind fun u_3 => some (0, u_3.2)) else if p0 = 2 then ((F_X12_inventory σ).bind fun u_8 => some (0, u_8.2)) else if p0 = 3 then ((F_X12_line ([84, 105, 109, 101, 32, 112, 97, 115, 115, 101, 115, 46] : List Int32) σ).bind fun u_14 => some (0, u_14.2)) else if p0 = 4 then DoTake p1 σ else if p0 = 5 then DoDrop p1 σ else if p0 = 6 then DoExam p1 σ else if p0 = 7 ∨ p0 = 8 then DoOpen p0 p1 p2 σ else if p0 = 9 ∨ p0 = 10 then DoPut p0 p1 p2 σ else if p0 = 11 then DoGo p0 p1 p2 σ else (( (F_X12_line ([78, 111, 116, 104, 105, 110, 103, 32, 104, 97, 112, 112, 101, 110, 115, 46] : List Int32) σ).bind fun u_215 => some (0, u_215.2) )) := rfl
theorem c_give {Γ : HS} {x a : Nat} (hx : x ≤ 120) (on : Bool) : F_X6_give (J (x : Nat)) (J (a : Nat)) (if on = true then 1 else 0) Γ = some ((0 : Int32), cA' Γ 9 3 (upd ((Γ 9).2.1 3) x (if on = true then (Γ 9).2.1 3 x ||| ((1 : Int32) <<< (J (a : Nat) &&& 31)) else (Γ 9).2.1 3 x &&& (((1 : Int32) <<< (J (a : Nat) &&& 31)) ^^^ (-1 : Int32))))) := by
  unfold F_X6_give
  rw [bndE, bndE, q_g_at_in (by omega) (by omega) (by omega), Int.toNat_natCast, bndE, bndE]
  cases on with
  | true =>
    rw [if_pos rfl, if_pos rfl, if_neg (by decide)]
    dsimp only
    rw [q_g_put_in (by omega) (by omega) (by omega), Int.toNat_natCast, bndE]
  | false =>
    have e : ((if false = true then (1 : Int32) else 0)) = 0 := rfl
    rw [e, if_pos rfl]
    dsimp only
    rw [q_g_put_in (by omega) (by omega) (by omega), Int.toNat_natCast, bndE]; rfl
theorem trB_pos {σ : MS} {Γ : HS} {pa fi nx : Nat → Nat} {ch : Nat → List Nat} {tr : Nat → Nat} (P : PLT nO room nV nC σ Γ pa fi nx ch tr) {a x : Nat} (q : trB tr a x = true) : 1 ≤ x := by
  apply Classical.byContradiction
  intro h
  have z : tr x = 0 := P.2.2.2.2.2.2.2.2.2.2.2.2 x (by omega)
  unfold trB at q
  rw [z, Nat.zero_testBit] at q
  cases q
/-- an attribute is given, in both -/
theorem D_give {σ : MS} {Γ : HS} (hP : PL nO room nV nC σ Γ) (hO : OUT σ Γ) {x a : Nat} (hx1 : 1 ≤ x) (hxn : x ≤ nO) (ha : a < 7) (on : Bool) : ∃ Δ, F_X6_give (J (x : Nat)) (J (a : Nat)) (if on = true then 1 else 0) Γ = some ((0 : Int32), Δ) ∧ (∀ r, r ≠ 9 → Δ r = Γ r) ∧ DOS nO nV nC room σ Γ (mA σ 90 (upd (σ.2 90) (7 * x + a) (if on = true then 1 else 0))) Δ := by
  have hx : x ≤ 120 := by obtain ⟨pa, fi, nx, ch, tr, P⟩ := hP; exact Nat.le_trans hxn P.1.1
  obtain ⟨v, e, hp⟩ := PL_give hP (z := x) (a := a) (on := on) hx1 hxn ha
  refine ⟨_, c_give hx on, fun r hr => by rw [cA_r, if_neg hr], ?_⟩
  rw [e]
  obtain ⟨w, o1, o2⟩ := hO
  refine ⟨hp, ⟨w, o1, o2⟩, ⟨fun _ _ => rfl, fun k k1 k2 => by rw [mA_2, if_neg (by omega)]⟩, ⟨fun r r8 r9 r10 => by rw [cA_r, if_neg r9], rfl, fun _ _ => rfl, rfl⟩⟩
theorem D_then {S : List Int32} {v : List Int} (hS : TXL S v) {σ τ : MS} {Γ Δ : HS} (h : DOS nO nV nC room σ Γ τ Δ) : ∃ υ Θ, F_X12_line S τ = some ((0 : Int32), υ) ∧ F_X5_line S Δ = some ((0 : Int32), Θ) ∧ mrg (fun j => j == 8) Δ Θ = Θ ∧ DOS nO nV nC room σ Γ υ Θ := by
  obtain ⟨υ, Θ, a1, a2, a3, a4⟩ := W_line hS h.2.1
  exact ⟨υ, Θ, a1, a2, a3, DOS_trans h (DOS_T h.1 a4)⟩
theorem txl_cantopen : TXL [89, 111, 117, 32, 99, 97, 110, 32, 110, 111, 116, 32, 111, 112, 101, 110, 32, 116, 104, 97, 116, 46] [89, 111, 117, 32, 99, 97, 110, 32, 110, 111, 116, 32, 111, 112, 101, 110, 32, 116, 104, 97, 116, 46] := by unfold TXL; decide +kernel
theorem txl_cantclose : TXL [89, 111, 117, 32, 99, 97, 110, 32, 110, 111, 116, 32, 99, 108, 111, 115, 101, 32, 116, 104, 97, 116, 46] [89, 111, 117, 32, 99, 97, 110, 32, 110, 111, 116, 32, 99, 108, 111, 115, 101, 32, 116, 104, 97, 116, 46] := by unfold TXL; decide +kernel
theorem txl_isopen : TXL [84, 104, 97, 116, 32, 105, 115, 32, 111, 112, 101, 110, 46] [84, 104, 97, 116, 32, 105, 115, 32, 111, 112, 101, 110, 46] := by unfold TXL; decide +kernel
theorem txl_isclosed : TXL [84, 104, 97, 116, 32, 105, 115, 32, 99, 108, 111, 115, 101, 100, 46] [84, 104, 97, 116, 32, 105, 115, 32, 99, 108, 111, 115, 101, 100, 46] := by unfold TXL; decide +kernel
theorem txl_opened : TXL [79, 112, 101, 110, 101, 100, 46] [79, 112, 101, 110, 101, 100, 46] := by unfold TXL; decide +kernel
theorem txl_closed : TXL [67, 108, 111, 115, 101, 100, 46] [67, 108, 111, 115, 101, 100, 46] := by unfold TXL; decide +kernel
theorem txl_cantdo : TXL [89, 111, 117, 32, 99, 97, 110, 32, 110, 111, 116, 32, 100, 111, 32, 116, 104, 97, 116, 46] [89, 111, 117, 32, 99, 97, 110, 32, 110, 111, 116, 32, 100, 111, 32, 116, 104, 97, 116, 46] := by unfold TXL; decide +kernel
theorem txl_done : TXL [68, 111, 110, 101, 46] [68, 111, 110, 101, 46] := by unfold TXL; decide +kernel
theorem txl_cantgo : TXL [89, 111, 117, 32, 99, 97, 110, 32, 110, 111, 116, 32, 103, 111, 32, 116, 104, 101, 114, 101, 46] [89, 111, 117, 32, 99, 97, 110, 32, 110, 111, 116, 32, 103, 111, 32, 116, 104, 101, 114, 101, 46] := by unfold TXL; decide +kernel
theorem txl_time : TXL [84, 105, 109, 101, 32, 112, 97, 115, 115, 101, 115, 46] [84, 105, 109, 101, 32, 112, 97, 115, 115, 101, 115, 46] := by unfold TXL; decide +kernel
theorem txl_nothing : TXL [78, 111, 116, 104, 105, 110, 103, 32, 104, 97, 112, 112, 101, 110, 115, 46] [78, 111, 116, 104, 105, 110, 103, 32, 104, 97, 112, 112, 101, 110, 115, 46] := by unfold TXL; decide +kernel
theorem D_open {σ : MS} {Γ : HS} (hP : PL nO room nV nC σ Γ) (hO : OUT σ Γ) {x : Nat} {p2 : Int32} (hx : x ≤ nO) (h10 : (Γ 11).1 10 = J (x : Nat)) : DOR nO nV nC room σ Γ (DoOpen 7 (J (x : Nat)) p2 σ) (F_X8_open Γ) := by
  have hP' := hP
  obtain ⟨pa, fi, nx, ch, tr, P⟩ := hP'
  have tn := P.1.1
  unfold DoOpen F_X8_open
  rw [h10, show F_X12_has (J (x : Nat)) 0 1 σ = _ from r_has (a := 0) P (by omega) (by omega) 1, show F_X6_bears (J (x : Nat)) 0 Γ = _ from c_bears (a := 0) P (by omega) (by omega), Option.bind_some, Option.bind_some]
  dsimp only
  rw [mrgS, bndE]
  by_cases q : trB tr 0 x = true
  · rw [if_pos q, if_neg (by decide), if_neg (by decide), h10, show F_X12_has (J (x : Nat)) 4 1 σ = _ from r_has (a := 4) P (by omega) (by omega) 1, show F_X6_bears (J (x : Nat)) 4 Γ = _ from c_bears (a := 4) P (by omega) (by omega), Option.bind_some, Option.bind_some]
    dsimp only
    rw [mrgS, bndE, bndE, if_pos (show (7 : Int32) = 7 from rfl)]
    dsimp only
    by_cases q4 : trB tr 4 x = true
    · rw [if_pos q4, if_pos (show (1 : Int32) = 1 from rfl), if_pos (show (7 : Int32) = 7 from rfl), if_neg (show ¬ (1 : Int32) = 0 by decide)]
      exact D_line txl_isopen hP hO
    · obtain ⟨Δ, g1, g2, g3⟩ := D_give hP hO (x := x) (a := 4) (trB_pos P q) (by omega) (by omega) true
      obtain ⟨υ, Θ, a1, a2, a3, a4⟩ := D_then txl_opened g3
      have g1 : F_X6_give (J (x : Nat)) 4 1 Γ = some ((0 : Int32), Δ) := g1
      have a1 : F_X12_line [79, 112, 101, 110, 101, 100, 46] (mA σ 90 (upd (σ.2 90) (7 * x + 4) 1)) = some ((0 : Int32), υ) := a1
      rw [if_neg q4, if_neg (show ¬ (0 : Int32) = 1 by decide), bndE, if_pos (show (7 : Int32) = 7 from rfl), if_pos (show (0 : Int32) = 0 from rfl), h10, g1, Option.bind_some]
      dsimp only
      rw [show (7 : Int32) = J 7 from rfl, J_mul, show (4 : Int32) = J 4 from rfl, J_add, show (7 : Int) * (x : Nat) + 4 = ((7 * x + 4 : Nat) : Int) by omega, if_neg (by rw [J_natN (by omega)]; rintro (h | h); exact J_nlt0 (by omega) (by omega) h; omega), J_natN (by omega), bndE, if_pos rfl, show vp_nar .boolean (1 : Int32) = 1 from rfl, a1, mrg9 g2, bndE, a2]
      refine ⟨υ, Θ, rfl, ?_, a4⟩
      rw [Option.bind_some]
      dsimp only
      rw [a3, bndE]
  · rw [if_neg q, if_pos rfl, if_pos rfl, if_pos rfl]
    exact D_line txl_cantopen hP hO
