/-! what a command does by itself, in both -/
variable {nO nV nC : Nat} {room : Nat → Bool}
def rDo (σ τ : MS) : Prop := (∀ k, k ≠ 103 → τ.1 k = σ.1 k) ∧ ∀ k, ¬ (87 ≤ k ∧ k ≤ 90) → k ≠ 102 → τ.2 k = σ.2 k
def cDo (Γ Δ : HS) : Prop := (∀ r, r ≠ 8 → r ≠ 9 → r ≠ 10 → Δ r = Γ r) ∧ (Δ 10).1 = (Γ 10).1 ∧ (∀ k, k ≠ 15 → (Δ 10).2.1 k = (Γ 10).2.1 k) ∧ (Δ 9).1 = (Γ 9).1
theorem rDo_rfl {σ : MS} : rDo σ σ := ⟨fun _ _ => rfl, fun _ _ _ => rfl⟩
theorem cDo_rfl {Γ : HS} : cDo Γ Γ := ⟨fun _ _ _ _ => rfl, rfl, fun _ _ => rfl, rfl⟩
theorem rDo_trans {σ τ υ : MS} (h : rDo σ τ) (g : rDo τ υ) : rDo σ υ := ⟨fun k a => by rw [g.1 k a, h.1 k a], fun k a b => by rw [g.2 k a b, h.2 k a b]⟩
theorem cDo_trans {Γ Δ Θ : HS} (h : cDo Γ Δ) (g : cDo Δ Θ) : cDo Γ Θ := ⟨fun r a b c => by rw [g.1 r a b c, h.1 r a b c], g.2.1.trans h.2.1, fun k a => by rw [g.2.2.1 k a, h.2.2.1 k a], g.2.2.2.trans h.2.2.2⟩
theorem rDo_O {σ τ : MS} (h : oR3 σ τ) : rDo σ τ := ⟨h.1, fun k _ b => h.2 k b⟩
theorem rDo_T {σ τ : MS} (h : ofT σ τ) : rDo σ τ := ⟨fun k _ => by rw [h.1], fun k a _ => h.2 k (by omega) (by omega) (by omega)⟩
theorem cDo_S {Γ Δ : HS} (h : SYF Γ Δ) : cDo Γ Δ := ⟨fun r a _ c => h.1 r a c, h.2.1, h.2.2, by rw [h.1 9 (by omega) (by omega)]⟩
theorem cDo_T {Γ Δ : HS} (h : ocT Γ Δ) : cDo Γ Δ := ⟨fun r _ b _ => h.1 r b, by rw [h.1 10 (by omega)], fun k _ => by rw [h.1 10 (by omega)], h.2.1⟩
def DOS (nO nV nC : Nat) (room : Nat → Bool) (σ : MS) (Γ : HS) (τ : MS) (Δ : HS) : Prop := PL nO room nV nC τ Δ ∧ OUT τ Δ ∧ rDo σ τ ∧ cDo Γ Δ
def DOR (nO nV nC : Nat) (room : Nat → Bool) (σ : MS) (Γ : HS) (r : MR) (c : HR) : Prop := ∃ τ Δ, r = some ((0 : Int32), τ) ∧ c = some ((0 : Int32), Δ) ∧ DOS nO nV nC room σ Γ τ Δ
theorem DOS_T {σ τ : MS} {Γ Δ : HS} (h : PL nO room nV nC σ Γ) (t : TLS σ Γ τ Δ) : DOS nO nV nC room σ Γ τ Δ := by
  obtain ⟨pa, fi, nx, ch, tr, P⟩ := h
  exact ⟨⟨pa, fi, nx, ch, tr, TLS_PLT P t⟩, t.2.2, rDo_O t.1, cDo_S t.2.1⟩
theorem DOS_trans {σ τ υ : MS} {Γ Δ Θ : HS} (h : DOS nO nV nC room σ Γ τ Δ) (g : DOS nO nV nC room τ Δ υ Θ) : DOS nO nV nC room σ Γ υ Θ := ⟨g.1, g.2.1, rDo_trans h.2.2.1 g.2.2.1, cDo_trans h.2.2.2 g.2.2.2⟩
/-- only a line is told -/
theorem D_line {S : List Int32} {v : List Int} (hS : TXL S v) {σ : MS} {Γ : HS} (hP : PL nO room nV nC σ Γ) (hO : OUT σ Γ) : DOR nO nV nC room σ Γ ((F_X12_line S σ).bind fun u => some (0, u.2)) ((F_X5_line S Γ).bind fun u_8 => bnd (mrg (fun j => j == 8) Γ u_8.2) fun σ_10 => some (0, σ_10)) := by
  obtain ⟨τ, Δ, a1, a2, a3, a4⟩ := W_line hS hO
  refine ⟨τ, Δ, by rw [a1]; rfl, ?_, DOS_T hP a4⟩
  rw [a2, Option.bind_some]
  dsimp only
  rw [a3, bndE]
theorem OUT_T {σ τ : MS} {Γ Δ : HS} (h : OUT σ Γ) (hr : ofT σ τ) (hc : ocT Γ Δ) : OUT τ Δ := by
  obtain ⟨w, o1, o2⟩ := h
  refine ⟨w, OL_congr o1 (hr.2 102 (by omega) (by omega) (by omega)) (by rw [hr.1]), ?_⟩
  exact OL_congr o2 (by rw [hc.1 8 (by omega)]) (by rw [hc.1 8 (by omega)])
/-- nothing but itself, the player and rooms hold the player -/
theorem wi_no {n : Nat} {pa fi nx : Nat → Nat} {ch : Nat → List Nat} (t : TR n pa fi nx ch) {x h : Nat} (hx : 1 ≤ x) (hh : h ≤ n) (h1 : x ≠ h) (h2 : pa h = 0 ∨ (x ≠ pa h ∧ pa (pa h) = 0)) : wiN pa x (n + 1) h ≠ true := by
  intro hw
  have h0 := t.2.2.2.2.1.1
  obtain ⟨j, hj⟩ := (wiN_up h0 (by omega) n h (TR_up t hh)).mp hw
  have z : ∀ i, upP pa i 0 = 0 := upP_0 h0
  cases j with
  | zero => exact h1 hj.symm
  | succ j =>
    have hj : upP pa j (pa h) = x := hj
    rcases h2 with e | ⟨e1, e2⟩
    · rw [e, z] at hj; omega
    · cases j with
      | zero => exact e1 hj.symm
      | succ j =>
        have hj : upP pa j (pa (pa h)) = x := hj
        rw [e2, z] at hj; omega
/-- a thing goes into another, and a line is told -/
theorem D_move {S : List Int32} {v : List Int} (hS : TXL S v) {σ : MS} {Γ : HS} {pa fi nx : Nat → Nat} {ch : Nat → List Nat} {tr : Nat → Nat} (P : PLT nO room nV nC σ Γ pa fi nx ch tr) (hO : OUT σ Γ) {x h : Nat} (hx : 1 ≤ x ∧ x ≤ nO) (hh : 1 ≤ h ∧ h ≤ nO) (hxr : room x = false) (hx1 : x ≠ 1) (hw : wiN pa x (nO + 1) h ≠ true) : DOR nO nV nC room σ Γ ((F_X12_moves (J (x : Nat)) (J (h : Nat)) S σ).bind fun u => some (0, u.2)) ((F_X6_moveInto (J (x : Nat)) (J (h : Nat)) Γ).bind fun u_23 => bnd (mrg (fun j => j == 9) Γ u_23.2) fun σ_25 => (F_X5_line S σ_25).bind fun u_28 => bnd (mrg (fun j => j == 8) σ_25 u_28.2) fun σ_30 => some (0, σ_30)) := by
  obtain ⟨τ, Δ, a1, a2, a3, a4, a5⟩ := W_move P hx hh hxr (fun e => absurd e hx1) hw
  obtain ⟨τ2, Δ2, b1, b2, b3, b4⟩ := W_line hS (OUT_T hO a3 a4)
  have hd : DOS nO nV nC room σ Γ τ Δ := ⟨a5, OUT_T hO a3 a4, rDo_T a3, cDo_T a4⟩
  refine ⟨τ2, Δ2, ?_, ?_, DOS_trans hd (DOS_T a5 b4)⟩
  · unfold F_X12_moves
    rw [a1, Option.bind_some]
    dsimp only
    rw [b1]; rfl
  · rw [a2, Option.bind_some]
    dsimp only
    rw [mrg9 a4.1, bndE, b2, Option.bind_some]
    dsimp only
    rw [b3, bndE]
theorem txl_have : TXL [89, 111, 117, 32, 104, 97, 118, 101, 32, 116, 104, 97, 116, 46] [89, 111, 117, 32, 104, 97, 118, 101, 32, 116, 104, 97, 116, 46] := by unfold TXL; decide +kernel
theorem txl_taken : TXL [84, 97, 107, 101, 110, 46] [84, 97, 107, 101, 110, 46] := by unfold TXL; decide +kernel
theorem txl_fixed : TXL [84, 104, 97, 116, 32, 105, 115, 32, 102, 105, 120, 101, 100, 46] [84, 104, 97, 116, 32, 105, 115, 32, 102, 105, 120, 101, 100, 46] := by unfold TXL; decide +kernel
theorem txl_dropped : TXL [68, 114, 111, 112, 112, 101, 100, 46] [68, 114, 111, 112, 112, 101, 100, 46] := by unfold TXL; decide +kernel
theorem txl_nothave : TXL [89, 111, 117, 32, 100, 111, 32, 110, 111, 116, 32, 104, 97, 118, 101, 32, 116, 104, 97, 116, 46] [89, 111, 117, 32, 100, 111, 32, 110, 111, 116, 32, 104, 97, 118, 101, 32, 116, 104, 97, 116, 46] := by unfold TXL; decide +kernel
theorem txl_special : TXL [89, 111, 117, 32, 115, 101, 101, 32, 110, 111, 116, 104, 105, 110, 103, 32, 115, 112, 101, 99, 105, 97, 108, 46] [89, 111, 117, 32, 115, 101, 101, 32, 110, 111, 116, 104, 105, 110, 103, 32, 115, 112, 101, 99, 105, 97, 108, 46] := by unfold TXL; decide +kernel
/-- the reference's part of taking -/
def DoTake (p1 : Int32) (σ : MS) : MR := bnd (fun  (σ_19 : MS) => ( (F_X12_line ([89, 111, 117, 32, 104, 97, 118, 101, 32, 116, 104, 97, 116, 46] : List Int32) σ_19).bind fun u_24 => some (0, u_24.2) ) : MS → MR) fun j_20 => if p1 = 1 then ( j_20  σ ) else ( if p1 < 0 ∨ 121 ≤ p1.toNatClampNeg then none else if (σ.2 87 p1.toNatClampNeg) = 1 then ( j_20  σ ) else ( (F_X12_has p1 1 1 σ).bind fun u_34 => if u_34.1 = 0 then ( (F_X12_moves p1 1 ([84, 97, 107, 101, 110, 46] : List Int32) u_34.2).bind fun u_39 => some (0, u_39.2) ) else ( (F_X12_line ([84, 104, 97, 116, 32, 105, 115, 32, 102, 105, 120, 101, 100, 46] : List Int32) u_34.2).bind fun u_43 => some (0, u_43.2) ) ) )
theorem D_take {σ : MS} {Γ : HS} (hP : PL nO room nV nC σ Γ) (hO : OUT σ Γ) {x : Nat} (hx : 1 ≤ x ∧ x ≤ nO) (hxr : room x = false) (h10 : (Γ 11).1 10 = J (x : Nat)) : DOR nO nV nC room σ Γ (DoTake (J (x : Nat)) σ) (F_X8_take Γ) := by
  have hP' := hP
  obtain ⟨pa, fi, nx, ch, tr, P⟩ := hP'
  have t := P.1
  have tn := t.1
  have p1 := P.2.2.2.2.2.2.2.2.2.2.1
  have px := t.2.2.2.1 x
  unfold DoTake F_X8_take
  rw [bndE, bndE, h10]
  by_cases q1 : x = 1
  · rw [if_pos (show J (x : Nat) = 1 by rw [q1]; rfl), if_pos (show J (x : Nat) = 1 by rw [q1]; rfl)]
    exact D_line txl_have hP hO
  have e1 : ¬ J (x : Nat) = 1 := by rw [show (1 : Int32) = J ((1 : Nat) : Int) from rfl, J_eqN (by omega) (by omega)]; exact q1
  rw [if_neg e1, if_neg e1, if_neg (g121 (by omega)), J_natN (by omega), (P.2.1 x (by omega)).1]
  unfold F_X8_playerHas
  rw [q_g_at_in (by omega) (by omega) (by omega), Int.toNat_natCast, (P.2.2.1 x (by omega)).1, bndE]
  by_cases q2 : pa x = 1
  · have e2 : J (pa x : Nat) = 1 := by rw [q2]; rfl
    rw [if_pos e2, if_pos e2, Option.bind_some]
    dsimp only
    rw [if_neg (by decide)]
    exact D_line txl_have hP hO
  have e2 : ¬ J (pa x : Nat) = 1 := by rw [show (1 : Int32) = J ((1 : Nat) : Int) from rfl, J_eqN (by omega) (by omega)]; exact q2
  rw [if_neg e2, if_neg e2, Option.bind_some]
  dsimp only
  rw [if_pos rfl, h10, show F_X12_has (J (x : Nat)) 1 1 σ = _ from r_has (a := 1) P (by omega) (by omega) 1, show F_X6_bears (J (x : Nat)) 1 Γ = _ from c_bears (a := 1) P (by omega) (by omega), Option.bind_some, Option.bind_some]
  dsimp only
  rw [mrgS, bndE]
  by_cases q3 : trB tr 1 x = true
  · rw [if_pos q3, if_neg (by decide), if_neg (by decide)]
    exact D_line txl_fixed hP hO
  · rw [if_neg q3, if_pos rfl, if_pos rfl, h10]
    exact D_move (h := 1) txl_taken P hO hx ⟨Nat.le_refl _, p1.1⟩ hxr q1 (wi_no t hx.1 p1.1 q1 (Or.inr ⟨fun e => (by rw [e, p1.2.1] at hxr; cases hxr), P.2.2.2.2.2.2.2.2.2.1 _ p1.2.1⟩))
def DoDrop (p1 : Int32) (σ : MS) : MR := if p1 < 0 ∨ 121 ≤ p1.toNatClampNeg then none else if (σ.2 87 p1.toNatClampNeg) = 1 then ( (F_X12_moves p1 (σ.2 87 (1 : Int32).toNatClampNeg) ([68, 114, 111, 112, 112, 101, 100, 46] : List Int32) σ).bind fun u_53 => some (0, u_53.2) ) else ( (F_X12_line ([89, 111, 117, 32, 100, 111, 32, 110, 111, 116, 32, 104, 97, 118, 101, 32, 116, 104, 97, 116, 46] : List Int32) σ).bind fun u_57 => some (0, u_57.2) )
theorem c_phas {σ : MS} {Γ : HS} {pa fi nx : Nat → Nat} {ch : Nat → List Nat} {tr : Nat → Nat} (P : PLT nO room nV nC σ Γ pa fi nx ch tr) {x : Nat} (hx : x ≤ nO) : F_X8_playerHas (J (x : Nat)) Γ = some (if pa x = 1 then 1 else 0, Γ) := by
  have tn := P.1.1
  have px := P.1.2.2.2.1 x
  unfold F_X8_playerHas
  rw [q_g_at_in (by omega) (by omega) (by omega), Int.toNat_natCast, (P.2.2.1 x (by omega)).1, bndE]
  by_cases q2 : pa x = 1
  · rw [if_pos (show J (pa x : Nat) = 1 by rw [q2]; rfl), if_pos q2]
  · rw [if_neg (show ¬ J (pa x : Nat) = 1 by rw [show (1 : Int32) = J ((1 : Nat) : Int) from rfl, J_eqN (by omega) (by omega)]; exact q2), if_neg q2]
theorem r_par1 {σ : MS} {Γ : HS} {pa fi nx : Nat → Nat} {ch : Nat → List Nat} {tr : Nat → Nat} (P : PLT nO room nV nC σ Γ pa fi nx ch tr) {x : Nat} (hx : x ≤ nO) : (σ.2 87 x = 1) = (pa x = 1) := by
  have tn := P.1.1
  have px := P.1.2.2.2.1 x
  rw [(P.2.1 x (by omega)).1, show (1 : Int32) = J ((1 : Nat) : Int) from rfl, J_eqN (by omega) (by omega)]
theorem D_drop {σ : MS} {Γ : HS} (hP : PL nO room nV nC σ Γ) (hO : OUT σ Γ) {x : Nat} (hx : 1 ≤ x ∧ x ≤ nO) (hxr : room x = false) (h10 : (Γ 11).1 10 = J (x : Nat)) : DOR nO nV nC room σ Γ (DoDrop (J (x : Nat)) σ) (F_X8_drop Γ) := by
  have hP' := hP
  obtain ⟨pa, fi, nx, ch, tr, P⟩ := hP'
  have t := P.1
  have tn := t.1
  have p1 := P.2.2.2.2.2.2.2.2.2.2.1
  have pn := t.2.2.2.1 1
  unfold DoDrop F_X8_drop
  rw [h10, if_neg (g121 (by omega)), J_natN (by omega), c_phas P hx.2, Option.bind_some]
  dsimp only
  have e := r_par1 P hx.2
  by_cases q : pa x = 1
  · rw [if_pos (by rw [e]; exact q), if_pos q, if_neg (by decide), show (1 : Int32).toNatClampNeg = 1 from rfl, (P.2.1 1 (by omega)).1]
    unfold F_X6_here
    rw [show (1 : Int32).toNatClampNeg = 1 from rfl, (P.2.2.1 1 (by omega)).1, Option.bind_some]
    dsimp only
    rw [mrgS, bndE, h10]
    have x1 : x ≠ 1 := fun e => by
      rw [e] at q
      have := p1.2.1
      rw [q, p1.2.2.1] at this; cases this
    exact D_move (h := pa 1) txl_dropped P hO hx ⟨p1.2.2.2, pn⟩ hxr x1 (wi_no t hx.1 pn (fun e => by rw [e, p1.2.1] at hxr; cases hxr) (Or.inl (P.2.2.2.2.2.2.2.2.2.1 _ p1.2.1)))
  · rw [if_neg (by rw [e]; exact q), if_neg q, if_pos rfl]
    exact D_line txl_nothave hP hO
def DoExam (p1 : Int32) (σ : MS) : MR := if p1 < 0 ∨ 121 ≤ p1.toNatClampNeg then none else if (σ.2 122 p1.toNatClampNeg) = 0 then ( (F_X12_line ([89, 111, 117, 32, 115, 101, 101, 32, 110, 111, 116, 104, 105, 110, 103, 32, 115, 112, 101, 99, 105, 97, 108, 46] : List Int32) σ).bind fun u_67 => some (0, u_67.2) ) else ( if p1 < 0 ∨ 121 ≤ p1.toNatClampNeg then none else if p1 < 0 ∨ 121 ≤ p1.toNatClampNeg then none else (F_X12_sayText (σ.2 48 p1.toNatClampNeg) (σ.2 49 p1.toNatClampNeg) σ).bind fun u_74 => (F_X12_put 10 u_74.2).bind fun u_76 => some (0, u_76.2) )
theorem D_exam {σ : MS} {Γ : HS} (hP : PL nO room nV nC σ Γ) (hO : OUT σ Γ) (hD : DSC σ Γ nO) (hn : nO ≤ 120) {x : Nat} (hx : 1 ≤ x ∧ x ≤ nO) (h10 : (Γ 11).1 10 = J (x : Nat)) : DOR nO nV nC room σ Γ (DoExam (J (x : Nat)) σ) (F_X8_examine Γ) := by
  have g := g121 (x := x) (by omega)
  have g' := g
  rw [J_natN (by omega)] at g'
  unfold DoExam F_X8_examine
  rw [h10, bndE, q_g_at_in (by omega) (by omega) (by omega), Int.toNat_natCast, bndE, if_neg g, J_natN (by omega), if_neg g', if_neg g', bndE, bndE]
  rcases hD x hx.1 hx.2 with ⟨d1, d2⟩ | ⟨d1, w, r, v, d2, d3, d4, d5⟩
  · rw [d1, d2, if_pos rfl, if_pos (by decide)]
    exact D_line txl_special hP hO
  · obtain ⟨τ3, Δ3, f1, f2, f3, f4⟩ := W_st d2 hO
    obtain ⟨τ4, Δ4, g1, g2, g3, g4⟩ := W_nl f4.2.2
    obtain ⟨L, by_, -, hv, hv2, -⟩ := d2
    refine ⟨τ4, Δ4, ?_, ?_, DOS_T hP (TLS_trans f4 g4)⟩
    · rw [d1, if_neg (by decide), d3, d4, f1, Option.bind_some]
      dsimp only
      rw [g1]; rfl
    · rw [d5, if_neg (by rw [show (-1 : Int32) = J (-1) from rfl, J_eq (by omega) (by omega) (by omega) (by omega)]; omega), q_g_at_in (by omega) (by omega) (by omega), Int.toNat_natCast, d5, f2, Option.bind_some]
      dsimp only
      rw [f3, bndE, g2, Option.bind_some]
      dsimp only
      rw [g3, bndE]
