/-! the class's machine: telling, giving, moving, drawing, ends -/
def TXR (σ : MS) (Γ : HS) (w : Nat) (r v : Int) : Prop := ∃ (L : List Int) (by_ : Nat → Nat), r = (L.length : Nat) ∧ 0 ≤ v ∧ v < 8000 ∧ STX1 σ (w + 1) L ∧ TXD Γ v.toNat L.length by_ ∧ ∀ k, k < L.length → L.getD k 0 = (by_ k : Nat)
/-- what telling leaves -/
def SYF (Γ Δ : HS) : Prop := (∀ r, r ≠ 8 → r ≠ 10 → Δ r = Γ r) ∧ (Δ 10).1 = (Γ 10).1 ∧ ∀ k, k ≠ 15 → (Δ 10).2.1 k = (Γ 10).2.1 k
theorem SYF_8 {Γ Δ : HS} (h : o8 Γ Δ) : SYF Γ Δ := ⟨fun r a _ => h r a, by rw [h 10 (by omega)], fun k _ => by rw [h 10 (by omega)]⟩
theorem mrgE2 {a b : Nat} {Γ Δ : HS} (h : ∀ r, r ≠ a → r ≠ b → Δ r = Γ r) : mrg (fun j => j == a || j == b) Γ Δ = Δ := mrgE (fun r hr => h r (by rintro rfl; simp at hr) (by rintro rfl; simp at hr))
theorem ot_sayText {σ : MS} {Γ : HS} {w : Nat} {r v : Int} {L0 : List Int} (h : TXR σ Γ w r v) (ho : OC Γ L0) : ∃ (L : List Int) (Δ : HS), r = (L.length : Nat) ∧ STX1 σ (w + 1) L ∧ F_X3_sayText (J v) Γ = some ((0 : Int32), Δ) ∧ SYF Γ Δ ∧ OC Δ (apO L0 L) := by
  obtain ⟨L, by_, h1, h2, h2', h3, h4, h5⟩ := h
  obtain ⟨Θ, e1, e2, e3⟩ := c_unpack_k h4
  have oT : OC Θ L0 := by unfold OC; rw [e2.1 8 (by omega)]; exact ho
  obtain ⟨Δ, f1, f2, f3⟩ := ot_row (v := L) oT h3.1 (fun k hk => ⟨by rw [e3 k hk, h5 k hk], by
    obtain ⟨c, c1, c2, c3, c4⟩ := h3.2.2 k hk
    rw [c4]
    split <;> omega⟩)
  refine ⟨L, Δ, h1, h3, ?_, ⟨fun q a b => by rw [f2 q a, e2.1 q b], by rw [f2 10 (by omega)]; exact e2.2.1, fun k hk => by rw [f2 10 (by omega)]; exact e2.2.2.1 k hk⟩, f3⟩
  unfold F_X3_sayText
  rw [show J v = J (v.toNat : Nat) by congr 1; omega, e1, Option.bind_some]
  dsimp only
  rw [bndE, mrgE2 (fun q a b => e2.1 q a), f1, Option.bind_some]
  dsimp only
  rw [bndE, mrgE2 (fun q a b => f2 q b)]
/-- what things are called -/
def CAL (σ : MS) (Γ : HS) (nO : Nat) : Prop := ∀ x, 2 ≤ x → x ≤ nO → ∃ (w : Nat) (r v : Int), TXR σ Γ w r v ∧ σ.2 46 x = J (w + 1 : Nat) ∧ σ.2 47 x = J r ∧ (Γ 4).2.1 2 x = J v
theorem txl_self : TXL [121, 111, 117, 114, 115, 101, 108, 102] [121, 111, 117, 114, 115, 101, 108, 102] := by unfold TXL; decide +kernel
theorem W_name {σ : MS} {Γ : HS} {nO : Nat} (hn : nO ≤ 120) (hC : CAL σ Γ nO) {x : Nat} (hx : 1 ≤ x ∧ x ≤ nO) {L0 : List Int} (hr : OR σ L0) (hc : OC Γ L0) : ∃ (L : List Int) (τ : MS) (Δ : HS), F_X12_sayName (J (x : Nat)) σ = some ((0 : Int32), τ) ∧ F_X3_sayName (J (x : Nat)) Γ = some ((0 : Int32), Δ) ∧ oR3 σ τ ∧ SYF Γ Δ ∧ OR τ (apO L0 L) ∧ OC Δ (apO L0 L) := by
  unfold F_X12_sayName F_X3_sayName
  by_cases q : x = 1
  · obtain ⟨τ, e1, e2, e3⟩ := rt_say txl_self hr
    obtain ⟨Δ, f1, f2, f3⟩ := ot_text txl_self hc
    rw [if_pos (by rw [q]; rfl), if_pos (by rw [q]; rfl), e1, f1]
    exact ⟨_, τ, Δ, rfl, by rw [Option.bind_some]; dsimp only; rw [bndE, mrg8 f2], e2, SYF_8 f2, e3, f3⟩
  · obtain ⟨w, r, v, h1, h2, h3, h4⟩ := hC x (by omega) hx.2
    obtain ⟨L, Δ, d1, d2, d3, d4, d5⟩ := ot_sayText h1 hc
    obtain ⟨τ, e1, e2, e3⟩ := rt_text d2 hr
    have ne : ¬ J (x : Nat) = 1 := by rw [show (1 : Int32) = J (1 : Nat) from rfl, J_eqN (by omega) (by omega)]; exact q
    have g := g121 (show x ≤ 120 by omega)
    rw [if_neg ne, if_neg ne, if_neg g, if_neg g, J_natN (by omega), h2, h3, d1, e1, bndE, q_g_at_in (by omega) (by omega) (by omega), show ((x : Nat) : Int).toNat = x by omega, h4, d3]
    exact ⟨L, τ, Δ, rfl, rfl, e2, d4, e3, d5⟩
/-- an instruction that tells -/
def SAYR (Γ Δ : HS) (t q : Nat) (w : List Int) : Prop := (∀ r, r ≠ 8 → r ≠ 10 → Δ r = Γ r) ∧ (∀ k, k ≠ 7 → k ≠ 9 → (Δ 10).1 k = (Γ 10).1 k) ∧ (∀ k, k ≠ 15 → (Δ 10).2.1 k = (Γ 10).2.1 k) ∧ (Δ 10).1 7 = J (t : Nat) ∧ (Δ 10).1 9 = J (q : Nat) ∧ OC Δ w
theorem SAYR_of {Γ X Δ : HS} {t q : Nat} {w : List Int} (h : MKt 10000 Γ X) (h6 : (X 10).2.1 6 = (Γ 10).2.1 6) (h7 : (X 10).1 7 = J (t : Nat)) (h9 : (X 10).1 9 = J (q : Nat)) (g : SYF X Δ) (ho : OC Δ w) : SAYR Γ Δ t q w := ⟨fun r a b => by rw [g.1 r a b, h.1 r b], fun k a b => by rw [g.2.1]; exact h.2.1 k a b, fun k a => by
  rw [g.2.2 k a]
  by_cases e : k = 6
  · rw [e]; exact h6
  · exact h.2.2.1 k e, by rw [g.2.1]; exact h7, by rw [g.2.1]; exact h9, ho⟩
theorem m_sayText {p ln t : Nat} {σ : MS} {Γ : HS} {w : Nat} {r v : Int} {L0 : List Int} (h : MC0 ln Γ p t) (hpl : p + 2 < ln) (ho : op3 Γ p 45 v) (hT : TXR σ Γ w r v) (hc : OC Γ L0) : ∃ (L : List Int) (Δ : HS), r = (L.length : Nat) ∧ STX1 σ (w + 1) L ∧ CSP 1 Γ Δ ∧ SAYR Γ Δ t (p + 3) (apO L0 L) := by
  have hT' : TXR σ (pcS Γ (p + 3)) w r v := hT
  obtain ⟨L, Δ, d1, d2, d3, d4, d5⟩ := ot_sayText (Γ := pcS Γ (p + 3)) hT' hc
  obtain ⟨-, -, -, v0, v1, -⟩ := hT
  have hv : v = ((v.toNat : Nat) : Int) := by omega
  rw [hv] at ho
  refine ⟨L, Δ, d1, d2, CSP_3 (x := 0) h hpl ho (by omega) (by omega) ?_, SAYR_of (X := pcS Γ (p + 3)) (MKt_pc MKt_rfl) rfl h.2.2.1 rfl d4 d5⟩
  unfold F_X3_wideOp
  rw [if_neg (by decide), if_neg (by decide), if_neg (by decide), if_neg (by decide), if_neg (by decide), if_neg (by decide), if_neg (by decide), if_neg (by decide), if_neg (by decide), if_neg (by decide), if_pos (by decide), ← hv, d3]; rfl
theorem m_sayNum {p ln t : Nat} {Γ : HS} {z : Int} {L0 : List Int} (h : MC0 ln Γ p (t + 1)) (hpl : p < ln) (ht : t < 8990) (ho : op1 Γ p 31) (hz : (Γ 10).2.1 6 t = J z) (hz2 : -32768 ≤ z ∧ z ≤ 32767) (hc : OC Γ L0) : ∃ Δ, CSP 1 Γ Δ ∧ SAYR Γ Δ t (p + 1) (apO L0 (numL z)) := by
  have hc' : OC (ppS (pcS Γ (p + 1)) t) L0 := hc
  obtain ⟨Δ, d1, d2, d3⟩ := ot_num hz2 hc'
  refine ⟨Δ, CSP_1 (x := 0) h hpl ho (by omega) ?_, SAYR_of (X := ppS (pcS Γ (p + 1)) t) (MKt_pp (MKt_pc MKt_rfl)) rfl rfl rfl (SYF_8 d2) d3⟩
  rw [RunD_w (by omega)]
  unfold F_X3_worldOp
  rw [if_neg (by decide), if_neg (by decide), if_neg (by decide), if_neg (by decide), c_popP (t := t) h.2.2.1 (by omega), Option.bind_some, st_pc, hz]
  dsimp only
  rw [d1, Option.bind_some]
  dsimp only
  rw [bndE, mrg8 d2]
theorem m_sayName {p ln t nO : Nat} {Γ : HS} {z : Int} (h : MC0 ln Γ p (t + 1)) (hpl : p < ln) (ht : t < 8990) (ho : op1 Γ p 21) (hz : (Γ 10).2.1 6 t = J z) (hz2 : -32768 ≤ z ∧ z ≤ 32767) (h4 : (Γ 4).2.1 0 0 = J (nO : Nat)) (hn : nO ≤ 120) : (¬ (1 ≤ z ∧ z ≤ nO) ∧ ∃ Δ, CSP 1 Γ Δ ∧ BRK Γ Δ 2) ∨ ((1 ≤ z ∧ z ≤ nO) ∧ ∀ (Δ : HS), F_X3_sayName (J z) (ppS (pcS Γ (p + 1)) t) = some ((0 : Int32), Δ) → CSP 1 Γ Δ) := by
  have e := c_objP (Γ := pcS Γ (p + 1)) (o := 21) (t1 := 0) (by omega) h.2.2.1 ht hz hz2 h4 hn
  have e2 : RunD (J 21) (pcS Γ (p + 1)) = objP (J 21) 0 (pcS Γ (p + 1)) := by
    rw [RunD_o (by omega), objOp_eq, if_neg (by decide)]
  rw [e] at e2
  by_cases q : 1 ≤ z ∧ z ≤ nO
  · rw [if_pos q] at e2
    refine Or.inr ⟨q, fun Δ hD => CSP_1 (x := 0) h hpl ho (by omega) (e2.trans ?_)⟩
    unfold objK
    rw [if_pos (by decide), hD]; rfl
  · rw [if_neg q] at e2
    exact Or.inl ⟨q, _, CSP_1 h hpl ho (by omega) e2, MKt_BRK (t := 0) (MKt_pp (MKt_pc MKt_rfl))⟩
theorem c_isRm {Γ : HS} {z : Int} {b : Bool} (h1 : 1 ≤ z) (h2 : z ≤ 120) (hr : (Γ 4).2.1 1 z.toNat = if b = true then 1 else 0) : F_X7_isRoom (J z) Γ = some (if b = true then 1 else 0, Γ) := by
  unfold F_X7_isRoom
  rw [if_neg (J_nlt0 (by omega) (by omega)), if_neg (by rw [show (121 : Int32) = J 121 from rfl, J_le (by omega) (by omega) (by omega) (by omega)]; omega), if_neg (by rw [J_nat (by omega) (by omega)]; rintro (a | a); exact J_nlt0 (by omega) (by omega) a; omega), J_nat (by omega) (by omega), hr]
  cases b <;> rfl
/-- remove -/
theorem m_remove {p ln t nO : Nat} {Γ : HS} {z : Int} {room : Nat → Bool} (h : MC0 ln Γ p (t + 1)) (hpl : p < ln) (ht : t < 8990) (ho : op1 Γ p 22) (hz : (Γ 10).2.1 6 t = J z) (hz2 : -32768 ≤ z ∧ z ≤ 32767) (h4 : (Γ 4).2.1 0 0 = J (nO : Nat)) (hn : nO ≤ 120) (hr : ∀ x, x ≤ 120 → (Γ 4).2.1 1 x = if room x = true then 1 else 0) : ((¬ (1 ≤ z ∧ z ≤ nO) ∨ z = 1 ∨ room z.toNat = true) ∧ ∃ Δ, CSP 1 Γ Δ ∧ BRK Γ Δ 2) ∨ (((1 ≤ z ∧ z ≤ nO) ∧ z ≠ 1 ∧ room z.toNat = false) ∧ ∀ (Δ : HS), F_X6_takeOut (J z) (ppS (pcS Γ (p + 1)) t) = some ((0 : Int32), Δ) → (∀ r, r ≠ 9 → Δ r = (ppS (pcS Γ (p + 1)) t) r) → CSP 1 Γ Δ) := by
  have e2 : RunD (J 22) (pcS Γ (p + 1)) = objP (J 22) 0 (pcS Γ (p + 1)) := by
    rw [RunD_o (by omega), objOp_eq, if_neg (by decide)]
  have hs : F_X3_stop 2 (ppS (pcS Γ (p + 1)) t) = _ := c_stop (n := 2)
  have brk : BRK Γ (cI' (cI' (ppS (pcS Γ (p + 1)) t) 10 5 (J 2)) 10 14 (J 4)) 2 := MKt_BRK (t := 0) (MKt_pp (MKt_pc MKt_rfl))
  have eI := c_isObj (Γ := ppS (pcS Γ (p + 1)) t) h4 hn (z := z) (by omega) (by omega)
  have e1 : (J z = 1) = (z = 1) := J_eq (a := z) (b := 1) (by omega) (by omega) (by omega) (by omega)
  have u : objP (J 22) 0 (pcS Γ (p + 1)) = bnd (fun (t_8 : Int32) (σ_9 : HS) => ( (F_X7_isObject (J z) σ_9).bind fun u_13 => bnd (mrg (fun j => j == 4 || j == 5 || j == 6 || j == 7) σ_9 u_13.2) fun σ_15 => bnd (fun  (σ_17 : HS) => ( (F_X3_stop 2 σ_17).bind fun u_21 => some (0, u_21.2) ) : HS → HR) fun j_18 => if u_13.1 = 0 then ( j_18  σ_15 ) else ( if t_8 = 0 then ( objK (J 22) 0 (J z) σ_15 ) else ( j_18  σ_15 ) ) ) : Int32 → HS → HR) fun j_10 => if J z = 1 then j_10 1 (ppS (pcS Γ (p + 1)) t) else (F_X7_isRoom (J z) (ppS (pcS Γ (p + 1)) t)).bind fun u_87 => bnd (mrg (fun j => j == 4 || j == 5 || j == 6 || j == 7) (ppS (pcS Γ (p + 1)) t) u_87.2) fun σ_89 => if u_87.1 = 0 then j_10 0 σ_89 else j_10 1 σ_89 := by
    unfold objP
    rw [c_popP (t := t) h.2.2.1 (by omega), Option.bind_some, st_pc, hz]; rfl
  have j1 : (F_X7_isObject (J z) (ppS (pcS Γ (p + 1)) t)).bind (fun u_13 => bnd (mrg (fun j => j == 4 || j == 5 || j == 6 || j == 7) (ppS (pcS Γ (p + 1)) t) u_13.2) fun σ_15 => bnd (fun  (σ_17 : HS) => ( (F_X3_stop 2 σ_17).bind fun u_21 => some (0, u_21.2) ) : HS → HR) fun j_18 => if u_13.1 = 0 then ( j_18  σ_15 ) else ( if (1 : Int32) = 0 then ( objK (J 22) 0 (J z) σ_15 ) else ( j_18  σ_15 ) )) = some ((0 : Int32), cI' (cI' (ppS (pcS Γ (p + 1)) t) 10 5 (J 2)) 10 14 (J 4)) := by
    rw [eI, Option.bind_some]
    dsimp only
    rw [bndE, mrg47S, bndE]
    by_cases q : 1 ≤ z ∧ z ≤ nO
    · rw [if_pos q, if_neg (by decide), if_neg (by decide)]; dsimp only; rw [hs]; rfl
    · rw [if_neg q, if_pos rfl]; dsimp only; rw [hs]; rfl
  by_cases q1 : z = 1
  · refine Or.inl ⟨Or.inr (Or.inl q1), _, CSP_1 (x := 0) h hpl ho (by omega) (e2.trans (u.trans ?_)), brk⟩
    rw [bndE, if_pos (by rw [e1]; exact q1)]
    exact j1
  · by_cases q : 1 ≤ z ∧ z ≤ nO
    · have eR := c_isRm (Γ := ppS (pcS Γ (p + 1)) t) (z := z) (b := room z.toNat) q.1 (by omega) (hr _ (by omega))
      by_cases qr : room z.toNat = true
      · refine Or.inl ⟨Or.inr (Or.inr qr), _, CSP_1 (x := 0) h hpl ho (by omega) (e2.trans (u.trans ?_)), brk⟩
        rw [bndE, if_neg (by rw [e1]; exact q1), eR, Option.bind_some]
        dsimp only
        rw [bndE, mrg47S, if_pos qr, if_neg (by decide)]
        exact j1
      · refine Or.inr ⟨⟨q, q1, by simpa using qr⟩, fun Δ hD hf => CSP_1 (x := 0) h hpl ho (by omega) (e2.trans (u.trans ?_))⟩
        rw [bndE, if_neg (by rw [e1]; exact q1), eR, Option.bind_some]
        dsimp only
        rw [bndE, mrg47S, if_neg qr, if_pos rfl, eI, if_pos q, Option.bind_some]
        dsimp only
        rw [bndE, mrg47S, bndE, if_neg (by decide), if_pos rfl]
        unfold objK
        rw [if_neg (by decide), if_neg (by decide), if_neg (by decide), if_neg (by decide), if_neg (by decide), hD, Option.bind_some]
        dsimp only
        rw [bndE, mrg9 hf]
    · refine Or.inl ⟨Or.inl q, _, CSP_1 (x := 0) h hpl ho (by omega) (e2.trans (u.trans ?_)), brk⟩
      have j0 : (F_X7_isObject (J z) (ppS (pcS Γ (p + 1)) t)).bind (fun u_13 => bnd (mrg (fun j => j == 4 || j == 5 || j == 6 || j == 7) (ppS (pcS Γ (p + 1)) t) u_13.2) fun σ_15 => bnd (fun  (σ_17 : HS) => ( (F_X3_stop 2 σ_17).bind fun u_21 => some (0, u_21.2) ) : HS → HR) fun j_18 => if u_13.1 = 0 then ( j_18  σ_15 ) else ( if (0 : Int32) = 0 then ( objK (J 22) 0 (J z) σ_15 ) else ( j_18  σ_15 ) )) = some ((0 : Int32), cI' (cI' (ppS (pcS Γ (p + 1)) t) 10 5 (J 2)) 10 14 (J 4)) := by
        rw [eI, if_neg q, Option.bind_some]
        dsimp only
        rw [bndE, mrg47S, bndE, if_pos rfl]; dsimp only; rw [hs]; rfl
      have eR : ∃ b : Int32, F_X7_isRoom (J z) (ppS (pcS Γ (p + 1)) t) = some (b, ppS (pcS Γ (p + 1)) t) := by
        unfold F_X7_isRoom
        by_cases r1 : z < 0
        · rw [if_pos (J_lt0 r1 (by omega))]; exact ⟨_, rfl⟩
        · rw [if_neg (J_nlt0 (by omega) (by omega))]
          by_cases r2 : 121 ≤ z
          · rw [if_pos (by rw [show (121 : Int32) = J 121 from rfl, J_le (by omega) (by omega) (by omega) (by omega)]; omega)]; exact ⟨_, rfl⟩
          · rw [if_neg (by rw [show (121 : Int32) = J 121 from rfl, J_le (by omega) (by omega) (by omega) (by omega)]; omega), if_neg (by rw [J_nat (by omega) (by omega)]; rintro (a | a); exact J_nlt0 (by omega) (by omega) a; omega)]
            split <;> exact ⟨_, rfl⟩
      obtain ⟨b, eb⟩ := eR
      rw [bndE, if_neg (by rw [e1]; exact q1), eb, Option.bind_some]
      dsimp only
      rw [bndE, mrg47S]
      split
      · exact j0
      · exact j1
