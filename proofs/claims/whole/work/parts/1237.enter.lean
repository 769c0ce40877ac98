/-! enter, whole, in both -/
variable {R : Nat → Nat → Int32} {nO nV nC nA ln : Nat} {room : Nat → Bool} {en : Nat → Nat} {TX : Nat → Int → Int → Prop} {DN : Nat → Nat → Nat → Prop}
theorem hcopy (P Q : CS) : ∃ P', HCopy P Q = some P' ∧ CPE P' Q := by
  obtain ⟨Δ, e1, e2, e3⟩ := c_copy (fun r => if r = 12 then Q else P)
  refine ⟨Δ 9, ?_, ?_⟩
  · unfold HCopy; rw [e1, Option.bind_some]
  · rw [if_pos rfl] at e3; exact e3
abbrev bE13 : Nat → Bool := fun j => j == 13 || j == 11 || j == 10 || j == 9 || j == 8 || j == 4 || j == 5 || j == 6 || j == 7
abbrev bE : Nat → Bool := fun j => j == 11 || j == 10 || j == 9 || j == 8 || j == 4 || j == 5 || j == 6 || j == 7
/-- the class's enter behind what is understood -/
def HE3 (T : TS) (Γ4 : HS) : HA := bnd ((((Γ4 0).1 17) + 1) - (((Γ4 0).1 17) + 1) / 6 * 6) fun (slot : Int32) => if slot < 0 ∨ 6 ≤ slot.toNatClampNeg then none else (HCopy (T.2.2.2 slot.toNatClampNeg) (Γ4 9)).bind fun P => (F_X8_act Γ4).bind fun u4 => bnd (mrg bE Γ4 u4.2) fun Γ5 => if ((Γ5 10).1 5) = 0 then bnd (cI' Γ5 0 17 slot) fun Γ6 => bnd ((if ((Γ6 0).1 18 + 1) < 5 then ((Γ6 0).1 18 + 1) else 5)) fun (x : Int32) => bnd (cI' Γ6 0 18 x) fun Γ7 => some ((0, if ((Γ7 9).1 10) = 0 then 1 else 3), (Γ7, T.2.1, T.2.2.1, fun j => if j = slot.toNatClampNeg then P else T.2.2.2 j)) else (HCopy (Γ5 9) P).bind fun Q => (F_X8_tellBreak (onR Γ5 9 Q)).bind fun u5 => bnd (mrg bE (onR Γ5 9 Q) u5.2) fun Γ6 => some ((0, 2), (Γ6, T.2.1, T.2.2.1, fun j => if j = slot.toNatClampNeg then P else T.2.2.2 j))
def HE2 (T : TS) (Γ3 : HS) : HA := (F_X8_understand Γ3).bind fun u3 => bnd (mrg bE Γ3 u3.2) fun Γ4 => if u3.1 = 0 then some ((0, if ((Γ4 9).1 10) = 0 then 0 else 3), (Γ4, T.2)) else HE3 T Γ4
def H_enter (T : TS) : HA := if ((T.1 0).1 8) = 0 then some ((1, 0), T) else (F_X5_wipe T.1).bind fun u1 => bnd (mrg (fun j => j == 8) T.1 u1.2) fun Γ1 => bnd ((Γ1 0).1 1) fun len => bnd (cI' Γ1 0 1 0) fun Γ2 => (F_X8_listen len Γ2).bind fun u2 => bnd (mrg bE13 Γ2 u2.2) fun Γ3 => if u2.1 = 0 then some ((0, if ((Γ3 9).1 10) = 0 then 0 else 3), (Γ3, T.2)) else HE2 T Γ3
/-- the plays put down, newest first, in both -/
def UND (nO : Nat) (room : Nat → Bool) (nV nC : Nat) (σ : MS) (Γ : HS) (ps : Nat → CS) : Prop := ∃ u nw : Nat, u ≤ 5 ∧ nw < 6 ∧ σ.1 101 = J (u : Nat) ∧ (Γ 0).1 18 = J (u : Nat) ∧ (Γ 0).1 17 = J (nw : Nat) ∧ ∀ j, j < u → SLOT nO room nV nC (σ.2 99) (2600 * (4 + j)) (ps ((nw + 6 - j) % 6))
/-- what a play leaves as it is in the reference: all but the play, what is told, the slots, what is heard -/
def rPl (σ τ : MS) : Prop := (∀ k, k ≠ 0 → k ≠ 4 → ¬ (93 ≤ k ∧ k ≤ 98) → ¬ (101 ≤ k ∧ k ≤ 120) → τ.1 k = σ.1 k) ∧ ∀ k, ¬ (87 ≤ k ∧ k ≤ 92) → k ≠ 97 → k ≠ 99 → ¬ (102 ≤ k ∧ k ≤ 121) → τ.2 k = σ.2 k
theorem rPl_rfl {σ : MS} : rPl σ σ := ⟨fun _ _ _ _ _ => rfl, fun _ _ _ _ _ => rfl⟩
theorem rPl_trans {σ τ υ : MS} (h : rPl σ τ) (g : rPl τ υ) : rPl σ υ := ⟨fun k a b c d => by rw [g.1 k a b c d, h.1 k a b c d], fun k a b c d => by rw [g.2 k a b c d, h.2 k a b c d]⟩
theorem rPl_i {σ : MS} {k : Nat} {v : Int32} (hk : k = 0 ∨ k = 4 ∨ (93 ≤ k ∧ k ≤ 98) ∨ (101 ≤ k ∧ k ≤ 120)) : rPl σ (mI σ k v) := ⟨fun j a b c d => by rw [mI_1, if_neg (by omega)], fun _ _ _ _ _ => rfl⟩
theorem rPl_T {σ τ : MS} (h : rTn σ τ) : rPl σ τ := ⟨fun k a b c d => h.1 k (by omega) (by omega) (by omega) (by omega) (by omega), fun k a b c d => h.2 k (by omega) (by omega) (by omega) (by omega) (by omega) (by omega) (by omega) (by omega)⟩
theorem rPl_E {σ τ : MS} (h : rEn σ τ) : rPl σ τ := ⟨fun k a b c d => h.1 k (by omega) (by omega), fun k a b c d => h.2 k (by omega) (by omega) (by omega)⟩
theorem rPl_O {σ τ : MS} (h : oR3 σ τ) : rPl σ τ := ⟨fun k a b c d => h.1 k (by omega), fun k a b c d => h.2 k (by omega)⟩
theorem rPl_K {σ τ : MS} (h : rTak σ τ) : rPl σ τ := ⟨fun k a b c d => h.1 k (by omega) (by omega) (by omega) (by omega) (by omega), fun k a b c d => h.2 k (by omega) (by omega) (by omega) (by omega) (by omega) (by omega) b⟩
theorem rPl_99 {σ : MS} {f : Nat → Int32} : rPl σ (mA σ 99 f) := ⟨fun _ _ _ _ _ => rfl, fun k a b c d => by rw [mA_2, if_neg c]⟩
theorem rSt_P {σ τ : MS} (h : rPl σ τ) : rSt σ τ := ⟨fun k a b => h.1 k (by omega) (by omega) (by omega) (by omega), fun k a => h.2 k (by omega) (by omega) (by omega) (by omega)⟩
/-- and in the class -/
def cPl (Γ Δ : HS) : Prop := (∀ r, r = 1 ∨ r = 2 ∨ r = 3 ∨ (4 ≤ r ∧ r ≤ 7) ∨ 12 ≤ r → Δ r = Γ r) ∧ (∀ k, k ≠ 1 → k ≠ 17 → k ≠ 18 → (Δ 0).1 k = (Γ 0).1 k) ∧ (Δ 0).2 = (Γ 0).2
theorem cPl_trans {Γ Δ Θ : HS} (h : cPl Γ Δ) (g : cPl Δ Θ) : cPl Γ Θ := ⟨fun r a => by rw [g.1 r a, h.1 r a], fun k a b c => by rw [g.2.1 k a b c, h.2.1 k a b c], by rw [g.2.2, h.2.2]⟩
theorem cPl_r {Γ Δ : HS} (h : ∀ r, r ≠ 8 → r ≠ 9 → r ≠ 10 → r ≠ 11 → Δ r = Γ r) : cPl Γ Δ := ⟨fun r hr => h r (by omega) (by omega) (by omega) (by omega), fun k _ _ _ => by rw [h 0 (by omega) (by omega) (by omega) (by omega)], by rw [h 0 (by omega) (by omega) (by omega) (by omega)]⟩
theorem cPl_0 {Γ : HS} {k : Nat} {v : Int32} (hk : k = 1 ∨ k = 17 ∨ k = 18) : cPl Γ (cI' Γ 0 k v) := ⟨fun r hr => by rw [cI_r, if_neg (by omega)], fun j a b c => if_neg (by omega), rfl⟩
theorem mrgB13 {Γ Δ : HS} (h : ∀ r, r ≠ 8 → r ≠ 9 → r ≠ 10 → r ≠ 11 → ¬ (4 ≤ r ∧ r ≤ 7) → Δ r = Γ r) : mrg bE13 Γ Δ = Δ := mrgE (fun r hr => h r (by rintro rfl; exact absurd hr (by decide)) (by rintro rfl; exact absurd hr (by decide)) (by rintro rfl; exact absurd hr (by decide)) (by rintro rfl; exact absurd hr (by decide)) (by
  rintro ⟨h1, h2⟩
  have : r = 4 ∨ r = 5 ∨ r = 6 ∨ r = 7 := by omega
  rcases this with rfl | rfl | rfl | rfl <;> exact absurd hr (by decide)))
theorem mrg_self {b : Nat → Bool} {Γ : HS} : mrg b Γ Γ = Γ := mrgE (fun _ _ => rfl)
theorem mrgB {Γ Δ : HS} (h : ∀ r, r ≠ 8 → r ≠ 9 → r ≠ 10 → r ≠ 11 → ¬ (4 ≤ r ∧ r ≤ 7) → Δ r = Γ r) : mrg bE Γ Δ = Δ := mrgE (fun r hr => h r (by rintro rfl; exact absurd hr (by decide)) (by rintro rfl; exact absurd hr (by decide)) (by rintro rfl; exact absurd hr (by decide)) (by rintro rfl; exact absurd hr (by decide)) (by
  rintro ⟨h1, h2⟩
  obtain rfl | rfl | rfl | rfl : r = 4 ∨ r = 5 ∨ r = 6 ∨ r = 7 := by omega
  all_goals exact absurd hr (by decide)))
/-- all that holds while something is played -/
def PLY (R : Nat → Nat → Int32) (nO nV nC nA : Nat) (room : Nat → Bool) (en : Nat → Nat) (ln : Nat) (TX : Nat → Int → Int → Prop) (DN : Nat → Nat → Nat → Prop) (Γ0 : HS) (F : Nat → Nat) (no ne nv : Nat) (ow : Nat → List (List Int)) (W : List Int) (σ : MS) (Γ : HS) : Prop := PSR R nO nV nC nA room en ln TX DN Γ0 F no ne nv ow W σ Γ ∧ PL nO room nV nC σ Γ ∧ OUT σ Γ ∧ NOU σ Γ ∧ WAI Γ ∧ (σ.1 113 = J 0 ∧ σ.1 115 = J 0)
theorem TLS_c {σ τ : MS} {Γ Δ : HS} (h : TLS σ Γ τ Δ) : ∀ r, r ≠ 8 → r ≠ 10 → Δ r = Γ r := h.2.1.1
/-- told something: all that holds goes on -/
theorem PLY_told {Γ0 : HS} {F : Nat → Nat} {no ne nv : Nat} {ow : Nat → List (List Int)} {W : List Int} {σ τ : MS} {Γ Δ : HS} (h : PLY R nO nV nC nA room en ln TX DN Γ0 F no ne nv ow W σ Γ) (t : TLS σ Γ τ Δ) : PLY R nO nV nC nA room en ln TX DN Γ0 F no ne nv ow W τ Δ := by
  obtain ⟨h1, h2, h3, h4, h5, h6⟩ := h
  obtain ⟨t1, t2, t3⟩ := t
  refine ⟨PSR_keep h1 (rSt_P (rPl_O t1)) (fun r r4 r7 => t2.1 r (by omega) (by omega)), PL_keep h2 (fun k hk => t1.2 k (by omega)) (fun k hk => t1.1 k (by omega)) (t2.1 9 (by omega) (by omega)), t3, ?_, WAI_10 t2.2.1 h5, by rw [t1.1 113 (by omega)]; exact h6.1, by rw [t1.1 115 (by omega)]; exact h6.2⟩
  unfold NOU at h4 ⊢
  rw [t2.2.1, t1.1 108 (by omega), t1.1 109 (by omega)]; exact h4
/-- heard or understood something -/
theorem PLY_kept {Γ0 : HS} {F : Nat → Nat} {no ne nv : Nat} {ow : Nat → List (List Int)} {W : List Int} {σ τ : MS} {Γ Δ : HS} (h : PLY R nO nV nC nA room en ln TX DN Γ0 F no ne nv ow W σ Γ) (hr : (∀ k, k ≠ 0 → k ≠ 4 → k ≠ 101 → ¬ (116 ≤ k ∧ k ≤ 121) → τ.1 k = σ.1 k) ∧ ∀ k, k ≠ 99 → ¬ (116 ≤ k ∧ k ≤ 121) → τ.2 k = σ.2 k) (hc : ∀ r, 4 ≤ r → r ≤ 10 → Δ r = Γ r) : PLY R nO nV nC nA room en ln TX DN Γ0 F no ne nv ow W τ Δ := by
  obtain ⟨h1, h2, h3, h4, h5, h6⟩ := h
  refine ⟨PSR_keep h1 ⟨fun k a b => hr.1 k (by omega) (by omega) (by omega) (by omega), fun k a => hr.2 k (by omega) (by omega)⟩ (fun r r4 r7 => hc r r4 (by omega)), PL_keep h2 (fun k hk => hr.2 k (by omega) (by omega)) (fun k hk => hr.1 k (by omega) (by omega) (by omega) (by omega)) (hc 9 (by omega) (by omega)), ?_, ?_, WAI_10 (by rw [hc 10 (by omega) (by omega)]) h5, by rw [hr.1 113 (by omega) (by omega) (by omega) (by omega)]; exact h6.1, by rw [hr.1 115 (by omega) (by omega) (by omega) (by omega)]; exact h6.2⟩
  · obtain ⟨w, o1, o2⟩ := h3
    exact ⟨w, OL_congr o1 (hr.2 102 (by omega) (by omega)) (hr.1 103 (by omega) (by omega) (by omega) (by omega)), OL_congr o2 (by rw [hc 8 (by omega) (by omega)]) (by rw [hc 8 (by omega) (by omega)])⟩
  · unfold NOU at h4 ⊢
    rw [hc 10 (by omega) (by omega), hr.1 108 (by omega) (by omega) (by omega) (by omega), hr.1 109 (by omega) (by omega) (by omega) (by omega)]; exact h4
theorem PLT_e {σ : MS} {Γ : HS} (h : PL nO room nV nC σ Γ) : ∃ e : Nat, e ≤ 2 ∧ σ.1 95 = J (e : Nat) ∧ (Γ 9).1 10 = J (e : Nat) := by
  obtain ⟨pa, fi, nx, ch, tr, P⟩ := h
  obtain ⟨e, e1, e2, e3⟩ := P.2.2.2.2.2.2.2.1
  have c := P.2.2.2.2.2.2.1.2.2.1
  obtain ⟨k, rfl⟩ : ∃ k : Nat, e = (k : Int) := ⟨e.toNat, by omega⟩
  exact ⟨k, by omega, e1, c.trans e1⟩
theorem J_ite0 {e : Nat} {a b : Int32} (h : e < 1000) : (if J (e : Nat) = 0 then a else b) = if e = 0 then a else b := by
  by_cases q : e = 0
  · rw [if_pos q, if_pos (by rw [q]; rfl)]
  · rw [if_neg q, if_neg (by rw [J_z0 (by omega)]; exact q)]
theorem slot_tab : ∀ w, w < 6 → (J (w : Nat) + 1) - (J (w : Nat) + 1) / 6 * 6 = J ((w + 1) % 6 : Nat) := by decide +kernel
/-- a command's end in both: it stands, or it is taken back -/
theorem W_end {Γ0 : HS} {F : Nat → Nat} {no ne nv : Nat} {ow : Nat → List (List Int)} {W : List Int} {σ υ : MS} {X Θ : HS} {T : TS} (hS : PLY R nO nV nC nA room en ln TX DN Γ0 F no ne nv ow W σ X) (hU : UND nO room nV nC σ X T.2.2.2) (hA : F_X8_act X = some (0, Θ)) (hT : TRN nO room nV nC σ X υ Θ) : ∃ (v : Int32) (σ' : MS) (Δ : HS) (ps : Nat → CS), enK υ = some (v, σ') ∧ HE3 T X = some ((0, v), (Δ, T.2.1, T.2.2.1, ps)) ∧ PLY R nO nV nC nA room en ln TX DN Γ0 F no ne nv ow W σ' Δ ∧ UND nO room nV nC σ' Δ ps ∧ (∀ y, y < 10400 → σ'.2 99 y = σ.2 99 y) ∧ rPl σ σ' ∧ (∀ k, k = 0 ∨ k = 4 → σ'.1 k = σ.1 k) ∧ cPl X Δ ∧ (Δ 0).1 1 = (X 0).1 1 := by
  obtain ⟨u, nw, u1, u2, u3, u4, u5, u6⟩ := hU
  obtain ⟨t1, t2, t3, t4, t5, t6, ⟨t7, t8⟩, t9, t10⟩ := hT
  obtain ⟨s1, s2, s3, s4, s5, s6⟩ := hS
  have hC : CNT3 σ nO nV nC := s1.2.2.2.2.2.2.2.2.2.2.2.2.2
  have S2 : PSR R nO nV nC nA room en ln TX DN Γ0 F no ne nv ow W υ Θ := PSR_keep s1 (rSt_T t5) (fun r r4 r7 => t6 r (by omega) (by omega) (by omega) (by omega))
  have hC2 : CNT3 υ nO nV nC := S2.2.2.2.2.2.2.2.2.2.2.2.2.2
  have W2 := t4 s5
  have hmod : (nw + 1) % 6 < 6 := Nat.mod_lt _ (by omega)
  obtain ⟨P, p1, p2⟩ := hcopy (T.2.2.2 ((nw + 1) % 6)) (X 9)
  have i0 := t6 0 (by omega) (by omega) (by omega) (by omega)
  have h3 : ∀ m : HA, (if ((Θ 10).1 5) = 0 then bnd (cI' Θ 0 17 (J ((nw + 1) % 6 : Nat))) fun Γ6 => bnd ((if ((Γ6 0).1 18 + 1) < 5 then ((Γ6 0).1 18 + 1) else 5)) fun (x : Int32) => bnd (cI' Γ6 0 18 x) fun Γ7 => some ((0, if ((Γ7 9).1 10) = 0 then 1 else 3), (Γ7, T.2.1, T.2.2.1, fun j => if j = (nw + 1) % 6 then P else T.2.2.2 j)) else (HCopy (Θ 9) P).bind fun Q => (F_X8_tellBreak (onR Θ 9 Q)).bind fun u5 => bnd (mrg bE (onR Θ 9 Q) u5.2) fun Γ6 => some ((0, 2), (Γ6, T.2.1, T.2.2.1, fun j => if j = (nw + 1) % 6 then P else T.2.2.2 j))) = m → HE3 T X = m := fun m hm => by
    unfold HE3
    rw [u5, slot_tab nw u2, bndE, if_neg (gNn (by omega) (by omega)), J_natN (by omega), p1, Option.bind_some, hA, Option.bind_some]
    dsimp only
    rw [mrgB (fun r r8 r9 r10 r11 _ => t6 r r8 r9 r10 r11), bndE]
    exact hm
  rcases t10 with ⟨k1, n, n1, n2, n3, n4⟩ | ⟨k1, k2⟩
  · -- it broke
    obtain ⟨Q, q1, q2⟩ := hcopy (Θ 9) P
    have c9 : (onR Θ 9 Q) 9 = Q := if_pos rfl
    have cr : ∀ r, r ≠ 9 → (onR Θ 9 Q) r = Θ r := fun r hr => if_neg hr
    obtain ⟨τ, w1, w2, w3⟩ := W_take (Δ := onR Θ 9 Q) (p := 9) (P := X 9) t1 hC2 (by omega) t7 (by rw [c9]; exact CPE_trans q2 p2)
    obtain ⟨τ2, Δ, b1, b2, b3, b4, b5⟩ := W_tellBreak (σ := τ) (Γ := onR Θ 9 Q) (n := n) ⟨n1, n2⟩ (by rw [w2.1 105 (by omega) (by omega) (by omega) (by omega) (by omega)]; exact n3) (by rw [cr 10 (by omega)]; exact n4)
    have hd : ∀ r, r ≠ 8 → r ≠ 9 → r ≠ 10 → r ≠ 11 → Δ r = X r := fun r r8 r9 r10 r11 => by rw [b4.1 r r8 r10, cr r r9, t6 r r8 r9 r10 r11]
    have fr : rPl σ τ2 := rPl_trans (rPl_T t5) (rPl_trans (rPl_K w2) (rPl_O b3))
    have f99 : ∀ y, y < 23400 → τ2.2 99 y = σ.2 99 y := fun y hy => by
      rw [b3.2 99 (by omega), w2.2 99 (by omega) (by omega) (by omega) (by omega) (by omega) (by omega) (by omega)]; exact t8 y hy
    have e0 : ∀ k, k = 0 ∨ k = 4 ∨ k = 101 → τ2.1 k = σ.1 k := fun k hk => by
      rw [b3.1 k (by omega), w2.1 k (by omega) (by omega) (by omega) (by omega) (by omega), t5.1 k (by omega) (by omega) (by omega) (by omega) (by omega)]
    refine ⟨2, τ2, Δ, fun j => if j = (nw + 1) % 6 then P else T.2.2.2 j, ?_, h3 _ ?_, ⟨PSR_keep s1 (rSt_P fr) (fun r r4 r7 => hd r (by omega) (by omega) (by omega) (by omega)), PL_keep w3 (fun k hk => b3.2 k (by omega)) (fun k hk => b3.1 k (by omega)) (b4.1 9 (by omega) (by omega)), b5, ?_, WAI_10 b4.2.1 (WAI_10 (by rw [cr 10 (by omega)]) W2), ?_, ?_⟩, ⟨u, nw, u1, u2, by rw [e0 101 (by omega)]; exact u3, by rw [hd 0 (by omega) (by omega) (by omega) (by omega)]; exact u4, by rw [hd 0 (by omega) (by omega) (by omega) (by omega)]; exact u5, fun j hj => ?_⟩, fun y hy => f99 y (by omega), fr, fun k hk => e0 k (by omega), cPl_r hd, by rw [hd 0 (by omega) (by omega) (by omega) (by omega)]⟩
    · unfold enK
      rw [if_pos (show υ.1 104 = 3 from k1), show F_X12_take 9 υ = _ from w1, Option.bind_some, bndE]; exact b1
    · rw [n4, if_neg (by rw [show (0 : Int32) = J 0 from rfl, J_eq (by omega) (by omega) (by omega) (by omega)]; omega), q1, Option.bind_some, b2, Option.bind_some]
      dsimp only
      rw [mrgB (fun r r8 _ r10 _ _ => b4.1 r r8 r10), bndE]
    · unfold NOU at t3 ⊢
      rw [b4.2.1, cr 10 (by omega), b3.1 108 (by omega), b3.1 109 (by omega), w2.1 108 (by omega) (by omega) (by omega) (by omega) (by omega), w2.1 109 (by omega) (by omega) (by omega) (by omega) (by omega)]; exact t3
    · rw [b3.1 113 (by omega), w2.1 113 (by omega) (by omega) (by omega) (by omega) (by omega)]; exact t9.1
    · rw [b3.1 115 (by omega), w2.1 115 (by omega) (by omega) (by omega) (by omega) (by omega)]; exact t9.2
    · have hne : (nw + 6 - j) % 6 ≠ (nw + 1) % 6 := by omega
      dsimp only
      rw [if_neg hne]
      exact SLOT_shift hC.1 hC.2.1 hC.2.2.1 (u6 j hj) (fun i hi => f99 _ (by omega))
  · -- it stands
    obtain ⟨e, e1, e2, e3⟩ := PLT_e t1
    have r := r_upk (σ := υ) u1 (by rw [t5.1 101 (by omega) (by omega) (by omega) (by omega) (by omega)]; exact u3) e1 e2
    obtain ⟨x1, x2, x3⟩ := upR_ok (υ.2 99)
    have hu5 : (if u + 1 < 5 then u + 1 else 5) ≤ 5 := by split <;> omega
    have hu' : (if u + 1 < 5 then u + 1 else 5) ≤ u + 1 := by split <;> omega
    have hd : ∀ r, r ≠ 0 → (cI' (cI' Θ 0 17 (J ((nw + 1) % 6 : Nat))) 0 18 (J ((if u + 1 < 5 then u + 1 else 5 : Nat) : Int))) r = Θ r := fun r hr => by rw [cI_r, if_neg hr, cI_r, if_neg hr]
    have P2 : PLY R nO nV nC nA room en ln TX DN Γ0 F no ne nv ow W υ Θ := ⟨S2, t1, t2, t3, W2, t9⟩
    refine ⟨if e = 0 then 1 else 3, mI (mA υ 99 (upR (υ.2 99))) 101 (J ((if u + 1 < 5 then u + 1 else 5 : Nat) : Int)), cI' (cI' Θ 0 17 (J ((nw + 1) % 6 : Nat))) 0 18 (J ((if u + 1 < 5 then u + 1 else 5 : Nat) : Int)), fun j => if j = (nw + 1) % 6 then P else T.2.2.2 j, ?_, h3 _ ?_, PLY_kept P2 ⟨fun k a b c d => by rw [mI_1, if_neg c]; rfl, fun k a b => by show (mA υ 99 _).2 k = _; rw [mA_2, if_neg a]⟩ (fun r r4 r10 => hd r (by omega)), ⟨(if u + 1 < 5 then u + 1 else 5), (nw + 1) % 6, hu5, hmod, rfl, rfl, rfl, fun j hj => ?_⟩, fun y hy => ?_, rPl_trans (rPl_T t5) (rPl_trans (rPl_99 (f := upR (υ.2 99))) (rPl_i (by omega))), fun k hk => ?_, cPl_trans (cPl_r (fun r r8 r9 r10 r11 => t6 r r8 r9 r10 r11)) (cPl_trans (cPl_0 (by omega)) (cPl_0 (by omega))), ?_⟩
    · unfold enK
      rw [if_neg (show ¬ υ.1 104 = 3 from k1)]; exact r
    · rw [k2, if_pos (show J 0 = 0 from rfl), bndE, show ((cI' Θ 0 17 (J ((nw + 1) % 6 : Nat))) 0).1 18 = J (u : Nat) from by
        show (Θ 0).1 18 = _; rw [i0]; exact u4, J_suc, show (if J (u + 1 : Nat) < 5 then J (u + 1 : Nat) else (5 : Int32)) = J ((if u + 1 < 5 then u + 1 else 5 : Nat) : Int) from J_min (a := J (u + 1 : Nat)) (n := 5) rfl (by omega) (by omega), bndE, bndE, hd 9 (by omega), e3]
      rw [J_ite0 (by omega)]
    · show SLOT nO room nV nC (upR (υ.2 99)) (2600 * (4 + j)) _
      by_cases q : j = 0
      · subst q
        dsimp only
        rw [if_pos (by omega)]
        exact SLOT_cpe (SLOT_shift hC.1 hC.2.1 hC.2.2.1 t7 (fun i hi => x2 i hi)) (CPE_symm p2)
      · obtain ⟨j', rfl⟩ : ∃ j', j = j' + 1 := ⟨j - 1, by omega⟩
        have hne : ((nw + 1) % 6 + 6 - (j' + 1)) % 6 = (nw + 6 - j') % 6 := by omega
        dsimp only
        rw [hne, if_neg (by omega)]
        refine SLOT_shift hC.1 hC.2.1 hC.2.2.1 (u6 j' (by omega)) (fun i hi => ?_)
        rw [show 4 + (j' + 1) = 4 + j' + 1 by omega, x3 j' i (by omega) hi]
        exact t8 _ (by omega)
    · show upR (υ.2 99) y = _
      rw [x1 y hy]; exact t8 y (by omega)
    · show (mI _ 101 _).1 k = _
      rw [mI_1, if_neg (by omega)]
      exact t5.1 k (by omega) (by omega) (by omega) (by omega) (by omega)
    · show (Θ 0).1 1 = _
      rw [i0]
