/-! the reference's own verbs -/
variable {T N : Nat} {kd vl rv : Nat → Int} {pl : Nat → Nat}
def Owv (b5 : List Int32) (p0 : Int32) : ((Int32 × MS) → MR) → Int32 × MS → MR := (fun (again_30 : (Int32 × MS) → MR) (s_29 : Int32 × MS) => ( bnd ((Int32.ofNat (b5).length)) fun (x_33 : Int32) => if x_33 ≤ s_29.1 then ( some (0, s_29.2) ) else ( if s_29.1 < 0 ∨ Int32.ofNat (b5).length ≤ s_29.1 then none else bnd ((g_chr ((b5).getD s_29.1.toNatClampNeg 0))) fun (x_40 : Int32) => bnd (x_40.toInt8.toInt32) fun (x_42 : Int32) => if ((9 * p0) + s_29.1) < 0 ∨ 549 ≤ ((9 * p0) + s_29.1).toNatClampNeg then none else bnd (mA s_29.2 61 (upd (s_29.2.2 61) ((9 * p0) + s_29.1).toNatClampNeg (vp_nar .byte x_42))) fun σ_46 => bnd (s_29.1 + 1) fun (x_48 : Int32) => again_30 (x_48, σ_46) ) ))
theorem ownVerb_eq (p0 : Int32) (b1 b2 : List Int32) (p4 : Int32) (b5 : List Int32) (σ : MS) : F_X12_ownVerb p0 b1 b2 [] p4 b5 σ = if p0 < 0 ∨ 61 ≤ p0.toNatClampNeg then none else bnd (mA σ 59 (upd (σ.2 59) p0.toNatClampNeg 0)) fun σ_3 => (F_X12_ownWord p0 b1 σ_3).bind fun u_5 => bnd ((Int32.ofNat (b2).length)) fun (x_7 : Int32) => bnd (fun (σ_9 : MS) => (if p0 < 0 ∨ 61 ≤ p0.toNatClampNeg then none else bnd (mA σ_9 60 (upd (σ_9.2 60) p0.toNatClampNeg p4)) fun σ_21 => bnd ((Int32.ofNat (b5).length)) fun (x_23 : Int32) => if p0 < 0 ∨ 61 ≤ p0.toNatClampNeg then none else bnd (mA σ_21 62 (upd (σ_21.2 62) p0.toNatClampNeg x_23)) fun σ_27 => loopF (Owv b5 p0) FU (0, σ_27) : MR)) fun j_10 => if x_7 ≤ 0 then j_10 u_5.2 else (F_X12_ownWord p0 b2 u_5.2).bind fun u_58 => j_10 u_58.2 := rfl
/-- only verb v's rows have changed -/
def vfrm (v : Nat) (σ τ : MS) : Prop := τ.1 = σ.1 ∧ (∀ k, ¬ (57 ≤ k ∧ k ≤ 62) → τ.2 k = σ.2 k) ∧ (∀ x, x ≠ v → τ.2 59 x = σ.2 59 x ∧ τ.2 60 x = σ.2 60 x ∧ τ.2 62 x = σ.2 62 x) ∧ (∀ x, ¬ (10 * v ≤ x ∧ x < 10 * v + 10) → τ.2 58 x = σ.2 58 x) ∧ (∀ y, ¬ (90 * v ≤ y ∧ y < 90 * v + 90) → τ.2 57 y = σ.2 57 y) ∧ ∀ y, ¬ (9 * v ≤ y ∧ y < 9 * v + 9) → τ.2 61 y = σ.2 61 y
theorem vfrm_trans {v : Nat} {σ τ υ : MS} (h : vfrm v σ τ) (i : vfrm v τ υ) : vfrm v σ υ := ⟨by rw [i.1, h.1], fun k hk => by rw [i.2.1 k hk, h.2.1 k hk], fun x hx => by
  obtain ⟨a, b, c⟩ := h.2.2.1 x hx
  obtain ⟨d, e, f⟩ := i.2.2.1 x hx
  exact ⟨by rw [d, a], by rw [e, b], by rw [f, c]⟩, fun x hx => by rw [i.2.2.2.1 x hx, h.2.2.2.1 x hx], fun x hx => by rw [i.2.2.2.2.1 x hx, h.2.2.2.2.1 x hx], fun x hx => by rw [i.2.2.2.2.2 x hx, h.2.2.2.2.2 x hx]⟩
theorem OWV_vfrm {v n : Nat} {w : List Int} {σ τ : MS} (hn : n < 10) (h : OWV v n w σ τ) : vfrm v σ τ := by
  obtain ⟨h1, h2, h3, h4, h5, h6⟩ := h
  exact ⟨h1, fun k hk => h2 k (by omega) (by omega) (by omega), fun x hx => ⟨by rw [h3, upd_s, if_neg hx], by rw [h2 60 (by omega) (by omega) (by omega)], by rw [h2 62 (by omega) (by omega) (by omega)]⟩, fun x hx => h5 x (by omega), fun y hy => h6 y (by omega), fun y _ => by rw [h2 61 (by omega) (by omega) (by omega)]⟩
/-- what the reference knows of verb v -/
def VBR (ρ : MS) (v : Nat) (ws : List (List Int)) (f : Int) (jw : List Int) : Prop := ρ.2 59 v = J (ws.length : Nat) ∧ (∀ e, e < ws.length → RW 57 58 ρ (10 * v + e) (ws.getD e [])) ∧ ρ.2 60 v = J f ∧ ρ.2 62 v = J (jw.length : Nat) ∧ ∀ k, k < jw.length → ρ.2 61 (9 * v + k) = J (jw.getD k 0)
theorem wmn_le (w : List Int) : wmn w ≤ 9 := by unfold wmn; split <;> omega
theorem VBR_keep {v v' : Nat} {σ τ : MS} {ws : List (List Int)} {f : Int} {jw : List Int} (h : VBR σ v' ws f jw) (i : vfrm v σ τ) (hv : v' ≠ v) (hl : ws.length ≤ 10) (hj : jw.length ≤ 9) : VBR τ v' ws f jw := by
  obtain ⟨a, b, c, d, e⟩ := h
  obtain ⟨-, -, i1, i2, i3, i4⟩ := i
  obtain ⟨x, y, z⟩ := i1 v' hv
  refine ⟨by rw [x]; exact a, fun k hk => ⟨?_, fun q hq => ?_⟩, by rw [y]; exact c, by rw [z]; exact d, fun k hk => ?_⟩
  · rw [i2 _ (by omega)]; exact (b k hk).1
  · have := wmn_le (ws.getD k [])
    rw [i3 _ (by omega)]; exact (b k hk).2 q hq
  · rw [i4 _ (by omega)]; exact e k hk
/-- letters of a list -/
def LTS (S : List Int32) (w : List Int) : Prop := S.length = w.length ∧ w.length ≤ 9 ∧ ∀ k, k < w.length → g_chr (S.getD k 0) = J (w.getD k 0) ∧ 97 ≤ w.getD k 0 ∧ w.getD k 0 ≤ 122
theorem r_ownVerb {σ : MS} {v f : Nat} {S1 S2 S5 : List Int32} {w1 w2 jw : List Int} (hv : v ≤ 60) (h1 : LTS S1 w1) (h2 : LTS S2 w2) (h5 : LTS S5 jw) : ∃ τ, F_X12_ownVerb (J (v : Nat)) S1 S2 [] (J (f : Nat)) S5 σ = some ((0 : Int32), τ) ∧ vfrm v σ τ ∧ VBR τ v (if w2.length = 0 then [w1] else [w1, w2]) f jw := by
  have g61 := gNn (k := v) (n := 61) (by omega) (by omega)
  rw [ownVerb_eq, if_neg g61, bndE, J_natN (by omega)]
  generalize hσ0 : mA σ 59 (upd (σ.2 59) v 0) = σ0
  have z59 : σ0.2 59 v = J ((0 : Nat) : Int) := by rw [← hσ0, mA_2, if_pos rfl, upd_s, if_pos rfl]; rfl
  have f0 : vfrm v σ σ0 := by
    rw [← hσ0]
    exact ⟨rfl, fun k hk => by rw [mA_2, if_neg (by omega)], fun x hx => ⟨by rw [mA_2, if_pos rfl, upd_s, if_neg hx], rfl, rfl⟩, fun _ _ => rfl, fun _ _ => rfl, fun _ _ => rfl⟩
  obtain ⟨τ1, e1, o1⟩ := r_ownWord hv (by omega) z59 h1.1 h1.2.1 h1.2.2
  have f1 := OWV_vfrm (by omega) o1
  rw [e1, Option.bind_some]
  simp only [bndE]
  -- what stands behind the words
  have fin : ∀ (τ : MS) (ws : List (List Int)), vfrm v σ τ → ws.length ≤ 10 → τ.2 59 v = J (ws.length : Nat) → (∀ e, e < ws.length → RW 57 58 τ (10 * v + e) (ws.getD e [])) → ∃ υ, (if J (v : Nat) < 0 ∨ 61 ≤ v then none else if J (v : Nat) < 0 ∨ 61 ≤ v then none else loopF (Owv S5 (J (v : Nat))) FU (0, mA (mA τ 60 (upd (τ.2 60) v (J (f : Nat)))) 62 (upd ((mA τ 60 (upd (τ.2 60) v (J (f : Nat)))).2 62) v (Int32.ofNat S5.length)))) = some ((0 : Int32), υ) ∧ vfrm v σ υ ∧ VBR υ v ws f jw := by
    intro τ ws ht hwl t59 hrow
    have g61' : ¬ (J (v : Nat) < 0 ∨ 61 ≤ v) := by rintro (c | c); exact J_nlt0 (by omega) (by omega) c; omega
    rw [if_neg g61', if_neg g61', show Int32.ofNat S5.length = J (jw.length : Nat) by rw [h5.1]; rfl]
    generalize hτ2 : mA (mA τ 60 (upd (τ.2 60) v (J (f : Nat)))) 62 (upd ((mA τ 60 (upd (τ.2 60) v (J (f : Nat)))).2 62) v (J (jw.length : Nat))) = τ2
    have v60 : τ2.2 60 = upd (τ.2 60) v (J (f : Nat)) := by rw [← hτ2]; rfl
    have v62 : τ2.2 62 = upd (τ.2 62) v (J (jw.length : Nat)) := by rw [← hτ2]; rfl
    have vo : ∀ k, k ≠ 60 → k ≠ 62 → τ2.2 k = τ.2 k := fun k a b => by rw [← hτ2, mA_2, if_neg b, mA_2, if_neg a]
    have v1 : τ2.1 = τ.1 := by rw [← hτ2]; rfl
    obtain ⟨υ, e, k1, k2, k3⟩ := cnt_loop (F := Owv S5 (J (v : Nat))) (n := jw.length) (nx := fun τ => some ((0 : Int32), τ)) (P := fun k τ => frA (fun k => k = 61) τ2 τ ∧ (∀ x, x < k → τ.2 61 (9 * v + x) = J (jw.getD x 0)) ∧ ∀ y, ¬ (9 * v ≤ y ∧ y < 9 * v + 9) → τ.2 61 y = τ2.2 61 y) (by have := h5.2.1; omega) (fun again τ _ => by
      unfold Owv
      simp only [bndE]
      rw [show Int32.ofNat S5.length = J (jw.length : Nat) by rw [h5.1]; rfl, if_pos (Int32.le_refl _)]) (fun again k τ hk ⟨h1', h2', h3'⟩ => by
      obtain ⟨s1, s2, s3⟩ := h5.2.2 k hk
      have hj9 := h5.2.1
      unfold Owv
      simp only [bndE]
      rw [show Int32.ofNat S5.length = J (jw.length : Nat) by rw [h5.1]; rfl]
      have e10 : 9 * J (v : Nat) + J (k : Nat) = J (9 * v + k : Nat) := by rw [show (9 : Int32) = J 9 from rfl, J_mul, J_add]; congr 1
      refine ⟨mA τ 61 (upd (τ.2 61) (9 * v + k) (J (jw.getD k 0))), ?_, frA_mA h1' rfl, fun x hx => ?_, fun y hy => ?_⟩
      · rw [if_neg (Jle_no hk (by omega)), if_neg (show ¬ (J (k : Nat) < 0 ∨ J (jw.length : Nat) ≤ J (k : Nat)) by rintro (c | c); exact J_nlt0 (by omega) (by omega) c; exact Jle_no hk (by omega) c), e10, if_neg (gNn (k := 9 * v + k) (n := 549) (by omega) (by omega)), J_natN (by omega), J_natN (by omega), s1, J_suc, J_i8 (by omega) (by omega), J_byte (by omega) (by omega)]
      · rw [mA_2, if_pos rfl, upd_s]
        by_cases q : x = k
        · rw [if_pos (by omega), q]
        · rw [if_neg (by omega)]; exact h2' x (by omega)
      · rw [mA_2, if_pos rfl, upd_s, if_neg (by omega)]; exact h3' y hy) (τ := τ2) ⟨frA_rfl, fun x hx => by omega, fun _ _ => rfl⟩
    have hf : vfrm v τ υ := ⟨by rw [k1.1, v1], fun k hk => by rw [k1.2 k (by omega), vo k (by omega) (by omega)], fun x hx => ⟨by rw [k1.2 59 (by omega), vo 59 (by omega) (by omega)], by rw [k1.2 60 (by omega), v60, upd_s, if_neg hx], by rw [k1.2 62 (by omega), v62, upd_s, if_neg hx]⟩, fun x _ => by rw [k1.2 58 (by omega), vo 58 (by omega) (by omega)], fun y _ => by rw [k1.2 57 (by omega), vo 57 (by omega) (by omega)], fun y hy => by rw [k3 y hy, vo 61 (by omega) (by omega)]⟩
    refine ⟨υ, e, vfrm_trans ht hf, by rw [k1.2 59 (by omega), vo 59 (by omega) (by omega)]; exact t59, fun e' he => ⟨by rw [k1.2 58 (by omega), vo 58 (by omega) (by omega)]; exact (hrow e' he).1, fun k hk => by rw [k1.2 57 (by omega), vo 57 (by omega) (by omega)]; exact (hrow e' he).2 k hk⟩, by rw [k1.2 60 (by omega), v60, upd_s, if_pos rfl], by rw [k1.2 62 (by omega), v62, upd_s, if_pos rfl], k2⟩
  have t159 : τ1.2 59 v = J (1 : Nat) := by rw [o1.2.2.1, upd_s, if_pos rfl]
  have hS2 : Int32.ofNat S2.length = J (w2.length : Nat) := by rw [h2.1]; rfl
  by_cases q : w2.length = 0
  · rw [if_pos (show Int32.ofNat S2.length ≤ 0 by rw [hS2, q]; decide), if_pos q]
    exact fin τ1 [w1] (vfrm_trans f0 f1) (show 1 ≤ 10 by omega) t159 (fun e he => by
      have : e = 0 := by simp only [List.length_cons, List.length_nil] at he; omega
      subst this; exact o1.2.2.2.1)
  · have hw29 := h2.2.1
    rw [if_neg (show ¬ Int32.ofNat S2.length ≤ 0 by rw [hS2, show (0 : Int32) = J 0 from rfl, J_le (by omega) (by omega) (by omega) (by omega)]; omega), if_neg q]
    obtain ⟨τ2, e2, o2⟩ := r_ownWord hv (show 1 < 10 by omega) t159 h2.1 h2.2.1 h2.2.2
    have f2 := OWV_vfrm (by omega) o2
    rw [e2, Option.bind_some]
    dsimp only
    have := fin τ2 [w1, w2] (vfrm_trans f0 (vfrm_trans f1 f2)) (show 2 ≤ 10 by omega) (by rw [o2.2.2.1, upd_s, if_pos rfl]; rfl) (fun e he => by
      have : e = 0 ∨ e = 1 := by simp only [List.length_cons, List.length_nil] at he; omega
      rcases this with rfl | rfl
      · refine ⟨by rw [o2.2.2.2.2.1 _ (by omega)]; exact o1.2.2.2.1.1, fun k hk => ?_⟩
        have h9 := wmn_le w1
        have hk' : k < wmn w1 := hk
        rw [o2.2.2.2.2.2 _ (by omega)]; exact o1.2.2.2.1.2 k hk
      · exact o2.2.2.2.1)
    exact this
