/-! the names in the code get their meanings -/
variable {T N : Nat} {kd vl rv : Nat → Int} {pl : Nat → Nat}
/-- the whole code is a row of instructions; P: the words of names -/
def WIC (Γ : HS) (P : Nat → Prop) (ln n : Nat) (b : Nat → Nat) : Prop := b 0 = 0 ∧ b n = ln ∧ ∀ k, k < n → (∃ o : Int, op1 Γ (b k) o ∧ 0 ≤ o ∧ o ≤ 32 ∧ b (k + 1) = b k + 1) ∨ (∃ (o : Int) (v : Int), op3 Γ (b k) o v ∧ 33 ≤ o ∧ o ≤ 50 ∧ b (k + 1) = b k + 3 ∧ (isNO o → ∃ i : Nat, v = (i : Nat) ∧ P i))
theorem WIC_lt {Γ : HS} {P : Nat → Prop} {ln n : Nat} {b : Nat → Nat} (h : WIC Γ P ln n b) : ∀ d k, k + d ≤ n → b k + d ≤ b (k + d) := by
  intro d
  induction d with
  | zero => intro k _; exact Nat.le_refl _
  | succ d ih =>
    intro k hk
    have a := ih k (by omega)
    have e : b (k + d) + 1 ≤ b (k + d + 1) := by
      rcases h.2.2 (k + d) (by omega) with ⟨o, -, -, -, e⟩ | ⟨o, v, -, -, -, e, -⟩ <;> omega
    rw [show k + (d + 1) = k + d + 1 by omega]; omega
theorem cb_inj {a b : Nat} (ha : a < 65536) (hb : b < 65536) (h1 : cb1 (a : Nat) = cb1 (b : Nat)) (h2 : cb2 (a : Nat) = cb2 (b : Nat)) : a = b := by
  have e1 : cb1 (a : Nat) &&& 255 = cb1 (b : Nat) &&& 255 := by rw [h1]
  have e2 : cb2 (a : Nat) &&& 255 = cb2 (b : Nat) &&& 255 := by rw [h2]
  rw [cb1_255 (by omega), cb1_255 (by omega), J_eq (by omega) (by omega) (by omega) (by omega)] at e1
  rw [cb2_255 (by omega), cb2_255 (by omega), J_eq (by omega) (by omega) (by omega) (by omega)] at e2
  omega
def Lj16 (again : Int32 × Int32 × HS → HR) (p n o : Int32) : HS → HR := fun σ_15 => (F_X0_widthOf o σ_15).bind fun u_19 => bnd ((p + u_19.1)) fun (x_21 : Int32) => bnd (n + 1) fun (x_23 : Int32) => again (x_21, x_23, σ_15)
def Lj26 (again : Int32 × Int32 × HS → HR) (p n o : Int32) : HS → HR := fun σ_25 => (F_X0_pairAt (p + 1) σ_25).bind fun u_29 => bnd (mrg (fun j => j == 5) σ_25 u_29.2) fun σ_31 => bnd ((g_at 16001 ((σ_31 1).2.1 7) u_29.1)) fun (x_33 : Int32) => (F_X0_linked o (x_33 >>> (16 &&& 31)) σ_31).bind fun u_35 => (F_X0_setByte p u_35.1 σ_31).bind fun u_37 => bnd (mrg (fun j => j == 5) σ_31 u_37.2) fun σ_39 => (F_X0_setPair (p + 1) x_33 σ_39).bind fun u_41 => bnd (mrg (fun j => j == 5) σ_39 u_41.2) fun σ_43 => Lj16 again p n o σ_43
def Lk1 : (Int32 × Int32 × HS → HR) → Int32 × Int32 × HS → HR := fun again_2 s_1 => if 40000 ≤ s_1.2.1 then some (0, s_1.2.2) else if ((s_1.2.2 5).1 1) ≤ s_1.1 then some (0, s_1.2.2) else (F_X0_byteAt s_1.1 s_1.2.2).bind fun u_11 => bnd (mrg (fun j => j == 5) s_1.2.2 u_11.2) fun σ_13 => if u_11.1 = 49 then Lj26 again_2 s_1.1 s_1.2.1 u_11.1 σ_13 else if u_11.1 = 50 then Lj26 again_2 s_1.1 s_1.2.1 u_11.1 σ_13 else if u_11.1 = 36 then Lj26 again_2 s_1.1 s_1.2.1 u_11.1 σ_13 else if u_11.1 = 39 then Lj26 again_2 s_1.1 s_1.2.1 u_11.1 σ_13 else if u_11.1 = 40 then Lj26 again_2 s_1.1 s_1.2.1 u_11.1 σ_13 else Lj16 again_2 s_1.1 s_1.2.1 u_11.1 σ_13
theorem link_eq (Γ : HS) : F_X0_link Γ = loopF Lk1 FU (0, 0, Γ) := rfl
theorem mrgR5 {Γ Δ : HS} (h : ∀ r, r ≠ 5 → Δ r = Γ r) : mrg (fun j => j == 5) Γ Δ = Δ := by
  funext j
  rw [mrg_r]
  by_cases q : j = 5
  · subst q; rfl
  · rw [show (j == 5) = false by simpa using q, h j q]; rfl
theorem c_linked {Γ : HS} {o s : Int} (ho : isNO o) (hs : 1 ≤ s ∧ s ≤ 7) : F_X0_linked (J o) (J s) Γ = some (J (lnkO o s), Γ) := by
  have jo : ∀ c : Int, 0 ≤ c ∧ c ≤ 1000 → (J o = J c) = (o = c) := fun c hc => by unfold isNO at ho; exact J_eq (by omega) (by omega) (by omega) (by omega)
  have js : ∀ c : Int, 0 ≤ c ∧ c ≤ 1000 → (J s = J c) = (s = c) := fun c hc => J_eq (by omega) (by omega) (by omega) (by omega)
  unfold F_X0_linked lnkO
  by_cases q : o = 50
  · subst q
    rw [if_pos (show J 50 = 50 from rfl), if_neg (show ¬ (50 : Int) = 49 by decide), if_pos (show (50 : Int) = 50 from rfl)]
    by_cases q2 : s = 4
    · rw [if_pos (show J s = 4 by rw [q2]; rfl), if_pos q2]; rfl
    · rw [if_neg q2, if_neg (show ¬ J s = 4 by rw [show (4 : Int32) = J 4 from rfl, js 4 (by omega)]; exact q2)]; rfl
  rw [if_neg (show ¬ J o = 50 by rw [show (50 : Int32) = J 50 from rfl, jo 50 (by omega)]; exact q)]
  by_cases q1 : o = 49
  · subst q1
    rw [if_pos (show J 49 = 49 from rfl), if_pos (show (49 : Int) = 49 from rfl)]
    by_cases q2 : s = 4
    · rw [if_pos (show J s = 4 by rw [q2]; rfl), if_pos q2]; rfl
    rw [if_neg q2, if_neg (show ¬ J s = 4 by rw [show (4 : Int32) = J 4 from rfl, js 4 (by omega)]; exact q2)]
    by_cases q3 : s = 7
    · rw [if_pos (show J s = 7 by rw [q3]; rfl), if_pos q3]; rfl
    · rw [if_neg q3, if_neg (show ¬ J s = 7 by rw [show (7 : Int32) = J 7 from rfl, js 7 (by omega)]; exact q3)]; rfl
  · rw [if_neg (show ¬ J o = 49 by rw [show (49 : Int32) = J 49 from rfl, jo 49 (by omega)]; exact q1), if_neg q1, if_neg q]
theorem lnkO_rng {o s : Int} (ho : isNO o) : 33 ≤ lnkO o s ∧ lnkO o s ≤ 40 := by
  unfold isNO at ho
  unfold lnkO
  repeat' split
  all_goals omega
theorem c_link {Γ : HS} {P : Nat → Prop} {ln n : Nat} {b : Nat → Nat} {s : Nat → Int} {m : Nat → Nat} (hW : WIC Γ P ln n b) (hl : (Γ 5).1 1 = J (ln : Nat)) (hln : ln ≤ 39000) (hP : ∀ i, P i → i < 4200 ∧ (Γ 1).2.1 7 i = J ((s i).toNat * 65536 + m i : Nat) ∧ 1 ≤ s i ∧ s i ≤ 7 ∧ m i ≤ 120) : ∃ Δ, F_X0_link Γ = some ((0 : Int32), Δ) ∧ (∀ r, r ≠ 5 → Δ r = Γ r) ∧ (Δ 5).1 = (Γ 5).1 ∧ (∀ k, k ≠ 0 → (Δ 5).2.1 k = (Γ 5).2.1 k) ∧ (Δ 5).2.2 = (Γ 5).2.2 ∧ ∀ k, k < n → (∀ o : Int, 0 ≤ o → o ≤ 32 → op1 Γ (b k) o → op1 Δ (b k) o ∧ b (k + 1) = b k + 1) ∧ (∀ o v : Int, 33 ≤ o → o ≤ 50 → ¬ isNO o → op3 Γ (b k) o v → op3 Δ (b k) o v ∧ b (k + 1) = b k + 3) ∧ (∀ (o : Int) (i : Nat), isNO o → i < 65536 → op3 Γ (b k) o (i : Nat) → op3 Δ (b k) (lnkO o (s i)) (m i : Nat) ∧ b (k + 1) = b k + 3) := by
  have hlt := WIC_lt hW
  obtain ⟨w0, w1, w2⟩ := hW
  have hn : n ≤ ln := by have := hlt n 0 (by omega); rw [Nat.zero_add] at this; omega
  have bmono : ∀ k, k ≤ n → b k ≤ ln := fun k hk => by
    have := hlt (n - k) k (by omega)
    rw [show k + (n - k) = n by omega] at this; omega
  have key : Ok (F_X0_link Γ) (fun u => u.1 = 0 ∧ (∀ r, r ≠ 5 → u.2 r = Γ r) ∧ (u.2 5).1 = (Γ 5).1 ∧ (∀ k, k ≠ 0 → (u.2 5).2.1 k = (Γ 5).2.1 k) ∧ (u.2 5).2.2 = (Γ 5).2.2 ∧ ∀ k, k < n → (∀ o : Int, 0 ≤ o → o ≤ 32 → op1 Γ (b k) o → op1 u.2 (b k) o ∧ b (k + 1) = b k + 1) ∧ (∀ o v : Int, 33 ≤ o → o ≤ 50 → ¬ isNO o → op3 Γ (b k) o v → op3 u.2 (b k) o v ∧ b (k + 1) = b k + 3) ∧ (∀ (o : Int) (i : Nat), isNO o → i < 65536 → op3 Γ (b k) o (i : Nat) → op3 u.2 (b k) (lnkO o (s i)) (m i : Nat) ∧ b (k + 1) = b k + 3)) := by
    rw [link_eq]
    refine Ok_loop (P := fun t z => ∃ (k : Nat) (Δ : HS), k ≤ n ∧ t = (J (b k : Nat), J (k : Nat), Δ) ∧ (∀ r, r ≠ 5 → Δ r = Γ r) ∧ (Δ 5).1 = (Γ 5).1 ∧ (∀ k, k ≠ 0 → (Δ 5).2.1 k = (Γ 5).2.1 k) ∧ (Δ 5).2.2 = (Γ 5).2.2 ∧ (∀ x, b k ≤ x → (Δ 5).2.1 0 x = (Γ 5).2.1 0 x) ∧ (∀ k', k' < k → (∀ o : Int, 0 ≤ o → o ≤ 32 → op1 Γ (b k') o → op1 Δ (b k') o ∧ b (k' + 1) = b k' + 1) ∧ (∀ o v : Int, 33 ≤ o → o ≤ 50 → ¬ isNO o → op3 Γ (b k') o v → op3 Δ (b k') o v ∧ b (k' + 1) = b k' + 3) ∧ (∀ (o : Int) (i : Nat), isNO o → i < 65536 → op3 Γ (b k') o (i : Nat) → op3 Δ (b k') (lnkO o (s i)) (m i : Nat) ∧ b (k' + 1) = b k' + 3)) ∧ z = n - k) ?_ FU _ n (FU_gt (by omega)) ⟨0, Γ, by omega, by rw [w0]; rfl, fun _ _ => rfl, rfl, fun _ _ => rfl, rfl, fun _ _ => rfl, fun k' hk => by omega, by omega⟩
    rintro again t z ⟨k, Δ, hk, rfl, d1, d2, d3, d4, d5, d6, rfl⟩ ih
    unfold Lk1
    dsimp only
    have hbk := bmono k hk
    rw [if_neg (show ¬ (40000 : Int32) ≤ J (k : Nat) by rw [show (40000 : Int32) = J 40000 from rfl, J_le (by omega) (by omega) (by omega) (by omega)]; omega), show (Δ 5).1 1 = J (ln : Nat) by rw [d2, hl]]
    by_cases q : k < n
    · have hlk := hlt (n - k) k (by omega)
      rw [show k + (n - k) = n by omega, w1] at hlk
      rw [if_neg (show ¬ J (ln : Nat) ≤ J (b k : Nat) by rw [J_le (by omega) (by omega) (by omega) (by omega)]; omega)]
      have hΔl : (Δ 5).1 1 = J (ln : Nat) := by rw [d2, hl]
      have em : mrg (fun j => j == 5) Δ Δ = Δ := mrgR5 (fun _ _ => rfl)
      have jo : ∀ (o c : Int), 0 ≤ o ∧ o ≤ 50 → 0 ≤ c ∧ c ≤ 1000 → o ≠ c → ¬ J o = J c := fun o c h1 h2 h3 h => h3 (by rw [J_eq (by omega) (by omega) (by omega) (by omega)] at h; exact h)
      have ek : J (k : Nat) + 1 = J (k + 1 : Nat) := by rw [J_lit, J_add]; rfl
      -- the bytes of what was done lie below
      have keep : ∀ E : HS, (∀ x, x < b k → (E 5).2.1 0 x = (Δ 5).2.1 0 x) → ∀ k', k' < k → (∀ o : Int, 0 ≤ o → o ≤ 32 → op1 Γ (b k') o → op1 E (b k') o ∧ b (k' + 1) = b k' + 1) ∧ (∀ o v : Int, 33 ≤ o → o ≤ 50 → ¬ isNO o → op3 Γ (b k') o v → op3 E (b k') o v ∧ b (k' + 1) = b k' + 3) ∧ (∀ (o : Int) (i : Nat), isNO o → i < 65536 → op3 Γ (b k') o (i : Nat) → op3 E (b k') (lnkO o (s i)) (m i : Nat) ∧ b (k' + 1) = b k' + 3) := by
        intro E hE k' hk'
        obtain ⟨f1, f2, f3⟩ := d6 k' hk'
        have g := hlt (k - (k' + 1)) (k' + 1) (by omega)
        rw [show k' + 1 + (k - (k' + 1)) = k by omega] at g
        refine ⟨fun o o1 o2 ho => ?_, fun o v o1 o2 hn ho => ?_, fun o i hn hi ho => ?_⟩
        · obtain ⟨g1, g2⟩ := f1 o o1 o2 ho
          refine ⟨?_, g2⟩
          unfold op1 at g1 ⊢
          rw [hE _ (by omega)]; exact g1
        · obtain ⟨⟨g1, g1', g1''⟩, g2⟩ := f2 o v o1 o2 hn ho
          exact ⟨⟨by rw [hE _ (by omega)]; exact g1, by rw [hE _ (by omega)]; exact g1', by rw [hE _ (by omega)]; exact g1''⟩, g2⟩
        · obtain ⟨⟨g1, g1', g1''⟩, g2⟩ := f3 o i hn hi ho
          exact ⟨⟨by rw [hE _ (by omega)]; exact g1, by rw [hE _ (by omega)]; exact g1', by rw [hE _ (by omega)]; exact g1''⟩, g2⟩
      rcases w2 k q with ⟨o, a1, a2, a3, a4⟩ | ⟨o, v, a1, a2, a3, a4, a5⟩
      · have a1' : op1 Δ (b k) o := by unfold op1 at a1 ⊢; rw [d5 _ (Nat.le_refl _)]; exact a1
        rw [c_op1 hΔl (by omega) (by omega) a1' (by omega), Option.bind_some, bndE]
        dsimp only
        rw [em, if_neg (show ¬ J o = 49 from jo o 49 (by omega) (by omega) (by omega)), if_neg (show ¬ J o = 50 from jo o 50 (by omega) (by omega) (by omega)), if_neg (show ¬ J o = 36 from jo o 36 (by omega) (by omega) (by omega)), if_neg (show ¬ J o = 39 from jo o 39 (by omega) (by omega) (by omega)), if_neg (show ¬ J o = 40 from jo o 40 (by omega) (by omega) (by omega))]
        unfold Lj16
        rw [c_width (by omega), Option.bind_some, bndE, bndE, if_pos (by omega)]
        dsimp only
        refine ih _ (n - (k + 1)) (by omega) ⟨k + 1, Δ, by omega, by rw [ek, a4, show J (b k : Nat) + 1 = J (b k + 1 : Nat) by rw [J_lit, J_add]; rfl], d1, d2, d3, d4, fun x hx => d5 x (by omega), fun k' hk' => ?_, rfl⟩
        by_cases e : k' = k
        · subst e
          refine ⟨fun o' o1 o2 ho => ⟨by unfold op1 at ho ⊢; rw [d5 _ (Nat.le_refl _)]; exact ho, a4⟩, fun o' v o1 o2 hn ho => ?_, fun o' i hn hi ho => ?_⟩
          · exfalso
            have := a1.symm.trans ho.1
            rw [J_eq (by omega) (by omega) (by omega) (by omega)] at this; omega
          · exfalso
            have := a1.symm.trans ho.1
            unfold isNO at hn
            rw [J_eq (by omega) (by omega) (by omega) (by omega)] at this; omega
        · exact keep Δ (fun _ _ => rfl) k' (by omega)
      · have hb3 : b k + 3 ≤ ln := by rw [← a4]; exact bmono (k + 1) (by omega)
        have a1' : op3 Δ (b k) o v := ⟨by rw [d5 _ (by omega)]; exact a1.1, by rw [d5 _ (by omega)]; exact a1.2.1, by rw [d5 _ (by omega)]; exact a1.2.2⟩
        have a0 : op1 Δ (b k) o := a1'.1
        have eb : J (b k : Nat) + 3 = J (b k + 3 : Nat) := by rw [J_lit, J_add]; rfl
        have eb1 : J (b k : Nat) + 1 = J (b k + 1 : Nat) := by rw [J_lit, J_add]; rfl
        rw [c_op1 hΔl (by omega) (by omega) a0 (by omega), Option.bind_some, bndE]
        dsimp only
        rw [em]
        by_cases hno : isNO o
        · obtain ⟨i, rfl, hPi⟩ := a5 hno
          obtain ⟨i1, i2, i3, i4, i5⟩ := hP i hPi
          have go : Ok (Lj26 again (J (b k : Nat)) (J (k : Nat)) (J o) Δ) (fun u => u.1 = 0 ∧ (∀ r, r ≠ 5 → u.2 r = Γ r) ∧ (u.2 5).1 = (Γ 5).1 ∧ (∀ k, k ≠ 0 → (u.2 5).2.1 k = (Γ 5).2.1 k) ∧ (u.2 5).2.2 = (Γ 5).2.2 ∧ ∀ k, k < n → (∀ o : Int, 0 ≤ o → o ≤ 32 → op1 Γ (b k) o → op1 u.2 (b k) o ∧ b (k + 1) = b k + 1) ∧ (∀ o v : Int, 33 ≤ o → o ≤ 50 → ¬ isNO o → op3 Γ (b k) o v → op3 u.2 (b k) o v ∧ b (k + 1) = b k + 3) ∧ (∀ (o : Int) (i : Nat), isNO o → i < 65536 → op3 Γ (b k) o (i : Nat) → op3 u.2 (b k) (lnkO o (s i)) (m i : Nat) ∧ b (k + 1) = b k + 3)) := by
            have lr := lnkO_rng (s := s i) hno
            unfold Lj26
            rw [eb1, c_pair hΔl (by omega) (by omega) a1' (by omega), Option.bind_some]
            simp only [bndE]
            rw [em, q_g_at_in (n := 16001) (i := (i : Nat)) (by omega) (by omega) (by omega), Int.toNat_natCast, d1 1 (by omega), i2, shr16 (by omega), show ((s i).toNat * 65536 + m i) / 65536 = (s i).toNat by omega, show J ((s i).toNat : Nat) = J (s i) by congr 1; omega, c_linked hno ⟨i3, i4⟩, Option.bind_some]
            dsimp only
            rw [c_setB (by omega) (by omega), Option.bind_some]
            dsimp only
            rw [mrgR5 (fun r hr => by rw [cA_r, if_neg hr]), c_setP (by omega), Option.bind_some]
            dsimp only
            rw [mrgR5 (fun r hr => by rw [cA_r, if_neg hr, cA_r, if_neg hr])]
            unfold Lj16
            rw [c_width (by unfold isNO at hno; omega), Option.bind_some, if_neg (by omega)]
            simp only [bndE]
            generalize hE : (cA' (cA' (cA' Δ 5 0 (upd ((Δ 5).2.1 0) (b k) (J (lnkO o (s i))))) 5 0 (upd ((cA' Δ 5 0 (upd ((Δ 5).2.1 0) (b k) (J (lnkO o (s i)))) 5).2.1 0) (b k + 1) (cb1 ((s i).toNat * 65536 + m i : Nat)))) 5 0 (upd (upd ((cA' Δ 5 0 (upd ((Δ 5).2.1 0) (b k) (J (lnkO o (s i)))) 5).2.1 0) (b k + 1) (cb1 ((s i).toNat * 65536 + m i : Nat))) (b k + 1 + 1) (cb2 ((s i).toNat * 65536 + m i : Nat)))) = E
            have hA : (E 5).2.1 0 = upd (upd (upd ((Δ 5).2.1 0) (b k) (J (lnkO o (s i)))) (b k + 1) (cb1 (m i : Nat))) (b k + 2) (cb2 (m i : Nat)) := by
              obtain ⟨c1, c2⟩ := cb_mod (m := (s i).toNat * 65536 + m i) (v := m i) (by omega) (by omega) (by omega)
              rw [← hE, cA50, if_pos rfl, cA50, if_pos rfl, c1, c2]
            have hEr : ∀ r, r ≠ 5 → E r = Γ r := fun r hr => by rw [← hE, cA_r, if_neg hr, cA_r, if_neg hr, cA_r, if_neg hr]; exact d1 r hr
            have hE1 : (E 5).1 = (Γ 5).1 := by rw [← hE]; exact d2
            have hE2 : (E 5).2.2 = (Γ 5).2.2 := by rw [← hE]; exact d4
            have hEk : ∀ k, k ≠ 0 → (E 5).2.1 k = (Γ 5).2.1 k := fun k hk => by rw [← hE, cA50, if_neg hk, cA50, if_neg hk, cA50, if_neg hk]; exact d3 k hk
            refine ih _ (n - (k + 1)) (by omega) ⟨k + 1, E, by omega, by rw [ek, a4, eb], hEr, hE1, hEk, hE2, fun x hx => ?_, fun k' hk' => ?_, rfl⟩
            · rw [hA, upd_s, if_neg (by omega), upd_s, if_neg (by omega), upd_s, if_neg (by omega)]; exact d5 x (by omega)
            · by_cases e : k' = k
              · subst e
                refine ⟨fun o' o1 o2 ho => ?_, fun o' v o1 o2 hn ho => ?_, fun o' i' hn hi' ho => ?_⟩
                · exfalso
                  have := a1.1.symm.trans ho
                  rw [J_eq (by omega) (by omega) (by omega) (by omega)] at this; omega
                · exfalso
                  have := a1.1.symm.trans ho.1
                  rw [J_eq (by omega) (by omega) (by omega) (by omega)] at this
                  rw [← this] at hn; exact hn hno
                · have eo := a1.1.symm.trans ho.1
                  rw [J_eq (by omega) (by omega) (by unfold isNO at hn; omega) (by unfold isNO at hn; omega)] at eo
                  have ei : i = i' := cb_inj (by omega) hi' (a1.2.1.symm.trans ho.2.1) (a1.2.2.symm.trans ho.2.2)
                  subst ei
                  rw [← eo]
                  refine ⟨⟨?_, ?_, ?_⟩, a4⟩
                  · rw [hA, upd_s, if_neg (by omega), upd_s, if_neg (by omega), upd_s, if_pos rfl]
                  · rw [hA, upd_s, if_neg (by omega), upd_s, if_pos rfl]
                  · rw [hA, upd_s, if_pos rfl]
              · exact keep E (fun x hx => by rw [hA, upd_s, if_neg (by omega), upd_s, if_neg (by omega), upd_s, if_neg (by omega)]) k' (by omega)
          have hno' := hno
          unfold isNO at hno'
          rcases hno' with e | e | e | e | e
          · rw [if_pos (show J o = 49 by rw [e]; rfl)]; exact go
          · rw [if_neg (show ¬ J o = 49 from jo o 49 (by omega) (by omega) (by omega)), if_pos (show J o = 50 by rw [e]; rfl)]; exact go
          · rw [if_neg (show ¬ J o = 49 from jo o 49 (by omega) (by omega) (by omega)), if_neg (show ¬ J o = 50 from jo o 50 (by omega) (by omega) (by omega)), if_pos (show J o = 36 by rw [e]; rfl)]; exact go
          · rw [if_neg (show ¬ J o = 49 from jo o 49 (by omega) (by omega) (by omega)), if_neg (show ¬ J o = 50 from jo o 50 (by omega) (by omega) (by omega)), if_neg (show ¬ J o = 36 from jo o 36 (by omega) (by omega) (by omega)), if_pos (show J o = 39 by rw [e]; rfl)]; exact go
          · rw [if_neg (show ¬ J o = 49 from jo o 49 (by omega) (by omega) (by omega)), if_neg (show ¬ J o = 50 from jo o 50 (by omega) (by omega) (by omega)), if_neg (show ¬ J o = 36 from jo o 36 (by omega) (by omega) (by omega)), if_neg (show ¬ J o = 39 from jo o 39 (by omega) (by omega) (by omega)), if_pos (show J o = 40 by rw [e]; rfl)]; exact go
        · have hno2 := hno
          unfold isNO at hno2
          rw [if_neg (show ¬ J o = 49 from jo o 49 (by omega) (by omega) (by omega)), if_neg (show ¬ J o = 50 from jo o 50 (by omega) (by omega) (by omega)), if_neg (show ¬ J o = 36 from jo o 36 (by omega) (by omega) (by omega)), if_neg (show ¬ J o = 39 from jo o 39 (by omega) (by omega) (by omega)), if_neg (show ¬ J o = 40 from jo o 40 (by omega) (by omega) (by omega))]
          unfold Lj16
          rw [c_width (by omega), Option.bind_some, bndE, bndE, if_neg (by omega)]
          dsimp only
          refine ih _ (n - (k + 1)) (by omega) ⟨k + 1, Δ, by omega, by rw [ek, a4, eb], d1, d2, d3, d4, fun x hx => d5 x (by omega), fun k' hk' => ?_, rfl⟩
          by_cases e : k' = k
          · subst e
            refine ⟨fun o' o1 o2 ho => ?_, fun o' v' o1 o2 hn ho => ⟨⟨by rw [d5 _ (by omega)]; exact ho.1, by rw [d5 _ (by omega)]; exact ho.2.1, by rw [d5 _ (by omega)]; exact ho.2.2⟩, a4⟩, fun o' i hn hi ho => ?_⟩
            · exfalso
              have := a1.1.symm.trans ho
              rw [J_eq (by omega) (by omega) (by omega) (by omega)] at this; omega
            · exfalso
              have hn2 := hn
              unfold isNO at hn2
              have := a1.1.symm.trans ho.1
              rw [J_eq (by omega) (by omega) (by omega) (by omega)] at this
              rw [this] at hno; exact hno hn
          · exact keep Δ (fun _ _ => rfl) k' (by omega)
    · obtain rfl : k = n := by omega
      rw [w1, if_pos (show J (ln : Nat) ≤ J (ln : Nat) by rw [J_le (by omega) (by omega) (by omega) (by omega)]; omega)]
      exact Ok_some ⟨rfl, d1, d2, d3, d4, d6⟩
  obtain ⟨⟨x, Δ⟩, e, rfl, h⟩ := key
  exact ⟨Δ, e, h⟩
