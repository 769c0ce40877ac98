/-! the forms of verbs, alike -/
variable {T N : Nat} {kd vl rv : Nat → Int} {pl : Nat → Nat}
theorem VFE_of (hT : TKE T N kd vl rv pl) (hp : plm T pl) {σs : MS} {Γs : HS} {c : Nat} {ls is ps ds os es : Nat → Nat} {S : Nat → MS} {τ : MS} {Θ : HS} (h : SDN T N kd vl rv pl σs Γs c ls is S τ Θ) (hI : ITS kd vl rv pl σs Γs c ls is ps ds os es) (hl : ls c ≤ 39000) (hF : FD kd vl is c Θ) : VFE T kd vl rv Θ σs τ := by
  intro u hu hk h3 σ hA hK
  have hT1 := hT.1
  obtain ⟨e1, e2⟩ := kt hT hp h hu hk
  obtain ⟨hS, hS0, hm, hi, hfl, hc, hb, hr, hTB, hIk, hI2⟩ := h
  rw [hK.2.1, hK.2.2]
  rcases e2 with e2 | ⟨e29, ⟨b1, b2, b3, b4⟩ | ⟨w, z1, z2, z3, z4, z5, z6, z7⟩⟩
  · omega
  · have hv11 := vof_rng (vl u).toNat
    have hfr : frm Θ vl u = bform (nsF Θ vl u) := by
      unfold frm
      rw [hF.1 (nsF Θ vl u) (by omega) (by omega), J_toInt]
      · unfold bform; split <;> (try split) <;> omega
      · unfold bform; split <;> (try split) <;> omega
    rw [e29, b4]
    generalize nsF Θ vl u = v at *
    have le : ∀ a : Int, 0 ≤ a ∧ a < 1000 → (J a < J (v : Nat)) = (a < (v : Int)) := fun a ha => J_lt (by omega) (by omega) (by omega) (by omega)
    have eq : ∀ a : Int, 0 ≤ a ∧ a < 1000 → (J (v : Nat) = J a) = ((v : Int) = a) := fun a ha => J_eq (by omega) (by omega) (by omega) (by omega)
    unfold F_X12_nounsOf
    rw [if_neg (show ¬ (11 : Int32) < J (v : Nat) by rw [show (11 : Int32) = J 11 from rfl, le 11 (by omega)]; omega)]
    by_cases q1 : 3 < v
    · rw [if_pos (show (3 : Int32) < J (v : Nat) by rw [show (3 : Int32) = J 3 from rfl, le 3 (by omega)]; omega)]
      by_cases q2 : v = 9
      · rw [if_pos (show J (v : Nat) = 9 by rw [q2]; rfl)]
        exact ⟨2, rfl, by rw [hfr, q2]; rfl, by omega, by omega⟩
      · rw [if_neg (show ¬ J (v : Nat) = 9 from fun hh => by rw [show (9 : Int32) = J 9 from rfl, eq 9 (by omega)] at hh; omega)]
        by_cases q3 : v = 10
        · rw [if_pos (show J (v : Nat) = 10 by rw [q3]; rfl)]
          exact ⟨2, rfl, by rw [hfr, q3]; rfl, by omega, by omega⟩
        · rw [if_neg (show ¬ J (v : Nat) = 10 from fun hh => by rw [show (10 : Int32) = J 10 from rfl, eq 10 (by omega)] at hh; omega)]
          exact ⟨1, rfl, by rw [hfr]; unfold bform; rw [if_neg (by omega), if_neg (by omega)]; rfl, by omega, by omega⟩
    · rw [if_neg (show ¬ (3 : Int32) < J (v : Nat) by rw [show (3 : Int32) = J 3 from rfl, le 3 (by omega)]; omega)]
      exact ⟨0, rfl, by rw [hfr]; unfold bform; rw [if_neg (by omega), if_pos (by omega)]; rfl, by omega, by omega⟩
  · have kw : kd (is w) = 232 := by omega
    have hlm := row_lim hp hS hS0 hm hi hfl hc z1
    unfold limK at hlm
    rw [if_neg (by omega), if_pos kw, kw] at hlm
    have hlm : cN kd is 1 w < 60 := hlm
    have hns : nsF Θ vl u = cN kd is 1 w + 1 := by
      rw [z6]; unfold inum; rw [if_pos (by omega), kw]; rfl
    have h11 := cN_mono (kd := kd) (is := is) (q := 1) w 0
    rw [Nat.zero_add, show cN kd is 1 0 = 11 from rfl] at h11
    have lsm := is_le (ITS_lt hI).2 (a := w + 1) (b := c) (by omega) (Nat.le_refl _)
    have hD : VRB kd rv pl σs (ls w) (ls (w + 1)) (is w) (is (w + 1)) := by
      rcases (hI w z1).1 with a | a | a | a | a | a | a | a
      · omega
      · omega
      · exact a.2
      · have := a.2.1; omega
      · have := a.2.1; omega
      · have := a.1; omega
      · have := a.1; omega
      · have := a.1; omega
    obtain ⟨d1, d2, d3, d4, d5, d6, d7, cc, d8, d9, d10, d11, d12, d13⟩ := hD
    have hf := ((hF.2 w z1).1 kw)
    have hx : ls w + 2 + cc < ls (w + 1) := by rcases d13 with ⟨-, -, -, h, -⟩ | ⟨-, -, -, h, -⟩ <;> omega
    obtain ⟨en, en2⟩ := en_of (show ls w < 39990 by omega)
    obtain ⟨gn, gn2⟩ := en_of (show ls w + 2 + cc < 39990 by omega)
    have hfm : ∃ F : Nat, F ≤ 2 ∧ fmO kd (is (w + 1)) = (F : Int) ∧ σs.2 19 (ls w + 2 + cc) = J (F : Nat) := by
      unfold fmO
      rcases d13 with ⟨y1, y2, y3, y4, y5, -⟩ | ⟨y1, y2, y3, y4, y5, -⟩
      · refine ⟨(kd (is w + 1 + 2 * cc) - 213).toNat, by omega, ?_, ?_⟩
        · rw [show is (w + 1) - 2 = is w + 1 + 2 * cc by omega, if_neg (by omega)]; omega
        · rw [y5]; congr 1; omega
      · refine ⟨2, by omega, ?_, y5⟩
        rw [show is (w + 1) - 2 = is w + 2 + 2 * cc by omega, if_pos y2]; rfl
    obtain ⟨F, f1, f2, f3⟩ := hfm
    have hfr : frm Θ vl u = F := by
      unfold frm
      rw [hns, hf, f2, J_toInt (by omega) (by omega)]
    refine ⟨F, ?_, hfr, f1, by omega⟩
    rw [e29, z7, hns]
    unfold F_X12_nounsOf
    rw [if_pos (show (11 : Int32) < J ((cN kd is 1 w + 1 : Nat) : Int) by rw [show (11 : Int32) = J 11 from rfl, J_lt (by omega) (by omega) (by omega) (by omega)]; omega), if_neg en, bndE, en2, ag_21 hA d4 (by omega), d11, if_neg gn, gn2, ag_k hA (by omega), f3]
