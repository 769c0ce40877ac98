/-! a part of a room or thing: in both -/
variable {T N : Nat} {kd vl rv : Nat → Int} {pl : Nat → Nat}
theorem trait_or0 : ∀ a, a < 7 → ∀ x, x < 128 → Int32.ofNat x ||| (1 <<< ((Int32.ofNat (206 + a) - 206) &&& 31)) = Int32.ofNat (x ||| 1 <<< a) ∧ (x ||| 1 <<< a) < 128 ∧ ∀ b, b < 7 → (x ||| 1 <<< a).testBit b = (x.testBit b || decide (b = a)) := by decide +kernel
/-- what both know of room or thing n, but its words -/
def OBX (T : Nat) (kd rv vl : Nat → Int) (pl : Nat → Nat) (ρ : MS) (Γ : HS) (n : Nat) : Prop := ((ρ.2 122 n = 0 ∧ (Γ 4).2.1 3 n = J (-1)) ∨ (ρ.2 122 n = 1 ∧ ∃ t, t < T ∧ kd t = 4 ∧ ρ.2 48 n = J (pl t + 1 : Nat) ∧ ρ.2 49 n = J (rv t) ∧ (Γ 4).2.1 3 n = J (vl t))) ∧ (∀ d, 1 ≤ d → d ≤ 6 → ∃ m : Nat, m ≤ 120 ∧ ρ.2 51 (7 * n + d) = J (m : Nat) ∧ (Γ 4).2.1 6 (6 * n + d - 1) = J (m : Nat)) ∧ ∃ x : Nat, x < 128 ∧ (Γ 4).2.1 5 n = J (x : Nat) ∧ ∀ a, a < 7 → ρ.2 53 (7 * n + a) = if x.testBit a = true then 1 else 0
/-- only room or thing n's rows have changed, its words aside -/
def PFR (n : Nat) (σ τ : MS) : Prop := τ.1 = σ.1 ∧ (∀ k, k ≠ 48 → k ≠ 49 → k ≠ 122 → k ≠ 51 → k ≠ 53 → τ.2 k = σ.2 k) ∧ (∀ x, x ≠ n → τ.2 48 x = σ.2 48 x ∧ τ.2 49 x = σ.2 49 x ∧ τ.2 122 x = σ.2 122 x) ∧ ∀ y, ¬ (7 * n ≤ y ∧ y < 7 * n + 7) → τ.2 51 y = σ.2 51 y ∧ τ.2 53 y = σ.2 53 y
theorem PFR_rfl {n : Nat} {σ : MS} : PFR n σ σ := ⟨rfl, fun _ _ _ _ _ _ => rfl, fun _ _ => ⟨rfl, rfl, rfl⟩, fun _ _ => ⟨rfl, rfl⟩⟩
theorem lp_part {Θ : HS} {cl : List Int} {g : Int} {σs ρ : MS} {x hi i j n : Nat} {Γ Δ : HS} {again : Int32 × MS → MR} (hP : PRT kd rv pl g σs x hi i j) (hg : g = 1 ∨ g = 2) (hA : AGM σs ρ) (hKE : KE T kd vl rv Θ ρ) (hrv : ∀ u, u ≤ T → kd u = 2 → 0 ≤ rv u ∧ rv u < 8000) (hj : j ≤ T) (hx : hi < 39900) (hn : 1 ≤ n ∧ n ≤ 120) (h13 : (Γ 3).1 13 = J (n : Nat)) (hW : WEF Θ kd vl cl i Γ Δ) (hk : kd i ≠ 240) (hE : kd i = 239 → ksF Θ vl (i + 2) = 1 ∧ nsF Θ vl (i + 2) ≤ 120) (hO : OBX T kd rv vl pl ρ Γ n) : ∃ ρ', LpO (J (n : Nat)) again (J (x : Nat), ρ) = again (σs.2 22 x, ρ') ∧ OBX T kd rv vl pl ρ' Δ n ∧ PFR n ρ ρ' := by
  obtain ⟨p1, p2, p3, hP⟩ := hP
  have a17 : ρ.2 17 = σs.2 17 := hA.1 17 (by omega)
  have a18 : ρ.2 18 = σs.2 18 := hA.1 18 (by omega)
  have a19 : ρ.2 19 = σs.2 19 := hA.1 19 (by omega)
  have a22 : ρ.2 22 = σs.2 22 := hA.1 22 (by omega)
  have a20 : ∀ w : Int, σs.2 17 x = J w → (0 ≤ w ∧ w < 41) → ρ.2 20 x = σs.2 20 x := fun w h hw => hA.2.1 x (by rw [h, Ne, J_eq (by omega) (by omega) (by omega) (by omega)]; omega)
  obtain ⟨o1, o2, o3⟩ := hO
  -- only the traits' bits change
  have trait : ∀ (a : Nat) (ρ' : MS), a < 7 → kd i = 206 + a → ρ' = mA ρ 53 (upd (ρ.2 53) (7 * n + a) 1) → OBX T kd rv vl pl ρ' Δ n ∧ PFR n ρ ρ' := by
    rintro a ρ' ha hka rfl
    have hm := WEF_trt hW (by omega)
    have e4 : Δ 4 = (IWtrait (J (kd i)) Γ) 4 := hm.1 4 (by omega)
    obtain ⟨y, y1, y2, y3⟩ := o3
    obtain ⟨t1, t2, t3⟩ := trait_or0 a ha y y1
    have e5 : (Δ 4).2.1 5 n = J (y ||| 1 <<< a : Nat) := by
      rw [e4]
      unfold IWtrait
      rw [cA4g, if_pos rfl, h13, gput_at (by omega) (by omega), if_pos rfl, q_g_at_in (i := (n : Nat)) (by omega) (by omega) (by omega), Int.toNat_natCast, y2, hka]
      exact t1
    have eo : ∀ k, k ≠ 5 → (Δ 4).2.1 k = (Γ 4).2.1 k := fun k hk => by rw [e4]; unfold IWtrait; rw [cA4g, if_neg hk]
    refine ⟨⟨?_, fun d d1 d2 => ?_, y ||| 1 <<< a, t2, e5, fun b hb => ?_⟩, rfl, fun k _ _ _ _ k5 => by rw [mA_2, if_neg k5], fun z _ => ⟨rfl, rfl, rfl⟩, fun z hz => ⟨rfl, by rw [mA_2, if_pos rfl, upd_s, if_neg (by omega)]⟩⟩
    · rw [eo 3 (by omega)]; exact o1
    · rw [eo 6 (by omega)]; exact o2 d d1 d2
    · rw [mA_2, if_pos rfl, upd_s, t3 b hb]
      by_cases q : b = a
      · rw [if_pos (by omega), if_pos (by rw [decide_eq_true q, Bool.or_true])]
      · rw [if_neg (by omega), y3 b hb, decide_eq_false q, Bool.or_false]
  rcases hP with ⟨h1, h2, h3, h4, h5, h6, h7⟩ | ⟨⟨h0, h1⟩, h3, h4, h5, h6⟩ | ⟨⟨h0, h1⟩, h2, h3, h4, h5, h6, h7, h8, h9, ⟨m1, m2, m3⟩, h10⟩ | ⟨⟨h0, h1⟩, h2, h3, h4, h5, h6, h7, h8⟩ | ⟨⟨h0, h1⟩, h2, h3, h4, h5, h6, h7, h8, h9⟩ | ⟨cc, -, ⟨h0, h1⟩, -⟩ | ⟨⟨h0, h1⟩, h1', h3, h4, h5, h6, h7⟩
  · -- a description
    have e17 : ρ.2 17 x = J 10 := by rw [a17, h5]
    generalize hρ' : mA (mA (mA ρ 48 (upd (ρ.2 48) n (ρ.2 18 x + 1))) 49 (upd (ρ.2 49) n (ρ.2 20 x))) 122 (upd (ρ.2 122) n 1) = ρ'
    have v48 : ρ'.2 48 = upd (ρ.2 48) n (ρ.2 18 x + 1) := by rw [← hρ']; rfl
    have v49 : ρ'.2 49 = upd (ρ.2 49) n (ρ.2 20 x) := by rw [← hρ']; rfl
    have v122 : ρ'.2 122 = upd (ρ.2 122) n 1 := by rw [← hρ']; rfl
    have vo : ∀ k, k ≠ 48 → k ≠ 49 → k ≠ 122 → ρ'.2 k = ρ.2 k := fun k a b c => by rw [← hρ', mA_2, if_neg c, mA_2, if_neg b, mA_2, if_neg a]
    have e17' : ρ'.2 17 x = J 10 := by rw [vo 17 (by omega) (by omega) (by omega)]; exact e17
    have e4 : Δ 4 = (dsS Γ (J (vl (i + 1)))) 4 := (WEF_txt hW h1).1 4 (by omega)
    have eo : ∀ k, k ≠ 3 → (Δ 4).2.1 k = (Γ 4).2.1 k := fun k hk => by rw [e4]; unfold dsS; rw [cA4g, if_neg hk]
    refine ⟨ρ', ?_, ⟨Or.inr ⟨by rw [v122, upd_s, if_pos rfl], i + 1, by omega, h2, by rw [v48, upd_s, if_pos rfl, a18, h6, J_suc], by rw [v49, upd_s, if_pos rfl, a20 10 h5 (by omega), h7], ?_⟩, fun d d1 d2 => by rw [vo 51 (by omega) (by omega) (by omega), eo 6 (by omega)]; exact o2 d d1 d2, ?_⟩, by rw [← hρ']; rfl, fun k a b c _ _ => vo k a b c, fun z hz => ⟨by rw [v48, upd_s, if_neg hz], by rw [v49, upd_s, if_neg hz], by rw [v122, upd_s, if_neg hz]⟩, fun z _ => ⟨by rw [vo 51 (by omega) (by omega) (by omega)], by rw [vo 53 (by omega) (by omega) (by omega)]⟩⟩
    · rw [lpO_yes (by omega) hn.2 e17, hρ', lpT11_no (by omega) e17' (by omega), lpT12_no (by omega) e17' (by omega), lpT15_no (by omega) e17' (by omega), lpT14_no (by omega) e17' (by omega), vo 22 (by omega) (by omega) (by omega), a22]
    · rw [e4]; unfold dsS; rw [cA4g, if_pos rfl, h13, gput_at (by omega) (by omega), if_pos rfl]
    · rw [eo 5 (by omega), vo 53 (by omega) (by omega) (by omega)]; exact o3
  · -- dark
    have e17 : ρ.2 17 x = J 11 := by rw [a17, h5]
    obtain ⟨t1, t2⟩ := trait 6 (mA ρ 53 (upd (ρ.2 53) (7 * n + 6) 1)) (by omega) (by omega) rfl
    refine ⟨_, ?_, t1, t2⟩
    have e17' : (mA ρ 53 (upd (ρ.2 53) (7 * n + 6) 1)).2 17 x = J 11 := e17
    rw [lpO_no (by omega) e17 (by omega), lpT11_yes (by omega) hn.2 e17, lpT12_no (by omega) e17' (by omega), lpT15_no (by omega) e17' (by omega), lpT14_no (by omega) e17' (by omega), ← a22]
    rfl
  · -- an exit
    obtain ⟨k1, k2⟩ := hE h1
    have e17 : ρ.2 17 x = J 12 := by rw [a17, h7]
    have hv := hrv (i + 2) (by omega) h4
    have e29 : ρ.2 29 (rv (i + 2)).toNat = J (nsF Θ vl (i + 2) : Nat) := (hKE (i + 2) (by omega) h4).2.1 (by omega)
    obtain ⟨d, hd⟩ : ∃ d : Nat, kd (i + 1) = 199 + d := ⟨(kd (i + 1) - 199).toNat, by omega⟩
    generalize hρ' : mA ρ 51 (upd (ρ.2 51) (7 * n + d) (J (nsF Θ vl (i + 2) : Nat))) = ρ'
    have v51 : ρ'.2 51 = upd (ρ.2 51) (7 * n + d) (J (nsF Θ vl (i + 2) : Nat)) := by rw [← hρ']; rfl
    have vo : ∀ k, k ≠ 51 → ρ'.2 k = ρ.2 k := fun k a => by rw [← hρ', mA_2, if_neg a]
    have e17' : ρ'.2 17 x = J 12 := by rw [vo 17 (by omega)]; exact e17
    have e4 : Δ 4 = (exS Γ (J (kd (i + 1))) (J (nsF Θ vl (i + 2) : Nat))) 4 := (WEF_exi hW h1).1 4 (by omega)
    have eo : ∀ k, k ≠ 6 → (Δ 4).2.1 k = (Γ 4).2.1 k := fun k hk => by rw [e4]; unfold exS; rw [cA4g, if_neg hk]
    have e6 : ∀ z, (Δ 4).2.1 6 z = if z = 6 * n + d - 1 then J (nsF Θ vl (i + 2) : Nat) else (Γ 4).2.1 6 z := fun z => by
      rw [e4]
      unfold exS
      rw [cA4g, if_pos rfl, h13, hd, show J (n : Nat) * 6 + J (199 + (d : Int)) - 200 = J (6 * n + d - 1 : Nat) by rw [show (6 : Int32) = J 6 from rfl, show (200 : Int32) = J 200 from rfl, J_mul, J_add, J_sub]; congr 1; omega, gput_at (by omega) (by omega)]
    refine ⟨ρ', ?_, ⟨by rw [vo 122 (by omega), vo 48 (by omega), vo 49 (by omega), eo 3 (by omega)]; exact o1, fun d' d1 d2 => ?_, by rw [eo 5 (by omega), vo 53 (by omega)]; exact o3⟩, by rw [← hρ']; rfl, fun k _ _ _ a _ => vo k a, fun z _ => ⟨by rw [vo 48 (by omega)], by rw [vo 49 (by omega)], by rw [vo 122 (by omega)]⟩, fun z hz => ⟨by rw [v51, upd_s, if_neg (by omega)], by rw [vo 53 (by omega)]⟩⟩
    · rw [lpO_no (by omega) e17 (by omega), lpT11_no (by omega) e17 (by omega), lpT12_yes (y := x + 1) (d := d) (r := (rv (i + 2)).toNat) (by omega) hn.2 (by omega) (by omega) (by omega) e17 (by rw [a20 12 h7 (by omega), h10, hd]; congr 1; omega) (by rw [a19, h9]) (by rw [a19, m3, Int.toNat_of_nonneg hv.1]), e29, hρ', lpT15_no (by omega) e17' (by omega), lpT14_no (by omega) e17' (by omega), vo 22 (by omega), a22]
    · rw [v51, upd_s, e6]
      by_cases q : d' = d
      · rw [if_pos (by omega), if_pos (by omega)]
        exact ⟨_, k2, rfl, rfl⟩
      · rw [if_neg (by omega), if_neg (by omega)]
        exact o2 d' d1 d2
  · -- in the player
    have e17 : ρ.2 17 x = J 13 := by rw [a17, h5]
    have e4 : Δ 4 = (inS Γ (if kd (i + 1) = 228 then 1 else J (nsF Θ vl (i + 1) : Nat))) 4 := (WEF_in hW h1).1 4 (by omega)
    have eo : ∀ k, k ≠ 4 → (Δ 4).2.1 k = (Γ 4).2.1 k := fun k hk => by rw [e4]; unfold inS; rw [cA4g, if_neg hk]
    refine ⟨ρ, ?_, ⟨by rw [eo 3 (by omega)]; exact o1, fun d d1 d2 => by rw [eo 6 (by omega)]; exact o2 d d1 d2, by rw [eo 5 (by omega)]; exact o3⟩, PFR_rfl⟩
    rw [lpO_no (by omega) e17 (by omega), lpT11_no (by omega) e17 (by omega), lpT12_no (by omega) e17 (by omega), lpT15_no (by omega) e17 (by omega), lpT14_no (by omega) e17 (by omega), a22]
  · have e17 : ρ.2 17 x = J 13 := by rw [a17, h5]
    have e4 : Δ 4 = (inS Γ (if kd (i + 1) = 228 then 1 else J (nsF Θ vl (i + 1) : Nat))) 4 := (WEF_in hW h1).1 4 (by omega)
    have eo : ∀ k, k ≠ 4 → (Δ 4).2.1 k = (Γ 4).2.1 k := fun k hk => by rw [e4]; unfold inS; rw [cA4g, if_neg hk]
    refine ⟨ρ, ?_, ⟨by rw [eo 3 (by omega)]; exact o1, fun d d1 d2 => by rw [eo 6 (by omega)]; exact o2 d d1 d2, by rw [eo 5 (by omega)]; exact o3⟩, PFR_rfl⟩
    rw [lpO_no (by omega) e17 (by omega), lpT11_no (by omega) e17 (by omega), lpT12_no (by omega) e17 (by omega), lpT15_no (by omega) e17 (by omega), lpT14_no (by omega) e17 (by omega), a22]
  · exact absurd h1 hk
  · -- a trait
    have e17 : ρ.2 17 x = J 15 := by rw [a17, h5]
    obtain ⟨a, ha⟩ : ∃ a : Nat, kd i = 206 + a := ⟨(kd i - 206).toNat, by omega⟩
    obtain ⟨t1, t2⟩ := trait a (mA ρ 53 (upd (ρ.2 53) (7 * n + a) 1)) (by omega) ha rfl
    refine ⟨_, ?_, t1, t2⟩
    have e17' : (mA ρ 53 (upd (ρ.2 53) (7 * n + a) 1)).2 17 x = J 15 := e17
    rw [lpO_no (by omega) e17 (by omega), lpT11_no (by omega) e17 (by omega), lpT12_no (by omega) e17 (by omega), lpT15_yes (a := a) (by omega) hn.2 (by omega) e17 (by rw [a20 15 h5 (by omega), h7, ha]; congr 1; omega), lpT14_no (by omega) e17' (by omega), ← a22]
    rfl
