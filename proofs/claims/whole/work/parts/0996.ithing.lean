/-! things are told and declared alike -/
variable {T N : Nat} {kd vl rv : Nat → Int} {pl : Nat → Nat}
theorem P17_agA {σ τ : MS} {t hi i j : Nat} (hA : agA σ τ) (h : P17 kd rv pl σ t hi i j) : P17 kd rv pl τ t hi i j := by
  rcases h with ⟨h1, h2, c, h3, h4, h5, h6, h7⟩ | ⟨h1, w, h2, h3⟩
  · exact Or.inl ⟨h1, by rw [hA 17 (by omega) (by omega)]; exact h2, c, h3, h4, h5, by rw [hA 19 (by omega) (by omega)]; exact h6, NMS_agA hA h7⟩
  · exact Or.inr ⟨h1, w, by rw [hA 17 (by omega) (by omega)]; exact h2, h3⟩
/-- what the words of the parts are -/
def PWD (kd : Nat → Int) (is js : Nat → Nat) (c : Nat) : Prop := ∀ k, k < c → is k < js k ∧ is (k + 1) = js k ∧ ((kd (is k) = 240 ∧ ∃ cc, 1 ≤ cc ∧ js k = is k + 2 * cc + 1 ∧ (∀ e, e < cc → kd (is k + 1 + 2 * e) = 2) ∧ ∀ e, e + 1 < cc → kd (is k + 1 + 2 * e + 1) = 44) ∨ (kd (is k) ≠ 240 ∧ qp (kd (is k)))) ∧ (∀ u, is k < u → u < js k → qp (kd u)) ∧ kd (js k - 1) = 59
theorem PWD_le {is js : Nat → Nat} {c : Nat} (h : PWD kd is js c) : ∀ d k, k + d ≤ c → is k + d ≤ is (k + d) := by
  intro d
  induction d with
  | zero => intro k _; exact Nat.le_refl _
  | succ d ih =>
    intro k hk
    have h1 := ih k (by omega)
    obtain ⟨h2, h3, -⟩ := h (k + d) (by omega)
    rw [show k + (d + 1) = k + d + 1 by omega, h3]; omega
theorem tpF_nGe (hp : plm T pl) (hpb : ∀ i, i ≤ T + 1 → pl i ≤ 5000) {is js : Nat → Nat} {c : Nat} (h : PWD kd is js c) (hT2 : is c ≤ T) : ∀ (d k b : Nat) (a : Int32 × Int32), k + d = c → nGe (pl (is k)) a (tpF kd pl is js a b k d) := by
  intro d
  induction d with
  | zero => intro k b a _; exact nGe_rfl
  | succ d ih =>
    intro k b a hk
    have hle := PWD_le h d (k + 1) (by omega)
    rw [show k + 1 + d = c by omega] at hle
    obtain ⟨h1, h2, h3, -⟩ := h k (by omega)
    have hpl : pl (is k) ≤ pl (is (k + 1)) := by have := hp (is k) (is (k + 1)) (by omega) (by omega); omega
    unfold tpF
    rcases h3 with ⟨q, cc, c1, c2, -⟩ | ⟨q, -⟩
    · rw [if_pos q, show (js k - is k - 1) / 2 = cc by omega]
      refine nGe_trans (nGe_le (twF_nGe hp hpb cc b (is k + 1) a (by omega)) ?_) (nGe_le (ih (k + 1) _ _ (by omega)) hpl)
      have := hp (is k) (is k + 1) (by omega) (by omega); omega
    · rw [if_neg q]
      exact nGe_le (ih (k + 1) _ _ (by omega)) hpl
theorem cl_parts (hT : TKE T N kd vl rv pl) (hp : plm T pl) (hpb : ∀ i, i ≤ T + 1 → pl i ≤ 5000) {Γ : HS} {is js : Nat → Nat} {c : Nat} (hc : TKc N kd vl pl Γ) (h16 : (Γ 3).1 16 = J 0) (h9 : (Γ 3).1 9 = J (-1)) (h : PWD kd is js c) (hT2 : is c ≤ T) : ∀ (d k b : Nat), k + d = c → b ≤ 10 → ((∃ b' : Nat, CW W2 (cI' Γ 3 14 (J (b : Nat))) (is k) (cI' Γ 3 14 (J (b' : Nat))) (is c)) ∧ ∀ a, tpF kd pl is js a b k d = a) ∨ (∃ w, is k ≤ w ∧ w < is c ∧ CF W2 pl (cI' Γ 3 14 (J (b : Nat))) (is k) 5 w ∧ ∀ a, nBeh (pl w) a → tpF kd pl is js a b k d = (J 5, J (pl w : Nat))) := by
  have hNN := TKE_N hT
  intro d
  induction d with
  | zero =>
    intro k b hk hb
    obtain rfl : k = c := by omega
    exact Or.inl ⟨⟨b, CW_rfl⟩, fun a => rfl⟩
  | succ d ih =>
    intro k b hk hb
    have hle := PWD_le h d (k + 1) (by omega)
    rw [show k + 1 + d = c by omega] at hle
    obtain ⟨h1, h2, h3, h4, h5⟩ := h k (by omega)
    have hΘ : ∀ v, TKc N kd vl pl (cI' Γ 3 14 v) := fun v => ⟨hc.1, hc.2⟩
    rcases h3 with ⟨q, cc, c1, c2, c3, c4⟩ | ⟨q, q2⟩
    · have e59 : kd (is k + 1 + 2 * cc - 1) = 59 := by rw [show is k + 1 + 2 * cc - 1 = js k - 1 by omega]; exact h5
      have e1 := c_count (b := b) hT (hΘ (J (b : Nat))) (show ((cI' Γ 3 14 (J (b : Nat))) 3).1 16 = J 0 from h16) (i := is k + 1) (c := cc) (by omega) c3 c4 (by rw [e59]; omega) c1 hb rfl
      have hqf : qf (kd (is k)) := by rw [q]; unfold qf; omega
      have et : ∀ a, tpF kd pl is js a b k (d + 1) = tpF kd pl is js (twF pl a b (is k + 1) cc) (b + cc) (k + 1) d := by
        intro a
        show (if kd (is k) = 240 then _ else _) = _
        rw [if_pos q, show (js k - is k - 1) / 2 = cc by omega]
      by_cases q10 : b + cc ≤ 10
      · rw [if_pos q10, cI_cI] at e1
        have e2 : F_X4_tellWord (J (is k : Nat)) (cI' Γ 3 14 (J (b : Nat))) = some ((0 : Int32), cI' Γ 3 14 (J (b + cc : Nat))) := by
          rw [tw_240 hT (hΘ _) (by omega) q, e1]; rfl
        have w1 : CW W2 (cI' Γ 3 14 (J (b : Nat))) (is k) (cI' Γ 3 14 (J (b + cc : Nat))) (is k + 1) := CW_go hT (hΘ _) (by omega) h16 e2 (fs_q hT (hΘ _) (by omega) hqf) rfl
        have w2 := W2_p hT (hΘ (J (b + cc : Nat))) h16 h9 (i := is k + 1) (j := is (k + 1)) (by omega) (by omega) (fun t t1 t2 => h4 t (by omega) (by omega))
        rcases ih (k + 1) (b + cc) (by omega) q10 with ⟨⟨b', w3⟩, t1⟩ | ⟨w, x1, x2, x3, x4⟩
        · exact Or.inl ⟨⟨b', CW_trans w1 (CW_trans w2 w3)⟩, fun a => by rw [et, twF_no cc b (is k + 1) q10, t1]⟩
        · refine Or.inr ⟨w, by omega, x2, CW_CF w1 (CW_CF w2 x3 cfM_rfl) (fun r _ r3 _ _ _ _ => by rw [cI_r, if_neg r3, cI_r, if_neg r3]), fun a ha => by rw [et, twF_no cc b (is k + 1) q10, x4 a ha]⟩
      · rw [if_neg q10, cI_cI] at e1
        have e2 : F_X4_tellWord (J (is k : Nat)) (cI' Γ 3 14 (J (b : Nat))) = some ((0 : Int32), failS (cI' Γ 3 14 (J (11 : Nat))) pl 5 (is k + 1 + 2 * (10 - b))) := by
          rw [tw_240 hT (hΘ _) (by omega) q, e1]; rfl
        refine Or.inr ⟨is k + 1 + 2 * (10 - b), by omega, by omega, ?_, fun a ha => ?_⟩
        · refine tw_fail hT (hΘ _) h16 (by omega) e2 (fs_q hT ⟨hc.1, hc.2⟩ (by omega) hqf) ⟨hc.1, hc.2⟩ rfl rfl (by omega) (fun r b1 b3 b4 b5 b6 b7 => ?_)
          rw [failS_cfM r b1 b3 b4 b5 b6 b7, cI_r, if_neg b3, cI_r, if_neg b3]
        · rw [et, twF_yes hp hpb cc b (is k + 1) a (by omega) hb (by omega) ha]
          have hpl := hp (is k + 1 + 2 * (10 - b)) (is (k + 1)) (by omega) (by omega)
          exact nGe_keep (tpF_nGe hp hpb h hT2 d (k + 1) (b + cc) _ (by omega)) rfl (by omega) (by omega) (hpb _ (by omega))
    · have et : ∀ a, tpF kd pl is js a b k (d + 1) = tpF kd pl is js a b (k + 1) d := by
        intro a
        show (if kd (is k) = 240 then _ else _) = _
        rw [if_neg q]
      have w2 := W2_p hT (hΘ (J (b : Nat))) h16 h9 (i := is k) (j := is (k + 1)) (by omega) (by omega) (fun t t1 t2 => by
        by_cases e : t = is k
        · rw [e]; exact q2
        · exact h4 t (by omega) (by omega))
      rcases ih (k + 1) b (by omega) hb with ⟨⟨b', w3⟩, t1⟩ | ⟨w, x1, x2, x3, x4⟩
      · exact Or.inl ⟨⟨b', CW_trans w2 w3⟩, fun a => by rw [et, t1]⟩
      · exact Or.inr ⟨w, by omega, x2, CW_CF w2 x3 cfM_rfl, fun a ha => by rw [et, x4 a ha]⟩
