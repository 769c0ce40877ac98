/-! the row at a def's list -/
variable {T N : Nat} {kd vl rv : Nat → Int} {pl : Nat → Nat}
def FZ (R : HR) : Prop := ∀ u, R = some u → (u.2 3).1 16 ≠ 0
theorem FZ_some {Δ : HS} {x : Int32} (h : (Δ 3).1 16 ≠ 0) : FZ (some (x, Δ)) := fun u e => by injection e with e; rw [← e]; exact h
theorem FZ_none : FZ none := fun u e => by cases e
theorem FZ_bind {A : HR} {f : Int32 × HS → HR} (h : FZ A) (g : ∀ u, (u.2 3).1 16 ≠ 0 → FZ (f u)) : FZ (A.bind f) := fun u e => by
  cases A with
  | none => cases e
  | some a => exact g a (h a rfl) u e
theorem FZ_ite {p : Prop} [Decidable p] {A B : HR} (h : FZ A) (g : FZ B) : FZ (if p then A else B) := by
  by_cases q : p
  · rw [if_pos q]; exact h
  · rw [if_neg q]; exact g
theorem fz_kind {Δ : HS} (h : (Δ 3).1 16 ≠ 0) (a : Int32) : FZ (F_X10_kindOf a Δ) := FZ_ite (FZ_some h) (FZ_ite (FZ_some h) (FZ_ite (FZ_some h) (FZ_ite FZ_none (FZ_some h))))
theorem fz_worth {Δ : HS} (h : (Δ 3).1 16 ≠ 0) (a : Int32) : FZ (F_X10_worthOf a Δ) := FZ_ite (FZ_some h) (FZ_ite (FZ_some h) (FZ_some h))
theorem fz_fail {Δ : HS} (h : (Δ 3).1 16 ≠ 0) (a b : Int32) : FZ (F_X4_fail a b Δ) := by
  unfold F_X4_fail
  rw [if_neg (show ¬ (Δ 3).1 16 = 0 from h)]
  exact FZ_some h
theorem fz_local {Δ : HS} (h : (Δ 3).1 16 ≠ 0) (a b : Int32) : FZ (F_X4_tellLocal a b Δ) := by
  unfold F_X4_tellLocal
  simp only [bndE]
  refine FZ_bind (fz_worth h _) (fun u hu => ?_)
  have h1 : ((mrg (fun j => j == 1) Δ u.2) 3).1 16 ≠ 0 := h
  exact FZ_ite (FZ_ite (FZ_ite (FZ_bind (fz_fail h1 _ _) (fun v hv => FZ_some hv)) (FZ_some h1)) (FZ_bind (fz_fail h1 _ _) (fun v hv => FZ_some hv))) (FZ_bind (fz_fail h1 _ _) (fun v hv => FZ_some hv))
theorem fz_see {Δ : HS} (h : (Δ 3).1 16 ≠ 0) (a : Int32) : FZ (F_X4_see a Δ) := fun u e => by
  obtain ⟨Δ', e1, e2⟩ := see_any a Δ
  rw [e1] at e
  injection e with e
  rw [← e]
  show (Δ' 3).1 16 ≠ 0
  rw [m3_16 e2]; exact h
theorem fz_dl : ∀ (n : Nat) (l : Int32) (Γ : HS), (Γ 3).1 16 ≠ 0 → FZ (loopF Dl1 n (l, Γ)) := by
  intro n
  induction n with
  | zero => intro l Γ _; exact FZ_none
  | succ n ih =>
    intro l Γ h
    rw [Dl1_s]
    simp only [bndE]
    refine FZ_ite (FZ_some h) (FZ_bind (fz_kind h _) (fun u hu => ?_))
    have h1 : ((mrg (fun j => j == 1) Γ u.2) 3).1 16 ≠ 0 := h
    have fin : ∀ a : Int32, FZ ((F_X4_tellLocal l a (mrg (fun j => j == 1) Γ u.2)).bind fun u_29 => (F_X10_worthOf l u_29.2).bind fun u_31 => (F_X4_see u_31.1 (mrg (fun j => j == 1) u_29.2 u_31.2)).bind fun u_35 => loopF Dl1 n (l + 2, u_35.2)) := fun a => FZ_bind (fz_local h1 _ _) (fun v hv => FZ_bind (fz_worth hv _) (fun w hw => FZ_bind (fz_see (show ((mrg (fun j => j == 1) v.2 w.2) 3).1 16 ≠ 0 from hv) _) (fun z hz => ih _ _ hz)))
    exact FZ_ite (FZ_ite (fin _) (fin _)) (FZ_some h1)
def F1 (Γ : HS) (R : HR) : Prop := ∀ u, R = some u → u.2 1 = Γ 1
theorem F1_some {Γ Δ : HS} {x : Int32} (h : Δ 1 = Γ 1) : F1 Γ (some (x, Δ)) := fun u e => by injection e with e; rw [← e]; exact h
theorem F1_none {Γ : HS} : F1 Γ none := fun u e => by cases e
theorem F1_bind {Γ : HS} {A : HR} {f : Int32 × HS → HR} (h : F1 Γ A) (g : ∀ u, u.2 1 = Γ 1 → F1 Γ (f u)) : F1 Γ (A.bind f) := fun u e => by
  cases A with
  | none => cases e
  | some a => exact g a (h a rfl) u e
theorem F1_ite {Γ : HS} {p : Prop} [Decidable p] {A B : HR} (h : F1 Γ A) (g : F1 Γ B) : F1 Γ (if p then A else B) := by
  by_cases q : p
  · rw [if_pos q]; exact h
  · rw [if_neg q]; exact g
theorem f1_kind {Γ Δ : HS} (h : Δ 1 = Γ 1) (a : Int32) : F1 Γ (F_X10_kindOf a Δ) := F1_ite (F1_some h) (F1_ite (F1_some h) (F1_ite (F1_some h) (F1_ite F1_none (F1_some h))))
theorem f1_worth {Γ Δ : HS} (h : Δ 1 = Γ 1) (a : Int32) : F1 Γ (F_X10_worthOf a Δ) := F1_ite (F1_some h) (F1_ite (F1_some h) (F1_some h))
theorem f1_place {Γ Δ : HS} (h : Δ 1 = Γ 1) (a : Int32) : F1 Γ (F_X10_placeOf a Δ) := F1_ite (F1_some h) (F1_ite (F1_some h) (F1_some h))
theorem f1_mrg {Γ Δ Θ : HS} (i : Θ 1 = Γ 1) : (mrg (fun j => j == 1) Δ Θ) 1 = Γ 1 := i
theorem f1_cI {Γ Δ : HS} {k : Nat} {v : Int32} (h : Δ 1 = Γ 1) : (cI' Δ 3 k v) 1 = Γ 1 := h
theorem f1_fail {Γ Δ : HS} (h : Δ 1 = Γ 1) (a b : Int32) : F1 Γ (F_X4_fail a b Δ) := by
  unfold F_X4_fail
  simp only [bndE]
  exact F1_ite (F1_bind (f1_place (f1_cI h) b) (fun u hu => F1_some (f1_cI (f1_mrg hu)))) (F1_some h)
theorem f1_local {Γ Δ : HS} (h : Δ 1 = Γ 1) (a b : Int32) : F1 Γ (F_X4_tellLocal a b Δ) := by
  unfold F_X4_tellLocal
  simp only [bndE]
  refine F1_bind (f1_worth h _) (fun u hu => ?_)
  have h1 : (mrg (fun j => j == 1) Δ u.2) 1 = Γ 1 := f1_mrg hu
  exact F1_ite (F1_ite (F1_ite (F1_bind (f1_fail h1 _ _) (fun v hv => F1_some hv)) (F1_some h1)) (F1_bind (f1_fail h1 _ _) (fun v hv => F1_some hv))) (F1_bind (f1_fail h1 _ _) (fun v hv => F1_some hv))
theorem f1_see {Γ Δ : HS} (h : Δ 1 = Γ 1) (a : Int32) : F1 Γ (F_X4_see a Δ) := fun u e => by
  obtain ⟨Δ', e1, e2⟩ := see_any a Δ
  rw [e1] at e
  injection e with e
  rw [← e]
  show Δ' 1 = _
  rw [e2.1 1 (by omega)]; exact h
theorem f1_dl {Γ0 : HS} : ∀ (n : Nat) (l : Int32) (Γ : HS), Γ 1 = Γ0 1 → F1 Γ0 (loopF Dl1 n (l, Γ)) := by
  intro n
  induction n with
  | zero => intro l Γ _; exact F1_none
  | succ n ih =>
    intro l Γ h
    rw [Dl1_s]
    simp only [bndE]
    refine F1_ite (F1_some h) (F1_bind (f1_kind h _) (fun u hu => ?_))
    have h1 : (mrg (fun j => j == 1) Γ u.2) 1 = Γ0 1 := f1_mrg hu
    have fin : ∀ a : Int32, F1 Γ0 ((F_X4_tellLocal l a (mrg (fun j => j == 1) Γ u.2)).bind fun u_29 => (F_X10_worthOf l u_29.2).bind fun u_31 => (F_X4_see u_31.1 (mrg (fun j => j == 1) u_29.2 u_31.2)).bind fun u_35 => loopF Dl1 n (l + 2, u_35.2)) := fun a => F1_bind (f1_local h1 _ _) (fun v hv => F1_bind (f1_worth hv _) (fun w hw => F1_bind (f1_see (f1_mrg hw) _) (fun z hz => ih _ _ hz)))
    exact F1_ite (F1_ite (fin _) (fin _)) (F1_some h1)
theorem ext_id {f : Nat → Nat} {k v : Nat} (h : v = f k) : extS f k v = f := by
  funext z
  unfold extS
  by_cases q : z = k
  · rw [if_pos q, h, q]
  · rw [if_neg q]
theorem g_list (hT : TKE T N kd vl rv pl) {c i : Nat} (hk2 : ∀ z, z < c → kd (i + 2 * z) = 2) (hend : kd (i + 2 * c) ≠ 2) (hic : i + 2 * c ≤ T) {u : Int32 × HS} (hu : (u.2 3).1 16 = 0) : ∀ (d k n : Nat) (Γ : HS), k + d = c → TKc N kd vl pl Γ → SC T kd vl Γ k k 0 (fun z => i + 2 * z) (fun z => z) → loopF Dl1 n (J (i + 2 * k : Nat), Γ) = some u → ∃ H : Nat → HS, H k = Γ ∧ (∀ z, k ≤ z → z < c → F_X4_see (J (vl (i + 2 * z))) (H z) = some ((0 : Int32), H (z + 1))) ∧ H c = u.2 ∧ SC T kd vl u.2 c c 0 (fun z => i + 2 * z) (fun z => z) ∧ m3 Γ u.2 ∧ (k < c → c ≤ 6) := by
  obtain ⟨n1, n2, n3, n4⟩ := TKE_N hT
  intro d
  induction d with
  | zero =>
    intro k n Γ hk hc hS hl
    obtain rfl : k = c := by omega
    cases n with
    | zero => cases hl
    | succ n =>
      rw [dl_step hT hc (show i + 2 * k < N by omega), if_neg hend] at hl
      injection hl with hl
      rw [← hl]
      exact ⟨fun _ => Γ, rfl, fun z z1 z2 => by omega, rfl, hS, m3_rfl, fun h => by omega⟩
  | succ d ih =>
    intro k n Γ hk hc hS hl
    have hkc : k < c := by omega
    have hk14 := hS.2.2.2.2.1
    cases n with
    | zero => cases hl
    | succ n =>
      have ht : i + 2 * k ≤ T := by omega
      by_cases h16 : (Γ 3).1 16 = J 0
      · rw [dl_step hT hc (show i + 2 * k < N by omega), if_pos (hk2 k hkc), c_tellLocal hT hc h16 ht (hk2 k hkc), Option.bind_some] at hl
        dsimp only at hl
        have no : ∀ f : Int, 0 < f ∧ f ≤ 6 → ((F_X10_worthOf (J (i + 2 * k : Nat)) (failS Γ pl f (i + 2 * k))).bind fun u_31 => (F_X4_see u_31.1 (mrg (fun j => j == 1) (failS Γ pl f (i + 2 * k)) u_31.2)).bind fun u_35 => loopF Dl1 n (J (i + 2 * k + 2 : Nat), u_35.2)) ≠ some u := by
          intro f hf e
          have h6 : ((failS Γ pl f (i + 2 * k)) 3).1 16 ≠ 0 := Jg6_ne hf
          have := FZ_bind (fz_worth h6 (J (i + 2 * k : Nat))) (f := fun u_31 => (F_X4_see u_31.1 (mrg (fun j => j == 1) (failS Γ pl f (i + 2 * k)) u_31.2)).bind fun u_35 => loopF Dl1 n (J (i + 2 * k + 2 : Nat), u_35.2)) (fun w hw => FZ_bind (fz_see (show ((mrg (fun j => j == 1) (failS Γ pl f (i + 2 * k)) w.2) 3).1 16 ≠ 0 from h6) _) (fun z hz => fz_dl n _ _ hz)) u e
          exact this hu
        by_cases qA : (Γ 3).2.1 2 (vl (i + 2 * k)).toNat = J 16001 ∧ (Γ 3).2.1 5 (vl (i + 2 * k)).toNat = J 0
        · rw [if_pos qA] at hl
          have h8 : (Γ 3).1 8 = J (k : Nat) := hS.2.1
          have e6 : (6 ≤ (Γ 3).1 8) = (6 ≤ k) := by
            rw [h8, show (6 : Int32) = J 6 from rfl, J_le (by omega) (by omega) (by omega) (by omega)]
            exact propext ⟨fun h => by omega, fun h => by omega⟩
          by_cases q6 : 6 ≤ k
          · rw [if_pos (show (6 : Int32) ≤ (Γ 3).1 8 by rw [e6]; exact q6), if_pos rfl] at hl
            exact absurd hl (no 5 (by omega))
          · rw [if_neg (show ¬ (6 : Int32) ≤ (Γ 3).1 8 by rw [e6]; exact q6), if_neg (by decide), c_worthOf hT hc (show i + 2 * k < N by omega), Option.bind_some, mrg1_id] at hl
            have es := c_see hT hS (show k < 14 by omega) ht (hk2 k hkc)
            rw [es, Option.bind_some] at hl
            have hfr : ∀ z, z < k → vl (i + 2 * z) ≠ vl (i + 2 * k) := fun z hz e => by
              obtain ⟨y1, y2, y3, y4, y5⟩ := hS.2.2.2.2.2.2.1 z hz
              rw [e, qA.2, J_eq (by omega) (by omega) (by omega) (by omega)] at y4; omega
            have hS2 := seeS_SC hT hS (show k < 14 by omega) ht (hk2 k hkc) hfr
            rw [ext_id rfl, ext_id rfl] at hS2
            have hl2 : loopF Dl1 n (J (i + 2 * (k + 1) : Nat), seeS Γ k k (vl (i + 2 * k))) = some u := by
              rw [show i + 2 * (k + 1) = i + 2 * k + 2 by omega]; exact hl
            obtain ⟨H, a1, a2, a3, a4, a5, a6⟩ := ih (k + 1) n _ (by omega) (m3_TKc seeS_m3 hc) hS2 hl2
            refine ⟨fun z => if z = k then Γ else H z, if_pos rfl, fun z z1 z2 => ?_, ?_, a4, m3_trans seeS_m3 a5, fun _ => by omega⟩
            · show F_X4_see _ (if z = k then Γ else H z) = some ((0 : Int32), if z + 1 = k then Γ else H (z + 1))
              rw [if_neg (show ¬ z + 1 = k by omega)]
              by_cases q : z = k
              · rw [if_pos q, q, a1]; exact es
              · rw [if_neg q]; exact a2 z (by omega) z2
            · show (if c = k then Γ else H c) = _
              rw [if_neg (by omega)]; exact a3
        · rw [if_neg qA] at hl
          exact absurd hl (no 4 (by omega))
      · exact absurd hu (fz_dl (n + 1) _ Γ h16 u hl)
/-- a def: up to the block -/
theorem g_def (hT : TKE T N kd vl rv pl) {G : Nat → HS} (hG : GRW T N kd vl pl G) {i b c : Nat} (hib : i + 3 + 2 * c ≤ b) (hb : b ≤ T) (hk : kd i = 235) (hk2 : ∀ z, z < c → kd (i + 3 + 2 * z) = 2) (hend : kd (i + 3 + 2 * c) ≠ 2) (hq : ∀ t, i + 1 ≤ t → t < b → qh (kd t)) (hZ : GZ T kd vl (G i)) : c ≤ 6 ∧ SC T kd vl (G b) c c 0 (fun z => i + 3 + 2 * z) (fun z => z) ∧ (G b 3).1 9 = J (-1) ∧ (G b 3).1 12 = J (kd i) ∧ (∀ t, i ≤ t → t ≤ b → (G t 3).1 11 = J 0) ∧ ∃ H : Nat → HS, AGR T kd vl (G i) (H 0) ∧ (∀ z, z < c → F_X4_see (J (vl (i + 3 + 2 * z))) (H z) = some ((0 : Int32), H (z + 1))) ∧ AGR T kd vl (cI' (H c) 3 12 (J (kd i))) (G (i + 1)) := by
  obtain ⟨n1, n2, n3, n4⟩ := TKE_N hT
  have hc := (hG.1 i (by omega)).1
  have h16 := (hG.1 (i + 1) (by omega)).2
  obtain ⟨x, u, y, e1, e2⟩ := hG.2 i (by omega)
  rw [tw_235 hT hc (by omega) hk] at e1
  cases hd : F_X4_tellDef (J (i : Nat)) (G i) with
  | none => rw [hd] at e1; cases e1
  | some w =>
    rw [hd, Option.bind_some] at e1
    have ew := some2 e1
    -- the list's loop
    have key : ∃ Γ1, FRM (G i) Γ1 ∧ loopF Dl1 FU (J (i : Nat) + 3, cI' Γ1 3 8 0) = some w := by
      rw [tellDef_eq] at hd
      cases h1 : F_X4_tellItem (J (i : Nat) + 1) 6 4 100 (G i) with
      | none => rw [h1] at hd; cases hd
      | some u1 =>
        have r1 := fr_item (FRM_rfl (Γ := G i)) _ _ _ _ u1 h1
        rw [h1, Option.bind_some] at hd
        cases h2 : F_X4_isTooLong (J (i : Nat)) u1.2 with
        | none => rw [h2] at hd; cases hd
        | some u3 =>
          have r2 := fr_long r1 _ u3 h2
          rw [h2, Option.bind_some] at hd
          simp only [bndE] at hd
          by_cases q : u3.1 = 0
          · rw [if_pos q] at hd
            exact ⟨u3.2, r2, hd⟩
          · rw [if_neg q] at hd
            cases h3 : F_X4_fail 5 (J (i : Nat) + 1) u3.2 with
            | none => rw [h3] at hd; cases hd
            | some u4 =>
              rw [h3, Option.bind_some] at hd
              exact ⟨u4.2, fr_fail r2 _ _ u4 h3, hd⟩
    obtain ⟨Γ1, r1, hl⟩ := key
    have a0 : AGR T kd vl (G i) (cI' Γ1 3 8 0) := by
      refine ⟨fun k hk' => ?_, (AGR_of r1.2).2⟩
      show upd _ _ _ _ = _
      rw [upd_s]
      by_cases q : k = 8
      · rw [if_pos q, q, hZ.1.2.1]; rfl
      · rw [if_neg q]; exact r1.2.1 k hk'
    have hc1 : TKc N kd vl pl (cI' Γ1 3 8 0) := ⟨by rw [cI_r, if_neg (by omega), r1.1]; exact hc.1, fun z hz => by rw [cI_r, if_neg (by omega), r1.1]; exact hc.2 z hz⟩
    have s0 : SC T kd vl (cI' Γ1 3 8 0) 0 0 0 (fun z => i + 3 + 2 * z) (fun z => z) := SC_AGR (SC_any hZ.1) a0
    rw [show J (i : Nat) + 3 = J (i + 3 + 2 * 0 : Nat) by rw [show (3 : Int32) = J 3 from rfl, J_add]; rfl] at hl
    have hu16 : (w.2 3).1 16 = 0 := by
      rw [← ew] at e2
      refine Classical.byContradiction (fun hne => ?_)
      have hkr := kd_le hT (show i < N by omega)
      -- following does not take a fault away
      have hcw : TKc N kd vl pl w.2 := by
        have z := f1_dl FU _ _ rfl w hl
        exact ⟨by rw [z]; exact hc1.1, fun z' hz => by rw [z]; exact hc1.2 z' hz⟩
      rw [fs_rt hT hcw (show i < N by omega) (by omega)] at e2
      have := some2 e2
      rw [← this] at h16
      exact hne h16
    obtain ⟨H, b1, b2, b3, b4, b5, b6⟩ := g_list hT hk2 hend (by omega) hu16 c 0 FU _ (by omega) hc1 s0 hl
    rw [← ew, fs_rt hT (m3_TKc b5 hc1) (show i < N by omega) (by omega)] at e2
    have eG := (some2 e2).symm
    have s1 : SC T kd vl (G (i + 1)) c c 0 (fun z => i + 3 + 2 * z) (fun z => z) := by rw [eG]; exact b4
    have b59 : (w.2 3).1 9 = J (-1) := by
      have : ∀ z, z ≤ c → (H z 3).1 9 = J (-1) := by
        intro z
        induction z with
        | zero => intro _; rw [b1, AGR_i a0 9 (by omega)]; exact hZ.2.1
        | succ z ihz =>
          intro hz
          have e := b2 z (Nat.zero_le _) (by omega)
          rw [← some2 e]
          exact ihz (by omega)
      rw [← b3]; exact this c (Nat.le_refl _)
    have e9 : (G (i + 1) 3).1 9 = J (-1) := by rw [eG]; exact b59
    have e12 : (G (i + 1) 3).1 12 = J (kd i) := by rw [eG]; rfl
    have ar := fun (t : Nat) (h1 : i + 1 ≤ t) (h2 : t ≤ b) => g_ht hT hG (i := i + 1) (j := b) hb hq e9 h1 h2
    refine ⟨by have := s1.2.2.2.2.1; by_cases q : c = 0; omega; exact b6 (by omega), SC_AGR s1 (ar b (by omega) (Nat.le_refl _)), by rw [AGR_i (ar b (by omega) (Nat.le_refl _)) 9 (by omega)]; exact e9, by rw [AGR_i (ar b (by omega) (Nat.le_refl _)) 12 (by omega)]; exact e12, fun t t1 t2 => ?_, H, by rw [b1]; exact a0, fun z hz => b2 z (Nat.zero_le _) hz, by rw [b3, eG]; exact AGR_rfl⟩
    by_cases q : t = i
    · rw [q]; exact hZ.1.2.2.1
    · rw [AGR_i (ar t (by omega) t2) 11 (by omega)]; exact s1.2.2.1
