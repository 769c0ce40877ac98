/-! the second going through: its loop, and what changes nothing -/
variable {T N : Nat} {kd vl rv : Nat → Int} {pl : Nat → Nat}
def E3 : HS → HR := (fun  (σ_23 : HS) => ( if ((σ_23 3).1 16) = 0 then ( (F_X7_hasRoom σ_23).bind fun u_29 => bnd (mrg (fun j => j == 4 || j == 5 || j == 6 || j == 7) σ_23 u_29.2) fun σ_31 => bnd (fun  (σ_33 : HS) => ( (F_X4_fail 6 (((σ_33 1).1 2) - 1) σ_33).bind fun u_37 => some (((u_37.2 3).1 16), u_37.2) ) : HS → HR) fun j_34 => if u_29.1 = 0 then ( j_34  σ_31 ) else ( (F_X7_hasCircle σ_31).bind fun u_42 => bnd (mrg (fun j => j == 4 || j == 5 || j == 6 || j == 7) σ_31 u_42.2) fun σ_44 => if u_42.1 = 0 then ( some (((σ_44 3).1 16), σ_44) ) else ( j_34  σ_44 ) ) ) else ( some (((σ_23 3).1 16), σ_23) ) ) : HS → HR)
def W3 : (Int32 × HS → HR) → Int32 × HS → HR := (fun (again_20 : (Int32 × HS) → HR) (s_19 : Int32 × HS) => ( bnd E3 fun j_24 => if ((s_19.2 1).1 2) ≤ s_19.1 then ( j_24  s_19.2 ) else ( if ((s_19.2 3).1 16) = 0 then ( bnd (fun  (σ_55 : HS) => ( (F_X4_followScope s_19.1 σ_55).bind fun u_59 => bnd (s_19.1 + 1) fun (x_61 : Int32) => again_20 (x_61, u_59.2) ) : HS → HR) fun j_56 => bnd (fun  (σ_63 : HS) => ( (F_X4_itemWord s_19.1 σ_63).bind fun u_67 => j_56  u_67.2 ) : HS → HR) fun j_64 => if ((s_19.2 3).1 12) = 0 then ( j_64  s_19.2 ) else ( if ((s_19.2 3).1 11) ≤ 0 then ( j_64  s_19.2 ) else ( (F_X4_bodyWord s_19.1 s_19.2).bind fun u_75 => j_56  u_75.2 ) ) ) else ( j_24  s_19.2 ) ) ))
def E2 : HS → HR := (fun  (σ_13 : HS) => ( (F_X4_startGoing σ_13).bind fun u_17 => loopF W3 FU (0, u_17.2) ) : HS → HR)
def W2 : (Int32 × HS → HR) → Int32 × HS → HR := (fun (again_10 : (Int32 × HS) → HR) (s_9 : Int32 × HS) => ( bnd E2 fun j_14 => if ((s_9.2 1).1 2) ≤ s_9.1 then ( j_14  s_9.2 ) else ( if ((s_9.2 3).1 16) = 0 then ( (F_X4_tellWord s_9.1 s_9.2).bind fun u_83 => (F_X4_followScope s_9.1 u_83.2).bind fun u_85 => bnd (s_9.1 + 1) fun (x_87 : Int32) => again_10 (x_87, u_85.2) ) else ( j_14  s_9.2 ) ) ))
theorem give_eq (Γ : HS) : F_X4_giveAll Γ = bnd (cI' Γ 3 16 0) fun σ_1 => bnd (cI' σ_1 3 17 (-1)) fun σ_3 => (F_X4_gatherItems σ_3).bind fun u_5 => (F_X4_startGoing u_5.2).bind fun u_7 => loopF W2 FU (0, u_7.2) := rfl
/-- as a rewriting with a proof of its own: what holds loops must not be compared whole -/
theorem bndE {α β : Type} (e : α) (f : α → β) : bnd e f = f e := congrArg (fun x => x) (rfl : bnd e f = f e)
theorem Jg6_ne {g : Int} (h : 0 < g ∧ g ≤ 6) : ¬ J g = 0 := by rw [show (0 : Int32) = J 0 from rfl, J_eq (by omega) (by omega) (by omega) (by omega)]; omega
/-- from word i in state Γ the loop comes to word j in state Δ -/
def STP (t : Nat) (Γ Δ : HS) : Prop := (Γ 3).1 16 = J 0 ∧ (∃ (x : Int32) (u : HS) (y : Int32), F_X4_tellWord (J (t : Nat)) Γ = some (x, u) ∧ F_X4_followScope (J (t : Nat)) u = some (y, Δ)) ∧ Δ 1 = Γ 1
def CW (W : (Int32 × HS → HR) → Int32 × HS → HR) (Γ : HS) (i : Nat) (Δ : HS) (j : Nat) : Prop := i ≤ j ∧ (∀ n, loopF W (n + (j - i)) (J (i : Nat), Γ) = loopF W n (J (j : Nat), Δ)) ∧ ∃ H : Nat → HS, H i = Γ ∧ H j = Δ ∧ ∀ t, i ≤ t → t < j → STP t (H t) (H (t + 1))
theorem CW_rfl {W : (Int32 × HS → HR) → Int32 × HS → HR} {Γ : HS} {i : Nat} : CW W Γ i Γ i := ⟨Nat.le_refl i, fun n => by rw [Nat.sub_self, Nat.add_zero], fun _ => Γ, rfl, rfl, fun t h1 h2 => by omega⟩
theorem CW_trans {W : (Int32 × HS → HR) → Int32 × HS → HR} {Γ Δ Θ : HS} {i j k : Nat} (h : CW W Γ i Δ j) (g : CW W Δ j Θ k) : CW W Γ i Θ k := by
  obtain ⟨h1, h2, H, a1, a2, a3⟩ := h
  obtain ⟨g1, g2, K, b1, b2, b3⟩ := g
  refine ⟨Nat.le_trans h1 g1, fun n => by rw [show n + (k - i) = (n + (k - j)) + (j - i) by omega, h2, g2], fun t => if t ≤ j then H t else K t, by show (if i ≤ j then H i else K i) = Γ; rw [if_pos h1, a1], ?_, fun t t1 t2 => ?_⟩
  · show (if k ≤ j then H k else K k) = Θ
    by_cases q : k ≤ j
    · obtain rfl : k = j := by omega
      rw [if_pos q, a2, ← b2, b1]
    · rw [if_neg q, b2]
  · show STP t (if t ≤ j then H t else K t) (if t + 1 ≤ j then H (t + 1) else K (t + 1))
    by_cases q : t < j
    · rw [if_pos (by omega), if_pos (by omega)]; exact a3 t t1 q
    · rw [if_neg (show ¬ t + 1 ≤ j by omega)]
      by_cases q2 : t = j
      · rw [if_pos (by omega), q2, a2, ← b1, ← q2]
        exact b3 t (by omega) t2
      · rw [if_neg (by omega)]; exact b3 t (by omega) t2
/-- the roles that the goings leave alone -/
def cfM (Γ Δ : HS) : Prop := ∀ r, r ≠ 1 → r ≠ 3 → r ≠ 4 → r ≠ 5 → r ≠ 6 → r ≠ 7 → Δ r = Γ r
theorem cfM_rfl {Γ : HS} : cfM Γ Γ := fun _ _ _ _ _ _ _ => rfl
theorem cfM_trans {Γ Δ Θ : HS} (h : cfM Γ Δ) (i : cfM Δ Θ) : cfM Γ Θ := fun r a b c d e f => by rw [i r a b c d e f, h r a b c d e f]
/-- the loop ends with fault f at word w -/
def CF (W : (Int32 × HS → HR) → Int32 × HS → HR) (pl : Nat → Nat) (Γ : HS) (i : Nat) (f : Int) (w : Nat) : Prop := i ≤ 4200 ∧ ∃ d, d ≤ 2 + (4200 - i) ∧ ∀ n, d ≤ n → Ok (loopF W n (J (i : Nat), Γ)) fun v => v.1 = J f ∧ (v.2 3).1 17 = J (pl w : Nat) ∧ cfM Γ v.2
theorem CW_CF {W : (Int32 × HS → HR) → Int32 × HS → HR} {Γ Δ : HS} {i j w : Nat} {f : Int} (h : CW W Γ i Δ j) (g : CF W pl Δ j f w) (hm : cfM Γ Δ) : CF W pl Γ i f w := by
  obtain ⟨g0, d, hd, g⟩ := g
  have h1 := h.1
  refine ⟨by omega, d + (j - i), by omega, fun n hn => ?_⟩
  rw [show n = (n - (j - i)) + (j - i) by omega, h.2.1]
  exact Ok_mono (g _ (by omega)) (fun v hv => ⟨hv.1, hv.2.1, cfM_trans hm hv.2.2⟩)
theorem W2_s (n : Nat) (s : Int32 × HS) : loopF W2 (n + 1) s = if ((s.2 1).1 2) ≤ s.1 then E2 s.2 else if ((s.2 3).1 16) = 0 then (F_X4_tellWord s.1 s.2).bind fun u_83 => (F_X4_followScope s.1 u_83.2).bind fun u_85 => loopF W2 n (s.1 + 1, u_85.2) else E2 s.2 := rfl
theorem W2_go (hT : TKE T N kd vl rv pl) {Γ : HS} {t : Nat} (hc : TKc N kd vl pl Γ) (ht : t < N) (h16 : (Γ 3).1 16 = J 0) (n : Nat) : loopF W2 (n + 1) (J (t : Nat), Γ) = (F_X4_tellWord (J (t : Nat)) Γ).bind fun u_83 => (F_X4_followScope (J (t : Nat)) u_83.2).bind fun u_85 => loopF W2 n (J (t + 1 : Nat), u_85.2) := by
  obtain ⟨n1, n2, n3, n4⟩ := TKE_N hT
  rw [W2_s, if_neg (by show ¬ ((Γ 1).1 2 ≤ J (t : Nat)); rw [hc.1, J_le (by omega) (by omega) (by omega) (by omega)]; omega), if_pos (by show (Γ 3).1 16 = 0; rw [h16]; rfl)]
  rw [show J (t : Nat) + 1 = J (t + 1 : Nat) by rw [J_lit, J_add]; rfl]
theorem CW_go (hT : TKE T N kd vl rv pl) {Γ Δ u : HS} {t : Nat} {x y : Int32} (hc : TKc N kd vl pl Γ) (ht : t < N) (h16 : (Γ 3).1 16 = J 0) (h : F_X4_tellWord (J (t : Nat)) Γ = some (x, u)) (hf : F_X4_followScope (J (t : Nat)) u = some (y, Δ)) (h1 : Δ 1 = Γ 1) : CW W2 Γ t Δ (t + 1) := ⟨Nat.le_succ t, fun n => by rw [show n + (t + 1 - t) = n + 1 by omega, W2_go hT hc ht h16, h, Option.bind_some, hf, Option.bind_some], fun z => if z = t then Γ else Δ, if_pos rfl, if_neg (by omega), fun z z1 z2 => by
  obtain rfl : z = t := by omega
  show STP z (if z = z then Γ else Δ) (if z + 1 = z then Γ else Δ)
  rw [if_pos rfl, if_neg (by omega)]
  exact ⟨h16, ⟨x, u, y, h, hf⟩, h1⟩⟩
theorem CF_go (hT : TKE T N kd vl rv pl) {Γ Δ u : HS} {t w : Nat} {f : Int} {x y : Int32} (hc : TKc N kd vl pl Γ) (ht : t < N) (h16 : (Γ 3).1 16 = J 0) (h : F_X4_tellWord (J (t : Nat)) Γ = some (x, u)) (hf : F_X4_followScope (J (t : Nat)) u = some (y, Δ)) (g : CF W2 pl Δ (t + 1) f w) (hm : cfM Γ Δ) : CF W2 pl Γ t f w := by
  obtain ⟨g0, d, hd, g⟩ := g
  refine ⟨by omega, d + 1, by omega, fun n hn => ?_⟩
  rw [show n = (n - 1) + 1 by omega, W2_go hT hc ht h16, h, Option.bind_some, hf, Option.bind_some]
  exact Ok_mono (g _ (by omega)) (fun v hv => ⟨hv.1, hv.2.1, cfM_trans hm hv.2.2⟩)
theorem kd_le {N T : Nat} (hT : TKE T N kd vl rv pl) {t : Nat} (ht : t < N) : 0 ≤ kd t ∧ kd t ≤ 256 := by
  rcases Nat.lt_or_ge T t with q | q
  · rcases hT.2.2.1 with ⟨h1, h2⟩ | ⟨h1, h2, h3⟩
    · omega
    · rw [show t = T + 1 by omega, h2]; omega
  · exact kdOk_rng (TKE_ok hT q)
theorem mrg1_id {Γ : HS} : mrg (fun j => j == 1) Γ Γ = Γ := mrgE (fun _ _ => rfl)
/-- words that tell nothing -/
def qt (k : Int) : Prop := ¬ (230 ≤ k ∧ k ≤ 237) ∧ k ≠ 240 ∧ k ≠ 242
theorem tw_q (hT : TKE T N kd vl rv pl) {Γ : HS} {t : Nat} (hc : TKc N kd vl pl Γ) (ht : t < N) (hq : qt (kd t)) : F_X4_tellWord (J (t : Nat)) Γ = some (J 0, Γ) := by
  have hk := kd_le hT ht
  unfold qt at hq
  have j0 : ∀ c : Int, 0 ≤ c ∧ c ≤ 1000 → kd t ≠ c → ¬ J (kd t) = J c := fun c hc h => by rw [J255 c hk hc]; exact h
  unfold F_X4_tellWord
  rw [c_kindOf hT hc ht, Option.bind_some]
  dsimp only [bnd]
  rw [mrg1_id, if_neg (show ¬ J (kd t) = 230 from j0 230 (by omega) (by omega)), if_neg (show ¬ J (kd t) = 231 from j0 231 (by omega) (by omega)), if_neg (show ¬ J (kd t) = 232 from j0 232 (by omega) (by omega)), if_neg (show ¬ J (kd t) = 233 from j0 233 (by omega) (by omega)), if_neg (show ¬ J (kd t) = 234 from j0 234 (by omega) (by omega)), if_neg (show ¬ J (kd t) = 235 from j0 235 (by omega) (by omega)), if_neg (show ¬ J (kd t) = 236 from j0 236 (by omega) (by omega)), if_neg (show ¬ J (kd t) = 237 from j0 237 (by omega) (by omega)), if_neg (show ¬ J (kd t) = 240 from j0 240 (by omega) (by omega)), if_neg (show ¬ J (kd t) = 242 from j0 242 (by omega) (by omega))]
  rfl
/-- words that change no scope -/
def qf (k : Int) : Prop := ¬ (235 ≤ k ∧ k ≤ 237) ∧ k ≠ 59 ∧ k ≠ 123 ∧ k ≠ 125 ∧ k ≠ 242
theorem fs_q (hT : TKE T N kd vl rv pl) {Γ : HS} {t : Nat} (hc : TKc N kd vl pl Γ) (ht : t < N) (hq : qf (kd t)) : F_X4_followScope (J (t : Nat)) Γ = some (J 0, Γ) := by
  have hk := kd_le hT ht
  unfold qf at hq
  have j0 : ∀ c : Int, 0 ≤ c ∧ c ≤ 1000 → kd t ≠ c → ¬ J (kd t) = J c := fun c hc h => by rw [J255 c hk hc]; exact h
  unfold F_X4_followScope
  rw [c_kindOf hT hc ht, Option.bind_some]
  dsimp only [bnd]
  rw [mrg1_id, if_neg (show ¬ J (kd t) = 59 from j0 59 (by omega) (by omega)), if_neg (show ¬ J (kd t) = 123 from j0 123 (by omega) (by omega)), if_neg (show ¬ J (kd t) = 125 from j0 125 (by omega) (by omega)), if_neg (show ¬ (J (kd t) = 235 ∨ J (kd t) = 236 ∨ J (kd t) = 237) from fun h => by rcases h with h | h | h; exact j0 235 (by omega) (by omega) h; exact j0 236 (by omega) (by omega) h; exact j0 237 (by omega) (by omega) h), if_neg (show ¬ J (kd t) = 242 from j0 242 (by omega) (by omega))]
  rfl
theorem qs_t {k : Int} (h : qs k) : qt k := by unfold qs at h; unfold qt; omega
theorem qs_f {k : Int} (h : qs k) : qf k := by unfold qs at h; unfold qf; omega
theorem W2_q (hT : TKE T N kd vl rv pl) {Γ : HS} (hc : TKc N kd vl pl Γ) (h16 : (Γ 3).1 16 = J 0) : ∀ (d i : Nat), i + d ≤ N → (∀ t, i ≤ t → t < i + d → qs (kd t)) → CW W2 Γ i Γ (i + d) := by
  intro d
  induction d with
  | zero => intro i _ _; exact CW_rfl
  | succ d ih =>
    intro i hi hq
    have q0 := hq i (Nat.le_refl i) (by omega)
    exact CW_trans (CW_go hT hc (by omega) h16 (tw_q hT hc (by omega) (qs_t q0)) (fs_q hT hc (by omega) (qs_f q0)) rfl) (by rw [show i + (d + 1) = i + 1 + d by omega]; exact ih (i + 1) (by omega) (fun t h1 h2 => hq t (by omega) (by omega)))
theorem W2_qq (hT : TKE T N kd vl rv pl) {Γ : HS} (hc : TKc N kd vl pl Γ) (h16 : (Γ 3).1 16 = J 0) {i j : Nat} (hij : i ≤ j) (hj : j ≤ N) (hq : ∀ t, i ≤ t → t < j → qs (kd t)) : CW W2 Γ i Γ j := by
  have := W2_q hT hc h16 (j - i) i (by omega) (fun t h1 h2 => hq t h1 (by omega))
  rwa [show i + (j - i) = j by omega] at this
/-- a step at which nothing is told -/
theorem W2_f (hT : TKE T N kd vl rv pl) {Γ Δ : HS} {t : Nat} {x : Int32} (hc : TKc N kd vl pl Γ) (h16 : (Γ 3).1 16 = J 0) (ht : t < N) (hq : qt (kd t)) (hf : F_X4_followScope (J (t : Nat)) Γ = some (x, Δ)) (h1 : Δ 1 = Γ 1) : CW W2 Γ t Δ (t + 1) := CW_go hT hc ht h16 (tw_q hT hc ht hq) hf h1

theorem startGoing_eq (Γ : HS) : F_X4_startGoing Γ = some ((0 : Int32), cI' (cI' (cI' (cI' (cI' (cI' Γ 3 7 0) 3 8 0) 3 9 (-1)) 3 11 0) 3 12 0) 3 15 0) := rfl
theorem W3_s (n : Nat) (s : Int32 × HS) : loopF W3 (n + 1) s = W3 (loopF W3 n) s := rfl
/-- a fault ends it all -/
theorem E2_fault (hT : TKE T N kd vl rv pl) {Γ : HS} {f : Int} (hc : TKc N kd vl pl Γ) (h16 : (Γ 3).1 16 = J f) (hf : 0 < f ∧ f ≤ 6) : ∃ Δ, E2 Γ = some (J f, Δ) ∧ (Δ 3).1 17 = (Γ 3).1 17 ∧ cfM Γ Δ := by
  obtain ⟨n1, n2, n3, n4⟩ := TKE_N hT
  obtain ⟨m, hm, -⟩ := FU_1
  refine ⟨cI' (cI' (cI' (cI' (cI' (cI' Γ 3 7 0) 3 8 0) 3 9 (-1)) 3 11 0) 3 12 0) 3 15 0, ?_, rfl, fun r _ h3 _ _ _ _ => by simp only [cI_r, if_neg h3]⟩
  unfold E2
  rw [startGoing_eq, Option.bind_some, hm, W3_s]
  unfold W3
  rw [bndE, if_neg (by show ¬ (Γ 1).1 2 ≤ 0; rw [hc.1, show (0 : Int32) = J 0 from rfl, J_le (by omega) (by omega) (by omega) (by omega)]; omega), if_neg (by show ¬ (Γ 3).1 16 = 0; rw [h16]; exact Jg6_ne hf)]
  unfold E3
  rw [if_neg (by show ¬ (Γ 3).1 16 = 0; rw [h16]; exact Jg6_ne hf)]
  exact congrArg some (Prod.ext h16 rfl)
theorem CF_of (hT : TKE T N kd vl rv pl) {Γ : HS} {t w : Nat} {f : Int} (hc : TKc N kd vl pl Γ) (h16 : (Γ 3).1 16 = J f) (h17 : (Γ 3).1 17 = J (pl w : Nat)) (hf : 0 < f ∧ f ≤ 6) (ht : t ≤ 4200) : CF W2 pl Γ t f w := by
  obtain ⟨Δ, e1, e2, e3⟩ := E2_fault hT hc h16 hf
  refine ⟨ht, 1, by omega, fun n hn => ?_⟩
  obtain ⟨n, rfl⟩ : ∃ z, n = z + 1 := ⟨n - 1, by omega⟩
  have fin : Ok (E2 Γ) fun v => v.1 = J f ∧ (v.2 3).1 17 = J (pl w : Nat) ∧ cfM Γ v.2 := ⟨_, e1, rfl, by rw [e2]; exact h17, e3⟩
  rw [W2_s]
  exact Ok_ite (fun _ => fin) (fun _ => Ok_neg (by show ¬ (Γ 3).1 16 = 0; rw [h16]; exact Jg6_ne hf) fin)
