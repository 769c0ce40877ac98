/-! what seeing a statement does, by its kind -/
variable {T N : Nat} {kd vl rv : Nat → Int} {pl : Nat → Nat}
theorem ss_plain {rec : GF} {x : Nat} (hx : x < 39990) {τ : MS} {w : Int} (h : τ.2 17 x = J w) (hw : 0 ≤ w ∧ w < 1000 ∧ w ≠ 21 ∧ w ≠ 27 ∧ w ≠ 28) : F_X12_seeStatement rec (J (x : Nat)) τ = some ((0 : Int32), τ) := by
  have en := g_en (n := x) (by omega)
  have en2 := (ng (n := x) (by omega)).2
  have n21 : ¬ τ.2 17 x = 21 := by rw [h]; exact J_ne (v := 21) (by omega) (by omega) (by omega) (by omega) (by omega)
  have n27 : ¬ τ.2 17 x = 27 := by rw [h]; exact J_ne (v := 27) (by omega) (by omega) (by omega) (by omega) (by omega)
  have n28 : ¬ τ.2 17 x = 28 := by rw [h]; exact J_ne (v := 28) (by omega) (by omega) (by omega) (by omega) (by omega)
  have key : Ok (F_X12_seeStatement rec (J (x : Nat)) τ) fun u => u = ((0 : Int32), τ) := by
    unfold F_X12_seeStatement
    rw [en2]
    rw [en2] at en
    exact Ok_neg en (Ok_bnd (Ok_neg n21 (Ok_neg en (Ok_bnd (Ok_bnd (Ok_neg n27 (Ok_neg en (Ok_neg n28 (Ok_neg en (Ok_neg n27 (Ok_some rfl)))))))))))
  obtain ⟨r, e, e2⟩ := key
  rw [e, e2]
theorem ss_let {rec : GF} {x y : Nat} (hx : x < 39990) {τ υ : MS} {z : Int32} (h : τ.2 17 x = J 21) (hy : τ.2 19 x = J (y : Nat)) (hs : F_X12_seeAnew (J (y : Nat)) τ = some (z, υ)) (hυ : υ.2 17 x = J 21) : F_X12_seeStatement rec (J (x : Nat)) τ = some ((0 : Int32), υ) := by
  have en := g_en (n := x) (by omega)
  have en2 := (ng (n := x) (by omega)).2
  have n27 : ¬ υ.2 17 x = 27 := by rw [hυ]; decide
  have n28 : ¬ υ.2 17 x = 28 := by rw [hυ]; decide
  have key : Ok (F_X12_seeStatement rec (J (x : Nat)) τ) fun u => u = ((0 : Int32), υ) := by
    unfold F_X12_seeStatement
    rw [en2]
    rw [en2] at en
    refine Ok_neg en (Ok_bnd (Ok_pos (by rw [h]; rfl) (Ok_neg en ?_)))
    rw [hy, hs]
    exact Ok_bind (Ok_some (Ok_neg en (Ok_bnd (Ok_bnd (Ok_neg n27 (Ok_neg en (Ok_neg n28 (Ok_neg en (Ok_neg n27 (Ok_some rfl))))))))))
  obtain ⟨r, e, e2⟩ := key
  rw [e, e2]
theorem ss_while {rec : GF} {x b : Nat} (hx : x < 39990) {τ : MS} {Q : Int32 × MS → Prop} (h : τ.2 17 x = J 28) (hb : τ.2 20 x = J (b : Nat)) (hr : Ok (rec 0 (J (b : Nat)) 0 0 τ) fun u => u.2.2 17 x = J 28 ∧ Q (0, u.2)) : Ok (F_X12_seeStatement rec (J (x : Nat)) τ) Q := by
  have en := g_en (n := x) (by omega)
  have en2 := (ng (n := x) (by omega)).2
  unfold F_X12_seeStatement
  rw [en2]
  rw [en2] at en
  refine Ok_neg en (Ok_bnd (Ok_neg (by rw [h]; decide) (Ok_neg en (Ok_bnd (Ok_bnd (Ok_neg (by rw [h]; decide) (Ok_neg en (Ok_pos (by rw [h]; rfl) (Ok_neg en ?_)))))))))
  rw [hb]
  exact Ok_bind (Ok_mono hr (fun u hu => Ok_neg en (Ok_neg (by rw [hu.1]; decide) (Ok_some hu.2))))
theorem ss_if {rec : GF} {x b : Nat} (hx : x < 39990) {τ : MS} {Q : Int32 × MS → Prop} (h : τ.2 17 x = J 27) (hb : τ.2 20 x = J (b : Nat)) (hr : Ok (rec 0 (J (b : Nat)) 0 0 τ) fun u => u.2.2 17 x = J 27 ∧ ((u.2.2 21 x = J (-1) ∧ Q (0, u.2)) ∨ ∃ y : Nat, u.2.2 21 x = J (y : Nat) ∧ y < 39990 ∧ ((u.2.2 17 y = J 27 ∧ Ok (rec 1 (J (y : Nat)) 0 0 u.2) fun v => Q (0, v.2)) ∨ (u.2.2 17 y = J 34 ∧ Ok (rec 0 (J (y : Nat)) 0 0 u.2) fun v => Q (0, v.2))))) : Ok (F_X12_seeStatement rec (J (x : Nat)) τ) Q := by
  have en := g_en (n := x) (by omega)
  have en2 := (ng (n := x) (by omega)).2
  unfold F_X12_seeStatement
  rw [en2]
  rw [en2] at en
  refine Ok_neg en (Ok_bnd (Ok_neg (by rw [h]; decide) (Ok_neg en (Ok_bnd (Ok_bnd (Ok_pos (by rw [h]; rfl) (Ok_neg en ?_)))))))
  rw [hb]
  refine Ok_bind (Ok_mono hr (fun u hu => ?_))
  obtain ⟨u1, u2⟩ := hu
  refine Ok_neg en (Ok_pos (by rw [u1]; rfl) (Ok_neg en ?_))
  rcases u2 with ⟨u3, u4⟩ | ⟨y, u3, u4, u5⟩
  · rw [u3]; exact Ok_pos (by decide) (Ok_some u4)
  · rw [u3]
    refine Ok_neg (J_nlt0 (by omega) (by omega)) (Ok_neg en (Ok_bnd (Ok_neg (g_en (by omega)) ?_)))
    rw [(ng (n := y) (by omega)).2]
    rcases u5 with ⟨u5, u6⟩ | ⟨u5, u6⟩
    · exact Ok_pos (by rw [u5]; rfl) (Ok_neg en (Ok_bind (Ok_mono u6 (fun v hv => Ok_some hv))))
    · exact Ok_neg (by rw [u5]; decide) (Ok_neg en (Ok_bind (Ok_mono u6 (fun v hv => Ok_some hv))))
/-- a name that may be told already -/
def failS (Γ : HS) (pl : Nat → Nat) (f : Int) (w : Nat) : HS := cI' (cI' Γ 3 16 (J f)) 3 17 (J (pl w : Nat))
theorem c_fail4 (hT : TKE T N kd vl rv pl) {Γ : HS} {f : Int} {w : Nat} (hc : TKc N kd vl pl Γ) (h16 : (Γ 3).1 16 = J 0) (hw : w < N) : F_X4_fail (J f) (J (w : Nat)) Γ = some (J 0, failS Γ pl f w) := by
  unfold F_X4_fail failS
  rw [if_pos (by rw [h16]; rfl), bndE, c_placeOf hT (Γ := cI' Γ 3 16 (J f)) ⟨hc.1, hc.2⟩ hw, Option.bind_some, bndE, mrg1_id, bndE]
  rfl
theorem failS_CF (hT : TKE T N kd vl rv pl) {Γ : HS} {f : Int} {w t : Nat} (hc : TKc N kd vl pl Γ) (hf : 0 < f ∧ f ≤ 6) (ht : t ≤ 4200) : CF W2 pl (failS Γ pl f w) t f w := CF_of hT ⟨hc.1, hc.2⟩ rfl rfl hf ht
theorem failS_cfM {Γ : HS} {f : Int} {w : Nat} : cfM Γ (failS Γ pl f w) := fun r _ h3 _ _ _ _ => by unfold failS; simp only [cI_r, if_neg h3]
theorem c_tellLocal (hT : TKE T N kd vl rv pl) {Γ : HS} {t : Nat} {hp : Int32} (hc : TKc N kd vl pl Γ) (h16 : (Γ 3).1 16 = J 0) (ht : t ≤ T) (hk : kd t = 2) : F_X4_tellLocal (J (t : Nat)) hp Γ = some (J 0, if (Γ 3).2.1 2 (vl t).toNat = J 16001 ∧ (Γ 3).2.1 5 (vl t).toNat = J 0 then (if hp = 0 then failS Γ pl 5 t else Γ) else failS Γ pl 4 t) := by
  obtain ⟨n1, n2, n3, n4⟩ := TKE_N hT
  have hv := SC_vl hT ht hk
  unfold F_X4_tellLocal
  rw [c_worthOf hT hc (show t < N by omega), Option.bind_some, bndE, mrg1_id, bndE, q_g_at_in (n := 4500) (i := vl t) (by omega) (by omega) (by omega), bndE]
  have e4 : F_X4_fail 4 (J (t : Nat)) Γ = some (J 0, failS Γ pl 4 t) := c_fail4 hT (f := 4) hc h16 (show t < N by omega)
  have e5 : F_X4_fail 5 (J (t : Nat)) Γ = some (J 0, failS Γ pl 5 t) := c_fail4 hT (f := 5) hc h16 (show t < N by omega)
  dsimp only
  rw [e4, e5]
  by_cases q1 : (Γ 3).2.1 2 (vl t).toNat = J 16001
  · rw [if_pos (show (Γ 3).2.1 2 (vl t).toNat = 16001 from q1), bndE, q_g_at_in (n := 4500) (i := vl t) (by omega) (by omega) (by omega)]
    by_cases q2 : (Γ 3).2.1 5 (vl t).toNat = J 0
    · rw [if_pos (show (Γ 3).2.1 5 (vl t).toNat = 0 from q2), if_pos (show (Γ 3).2.1 2 (vl t).toNat = J 16001 ∧ (Γ 3).2.1 5 (vl t).toNat = J 0 from ⟨q1, q2⟩)]
      by_cases q3 : hp = 0
      · rw [if_pos q3, if_pos q3]; rfl
      · rw [if_neg q3, if_neg q3]; rfl
    · rw [if_neg (show ¬ (Γ 3).2.1 5 (vl t).toNat = 0 from q2), if_neg (show ¬ ((Γ 3).2.1 2 (vl t).toNat = J 16001 ∧ (Γ 3).2.1 5 (vl t).toNat = J 0) from fun h => q2 h.2)]; rfl
  · rw [if_neg (show ¬ (Γ 3).2.1 2 (vl t).toNat = 16001 from q1), if_neg (show ¬ ((Γ 3).2.1 2 (vl t).toNat = J 16001 ∧ (Γ 3).2.1 5 (vl t).toNat = J 0) from fun h => q1 h.1)]; rfl
theorem fs_let (hT : TKE T N kd vl rv pl) {Γ : HS} {t : Nat} (hc : TKc N kd vl pl Γ) (ht : t + 1 < N) (hk : kd t = 242) : F_X4_followScope (J (t : Nat)) Γ = some (J 0, cI' Γ 3 9 (J (vl (t + 1)))) := by
  unfold F_X4_followScope
  rw [c_kindOf hT hc (by omega), Option.bind_some, hk]
  simp only [bndE]
  rw [mrg1_id, if_neg (by decide), if_neg (by decide), if_neg (by decide), if_neg (by decide), if_pos (by rfl), show J (t : Nat) + 1 = J (t + 1 : Nat) by rw [J_lit, J_add]; rfl, c_worthOf hT hc (by omega), Option.bind_some, mrg1_id]
  rfl
theorem fs_semi (hT : TKE T N kd vl rv pl) {Γ : HS} {t : Nat} (hc : TKc N kd vl pl Γ) (ht : t < N) (hk : kd t = 59) (h9 : (Γ 3).1 9 = J (-1)) : F_X4_followScope (J (t : Nat)) Γ = some (J 0, Γ) := by
  unfold F_X4_followScope
  rw [c_kindOf hT hc ht, Option.bind_some, hk]
  simp only [bndE]
  rw [mrg1_id, if_pos (by rfl), if_pos (by rw [h9]; rfl), cI_self (Γ := Γ) (r := 3) (k := 9) (v := -1) h9]
  rfl
theorem fs_semi2 (hT : TKE T N kd vl rv pl) {Γ : HS} {t u : Nat} (hc : TKc N kd vl pl Γ) (ht : t < N) (hk : kd t = 59) (h9 : (Γ 3).1 9 = J (vl u)) (hu : u ≤ T) (hku : kd u = 2) {s m D : Nat} {ts sl : Nat → Nat} (h : SC T kd vl Γ s m D ts sl) (hm : m < 14) : F_X4_followScope (J (t : Nat)) Γ = some (J 0, cI' (seeS Γ s m (vl u)) 3 9 (-1)) := by
  have hv := SC_vl hT hu hku
  unfold F_X4_followScope
  rw [c_kindOf hT hc ht, Option.bind_some, hk]
  simp only [bndE]
  rw [mrg1_id, if_pos (by rfl), h9, if_neg (by rw [show (-1 : Int32) = J (-1) from rfl, J_eq (by omega) (by omega) (by omega) (by omega)]; omega), c_see hT h hm hu hku, Option.bind_some]
  rfl
