/-! rooms and things: what stays, and the class's loops -/
variable {T N : Nat} {kd vl rv : Nat → Int} {pl : Nat → Nat}
theorem NMS_ag {σ τ : MS} {lo hi x n c i : Nat} (hN : agN lo hi x σ τ) (h : NMS kd rv pl σ n c i) (h1 : lo ≤ n) (h2 : n + c ≤ hi) (h3 : x < n) : NMS kd rv pl τ n c i := by
  intro k hk
  obtain ⟨s1, s2, s3, s4⟩ := h k hk
  exact ⟨NMN_ag hN s1 (by omega) (by omega), s2, by rw [(hN (n + k) (by omega) (by omega)).2.2.2.2.2 (by omega)]; exact s3, s4⟩
theorem PRT_ag {g : Int} {σ τ : MS} {t hi i j : Nat} (hN : agN t hi t σ τ) (h : PRT kd rv pl g σ t hi i j) : PRT kd rv pl g τ t hi i j := by
  obtain ⟨b1, b2, b3, h⟩ := h
  obtain ⟨e1, e2, e3, e4, e5, -⟩ := hN t (Nat.le_refl t) b2
  refine ⟨b1, b2, b3, ?_⟩
  have ne : ∀ {k : Int}, 0 ≤ k → k < 41 → σ.2 17 t = J k → τ.2 20 t = σ.2 20 t := fun k1 k2 e => e4 (by rw [e]; exact J_ne k1 (by omega) (by omega) (by omega) (by omega))
  rcases h with ⟨a1, a2, a3, a4, a5, a6, a7⟩ | ⟨a1, a2, a3, a4, a5⟩ | ⟨a1, a2, a3, a4, a5, a6, a7, a8, a9, a10, a11⟩ | ⟨a1, a2, a3, a4, a5, a6, a7, a8⟩ | ⟨a1, a2, a3, a4, a5, a6, a7, a8, a9⟩ | ⟨c, a0, a1, a2, a3, a4, a5, a6, a7⟩ | ⟨a1, a2, a3, a4, a5, a6, a7⟩
  · exact Or.inl ⟨a1, a2, a3, a4, by rw [e1]; exact a5, by rw [e2]; exact a6, by rw [ne (by omega) (by omega) a5]; exact a7⟩
  · exact Or.inr (Or.inl ⟨a1, a2, a3, by rw [e1]; exact a4, by rw [e2]; exact a5⟩)
  · exact Or.inr (Or.inr (Or.inl ⟨a1, a2, a3, a4, a5, a6, by rw [e1]; exact a7, by rw [e2]; exact a8, by rw [e3]; exact a9, NMN_ag hN a10 (by omega) (by omega), by rw [ne (by omega) (by omega) a7]; exact a11⟩))
  · exact Or.inr (Or.inr (Or.inr (Or.inl ⟨a1, a2, a3, a4, by rw [e1]; exact a5, by rw [e2]; exact a6, by rw [ne (by omega) (by omega) a5]; exact a7, by rw [e3]; exact a8⟩)))
  · exact Or.inr (Or.inr (Or.inr (Or.inr (Or.inl ⟨a1, a2, a3, a4, by rw [e1]; exact a5, by rw [e2]; exact a6, by rw [ne (by omega) (by omega) a5]; exact a7, by rw [e3]; exact a8, NMN_ag hN a9 (by omega) (by omega)⟩))))
  · exact Or.inr (Or.inr (Or.inr (Or.inr (Or.inr (Or.inl ⟨c, a0, a1, a2, a3, by rw [e1]; exact a4, by rw [e2]; exact a5, by rw [e3]; exact a6, NMS_ag hN a7 (by omega) (by omega) (by omega)⟩)))))
  · exact Or.inr (Or.inr (Or.inr (Or.inr (Or.inr (Or.inr ⟨a1, a2, a3, a4, by rw [e1]; exact a5, by rw [e2]; exact a6, by rw [ne (by omega) (by omega) a5]; exact a7⟩)))))
/-- the class's loop over parts -/
def Lq (P : HS → HR) : (Int32 × HS → HR) → Int32 × HS → HR := fun again s => if ((s.2 1).1 2) ≤ s.1 then Kce s.2 else if ((s.2 2).1 3) = 125 then Kce s.2 else if ((s.2 2).1 3) = 0 then Kce s.2 else (P s.2).bind fun u => again (s.1 + 1, u.2)
theorem Ec_bind (v : HS) (F : HS → HR) : ((Ec v).bind fun u => F u.2) = (F_X2_need 59 v).bind fun u_32 => F u_32.2 := by
  unfold Ec; rw [Option.bind_assoc]; rfl
theorem loopF_congr {σ ρ : Type} {A B : (σ → Option ρ) → σ → Option ρ} (h : A = B) (n : Nat) (s : σ) : loopF A n s = loopF B n s := by rw [h]
theorem room_eq (Γ : HS) : F_X2_roomItem Γ = (F_X2_need 2 Γ).bind fun u_1 => (F_X2_need 4 u_1.2).bind fun u_3 => (F_X2_open 123 u_3.2).bind fun u_5 => loopF (Lq cRoomP) FU (0, u_5.2) := by
  unfold F_X2_roomItem
  refine congrArg _ (funext fun u_1 => congrArg _ (funext fun u_3 => congrArg _ (funext fun u_5 => loopF_congr (funext fun again => funext fun s => ?_) _ _)))
  unfold Lq
  simp only [bnd]
  split
  · rfl
  split
  · rfl
  split
  · rfl
  unfold cRoomP
  rw [Option.bind_assoc]
  refine congrArg _ (funext fun u_26 => ?_)
  split
  · rw [Option.bind_assoc]
    refine congrArg _ (funext fun u_38 => ?_)
    split
    · rw [Option.bind_assoc]
      exact congrArg _ (funext fun u => (Ec_bind u.2 (fun w => again (s.1 + 1, w))).symm)
    · rw [Option.bind_assoc]
      refine congrArg _ (funext fun u => ?_)
      rw [Option.bind_assoc]
      exact congrArg _ (funext fun u => (Ec_bind u.2 (fun w => again (s.1 + 1, w))).symm)
  · rw [Option.bind_assoc]
    exact congrArg _ (funext fun u => (Ec_bind u.2 (fun w => again (s.1 + 1, w))).symm)
theorem thing_eq (Γ : HS) : F_X2_thingItem Γ = (F_X2_need 2 Γ).bind fun u_1 => (F_X2_need 4 u_1.2).bind fun u_3 => (F_X2_open 123 u_3.2).bind fun u_5 => loopF (Lq cThingP) FU (0, u_5.2) := by
  unfold F_X2_thingItem
  refine congrArg _ (funext fun u_1 => congrArg _ (funext fun u_3 => congrArg _ (funext fun u_5 => loopF_congr (funext fun again => funext fun s => ?_) _ _)))
  unfold Lq
  simp only [bnd]
  split
  · rfl
  split
  · rfl
  split
  · rfl
  unfold cThingP
  rw [Option.bind_assoc]
  refine congrArg _ (funext fun u_26 => ?_)
  split
  · rw [Option.bind_assoc]
    refine congrArg _ (funext fun u_38 => ?_)
    split
    · rw [Option.bind_assoc]
      refine congrArg _ (funext fun u_42 => ?_)
      split
      · rw [Option.bind_assoc]
        exact congrArg _ (funext fun u => (Ec_bind u.2 (fun w => again (s.1 + 1, w))).symm)
      · rw [Option.bind_assoc]
        exact congrArg _ (funext fun u => (Ec_bind u.2 (fun w => again (s.1 + 1, w))).symm)
    · rw [Option.bind_assoc]
      split
      · exact congrArg _ (funext fun u => (Ec_bind u.2 (fun w => again (s.1 + 1, w))).symm)
      · exact congrArg _ (funext fun u => (Ec_bind u.2 (fun w => again (s.1 + 1, w))).symm)
  · rw [Option.bind_assoc]
    exact congrArg _ (funext fun u => (Ec_bind u.2 (fun w => again (s.1 + 1, w))).symm)
