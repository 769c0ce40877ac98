/-! both read a statement alike -/
variable {T N : Nat} {kd vl rv : Nat → Int} {pl : Nat → Nat}
theorem sStat (hT : TKE T N kd vl rv pl) {dp : Nat} (hdp : dp ≤ 30) (hB : simB T N kd vl rv pl dp) (hF : simF T N kd vl rv pl dp) : simS T N kd vl rv pl dp := by
  intro B a ln nn d1 d2 σ Γ h1 h2 hp hd1 hd2
  have hp' := hp
  unfold preS at hp'
  have ha := h1.2.2.2.2.2.2.1
  have hkr := kdOk_rng (TKE_ok hT ha)
  obtain ⟨d1, rfl⟩ : ∃ e, d1 = e + 1 := ⟨d1 - 1, by omega⟩
  obtain ⟨d2, rfl⟩ : ∃ e, d2 = e + 1 := ⟨d2 - 1, by omega⟩
  rw [q_gS_1, q_gB_1]
  have en := g_en (n := nn) (by omega)
  have en2 := (ng (n := nn) (by omega)).2
  by_cases q1 : kd a = 241
  · have haT := TKE_lt hT ha (by omega) (by omega)
    refine rs_s hT h1 (by omega) q1 (cs_say hT h2 q1 ?_)
    simp only [en2]
    exact st_s hT (St0_mk hT h1 h2 hp hdp haT rfl) q1
  by_cases q2 : kd a = 242
  · have haT := TKE_lt hT ha (by omega) (by omega)
    refine rs_l hT h1 (by omega) q2 (cs_let hT h2 q2 ?_)
    have g := st_l hT (St0_mk hT h1 h2 hp hdp haT (V := 21) rfl) q2
    simp only [en2] at g ⊢
    exact g
  by_cases q3 : kd a = 243
  · have haT := TKE_lt hT ha (by omega) (by omega)
    refine rs_m hT h1 (by omega) q3 (cs_p hT h2 haT (O := 32) (by rw [q3]; rfl) (by decide) (by rw [q3]; decide) (by rw [q3]; decide) ?_)
    have g := st_m hT (St0_mk hT h1 h2 hp hdp haT (V := 24) rfl) q3
    simp only [en2] at g ⊢
    exact g
  by_cases q4 : kd a = 245
  · have haT := TKE_lt hT ha (by omega) (by omega)
    refine rs_r hT h1 (by omega) q4 (cs_p hT h2 haT (O := 22) (by rw [q4]; rfl) (by decide) (by rw [q4]; decide) (by rw [q4]; decide) ?_)
    have g := st_e hT (O := 22) rfl (St0_mk hT h1 h2 hp hdp haT (V := 25) rfl) (Or.inl ⟨q4, rfl, rfl⟩)
    simp only [en2] at g ⊢
    exact g
  by_cases q5 : kd a = 246
  · have haT := TKE_lt hT ha (by omega) (by omega)
    refine rs_set hT h1 (by omega) q5 (cs_p hT h2 haT (O := 47) (by rw [q5]; rfl) (by decide) (by rw [q5]; decide) (by rw [q5]; decide) ?_)
    obtain ⟨s1, s2⟩ := St0_set hT h1 h2 hp hdp haT (t := 1) (V := 1) rfl rfl
    have g := st_g hT (O := 47) rfl s1 s2 (Or.inl ⟨q5, rfl, rfl⟩)
    simp only [en2] at g ⊢
    exact g
  by_cases q6 : kd a = 247
  · have haT := TKE_lt hT ha (by omega) (by omega)
    refine rs_clr hT h1 (by omega) q6 (cs_p hT h2 haT (O := 48) (by rw [q6]; rfl) (by decide) (by rw [q6]; decide) (by rw [q6]; decide) ?_)
    obtain ⟨s1, s2⟩ := St0_set hT h1 h2 hp hdp haT (t := 0) (V := 0) rfl rfl
    have g := st_g hT (O := 48) rfl s1 s2 (Or.inr ⟨q6, rfl, rfl⟩)
    simp only [en2] at g ⊢
    exact g
  by_cases q7 : kd a = 248
  · have haT := TKE_lt hT ha (by omega) (by omega)
    refine rs_if hT h1 (by omega) q7 (cs_if hT h2 haT q7 ?_)
    simp only [en2]
    obtain ⟨s1, s2, s3, s4, s5, s6, s7, s8, s9, -⟩ := St0_mk (v := 27) (V := 27) hT h1 h2 hp hdp haT rfl
    have s21 : (mA (psd (nod σ nn 30 (pl a)) a) 17 (upd ((nod σ nn 30 (pl a)).2 17) nn 27)).2 21 nn = J (-1) := by
      show (nod σ nn 30 (pl a)).2 21 nn = _
      rw [nod_A, if_neg (by omega), if_pos rfl, upd_s, if_pos rfl]
    have hp2 : preS T B (a + 1) dp ln (nn + 1) := by unfold preS; omega
    refine Ok2_bind (Ok2_mono (hF B (a + 1) ln (nn + 1) nn d1 d2 _ _ s1 s2 hp2 (by omega) s3 s21 (by omega) (by omega)) ?_)
    rintro ⟨u1, u2⟩ ⟨v1, v2⟩ hr
    refine Ok2_some ?_
    rcases hr with ⟨h, a', ln', nn', ⟨t1, th⟩, t2, t3, t4, t5, t6, t7, t8, t9, t10, t11⟩ | ⟨f, f', w, x1, x2, x3, x4⟩
    · dsimp only at t1 t2 t3 t8 t9 t10 t11
      have r := STX_rng t3
      refine Or.inl ⟨h + 1, a', ln', nn', nn, ⟨rfl, by unfold fuB; omega⟩, ?_, t1, t2, ?_, by omega, by omega, ?_, ?_, ?_, ?_⟩
      · exact (t8 22 (by omega) (by omega) nn (by omega) (by omega)).trans s5
      · refine ⟨Nat.le_refl _, by omega, by omega, by omega, Or.inl ⟨rfl, t4, ?_, Or.inr (Or.inl ⟨q7, ?_, t3⟩)⟩⟩
        · exact (t8 18 (by omega) (by omega) nn (by omega) (by omega)).trans s4
        · exact (t8 17 (by omega) (by omega) nn (by omega) (by omega)).trans s3
      · intro k k1 k2 y hy
        exact (t8 k k1 k2 y (by omega) (by omega)).trans (s6 k k1 k2 y hy)
      · exact cXt_trans s7 t9 (Nat.le_refl ln) (Nat.le_succ a)
      · exact rfP_trans s8 t10
      · exact cfP_trans s9 t11
    · refine Or.inr (SRes_of (u := (J (nn : Nat), u2)) (v := ((0 : Int32), v2)) ⟨x1.1, rfP_trans s8 x1.2⟩ ⟨x2.1, cfP_trans s9 x2.2⟩ x3 x4 ⟨nn, rfl, by omega, by omega⟩)
  by_cases q8 : kd a = 250
  · have haT := TKE_lt hT ha (by omega) (by omega)
    refine rs_wh hT h1 (by omega) q8 (cs_wh hT h2 haT q8 ?_)
    simp only [en2]
    exact st_w hT hB (by omega) (by omega) (St0_mk hT h1 h2 hp hdp haT (V := 28) rfl) q8
  by_cases q9 : kd a = 251
  · have haT := TKE_lt hT ha (by omega) (by omega)
    refine rs_ret hT h1 (by omega) q9 (cs_p hT h2 haT (O := 2) (by rw [q9]; rfl) (by decide) (by rw [q9]; decide) (by rw [q9]; decide) ?_)
    have g := st_e hT (O := 2) rfl (St0_mk hT h1 h2 hp hdp haT (V := 29) rfl) (Or.inr ⟨q9, rfl, rfl⟩)
    simp only [en2] at g ⊢
    exact g
  by_cases q10 : kd a = 252
  · have haT := TKE_lt hT ha (by omega) (by omega)
    refine rs_done hT h1 (by omega) q10 (cs_p hT h2 haT (O := 4) (by rw [q10]; rfl) (by decide) (by rw [q10]; decide) (by rw [q10]; decide) ?_)
    simp only [en2]
    exact st_d hT (O := 4) rfl (St0_mk hT h1 h2 hp hdp haT (V := 30) rfl) (Or.inl ⟨q10, rfl, rfl⟩)
  by_cases q11 : kd a = 253
  · have haT := TKE_lt hT ha (by omega) (by omega)
    refine rs_win hT h1 (by omega) q11 (cs_p hT h2 haT (O := 5) (by rw [q11]; rfl) (by decide) (by rw [q11]; decide) (by rw [q11]; decide) ?_)
    simp only [en2]
    exact st_d hT (O := 5) rfl (St0_mk hT h1 h2 hp hdp haT (V := 31) rfl) (Or.inr (Or.inl ⟨q11, rfl, rfl⟩))
  by_cases q12 : kd a = 254
  · have haT := TKE_lt hT ha (by omega) (by omega)
    refine rs_lose hT h1 (by omega) q12 (cs_p hT h2 haT (O := 6) (by rw [q12]; rfl) (by decide) (by rw [q12]; decide) (by rw [q12]; decide) ?_)
    simp only [en2]
    exact st_d hT (O := 6) rfl (St0_mk hT h1 h2 hp hdp haT (V := 32) rfl) (Or.inr (Or.inr ⟨q12, rfl, rfl⟩))
  have hs : St1 T N kd vl rv pl B σ Γ a dp ln nn (nod σ nn 30 (pl a)) Γ := ⟨RN_nod h1 30 (pl a), h2, nod18 (σ := σ) (k := 30), nod22 (σ := σ) (k := 30) (p := (pl a : Nat)), rX_nod, cXt_rfl, rfP_nod, cfP_rfl, hp, hdp⟩
  refine rs_nam hT h1 (by omega) (by omega) (cs_nam hT h2 (by omega) (by omega) (fun q => ?_) (fun q => sn_x hT hs q))
  by_cases w1 : kd (a + 1) = 61
  · exact sn_v hT hs q w1
  by_cases w2 : kd (a + 1) = 91
  · exact sn_c hT hs q w2
  by_cases w3 : kd (a + 1) = 40
  · exact sn_a hT hs q w3
  exact sn_e hT hs q w1 w2 w3
