/-! methods of the reference: what each does is its function -/
theorem dX12_unary_0 : decode cX12_unary 0 = .ok (.aload_n 0, 1) := by decide +kernel
theorem dX12_unary_1 : decode cX12_unary 1 = .ok (.getfield 137, 3) := by decide +kernel
theorem dX12_unary_4 : decode cX12_unary 4 = .ok (.iload_n 1, 1) := by decide +kernel
theorem dX12_unary_5 : decode cX12_unary 5 = .ok (.iaload, 1) := by decide +kernel
theorem dX12_unary_6 : decode cX12_unary 6 = .ok (.tableswitch 204 43 53 #[58, 204, 204, 204, 204, 95, 114, 133, 152, 190, 194], 58) := by decide +kernel
theorem dX12_unary_64 : decode cX12_unary 64 = .ok (.aload_n 0, 1) := by decide +kernel
theorem dX12_unary_65 : decode cX12_unary 65 = .ok (.aload_n 0, 1) := by decide +kernel
theorem dX12_unary_66 : decode cX12_unary 66 = .ok (.getfield 149, 3) := by decide +kernel
theorem dX12_unary_69 : decode cX12_unary 69 = .ok (.iload_n 1, 1) := by decide +kernel
theorem dX12_unary_70 : decode cX12_unary 70 = .ok (.iaload, 1) := by decide +kernel
theorem dX12_unary_71 : decode cX12_unary 71 = .ok (.iload_n 2, 1) := by decide +kernel
theorem dX12_unary_72 : decode cX12_unary 72 = .ok (.invokevirtual 739, 3) := by decide +kernel
theorem dX12_unary_75 : decode cX12_unary 75 = .ok (.ifCond .eq 24, 3) := by decide +kernel
theorem dX12_unary_78 : decode cX12_unary 78 = .ok (.aload_n 0, 1) := by decide +kernel
theorem dX12_unary_79 : decode cX12_unary 79 = .ok (.getfield 197, 3) := by decide +kernel
theorem dX12_unary_82 : decode cX12_unary 82 = .ok (.aload_n 0, 1) := by decide +kernel
theorem dX12_unary_83 : decode cX12_unary 83 = .ok (.getfield 176, 3) := by decide +kernel
theorem dX12_unary_86 : decode cX12_unary 86 = .ok (.aload_n 0, 1) := by decide +kernel
theorem dX12_unary_87 : decode cX12_unary 87 = .ok (.getfield 149, 3) := by decide +kernel
theorem dX12_unary_90 : decode cX12_unary 90 = .ok (.iload_n 1, 1) := by decide +kernel
theorem dX12_unary_91 : decode cX12_unary 91 = .ok (.iaload, 1) := by decide +kernel
theorem dX12_unary_92 : decode cX12_unary 92 = .ok (.iaload, 1) := by decide +kernel
theorem dX12_unary_93 : decode cX12_unary 93 = .ok (.iload_n 2, 1) := by decide +kernel
theorem dX12_unary_94 : decode cX12_unary 94 = .ok (.iadd, 1) := by decide +kernel
theorem dX12_unary_95 : decode cX12_unary 95 = .ok (.iaload, 1) := by decide +kernel
theorem dX12_unary_96 : decode cX12_unary 96 = .ok (.goto 4, 3) := by decide +kernel
theorem dX12_unary_99 : decode cX12_unary 99 = .ok (.iconst 0, 1) := by decide +kernel
theorem dX12_unary_100 : decode cX12_unary 100 = .ok (.ireturn, 1) := by decide +kernel
theorem dX12_unary_101 : decode cX12_unary 101 = .ok (.aload_n 0, 1) := by decide +kernel
theorem dX12_unary_102 : decode cX12_unary 102 = .ok (.iload_n 2, 1) := by decide +kernel
theorem dX12_unary_103 : decode cX12_unary 103 = .ok (.invokevirtual 736, 3) := by decide +kernel
theorem dX12_unary_106 : decode cX12_unary 106 = .ok (.ifCond .eq 12, 3) := by decide +kernel
theorem dX12_unary_109 : decode cX12_unary 109 = .ok (.aload_n 0, 1) := by decide +kernel
theorem dX12_unary_110 : decode cX12_unary 110 = .ok (.getfield 182, 3) := by decide +kernel
theorem dX12_unary_113 : decode cX12_unary 113 = .ok (.iload_n 2, 1) := by decide +kernel
theorem dX12_unary_114 : decode cX12_unary 114 = .ok (.iaload, 1) := by decide +kernel
theorem dX12_unary_115 : decode cX12_unary 115 = .ok (.goto 4, 3) := by decide +kernel
theorem dX12_unary_118 : decode cX12_unary 118 = .ok (.iconst 0, 1) := by decide +kernel
theorem dX12_unary_119 : decode cX12_unary 119 = .ok (.ireturn, 1) := by decide +kernel
theorem dX12_unary_120 : decode cX12_unary 120 = .ok (.aload_n 0, 1) := by decide +kernel
theorem dX12_unary_121 : decode cX12_unary 121 = .ok (.iload_n 2, 1) := by decide +kernel
theorem dX12_unary_122 : decode cX12_unary 122 = .ok (.invokevirtual 736, 3) := by decide +kernel
theorem dX12_unary_125 : decode cX12_unary 125 = .ok (.ifCond .eq 12, 3) := by decide +kernel
theorem dX12_unary_128 : decode cX12_unary 128 = .ok (.aload_n 0, 1) := by decide +kernel
theorem dX12_unary_129 : decode cX12_unary 129 = .ok (.getfield 185, 3) := by decide +kernel
theorem dX12_unary_132 : decode cX12_unary 132 = .ok (.iload_n 2, 1) := by decide +kernel
theorem dX12_unary_133 : decode cX12_unary 133 = .ok (.iaload, 1) := by decide +kernel
theorem dX12_unary_134 : decode cX12_unary 134 = .ok (.goto 4, 3) := by decide +kernel
theorem dX12_unary_137 : decode cX12_unary 137 = .ok (.iconst 0, 1) := by decide +kernel
theorem dX12_unary_138 : decode cX12_unary 138 = .ok (.ireturn, 1) := by decide +kernel
theorem dX12_unary_139 : decode cX12_unary 139 = .ok (.aload_n 0, 1) := by decide +kernel
theorem dX12_unary_140 : decode cX12_unary 140 = .ok (.iload_n 2, 1) := by decide +kernel
theorem dX12_unary_141 : decode cX12_unary 141 = .ok (.invokevirtual 736, 3) := by decide +kernel
theorem dX12_unary_144 : decode cX12_unary 144 = .ok (.ifCond .eq 12, 3) := by decide +kernel
theorem dX12_unary_147 : decode cX12_unary 147 = .ok (.aload_n 0, 1) := by decide +kernel
theorem dX12_unary_148 : decode cX12_unary 148 = .ok (.getfield 188, 3) := by decide +kernel
theorem dX12_unary_151 : decode cX12_unary 151 = .ok (.iload_n 2, 1) := by decide +kernel
theorem dX12_unary_152 : decode cX12_unary 152 = .ok (.iaload, 1) := by decide +kernel
theorem dX12_unary_153 : decode cX12_unary 153 = .ok (.goto 4, 3) := by decide +kernel
theorem dX12_unary_156 : decode cX12_unary 156 = .ok (.iconst 0, 1) := by decide +kernel
theorem dX12_unary_157 : decode cX12_unary 157 = .ok (.ireturn, 1) := by decide +kernel
theorem dX12_unary_158 : decode cX12_unary 158 = .ok (.iload_n 2, 1) := by decide +kernel
theorem dX12_unary_159 : decode cX12_unary 159 = .ok (.iconst 1, 1) := by decide +kernel
theorem dX12_unary_160 : decode cX12_unary 160 = .ok (.if_icmp .ge 5, 3) := by decide +kernel
theorem dX12_unary_163 : decode cX12_unary 163 = .ok (.iconst 0, 1) := by decide +kernel
theorem dX12_unary_164 : decode cX12_unary 164 = .ok (.ireturn, 1) := by decide +kernel
theorem dX12_unary_165 : decode cX12_unary 165 = .ok (.aload_n 0, 1) := by decide +kernel
theorem dX12_unary_166 : decode cX12_unary 166 = .ok (.aload_n 0, 1) := by decide +kernel
theorem dX12_unary_167 : decode cX12_unary 167 = .ok (.getfield 657, 3) := by decide +kernel
theorem dX12_unary_170 : decode cX12_unary 170 = .ok (.ldc_w 742, 3) := by decide +kernel
theorem dX12_unary_173 : decode cX12_unary 173 = .ok (.imul, 1) := by decide +kernel
theorem dX12_unary_174 : decode cX12_unary 174 = .ok (.iconst 1, 1) := by decide +kernel
theorem dX12_unary_175 : decode cX12_unary 175 = .ok (.iadd, 1) := by decide +kernel
theorem dX12_unary_176 : decode cX12_unary 176 = .ok (.putfield 657, 3) := by decide +kernel
theorem dX12_unary_179 : decode cX12_unary 179 = .ok (.iconst 1, 1) := by decide +kernel
theorem dX12_unary_180 : decode cX12_unary 180 = .ok (.aload_n 0, 1) := by decide +kernel
theorem dX12_unary_181 : decode cX12_unary 181 = .ok (.getfield 657, 3) := by decide +kernel
theorem dX12_unary_184 : decode cX12_unary 184 = .ok (.bipush 16, 2) := by decide +kernel
theorem dX12_unary_186 : decode cX12_unary 186 = .ok (.iushr, 1) := by decide +kernel
theorem dX12_unary_187 : decode cX12_unary 187 = .ok (.sipush 32767, 3) := by decide +kernel
theorem dX12_unary_190 : decode cX12_unary 190 = .ok (.iand, 1) := by decide +kernel
theorem dX12_unary_191 : decode cX12_unary 191 = .ok (.iload_n 2, 1) := by decide +kernel
theorem dX12_unary_192 : decode cX12_unary 192 = .ok (.irem, 1) := by decide +kernel
theorem dX12_unary_193 : decode cX12_unary 193 = .ok (.iadd, 1) := by decide +kernel
theorem dX12_unary_194 : decode cX12_unary 194 = .ok (.i2s, 1) := by decide +kernel
theorem dX12_unary_195 : decode cX12_unary 195 = .ok (.ireturn, 1) := by decide +kernel
theorem dX12_unary_196 : decode cX12_unary 196 = .ok (.iload_n 2, 1) := by decide +kernel
theorem dX12_unary_197 : decode cX12_unary 197 = .ok (.ineg, 1) := by decide +kernel
theorem dX12_unary_198 : decode cX12_unary 198 = .ok (.i2s, 1) := by decide +kernel
theorem dX12_unary_199 : decode cX12_unary 199 = .ok (.ireturn, 1) := by decide +kernel
theorem dX12_unary_200 : decode cX12_unary 200 = .ok (.iload_n 2, 1) := by decide +kernel
theorem dX12_unary_201 : decode cX12_unary 201 = .ok (.ifCond .ne 7, 3) := by decide +kernel
theorem dX12_unary_204 : decode cX12_unary 204 = .ok (.iconst 1, 1) := by decide +kernel
theorem dX12_unary_205 : decode cX12_unary 205 = .ok (.goto 4, 3) := by decide +kernel
theorem dX12_unary_208 : decode cX12_unary 208 = .ok (.iconst 0, 1) := by decide +kernel
theorem dX12_unary_209 : decode cX12_unary 209 = .ok (.ireturn, 1) := by decide +kernel
theorem dX12_unary_210 : decode cX12_unary 210 = .ok (.aload_n 0, 1) := by decide +kernel
theorem dX12_unary_211 : decode cX12_unary 211 = .ok (.iload_n 2, 1) := by decide +kernel
theorem dX12_unary_212 : decode cX12_unary 212 = .ok (.invokevirtual 736, 3) := by decide +kernel
theorem dX12_unary_215 : decode cX12_unary 215 = .ok (.ifCond .eq 26, 3) := by decide +kernel
theorem dX12_unary_218 : decode cX12_unary 218 = .ok (.aload_n 0, 1) := by decide +kernel
theorem dX12_unary_219 : decode cX12_unary 219 = .ok (.getfield 191, 3) := by decide +kernel
theorem dX12_unary_222 : decode cX12_unary 222 = .ok (.bipush 7, 2) := by decide +kernel
theorem dX12_unary_224 : decode cX12_unary 224 = .ok (.iload_n 2, 1) := by decide +kernel
theorem dX12_unary_225 : decode cX12_unary 225 = .ok (.imul, 1) := by decide +kernel
theorem dX12_unary_226 : decode cX12_unary 226 = .ok (.aload_n 0, 1) := by decide +kernel
theorem dX12_unary_227 : decode cX12_unary 227 = .ok (.getfield 149, 3) := by decide +kernel
theorem dX12_unary_230 : decode cX12_unary 230 = .ok (.iload_n 1, 1) := by decide +kernel
theorem dX12_unary_231 : decode cX12_unary 231 = .ok (.iaload, 1) := by decide +kernel
theorem dX12_unary_232 : decode cX12_unary 232 = .ok (.iadd, 1) := by decide +kernel
theorem dX12_unary_233 : decode cX12_unary 233 = .ok (.baload, 1) := by decide +kernel
theorem dX12_unary_234 : decode cX12_unary 234 = .ok (.ifCond .eq 7, 3) := by decide +kernel
theorem dX12_unary_237 : decode cX12_unary 237 = .ok (.iconst 1, 1) := by decide +kernel
theorem dX12_unary_238 : decode cX12_unary 238 = .ok (.goto 4, 3) := by decide +kernel
theorem dX12_unary_241 : decode cX12_unary 241 = .ok (.iconst 0, 1) := by decide +kernel
theorem dX12_unary_242 : decode cX12_unary 242 = .ok (.ireturn, 1) := by decide +kernel
def F_X12_unary (p0 : Int32) (p1 : Int32) (σ : MS) : MR :=
  if p0 < 0 ∨ 40000 ≤ p0.toNatClampNeg then none else
  bnd ((σ.2 64 p0.toNatClampNeg)) fun (x_3 : Int32) =>
  if x_3 = 43 then (
    if p0 < 0 ∨ 40000 ≤ p0.toNatClampNeg then none else
    (F_X12_cellAt (σ.2 68 p0.toNatClampNeg) p1 σ).bind fun u_9 =>
    if u_9.1 = 0 then (
      some (0, u_9.2)
    ) else (
      if p0 < 0 ∨ 40000 ≤ p0.toNatClampNeg then none else
      bnd ((u_9.2.2 68 p0.toNatClampNeg)) fun (x_16 : Int32) =>
      if x_16 < 0 ∨ 21 ≤ x_16.toNatClampNeg then none else
      bnd (((u_9.2.2 77 x_16.toNatClampNeg) + p1)) fun (x_20 : Int32) =>
      if x_20 < 0 ∨ 1000 ≤ x_20.toNatClampNeg then none else
      some ((u_9.2.2 92 x_20.toNatClampNeg), u_9.2)
    )
  ) else
  if x_3 = 48 then (
    (F_X12_isObject p1 σ).bind fun u_27 =>
    if u_27.1 = 0 then (
      some (0, u_27.2)
    ) else (
      if p1 < 0 ∨ 121 ≤ p1.toNatClampNeg then none else
      some ((u_27.2.2 87 p1.toNatClampNeg), u_27.2)
    )
  ) else
  if x_3 = 49 then (
    (F_X12_isObject p1 σ).bind fun u_37 =>
    if u_37.1 = 0 then (
      some (0, u_37.2)
    ) else (
      if p1 < 0 ∨ 121 ≤ p1.toNatClampNeg then none else
      some ((u_37.2.2 88 p1.toNatClampNeg), u_37.2)
    )
  ) else
  if x_3 = 50 then (
    (F_X12_isObject p1 σ).bind fun u_47 =>
    if u_47.1 = 0 then (
      some (0, u_47.2)
    ) else (
      if p1 < 0 ∨ 121 ≤ p1.toNatClampNeg then none else
      some ((u_47.2.2 89 p1.toNatClampNeg), u_47.2)
    )
  ) else
  if x_3 = 51 then (
    if 1 ≤ p1 then (
      bnd (mI σ 93 (((σ.1 93) * 69069) + 1)) fun σ_59 =>
      bnd (((σ_59.1 93).toUInt32 >>> ((16 : Int32).toUInt32 &&& Int32.toUInt32 31)).toInt32) fun (x_61 : Int32) =>
      if p1 = 0 then none else
      bnd (((x_61 &&& 32767) - (x_61 &&& 32767) / p1 * p1)) fun (x_65 : Int32) =>
      bnd ((1 + x_65).toInt16.toInt32) fun (x_67 : Int32) =>
      some (x_67, σ_59)
    ) else (
      some (0, σ)
    )
  ) else
  if x_3 = 52 then (
    bnd ((-p1).toInt16.toInt32) fun (x_73 : Int32) =>
    some (x_73, σ)
  ) else
  if x_3 = 53 then (
    if p1 = 0 then (
      some (1, σ)
    ) else (
      some (0, σ)
    )
  ) else
  (
    (F_X12_isObject p1 σ).bind fun u_82 =>
    if u_82.1 = 0 then (
      some (0, u_82.2)
    ) else (
      if p0 < 0 ∨ 40000 ≤ p0.toNatClampNeg then none else
      bnd (((7 * p1) + (u_82.2.2 68 p0.toNatClampNeg))) fun (x_89 : Int32) =>
      if x_89 < 0 ∨ 847 ≤ x_89.toNatClampNeg then none else
      if (u_82.2.2 90 x_89.toNatClampNeg) = 0 then (
        some (0, u_82.2)
      ) else (
        some (1, u_82.2)
      )
    )
  )
set_option maxHeartbeats 4000000 in
set_option maxRecDepth 100000 in
theorem m_X12_unary (l : Launch) (dC : Nat → ClassId) (dI : Nat → Nat → Nat) (cB cC cI cJ cZ cP : ClassId) (h qK qS : Nat) (ad : Nat → Nat) (hDD : mDis cB cI cZ h qK qS ad) (sz : Nat)  (p0 : Int32) (p1 : Int32) (σ : MS) (res : Int32 × MS) (hF : F_X12_unary p0 p1 σ = some res) : Met l yX12_unary (g_ws yX12_unary cX12_unary 3 (some .int)) ({ frames := 3, cells := 0, slots := 0, locals := 83 }) (va_Pc [.ref h, .int p0, .int p1] (m_B (dC, dI) [(cB, .byte), (cC, .char), (cI, .int), (cJ, .long), (cZ, .boolean), (cP, .object "StoryHouse$Play")] sz h ad qK qS (mW cB cI cZ h qK qS ad σ) g_0)) (va_Qi (fun r (_ : Unit) => r = res.1) (fun _ t => va_P (dC, dI) vwCl (mW cB cI cZ h qK qS ad res.2) t.heap) (mCells h ad sz)) 0 0 (mCells h ad sz) := by
  refine Met.ofW (cc := cX12_unary) (maxL := 3) (ret := (some .int)) (by decide) rfl ?_
  intro p e s m args below meth c s₁ B hml hv
  obtain ⟨rfl, hsz, hP, hK, hE, hKS, hX⟩ := hv
  have hx := B.exec
  have hb := B.bytes
  have hr := B.returns
  have hts0 := atoms_spec (ws := g_ws yX12_unary cX12_unary 3 (some .int)) B.pre
  have hts : ∀ w ∈ lw_good, w.before ([.ref h, .int p0, .int p1] : List Value).toArray s = true := fun w z => hts0 w (List.mem_cons_of_mem _ z)
  have hown : s.vm.findClass RX12 = some m.cls := findClass_of_methodNamed B.named
  have hlocks := B.notSynchronized
  have hS : va_S (mCells h ad sz) s.heap s.heap [] := va_S.rf
  have hl := lv_entry ([.ref h, .int p0, .int p1]) (n := 3) (Nat.le_of_ble_eq_true rfl)
  rw [lg_entry_eq]
  generalize (lg_sl ([.ref h, .int p0, .int p1]) ++ List.replicate (3 - (lg_sl ([.ref h, .int p0, .int p1])).length) Slot.unset).toArray = ls at hl ⊢
  have hl : lv_has ls 3 [(0, .ref h), (1, .int p0), (2, .int p1)] := hl
  unfold F_X12_unary at hF
  refine lv_aload_n hx hb dX12_unary_0 rfl (lv_at hl 0 rfl) ?_
  refine va_get (D := (dC, dI)) (ci := 12) (v := .ref (ad 64)) (C := RX12) (T := TX12) (N := 123) hx hb hts ii_X12 hown hK hP 0 rfl rfl 64 (by decide) (hts (.fieldLink RX12 137 "StoryHouseModel" "bWhat" "[I") wq_1420) (fun _ h9 => h9) rfl dX12_unary_1 ?_
  refine lv_iload_n hx hb dX12_unary_4 rfl (lv_at hl 1 rfl) ?_
  obtain ⟨g_1, hF_2⟩ := nif_e hF
  clear hF
  refine va_iald (f := σ.2 64) hx hb hK hP 37 2 rfl rfl g_1 dX12_unary_5 ?_
  obtain ⟨x_3, ex_3, hF_4⟩ := bnd_e hF_2
  clear hF_2
  refine m_top ex_3 ?_
  by_cases c_5 : x_3 = 43
  · have hF_6 := ipos c_5 hF_4
    clear hF_4
    refine lv_tableIn (off := 58) (tgt := 64) hx hb dX12_unary_6 (by rw [c_5]; decide +kernel) (by rw [c_5]; decide +kernel) (by rw [c_5]; decide +kernel) (by decide) ?_
    refine lv_aload_n hx hb dX12_unary_64 rfl (lv_at hl 0 rfl) ?_
    refine lv_aload_n hx hb dX12_unary_65 rfl (lv_at hl 0 rfl) ?_
    refine va_get (D := (dC, dI)) (ci := 12) (v := .ref (ad 68)) (C := RX12) (T := TX12) (N := 123) hx hb hts ii_X12 hown hK hP 0 rfl rfl 68 (by decide) (hts (.fieldLink RX12 149 "StoryHouseModel" "bD" "[I") wq_1424) (fun _ h9 => h9) rfl dX12_unary_66 ?_
    refine lv_iload_n hx hb dX12_unary_69 rfl (lv_at hl 1 rfl) ?_
    obtain ⟨g_7, hF_8⟩ := nif_e hF_6
    clear hF_6
    refine va_iald (f := σ.2 68) hx hb hK hP 41 2 rfl rfl g_7 dX12_unary_70 ?_
    refine lv_iload_n hx hb dX12_unary_71 rfl (lv_at hl 2 rfl) ?_
    obtain ⟨u_9, hu_9, hF_10⟩ := Option.bind_eq_some_iff.mp hF_8
    clear hF_8
    refine m_ci hsz hS (va_runV (As := [.int (σ.2 68 p0.toNatClampNeg), .int p1]) (rest := []) ⟨hx, hb, hml, hown, hts⟩ (m_X12_cellAt l dC dI cB cC cI cJ cZ cP h qK qS ad hDD s.heap.size  (σ.2 68 p0.toNatClampNeg) p1 σ _ hu_9) (cwV 2 hts (g_gV wq_1858 wq_1859 wq_2227 wq_13 wq_1860) rfl rfl rfl (by decide +kernel) ⟨Nat.le_of_ble_eq_true rfl, Nat.le_of_ble_eq_true rfl⟩) (m_preV g_bl0 hsz hK hP hS hE hKS g_to0) rfl rfl hl.1 rfl (lv_room (Nat.le_of_ble_eq_true rfl)) dX12_unary_72 ⟨Nat.le_of_ble_eq_true rfl, Nat.le_of_ble_eq_true rfl⟩) (fun H locs hP hS => ?_)
    refine lv_if_eq (tgt := 99) hx hb dX12_unary_75 (by decide) (fun c_11 => ?_) (fun c_11 => ?_)
    · have hF_12 := ipos c_11 hF_10
      clear hF_10
      refine lv_iconst (v := 0) hx hb dX12_unary_99 (by decide +kernel) ?_
      have h9 := Option.some.inj hF_12
      subst h9
      exact W.iret (v := 0) hx hb hr (fun t ht hW => ⟨⟨0, (), rfl, rfl, m_end ht hP⟩, hS.F ht⟩) hS.2.2 dX12_unary_100
    · have hF_13 := ineg c_11 hF_10
      clear hF_10
      refine lv_aload_n hx hb dX12_unary_78 rfl (lv_at hl 0 rfl) ?_
      refine va_get (D := (dC, dI)) (ci := 12) (v := .ref (ad 92)) (C := RX12) (T := TX12) (N := 123) hx hb hts ii_X12 hown hK hP 0 rfl rfl 92 (by decide) (hts (.fieldLink RX12 197 "StoryHouseModel" "room" "[I") wq_1448) (fun _ h9 => h9) rfl dX12_unary_79 ?_
      refine lv_aload_n hx hb dX12_unary_82 rfl (lv_at hl 0 rfl) ?_
      refine va_get (D := (dC, dI)) (ci := 12) (v := .ref (ad 77)) (C := RX12) (T := TX12) (N := 123) hx hb hts ii_X12 hown hK hP 0 rfl rfl 77 (by decide) (hts (.fieldLink RX12 176 "StoryHouseModel" "arrayAt" "[I") wq_1433) (fun _ h9 => h9) rfl dX12_unary_83 ?_
      refine lv_aload_n hx hb dX12_unary_86 rfl (lv_at hl 0 rfl) ?_
      refine va_get (D := (dC, dI)) (ci := 12) (v := .ref (ad 68)) (C := RX12) (T := TX12) (N := 123) hx hb hts ii_X12 hown hK hP 0 rfl rfl 68 (by decide) (hts (.fieldLink RX12 149 "StoryHouseModel" "bD" "[I") wq_1424) (fun _ h9 => h9) rfl dX12_unary_87 ?_
      refine lv_iload_n hx hb dX12_unary_90 rfl (lv_at hl 1 rfl) ?_
      obtain ⟨g_14, hF_15⟩ := nif_e hF_13
      clear hF_13
      refine va_iald (f := u_9.2.2 68) hx hb hK hP 41 2 rfl rfl g_14 dX12_unary_91 ?_
      obtain ⟨x_16, ex_16, hF_17⟩ := bnd_e hF_15
      clear hF_15
      refine m_top ex_16 ?_
      obtain ⟨g_18, hF_19⟩ := nif_e hF_17
      clear hF_17
      refine va_iald (f := u_9.2.2 77) hx hb hK hP 50 2 rfl rfl g_18 dX12_unary_92 ?_
      refine lv_iload_n hx hb dX12_unary_93 rfl (lv_at hl 2 rfl) ?_
      refine lv_iadd hx hb dX12_unary_94 ?_
      obtain ⟨x_20, ex_20, hF_21⟩ := bnd_e hF_19
      clear hF_19
      refine m_top ex_20 ?_
      obtain ⟨g_22, hF_23⟩ := nif_e hF_21
      clear hF_21
      refine va_iald (f := u_9.2.2 92) hx hb hK hP 57 2 rfl rfl g_22 dX12_unary_95 ?_
      refine lv_goto (tgt := 100) hx hb dX12_unary_96 (by decide) ?_
      have h9 := Option.some.inj hF_23
      subst h9
      exact W.iret (v := (u_9.2.2 92 x_20.toNatClampNeg)) hx hb hr (fun t ht hW => ⟨⟨(u_9.2.2 92 x_20.toNatClampNeg), (), rfl, rfl, m_end ht hP⟩, hS.F ht⟩) hS.2.2 dX12_unary_100
  have hF_24 := ineg c_5 hF_4
  clear hF_4
  by_cases c_25 : x_3 = 48
  · have hF_26 := ipos c_25 hF_24
    clear hF_24
    refine lv_tableIn (off := 95) (tgt := 101) hx hb dX12_unary_6 (by rw [c_25]; decide +kernel) (by rw [c_25]; decide +kernel) (by rw [c_25]; decide +kernel) (by decide) ?_
    refine lv_aload_n hx hb dX12_unary_101 rfl (lv_at hl 0 rfl) ?_
    refine lv_iload_n hx hb dX12_unary_102 rfl (lv_at hl 2 rfl) ?_
    obtain ⟨u_27, hu_27, hF_28⟩ := Option.bind_eq_some_iff.mp hF_26
    clear hF_26
    refine m_ci hsz hS (va_runV (As := [.int p1]) (rest := []) ⟨hx, hb, hml, hown, hts⟩ (m_X12_isObject l dC dI cB cC cI cJ cZ cP h qK qS ad hDD s.heap.size  p1 σ _ hu_27) (cwV 1 hts (g_gV wq_1852 wq_1853 wq_2225 wq_13 wq_1854) rfl rfl rfl (by decide +kernel) ⟨Nat.le_of_ble_eq_true rfl, Nat.le_of_ble_eq_true rfl⟩) (m_preV g_bl0 hsz hK hP hS hE hKS g_to0) rfl rfl hl.1 rfl (lv_room (Nat.le_of_ble_eq_true rfl)) dX12_unary_103 ⟨Nat.le_of_ble_eq_true rfl, Nat.le_of_ble_eq_true rfl⟩) (fun H locs hP hS => ?_)
    refine lv_if_eq (tgt := 118) hx hb dX12_unary_106 (by decide) (fun c_29 => ?_) (fun c_29 => ?_)
    · have hF_30 := ipos c_29 hF_28
      clear hF_28
      refine lv_iconst (v := 0) hx hb dX12_unary_118 (by decide +kernel) ?_
      have h9 := Option.some.inj hF_30
      subst h9
      exact W.iret (v := 0) hx hb hr (fun t ht hW => ⟨⟨0, (), rfl, rfl, m_end ht hP⟩, hS.F ht⟩) hS.2.2 dX12_unary_119
    · have hF_31 := ineg c_29 hF_28
      clear hF_28
      refine lv_aload_n hx hb dX12_unary_109 rfl (lv_at hl 0 rfl) ?_
      refine va_get (D := (dC, dI)) (ci := 12) (v := .ref (ad 87)) (C := RX12) (T := TX12) (N := 123) hx hb hts ii_X12 hown hK hP 0 rfl rfl 87 (by decide) (hts (.fieldLink RX12 182 "StoryHouseModel" "holder" "[I") wq_1443) (fun _ h9 => h9) rfl dX12_unary_110 ?_
      refine lv_iload_n hx hb dX12_unary_113 rfl (lv_at hl 2 rfl) ?_
      obtain ⟨g_32, hF_33⟩ := nif_e hF_31
      clear hF_31
      refine va_iald (f := u_27.2.2 87) hx hb hK hP 52 2 rfl rfl g_32 dX12_unary_114 ?_
      refine lv_goto (tgt := 119) hx hb dX12_unary_115 (by decide) ?_
      have h9 := Option.some.inj hF_33
      subst h9
      exact W.iret (v := (u_27.2.2 87 p1.toNatClampNeg)) hx hb hr (fun t ht hW => ⟨⟨(u_27.2.2 87 p1.toNatClampNeg), (), rfl, rfl, m_end ht hP⟩, hS.F ht⟩) hS.2.2 dX12_unary_119
  have hF_34 := ineg c_25 hF_24
  clear hF_24
  by_cases c_35 : x_3 = 49
  · have hF_36 := ipos c_35 hF_34
    clear hF_34
    refine lv_tableIn (off := 114) (tgt := 120) hx hb dX12_unary_6 (by rw [c_35]; decide +kernel) (by rw [c_35]; decide +kernel) (by rw [c_35]; decide +kernel) (by decide) ?_
    refine lv_aload_n hx hb dX12_unary_120 rfl (lv_at hl 0 rfl) ?_
    refine lv_iload_n hx hb dX12_unary_121 rfl (lv_at hl 2 rfl) ?_
    obtain ⟨u_37, hu_37, hF_38⟩ := Option.bind_eq_some_iff.mp hF_36
    clear hF_36
    refine m_ci hsz hS (va_runV (As := [.int p1]) (rest := []) ⟨hx, hb, hml, hown, hts⟩ (m_X12_isObject l dC dI cB cC cI cJ cZ cP h qK qS ad hDD s.heap.size  p1 σ _ hu_37) (cwV 1 hts (g_gV wq_1852 wq_1853 wq_2225 wq_13 wq_1854) rfl rfl rfl (by decide +kernel) ⟨Nat.le_of_ble_eq_true rfl, Nat.le_of_ble_eq_true rfl⟩) (m_preV g_bl0 hsz hK hP hS hE hKS g_to0) rfl rfl hl.1 rfl (lv_room (Nat.le_of_ble_eq_true rfl)) dX12_unary_122 ⟨Nat.le_of_ble_eq_true rfl, Nat.le_of_ble_eq_true rfl⟩) (fun H locs hP hS => ?_)
    refine lv_if_eq (tgt := 137) hx hb dX12_unary_125 (by decide) (fun c_39 => ?_) (fun c_39 => ?_)
    · have hF_40 := ipos c_39 hF_38
      clear hF_38
      refine lv_iconst (v := 0) hx hb dX12_unary_137 (by decide +kernel) ?_
      have h9 := Option.some.inj hF_40
      subst h9
      exact W.iret (v := 0) hx hb hr (fun t ht hW => ⟨⟨0, (), rfl, rfl, m_end ht hP⟩, hS.F ht⟩) hS.2.2 dX12_unary_138
    · have hF_41 := ineg c_39 hF_38
      clear hF_38
      refine lv_aload_n hx hb dX12_unary_128 rfl (lv_at hl 0 rfl) ?_
      refine va_get (D := (dC, dI)) (ci := 12) (v := .ref (ad 88)) (C := RX12) (T := TX12) (N := 123) hx hb hts ii_X12 hown hK hP 0 rfl rfl 88 (by decide) (hts (.fieldLink RX12 185 "StoryHouseModel" "first" "[I") wq_1444) (fun _ h9 => h9) rfl dX12_unary_129 ?_
      refine lv_iload_n hx hb dX12_unary_132 rfl (lv_at hl 2 rfl) ?_
      obtain ⟨g_42, hF_43⟩ := nif_e hF_41
      clear hF_41
      refine va_iald (f := u_37.2.2 88) hx hb hK hP 53 2 rfl rfl g_42 dX12_unary_133 ?_
      refine lv_goto (tgt := 138) hx hb dX12_unary_134 (by decide) ?_
      have h9 := Option.some.inj hF_43
      subst h9
      exact W.iret (v := (u_37.2.2 88 p1.toNatClampNeg)) hx hb hr (fun t ht hW => ⟨⟨(u_37.2.2 88 p1.toNatClampNeg), (), rfl, rfl, m_end ht hP⟩, hS.F ht⟩) hS.2.2 dX12_unary_138
  have hF_44 := ineg c_35 hF_34
  clear hF_34
  by_cases c_45 : x_3 = 50
  · have hF_46 := ipos c_45 hF_44
    clear hF_44
    refine lv_tableIn (off := 133) (tgt := 139) hx hb dX12_unary_6 (by rw [c_45]; decide +kernel) (by rw [c_45]; decide +kernel) (by rw [c_45]; decide +kernel) (by decide) ?_
    refine lv_aload_n hx hb dX12_unary_139 rfl (lv_at hl 0 rfl) ?_
    refine lv_iload_n hx hb dX12_unary_140 rfl (lv_at hl 2 rfl) ?_
    obtain ⟨u_47, hu_47, hF_48⟩ := Option.bind_eq_some_iff.mp hF_46
    clear hF_46
    refine m_ci hsz hS (va_runV (As := [.int p1]) (rest := []) ⟨hx, hb, hml, hown, hts⟩ (m_X12_isObject l dC dI cB cC cI cJ cZ cP h qK qS ad hDD s.heap.size  p1 σ _ hu_47) (cwV 1 hts (g_gV wq_1852 wq_1853 wq_2225 wq_13 wq_1854) rfl rfl rfl (by decide +kernel) ⟨Nat.le_of_ble_eq_true rfl, Nat.le_of_ble_eq_true rfl⟩) (m_preV g_bl0 hsz hK hP hS hE hKS g_to0) rfl rfl hl.1 rfl (lv_room (Nat.le_of_ble_eq_true rfl)) dX12_unary_141 ⟨Nat.le_of_ble_eq_true rfl, Nat.le_of_ble_eq_true rfl⟩) (fun H locs hP hS => ?_)
    refine lv_if_eq (tgt := 156) hx hb dX12_unary_144 (by decide) (fun c_49 => ?_) (fun c_49 => ?_)
    · have hF_50 := ipos c_49 hF_48
      clear hF_48
      refine lv_iconst (v := 0) hx hb dX12_unary_156 (by decide +kernel) ?_
      have h9 := Option.some.inj hF_50
      subst h9
      exact W.iret (v := 0) hx hb hr (fun t ht hW => ⟨⟨0, (), rfl, rfl, m_end ht hP⟩, hS.F ht⟩) hS.2.2 dX12_unary_157
    · have hF_51 := ineg c_49 hF_48
      clear hF_48
      refine lv_aload_n hx hb dX12_unary_147 rfl (lv_at hl 0 rfl) ?_
      refine va_get (D := (dC, dI)) (ci := 12) (v := .ref (ad 89)) (C := RX12) (T := TX12) (N := 123) hx hb hts ii_X12 hown hK hP 0 rfl rfl 89 (by decide) (hts (.fieldLink RX12 188 "StoryHouseModel" "next" "[I") wq_1445) (fun _ h9 => h9) rfl dX12_unary_148 ?_
      refine lv_iload_n hx hb dX12_unary_151 rfl (lv_at hl 2 rfl) ?_
      obtain ⟨g_52, hF_53⟩ := nif_e hF_51
      clear hF_51
      refine va_iald (f := u_47.2.2 89) hx hb hK hP 54 2 rfl rfl g_52 dX12_unary_152 ?_
      refine lv_goto (tgt := 157) hx hb dX12_unary_153 (by decide) ?_
      have h9 := Option.some.inj hF_53
      subst h9
      exact W.iret (v := (u_47.2.2 89 p1.toNatClampNeg)) hx hb hr (fun t ht hW => ⟨⟨(u_47.2.2 89 p1.toNatClampNeg), (), rfl, rfl, m_end ht hP⟩, hS.F ht⟩) hS.2.2 dX12_unary_157
  have hF_54 := ineg c_45 hF_44
  clear hF_44
  by_cases c_55 : x_3 = 51
  · have hF_56 := ipos c_55 hF_54
    clear hF_54
    refine lv_tableIn (off := 152) (tgt := 158) hx hb dX12_unary_6 (by rw [c_55]; decide +kernel) (by rw [c_55]; decide +kernel) (by rw [c_55]; decide +kernel) (by decide) ?_
    refine lv_iload_n hx hb dX12_unary_158 rfl (lv_at hl 2 rfl) ?_
    refine lv_iconst (v := 1) hx hb dX12_unary_159 (by decide +kernel) ?_
    refine lv_icmp_ge (tgt := 165) hx hb dX12_unary_160 (by decide) (fun c_57 => ?_) (fun c_57 => ?_)
    · have hF_58 := ipos c_57 hF_56
      clear hF_56
      refine lv_aload_n hx hb dX12_unary_165 rfl (lv_at hl 0 rfl) ?_
      refine lv_aload_n hx hb dX12_unary_166 rfl (lv_at hl 0 rfl) ?_
      refine va_get (D := (dC, dI)) (ci := 12) (v := .int (σ.1 93)) (C := RX12) (T := TX12) (N := 123) hx hb hts ii_X12 hown hK hP 0 rfl rfl 93 (by decide) (hts (.fieldLink RX12 657 "StoryHouseModel" "seed" "I") wq_1449) (fun _ h9 => h9) rfl dX12_unary_167 ?_
      refine lv_ldcw (v := 69069) hx hb hown (hts (.constant RX12 742 (69069)) wq_1861) dX12_unary_170 ?_
      refine lv_imul hx hb dX12_unary_173 ?_
      refine lv_iconst (v := 1) hx hb dX12_unary_174 (by decide +kernel) ?_
      refine lv_iadd hx hb dX12_unary_175 ?_
      obtain ⟨σ_59, eσ_59, hF_60⟩ := bnd_e hF_58
      clear hF_58
      refine m_put (σ' := σ_59) (v := .int (((σ.1 93) * 69069) + 1)) (ty := .int) hx hb hts hown hK hP (hDD _ _) hS (by rw [eσ_59]; exact mwI_93) (k := 93) (by decide) (hts (.fieldLink RX12 657 "StoryHouseModel" "seed" "I") wq_1449) (fun _ h9 => h9) rfl (by decide +kernel) rfl rfl dX12_unary_176 (fun H locs hP hS => ?_)
      refine lv_iconst (v := 1) hx hb dX12_unary_179 (by decide +kernel) ?_
      refine lv_aload_n hx hb dX12_unary_180 rfl (lv_at hl 0 rfl) ?_
      refine va_get (D := (dC, dI)) (ci := 12) (v := .int (σ_59.1 93)) (C := RX12) (T := TX12) (N := 123) hx hb hts ii_X12 hown hK hP 0 rfl rfl 93 (by decide) (hts (.fieldLink RX12 657 "StoryHouseModel" "seed" "I") wq_1449) (fun _ h9 => h9) rfl dX12_unary_181 ?_
      refine lv_bipush (v := 16) hx hb dX12_unary_184 (by decide +kernel) ?_
      refine lv_iushr hx hb dX12_unary_186 rfl ?_
      obtain ⟨x_61, ex_61, hF_62⟩ := bnd_e hF_60
      clear hF_60
      refine m_top ex_61 ?_
      refine lv_sipush (v := 32767) hx hb dX12_unary_187 (by decide +kernel) ?_
      refine lv_iand hx hb dX12_unary_190 ?_
      refine lv_iload_n hx hb dX12_unary_191 rfl (lv_at hl 2 rfl) ?_
      obtain ⟨g_63, hF_64⟩ := nif_e hF_62
      clear hF_62
      refine lv_irem hx hb dX12_unary_192 g_63 ?_
      obtain ⟨x_65, ex_65, hF_66⟩ := bnd_e hF_64
      clear hF_64
      refine m_top ex_65 ?_
      refine lv_iadd hx hb dX12_unary_193 ?_
      refine lv_i2s hx hb dX12_unary_194 rfl ?_
      obtain ⟨x_67, ex_67, hF_68⟩ := bnd_e hF_66
      clear hF_66
      refine m_top ex_67 ?_
      have h9 := Option.some.inj hF_68
      subst h9
      exact W.iret (v := x_67) hx hb hr (fun t ht hW => ⟨⟨x_67, (), rfl, rfl, m_end ht hP⟩, hS.F ht⟩) hS.2.2 dX12_unary_195
    · have hF_69 := ineg c_57 hF_56
      clear hF_56
      refine lv_iconst (v := 0) hx hb dX12_unary_163 (by decide +kernel) ?_
      have h9 := Option.some.inj hF_69
      subst h9
      exact W.iret (v := 0) hx hb hr (fun t ht hW => ⟨⟨0, (), rfl, rfl, m_end ht hP⟩, hS.F ht⟩) hS.2.2 dX12_unary_164
  have hF_70 := ineg c_55 hF_54
  clear hF_54
  by_cases c_71 : x_3 = 52
  · have hF_72 := ipos c_71 hF_70
    clear hF_70
    refine lv_tableIn (off := 190) (tgt := 196) hx hb dX12_unary_6 (by rw [c_71]; decide +kernel) (by rw [c_71]; decide +kernel) (by rw [c_71]; decide +kernel) (by decide) ?_
    refine lv_iload_n hx hb dX12_unary_196 rfl (lv_at hl 2 rfl) ?_
    refine lv_ineg hx hb dX12_unary_197 ?_
    refine lv_i2s hx hb dX12_unary_198 rfl ?_
    obtain ⟨x_73, ex_73, hF_74⟩ := bnd_e hF_72
    clear hF_72
    refine m_top ex_73 ?_
    have h9 := Option.some.inj hF_74
    subst h9
    exact W.iret (v := x_73) hx hb hr (fun t ht hW => ⟨⟨x_73, (), rfl, rfl, m_end ht hP⟩, hS.F ht⟩) hS.2.2 dX12_unary_199
  have hF_75 := ineg c_71 hF_70
  clear hF_70
  by_cases c_76 : x_3 = 53
  · have hF_77 := ipos c_76 hF_75
    clear hF_75
    refine lv_tableIn (off := 194) (tgt := 200) hx hb dX12_unary_6 (by rw [c_76]; decide +kernel) (by rw [c_76]; decide +kernel) (by rw [c_76]; decide +kernel) (by decide) ?_
    refine lv_iload_n hx hb dX12_unary_200 rfl (lv_at hl 2 rfl) ?_
    refine lv_if_ne (tgt := 208) hx hb dX12_unary_201 (by decide) (fun c_78 => ?_) (fun c_78 => ?_)
    · have hF_80 := ineg c_78 hF_77
      clear hF_77
      refine lv_iconst (v := 0) hx hb dX12_unary_208 (by decide +kernel) ?_
      have h9 := Option.some.inj hF_80
      subst h9
      exact W.iret (v := 0) hx hb hr (fun t ht hW => ⟨⟨0, (), rfl, rfl, m_end ht hP⟩, hS.F ht⟩) hS.2.2 dX12_unary_209
    · have hF_79 := ipos c_78 hF_77
      clear hF_77
      refine lv_iconst (v := 1) hx hb dX12_unary_204 (by decide +kernel) ?_
      refine lv_goto (tgt := 209) hx hb dX12_unary_205 (by decide) ?_
      have h9 := Option.some.inj hF_79
      subst h9
      exact W.iret (v := 1) hx hb hr (fun t ht hW => ⟨⟨1, (), rfl, rfl, m_end ht hP⟩, hS.F ht⟩) hS.2.2 dX12_unary_209
  have hF_81 := ineg c_76 hF_75
  clear hF_75
  refine m_tabD (lo := 43) (n := 11) (tgt := 210) hx hb dX12_unary_6 (by decide +kernel) (by decide) (fun j9 h9 e9 => by
      match j9, h9 with
      | 0, _ => exact absurd ((by rw [e9]; decide +kernel)) c_5
      | 1, _ => rfl
      | 2, _ => rfl
      | 3, _ => rfl
      | 4, _ => rfl
      | 5, _ => exact absurd ((by rw [e9]; decide +kernel)) c_25
      | 6, _ => exact absurd ((by rw [e9]; decide +kernel)) c_35
      | 7, _ => exact absurd ((by rw [e9]; decide +kernel)) c_45
      | 8, _ => exact absurd ((by rw [e9]; decide +kernel)) c_55
      | 9, _ => exact absurd ((by rw [e9]; decide +kernel)) c_71
      | 10, _ => exact absurd ((by rw [e9]; decide +kernel)) c_76
      | n9 + 11, h9 => exact absurd h9 (by omega)) ?_
  refine lv_aload_n hx hb dX12_unary_210 rfl (lv_at hl 0 rfl) ?_
  refine lv_iload_n hx hb dX12_unary_211 rfl (lv_at hl 2 rfl) ?_
  obtain ⟨u_82, hu_82, hF_83⟩ := Option.bind_eq_some_iff.mp hF_81
  clear hF_81
  refine m_ci hsz hS (va_runV (As := [.int p1]) (rest := []) ⟨hx, hb, hml, hown, hts⟩ (m_X12_isObject l dC dI cB cC cI cJ cZ cP h qK qS ad hDD s.heap.size  p1 σ _ hu_82) (cwV 1 hts (g_gV wq_1852 wq_1853 wq_2225 wq_13 wq_1854) rfl rfl rfl (by decide +kernel) ⟨Nat.le_of_ble_eq_true rfl, Nat.le_of_ble_eq_true rfl⟩) (m_preV g_bl0 hsz hK hP hS hE hKS g_to0) rfl rfl hl.1 rfl (lv_room (Nat.le_of_ble_eq_true rfl)) dX12_unary_212 ⟨Nat.le_of_ble_eq_true rfl, Nat.le_of_ble_eq_true rfl⟩) (fun H locs hP hS => ?_)
  refine lv_if_eq (tgt := 241) hx hb dX12_unary_215 (by decide) (fun c_84 => ?_) (fun c_84 => ?_)
  · have hF_85 := ipos c_84 hF_83
    clear hF_83
    refine lv_iconst (v := 0) hx hb dX12_unary_241 (by decide +kernel) ?_
    have h9 := Option.some.inj hF_85
    subst h9
    exact W.iret (v := 0) hx hb hr (fun t ht hW => ⟨⟨0, (), rfl, rfl, m_end ht hP⟩, hS.F ht⟩) hS.2.2 dX12_unary_242
  · have hF_86 := ineg c_84 hF_83
    clear hF_83
    refine lv_aload_n hx hb dX12_unary_218 rfl (lv_at hl 0 rfl) ?_
    refine va_get (D := (dC, dI)) (ci := 12) (v := .ref (ad 90)) (C := RX12) (T := TX12) (N := 123) hx hb hts ii_X12 hown hK hP 0 rfl rfl 90 (by decide) (hts (.fieldLink RX12 191 "StoryHouseModel" "has" "[Z") wq_1446) (fun _ h9 => h9) rfl dX12_unary_219 ?_
    refine lv_bipush (v := 7) hx hb dX12_unary_222 (by decide +kernel) ?_
    refine lv_iload_n hx hb dX12_unary_224 rfl (lv_at hl 2 rfl) ?_
    refine lv_imul hx hb dX12_unary_225 ?_
    refine lv_aload_n hx hb dX12_unary_226 rfl (lv_at hl 0 rfl) ?_
    refine va_get (D := (dC, dI)) (ci := 12) (v := .ref (ad 68)) (C := RX12) (T := TX12) (N := 123) hx hb hts ii_X12 hown hK hP 0 rfl rfl 68 (by decide) (hts (.fieldLink RX12 149 "StoryHouseModel" "bD" "[I") wq_1424) (fun _ h9 => h9) rfl dX12_unary_227 ?_
    refine lv_iload_n hx hb dX12_unary_230 rfl (lv_at hl 1 rfl) ?_
    obtain ⟨g_87, hF_88⟩ := nif_e hF_86
    clear hF_86
    refine va_iald (f := u_82.2.2 68) hx hb hK hP 41 2 rfl rfl g_87 dX12_unary_231 ?_
    refine lv_iadd hx hb dX12_unary_232 ?_
    obtain ⟨x_89, ex_89, hF_90⟩ := bnd_e hF_88
    clear hF_88
    refine m_top ex_89 ?_
    obtain ⟨g_91, hF_92⟩ := nif_e hF_90
    clear hF_90
    refine va_zald (f := u_82.2.2 90) hx hb hK hP 55 4 rfl rfl g_91 dX12_unary_233 ?_
    refine lv_if_eq (tgt := 241) hx hb dX12_unary_234 (by decide) (fun c_93 => ?_) (fun c_93 => ?_)
    · have hF_94 := ipos c_93 hF_92
      clear hF_92
      refine lv_iconst (v := 0) hx hb dX12_unary_241 (by decide +kernel) ?_
      have h9 := Option.some.inj hF_94
      subst h9
      exact W.iret (v := 0) hx hb hr (fun t ht hW => ⟨⟨0, (), rfl, rfl, m_end ht hP⟩, hS.F ht⟩) hS.2.2 dX12_unary_242
    · have hF_95 := ineg c_93 hF_92
      clear hF_92
      refine lv_iconst (v := 1) hx hb dX12_unary_237 (by decide +kernel) ?_
      refine lv_goto (tgt := 242) hx hb dX12_unary_238 (by decide) ?_
      have h9 := Option.some.inj hF_95
      subst h9
      exact W.iret (v := 1) hx hb hr (fun t ht hW => ⟨⟨1, (), rfl, rfl, m_end ht hP⟩, hS.F ht⟩) hS.2.2 dX12_unary_242
theorem dX12_closes_0 : decode cX12_closes 0 = .ok (.aload_n 0, 1) := by decide +kernel
theorem dX12_closes_1 : decode cX12_closes 1 = .ok (.getfield 222, 3) := by decide +kernel
theorem dX12_closes_4 : decode cX12_closes 4 = .ok (.aload_n 0, 1) := by decide +kernel
theorem dX12_closes_5 : decode cX12_closes 5 = .ok (.dup, 1) := by decide +kernel
theorem dX12_closes_6 : decode cX12_closes 6 = .ok (.getfield 700, 3) := by decide +kernel
theorem dX12_closes_9 : decode cX12_closes 9 = .ok (.iconst 1, 1) := by decide +kernel
theorem dX12_closes_10 : decode cX12_closes 10 = .ok (.isub, 1) := by decide +kernel
theorem dX12_closes_11 : decode cX12_closes 11 = .ok (.dup_x1, 1) := by decide +kernel
theorem dX12_closes_12 : decode cX12_closes 12 = .ok (.putfield 700, 3) := by decide +kernel
theorem dX12_closes_15 : decode cX12_closes 15 = .ok (.iaload, 1) := by decide +kernel
theorem dX12_closes_16 : decode cX12_closes 16 = .ok (.istore_n 3, 1) := by decide +kernel
theorem dX12_closes_17 : decode cX12_closes 17 = .ok (.aload_n 0, 1) := by decide +kernel
theorem dX12_closes_18 : decode cX12_closes 18 = .ok (.getfield 137, 3) := by decide +kernel
theorem dX12_closes_21 : decode cX12_closes 21 = .ok (.iload_n 1, 1) := by decide +kernel
theorem dX12_closes_22 : decode cX12_closes 22 = .ok (.iaload, 1) := by decide +kernel
theorem dX12_closes_23 : decode cX12_closes 23 = .ok (.bipush 56, 2) := by decide +kernel
theorem dX12_closes_25 : decode cX12_closes 25 = .ok (.if_icmp .ne 29, 3) := by decide +kernel
theorem dX12_closes_28 : decode cX12_closes 28 = .ok (.aload_n 0, 1) := by decide +kernel
theorem dX12_closes_29 : decode cX12_closes 29 = .ok (.iload_n 1, 1) := by decide +kernel
theorem dX12_closes_30 : decode cX12_closes 30 = .ok (.aload_n 0, 1) := by decide +kernel
theorem dX12_closes_31 : decode cX12_closes 31 = .ok (.getfield 222, 3) := by decide +kernel
theorem dX12_closes_34 : decode cX12_closes 34 = .ok (.aload_n 0, 1) := by decide +kernel
theorem dX12_closes_35 : decode cX12_closes 35 = .ok (.dup, 1) := by decide +kernel
theorem dX12_closes_36 : decode cX12_closes 36 = .ok (.getfield 700, 3) := by decide +kernel
theorem dX12_closes_39 : decode cX12_closes 39 = .ok (.iconst 1, 1) := by decide +kernel
theorem dX12_closes_40 : decode cX12_closes 40 = .ok (.isub, 1) := by decide +kernel
theorem dX12_closes_41 : decode cX12_closes 41 = .ok (.dup_x1, 1) := by decide +kernel
theorem dX12_closes_42 : decode cX12_closes 42 = .ok (.putfield 700, 3) := by decide +kernel
theorem dX12_closes_45 : decode cX12_closes 45 = .ok (.iaload, 1) := by decide +kernel
theorem dX12_closes_46 : decode cX12_closes 46 = .ok (.iload_n 3, 1) := by decide +kernel
theorem dX12_closes_47 : decode cX12_closes 47 = .ok (.invokevirtual 721, 3) := by decide +kernel
theorem dX12_closes_50 : decode cX12_closes 50 = .ok (.istore_n 3, 1) := by decide +kernel
theorem dX12_closes_51 : decode cX12_closes 51 = .ok (.goto 132, 3) := by decide +kernel
theorem dX12_closes_54 : decode cX12_closes 54 = .ok (.aload_n 0, 1) := by decide +kernel
theorem dX12_closes_55 : decode cX12_closes 55 = .ok (.getfield 137, 3) := by decide +kernel
theorem dX12_closes_58 : decode cX12_closes 58 = .ok (.iload_n 1, 1) := by decide +kernel
theorem dX12_closes_59 : decode cX12_closes 59 = .ok (.iaload, 1) := by decide +kernel
theorem dX12_closes_60 : decode cX12_closes 60 = .ok (.bipush 57, 2) := by decide +kernel
theorem dX12_closes_62 : decode cX12_closes 62 = .ok (.if_icmp .ne 28, 3) := by decide +kernel
theorem dX12_closes_65 : decode cX12_closes 65 = .ok (.aload_n 0, 1) := by decide +kernel
theorem dX12_closes_66 : decode cX12_closes 66 = .ok (.aload_n 0, 1) := by decide +kernel
theorem dX12_closes_67 : decode cX12_closes 67 = .ok (.getfield 222, 3) := by decide +kernel
theorem dX12_closes_70 : decode cX12_closes 70 = .ok (.aload_n 0, 1) := by decide +kernel
theorem dX12_closes_71 : decode cX12_closes 71 = .ok (.dup, 1) := by decide +kernel
theorem dX12_closes_72 : decode cX12_closes 72 = .ok (.getfield 700, 3) := by decide +kernel
theorem dX12_closes_75 : decode cX12_closes 75 = .ok (.iconst 1, 1) := by decide +kernel
theorem dX12_closes_76 : decode cX12_closes 76 = .ok (.isub, 1) := by decide +kernel
theorem dX12_closes_77 : decode cX12_closes 77 = .ok (.dup_x1, 1) := by decide +kernel
theorem dX12_closes_78 : decode cX12_closes 78 = .ok (.putfield 700, 3) := by decide +kernel
theorem dX12_closes_81 : decode cX12_closes 81 = .ok (.iaload, 1) := by decide +kernel
theorem dX12_closes_82 : decode cX12_closes 82 = .ok (.iload_n 3, 1) := by decide +kernel
theorem dX12_closes_83 : decode cX12_closes 83 = .ok (.invokevirtual 724, 3) := by decide +kernel
theorem dX12_closes_86 : decode cX12_closes 86 = .ok (.istore_n 3, 1) := by decide +kernel
theorem dX12_closes_87 : decode cX12_closes 87 = .ok (.goto 96, 3) := by decide +kernel
theorem dX12_closes_90 : decode cX12_closes 90 = .ok (.aload_n 0, 1) := by decide +kernel
theorem dX12_closes_91 : decode cX12_closes 91 = .ok (.getfield 137, 3) := by decide +kernel
theorem dX12_closes_94 : decode cX12_closes 94 = .ok (.iload_n 1, 1) := by decide +kernel
theorem dX12_closes_95 : decode cX12_closes 95 = .ok (.iaload, 1) := by decide +kernel
theorem dX12_closes_96 : decode cX12_closes 96 = .ok (.bipush 54, 2) := by decide +kernel
theorem dX12_closes_98 : decode cX12_closes 98 = .ok (.if_icmp .eq 24, 3) := by decide +kernel
theorem dX12_closes_101 : decode cX12_closes 101 = .ok (.aload_n 0, 1) := by decide +kernel
theorem dX12_closes_102 : decode cX12_closes 102 = .ok (.getfield 137, 3) := by decide +kernel
theorem dX12_closes_105 : decode cX12_closes 105 = .ok (.iload_n 1, 1) := by decide +kernel
theorem dX12_closes_106 : decode cX12_closes 106 = .ok (.iaload, 1) := by decide +kernel
theorem dX12_closes_107 : decode cX12_closes 107 = .ok (.bipush 55, 2) := by decide +kernel
theorem dX12_closes_109 : decode cX12_closes 109 = .ok (.if_icmp .eq 13, 3) := by decide +kernel
theorem dX12_closes_112 : decode cX12_closes 112 = .ok (.aload_n 0, 1) := by decide +kernel
theorem dX12_closes_113 : decode cX12_closes 113 = .ok (.iload_n 1, 1) := by decide +kernel
theorem dX12_closes_114 : decode cX12_closes 114 = .ok (.iload_n 3, 1) := by decide +kernel
theorem dX12_closes_115 : decode cX12_closes 115 = .ok (.invokevirtual 727, 3) := by decide +kernel
theorem dX12_closes_118 : decode cX12_closes 118 = .ok (.istore_n 3, 1) := by decide +kernel
theorem dX12_closes_119 : decode cX12_closes 119 = .ok (.goto 64, 3) := by decide +kernel
theorem dX12_closes_122 : decode cX12_closes 122 = .ok (.iload_n 2, 1) := by decide +kernel
theorem dX12_closes_123 : decode cX12_closes 123 = .ok (.iconst 1, 1) := by decide +kernel
theorem dX12_closes_124 : decode cX12_closes 124 = .ok (.if_icmp .ne 49, 3) := by decide +kernel
theorem dX12_closes_127 : decode cX12_closes 127 = .ok (.iload_n 3, 1) := by decide +kernel
theorem dX12_closes_128 : decode cX12_closes 128 = .ok (.ifCond .eq 7, 3) := by decide +kernel
theorem dX12_closes_131 : decode cX12_closes 131 = .ok (.iconst 1, 1) := by decide +kernel
theorem dX12_closes_132 : decode cX12_closes 132 = .ok (.goto 4, 3) := by decide +kernel
theorem dX12_closes_135 : decode cX12_closes 135 = .ok (.iconst 0, 1) := by decide +kernel
theorem dX12_closes_136 : decode cX12_closes 136 = .ok (.aload_n 0, 1) := by decide +kernel
theorem dX12_closes_137 : decode cX12_closes 137 = .ok (.getfield 137, 3) := by decide +kernel
theorem dX12_closes_140 : decode cX12_closes 140 = .ok (.iload_n 1, 1) := by decide +kernel
theorem dX12_closes_141 : decode cX12_closes 141 = .ok (.iaload, 1) := by decide +kernel
theorem dX12_closes_142 : decode cX12_closes 142 = .ok (.bipush 54, 2) := by decide +kernel
theorem dX12_closes_144 : decode cX12_closes 144 = .ok (.if_icmp .ne 7, 3) := by decide +kernel
theorem dX12_closes_147 : decode cX12_closes 147 = .ok (.iconst 1, 1) := by decide +kernel
theorem dX12_closes_148 : decode cX12_closes 148 = .ok (.goto 4, 3) := by decide +kernel
theorem dX12_closes_151 : decode cX12_closes 151 = .ok (.iconst 0, 1) := by decide +kernel
theorem dX12_closes_152 : decode cX12_closes 152 = .ok (.if_icmp .ne 21, 3) := by decide +kernel
theorem dX12_closes_155 : decode cX12_closes 155 = .ok (.aload_n 0, 1) := by decide +kernel
theorem dX12_closes_156 : decode cX12_closes 156 = .ok (.iload_n 1, 1) := by decide +kernel
theorem dX12_closes_157 : decode cX12_closes 157 = .ok (.iconst 2, 1) := by decide +kernel
theorem dX12_closes_158 : decode cX12_closes 158 = .ok (.invokevirtual 703, 3) := by decide +kernel
theorem dX12_closes_161 : decode cX12_closes 161 = .ok (.aload_n 0, 1) := by decide +kernel
theorem dX12_closes_162 : decode cX12_closes 162 = .ok (.aload_n 0, 1) := by decide +kernel
theorem dX12_closes_163 : decode cX12_closes 163 = .ok (.getfield 146, 3) := by decide +kernel
theorem dX12_closes_166 : decode cX12_closes 166 = .ok (.iload_n 1, 1) := by decide +kernel
theorem dX12_closes_167 : decode cX12_closes 167 = .ok (.iaload, 1) := by decide +kernel
theorem dX12_closes_168 : decode cX12_closes 168 = .ok (.iconst 0, 1) := by decide +kernel
theorem dX12_closes_169 : decode cX12_closes 169 = .ok (.invokevirtual 703, 3) := by decide +kernel
theorem dX12_closes_172 : decode cX12_closes 172 = .ok (.return_, 1) := by decide +kernel
theorem dX12_closes_173 : decode cX12_closes 173 = .ok (.iload_n 3, 1) := by decide +kernel
theorem dX12_closes_174 : decode cX12_closes 174 = .ok (.ifCond .eq 7, 3) := by decide +kernel
theorem dX12_closes_177 : decode cX12_closes 177 = .ok (.iconst 1, 1) := by decide +kernel
theorem dX12_closes_178 : decode cX12_closes 178 = .ok (.goto 4, 3) := by decide +kernel
theorem dX12_closes_181 : decode cX12_closes 181 = .ok (.iconst 0, 1) := by decide +kernel
theorem dX12_closes_182 : decode cX12_closes 182 = .ok (.istore_n 3, 1) := by decide +kernel
theorem dX12_closes_183 : decode cX12_closes 183 = .ok (.aload_n 0, 1) := by decide +kernel
theorem dX12_closes_184 : decode cX12_closes 184 = .ok (.getfield 222, 3) := by decide +kernel
theorem dX12_closes_187 : decode cX12_closes 187 = .ok (.aload_n 0, 1) := by decide +kernel
theorem dX12_closes_188 : decode cX12_closes 188 = .ok (.dup, 1) := by decide +kernel
theorem dX12_closes_189 : decode cX12_closes 189 = .ok (.getfield 700, 3) := by decide +kernel
theorem dX12_closes_192 : decode cX12_closes 192 = .ok (.dup_x1, 1) := by decide +kernel
theorem dX12_closes_193 : decode cX12_closes 193 = .ok (.iconst 1, 1) := by decide +kernel
theorem dX12_closes_194 : decode cX12_closes 194 = .ok (.iadd, 1) := by decide +kernel
theorem dX12_closes_195 : decode cX12_closes 195 = .ok (.putfield 700, 3) := by decide +kernel
theorem dX12_closes_198 : decode cX12_closes 198 = .ok (.iload_n 3, 1) := by decide +kernel
theorem dX12_closes_199 : decode cX12_closes 199 = .ok (.iastore, 1) := by decide +kernel
theorem dX12_closes_200 : decode cX12_closes 200 = .ok (.return_, 1) := by decide +kernel
def F_X12_closes (p0 : Int32) (p1 : Int32) (σ : MS) : MR :=
  bnd (mI σ 115 ((σ.1 115) - 1)) fun σ_1 =>
  bnd (((σ.1 115) - 1)) fun (x_3 : Int32) =>
  if x_3 < 0 ∨ 9000 ≤ x_3.toNatClampNeg then none else
  bnd ((σ_1.2 114 x_3.toNatClampNeg)) fun (x_7 : Int32) =>
  if p0 < 0 ∨ 40000 ≤ p0.toNatClampNeg then none else
  bnd (fun (v3_11 : Int32) (σ_12 : MS) => (
    bnd (mI σ_12 115 ((σ_12.1 115) + 1)) fun σ_16 =>
    if (σ_12.1 115) < 0 ∨ 9000 ≤ (σ_12.1 115).toNatClampNeg then none else
    bnd (mA σ_16 114 (upd (σ_16.2 114) (σ_12.1 115).toNatClampNeg v3_11)) fun σ_20 =>
    some (0, σ_20)
  ) : Int32 → MS → MR) fun j_13 =>
  if (σ_1.2 64 p0.toNatClampNeg) = 56 then (
    bnd (mI σ_1 115 ((σ_1.1 115) - 1)) fun σ_24 =>
    bnd (((σ_1.1 115) - 1)) fun (x_26 : Int32) =>
    if x_26 < 0 ∨ 9000 ≤ x_26.toNatClampNeg then none else
    (F_X12_binary p0 (σ_24.2 114 x_26.toNatClampNeg) x_7 σ_24).bind fun u_30 =>
    j_13 u_30.1 u_30.2
  ) else (
    if p0 < 0 ∨ 40000 ≤ p0.toNatClampNeg then none else
    if (σ_1.2 64 p0.toNatClampNeg) = 57 then (
      bnd (mI σ_1 115 ((σ_1.1 115) - 1)) fun σ_37 =>
      bnd (((σ_1.1 115) - 1)) fun (x_39 : Int32) =>
      if x_39 < 0 ∨ 9000 ≤ x_39.toNatClampNeg then none else
      (F_X12_isIn (σ_37.2 114 x_39.toNatClampNeg) x_7 σ_37).bind fun u_43 =>
      j_13 u_43.1 u_43.2
    ) else (
      if p0 < 0 ∨ 40000 ≤ p0.toNatClampNeg then none else
      bnd (fun  (σ_48 : MS) => (
        bnd (fun  (σ_52 : MS) => (
          bnd (fun (t_56 : Int32) (σ_57 : MS) => (
            j_13 t_56 σ_57
          ) : Int32 → MS → MR) fun j_58 =>
          if x_7 = 0 then (
            j_58 0 σ_52
          ) else (
            j_58 1 σ_52
          )
        ) : MS → MR) fun j_53 =>
        if p1 = 1 then (
          bnd (fun (t_66 : Int32) (σ_67 : MS) => (
            if p0 < 0 ∨ 40000 ≤ p0.toNatClampNeg then none else
            bnd (fun (t_73 : Int32) (σ_74 : MS) => (
              if t_66 = t_73 then (
                (F_X12_toDo p0 2 σ_74).bind fun u_80 =>
                if p0 < 0 ∨ 40000 ≤ p0.toNatClampNeg then none else
                (F_X12_toDo (u_80.2.2 67 p0.toNatClampNeg) 0 u_80.2).bind fun u_84 =>
                some (0, u_84.2)
              ) else (
                j_53  σ_74
              )
            ) : Int32 → MS → MR) fun j_75 =>
            if (σ_67.2 64 p0.toNatClampNeg) = 54 then (
              j_75 1 σ_67
            ) else (
              j_75 0 σ_67
            )
          ) : Int32 → MS → MR) fun j_68 =>
          if x_7 = 0 then (
            j_68 0 σ_48
          ) else (
            j_68 1 σ_48
          )
        ) else (
          j_53  σ_48
        )
      ) : MS → MR) fun j_49 =>
      if (σ_1.2 64 p0.toNatClampNeg) = 54 then (
        j_49  σ_1
      ) else (
        if p0 < 0 ∨ 40000 ≤ p0.toNatClampNeg then none else
        if (σ_1.2 64 p0.toNatClampNeg) = 55 then (
          j_49  σ_1
        ) else (
          (F_X12_unary p0 x_7 σ_1).bind fun u_102 =>
          j_13 u_102.1 u_102.2
        )
      )
    )
  )
set_option maxHeartbeats 4000000 in
set_option maxRecDepth 100000 in
theorem m_X12_closes (l : Launch) (dC : Nat → ClassId) (dI : Nat → Nat → Nat) (cB cC cI cJ cZ cP : ClassId) (h qK qS : Nat) (ad : Nat → Nat) (hDD : mDis cB cI cZ h qK qS ad) (sz : Nat)  (p0 : Int32) (p1 : Int32) (σ : MS) (res : Int32 × MS) (hF : F_X12_closes p0 p1 σ = some res) : Met l yX12_closes (g_ws yX12_closes cX12_closes 4 none) ({ frames := 4, cells := 0, slots := 0, locals := 105 }) (va_Pc [.ref h, .int p0, .int p1] (m_B (dC, dI) [(cB, .byte), (cC, .char), (cI, .int), (cJ, .long), (cZ, .boolean), (cP, .object "StoryHouse$Play")] sz h ad qK qS (mW cB cI cZ h qK qS ad σ) g_0)) (va_Qv (fun (_ : Unit) => True) (fun _ t => va_P (dC, dI) vwCl (mW cB cI cZ h qK qS ad res.2) t.heap) (mCells h ad sz)) 0 0 (mCells h ad sz) := by
  refine Met.ofW (cc := cX12_closes) (maxL := 4) (ret := none) (by decide) rfl ?_
  intro p e s m args below meth c s₁ B hml hv
  obtain ⟨rfl, hsz, hP, hK, hE, hKS, hX⟩ := hv
  have hx := B.exec
  have hb := B.bytes
  have hr := B.returns
  have hts0 := atoms_spec (ws := g_ws yX12_closes cX12_closes 4 none) B.pre
  have hts : ∀ w ∈ lw_good, w.before ([.ref h, .int p0, .int p1] : List Value).toArray s = true := fun w z => hts0 w (List.mem_cons_of_mem _ z)
  have hown : s.vm.findClass RX12 = some m.cls := findClass_of_methodNamed B.named
  have hlocks := B.notSynchronized
  have hS : va_S (mCells h ad sz) s.heap s.heap [] := va_S.rf
  have hl := lv_entry ([.ref h, .int p0, .int p1]) (n := 4) (Nat.le_of_ble_eq_true rfl)
  rw [lg_entry_eq]
  generalize (lg_sl ([.ref h, .int p0, .int p1]) ++ List.replicate (4 - (lg_sl ([.ref h, .int p0, .int p1])).length) Slot.unset).toArray = ls at hl ⊢
  have hl : lv_has ls 4 [(0, .ref h), (1, .int p0), (2, .int p1)] := hl
  unfold F_X12_closes at hF
  refine lv_aload_n hx hb dX12_closes_0 rfl (lv_at hl 0 rfl) ?_
  refine va_get (D := (dC, dI)) (ci := 12) (v := .ref (ad 114)) (C := RX12) (T := TX12) (N := 123) hx hb hts ii_X12 hown hK hP 0 rfl rfl 114 (by decide) (hts (.fieldLink RX12 222 "StoryHouseModel" "waits" "[I") wq_1470) (fun _ h9 => h9) rfl dX12_closes_1 ?_
  refine lv_aload_n hx hb dX12_closes_4 rfl (lv_at hl 0 rfl) ?_
  refine lv_dup hx hb dX12_closes_5 rfl ?_
  refine va_get (D := (dC, dI)) (ci := 12) (v := .int (σ.1 115)) (C := RX12) (T := TX12) (N := 123) hx hb hts ii_X12 hown hK hP 0 rfl rfl 115 (by decide) (hts (.fieldLink RX12 700 "StoryHouseModel" "waiting" "I") wq_1471) (fun _ h9 => h9) rfl dX12_closes_6 ?_
  refine lv_iconst (v := 1) hx hb dX12_closes_9 (by decide +kernel) ?_
  refine lv_isub hx hb dX12_closes_10 ?_
  refine lv_dup_x1 hx hb dX12_closes_11 rfl rfl ?_
  obtain ⟨σ_1, eσ_1, hF_2⟩ := bnd_e hF
  clear hF
  refine m_put (σ' := σ_1) (v := .int ((σ.1 115) - 1)) (ty := .int) hx hb hts hown hK hP (hDD _ _) hS (by rw [eσ_1]; exact mwI_115) (k := 115) (by decide) (hts (.fieldLink RX12 700 "StoryHouseModel" "waiting" "I") wq_1471) (fun _ h9 => h9) rfl (by decide +kernel) rfl rfl dX12_closes_12 (fun H locs hP hS => ?_)
  obtain ⟨x_3, ex_3, hF_4⟩ := bnd_e hF_2
  clear hF_2
  refine m_top ex_3 ?_
  obtain ⟨g_5, hF_6⟩ := nif_e hF_4
  clear hF_4
  refine va_iald (f := σ_1.2 114) hx hb hK hP 64 2 rfl rfl g_5 dX12_closes_15 ?_
  obtain ⟨x_7, ex_7, hF_8⟩ := bnd_e hF_6
  clear hF_6
  refine m_top ex_7 ?_
  refine lv_istore_n (lv' := [(3, .int x_7), (0, .ref h), (1, .int p0), (2, .int p1)]) hx hb dX12_closes_16 rfl hl (by decide) rfl (fun ls hl => ?_)
  refine lv_aload_n hx hb dX12_closes_17 rfl (lv_at hl 1 rfl) ?_
  refine va_get (D := (dC, dI)) (ci := 12) (v := .ref (ad 64)) (C := RX12) (T := TX12) (N := 123) hx hb hts ii_X12 hown hK hP 0 rfl rfl 64 (by decide) (hts (.fieldLink RX12 137 "StoryHouseModel" "bWhat" "[I") wq_1420) (fun _ h9 => h9) rfl dX12_closes_18 ?_
  refine lv_iload_n hx hb dX12_closes_21 rfl (lv_at hl 2 rfl) ?_
  obtain ⟨g_9, hF_10⟩ := nif_e hF_8
  clear hF_8
  refine va_iald (f := σ_1.2 64) hx hb hK hP 37 2 rfl rfl g_9 dX12_closes_22 ?_
  refine lv_bipush (v := 56) hx hb dX12_closes_23 (by decide +kernel) ?_
  obtain ⟨j_13, ej_13, hF_14⟩ := bnd_e hF_10
  clear hF_10
  have Jj_13 : ∀ (v3_11 : Int32) (σ_12 : MS), j_13 v3_11 σ_12 = some res → ∀ (H : Heap) (locs : List Loc), va_P (dC, dI) vwCl (mW cB cI cZ h qK qS ad σ_12) H → va_S (mCells h ad sz) s.heap H locs → ∀ ls : Array Slot, lv_has ls 4 [(0, .ref h), (3, .int v3_11)] → W p l e (headSpec (g_ws yX12_closes cX12_closes 4 none) { frames := 4, cells := 0, slots := 0, locals := 105 }).room s m ([.ref h, .int p0, .int p1] : List Value).toArray below meth c H locs 0 0 (MQ below (va_Qv (fun (_ : Unit) => True) (fun _ t => va_P (dC, dI) vwCl (mW cB cI cZ h qK qS ad res.2) t.heap) (mCells h ad sz)) ([.ref h, .int p0, .int p1] : List Value).toArray s 0 0 (mCells h ad sz)) (F0 m 183 ls []) := by
    intro v3_11 σ_12 hF0 H locs hP hS ls hl
    subst ej_13
    have hF_15 := hF0
    clear hF0
    refine lv_aload_n hx hb dX12_closes_183 rfl (lv_at hl 0 rfl) ?_
    refine va_get (D := (dC, dI)) (ci := 12) (v := .ref (ad 114)) (C := RX12) (T := TX12) (N := 123) hx hb hts ii_X12 hown hK hP 0 rfl rfl 114 (by decide) (hts (.fieldLink RX12 222 "StoryHouseModel" "waits" "[I") wq_1470) (fun _ h9 => h9) rfl dX12_closes_184 ?_
    refine lv_aload_n hx hb dX12_closes_187 rfl (lv_at hl 0 rfl) ?_
    refine lv_dup hx hb dX12_closes_188 rfl ?_
    refine va_get (D := (dC, dI)) (ci := 12) (v := .int (σ_12.1 115)) (C := RX12) (T := TX12) (N := 123) hx hb hts ii_X12 hown hK hP 0 rfl rfl 115 (by decide) (hts (.fieldLink RX12 700 "StoryHouseModel" "waiting" "I") wq_1471) (fun _ h9 => h9) rfl dX12_closes_189 ?_
    refine lv_dup_x1 hx hb dX12_closes_192 rfl rfl ?_
    refine lv_iconst (v := 1) hx hb dX12_closes_193 (by decide +kernel) ?_
    refine lv_iadd hx hb dX12_closes_194 ?_
    obtain ⟨σ_16, eσ_16, hF_17⟩ := bnd_e hF_15
    clear hF_15
    refine m_put (σ' := σ_16) (v := .int ((σ_12.1 115) + 1)) (ty := .int) hx hb hts hown hK hP (hDD _ _) hS (by rw [eσ_16]; exact mwI_115) (k := 115) (by decide) (hts (.fieldLink RX12 700 "StoryHouseModel" "waiting" "I") wq_1471) (fun _ h9 => h9) rfl (by decide +kernel) rfl rfl dX12_closes_195 (fun H locs hP hS => ?_)
    refine lv_iload_n hx hb dX12_closes_198 rfl (lv_at hl 1 rfl) ?_
    obtain ⟨g_18, hF_19⟩ := nif_e hF_17
    clear hF_17
    obtain ⟨σ_20, eσ_20, hF_21⟩ := bnd_e hF_19
    clear hF_19
    refine m_iast (σ' := σ_20) hx hb hK hP (hDD _ _) hS (q0 := 64) (t0 := 2) (f := σ_16.2 114) rfl rfl (by rw [eσ_20]; exact mwA_114) g_18 dX12_closes_199 (fun H locs hP hS => ?_)
    have h9 := Option.some.inj hF_21
    subst h9
    exact W.vret hx hb hr (fun t ht hW => ⟨⟨(), rfl, trivial, m_end ht hP⟩, hS.F ht⟩) hS.2.2 dX12_closes_200
  refine lv_icmp_ne (tgt := 54) hx hb dX12_closes_25 (by decide) (fun c_22 => ?_) (fun c_22 => ?_)
  · have hF_32 := ineg c_22 hF_14
    clear hF_14
    refine lv_aload_n hx hb dX12_closes_54 rfl (lv_at hl 1 rfl) ?_
    refine va_get (D := (dC, dI)) (ci := 12) (v := .ref (ad 64)) (C := RX12) (T := TX12) (N := 123) hx hb hts ii_X12 hown hK hP 0 rfl rfl 64 (by decide) (hts (.fieldLink RX12 137 "StoryHouseModel" "bWhat" "[I") wq_1420) (fun _ h9 => h9) rfl dX12_closes_55 ?_
    refine lv_iload_n hx hb dX12_closes_58 rfl (lv_at hl 2 rfl) ?_
    obtain ⟨g_33, hF_34⟩ := nif_e hF_32
    clear hF_32
    refine va_iald (f := σ_1.2 64) hx hb hK hP 37 2 rfl rfl g_33 dX12_closes_59 ?_
    refine lv_bipush (v := 57) hx hb dX12_closes_60 (by decide +kernel) ?_
    refine lv_icmp_ne (tgt := 90) hx hb dX12_closes_62 (by decide) (fun c_35 => ?_) (fun c_35 => ?_)
    · have hF_45 := ineg c_35 hF_34
      clear hF_34
      refine lv_aload_n hx hb dX12_closes_90 rfl (lv_at hl 1 rfl) ?_
      refine va_get (D := (dC, dI)) (ci := 12) (v := .ref (ad 64)) (C := RX12) (T := TX12) (N := 123) hx hb hts ii_X12 hown hK hP 0 rfl rfl 64 (by decide) (hts (.fieldLink RX12 137 "StoryHouseModel" "bWhat" "[I") wq_1420) (fun _ h9 => h9) rfl dX12_closes_91 ?_
      refine lv_iload_n hx hb dX12_closes_94 rfl (lv_at hl 2 rfl) ?_
      obtain ⟨g_46, hF_47⟩ := nif_e hF_45
      clear hF_45
      refine va_iald (f := σ_1.2 64) hx hb hK hP 37 2 rfl rfl g_46 dX12_closes_95 ?_
      refine lv_bipush (v := 54) hx hb dX12_closes_96 (by decide +kernel) ?_
      obtain ⟨j_49, ej_49, hF_50⟩ := bnd_e hF_47
      clear hF_47
      have Jj_49 : ∀  (σ_48 : MS), j_49  σ_48 = some res → ∀ (H : Heap) (locs : List Loc), va_P (dC, dI) vwCl (mW cB cI cZ h qK qS ad σ_48) H → va_S (mCells h ad sz) s.heap H locs → ∀ ls : Array Slot, lv_has ls 4 [(0, .ref h), (1, .int p0), (2, .int p1), (3, .int x_7)] → W p l e (headSpec (g_ws yX12_closes cX12_closes 4 none) { frames := 4, cells := 0, slots := 0, locals := 105 }).room s m ([.ref h, .int p0, .int p1] : List Value).toArray below meth c H locs 0 0 (MQ below (va_Qv (fun (_ : Unit) => True) (fun _ t => va_P (dC, dI) vwCl (mW cB cI cZ h qK qS ad res.2) t.heap) (mCells h ad sz)) ([.ref h, .int p0, .int p1] : List Value).toArray s 0 0 (mCells h ad sz)) (F0 m 122 ls []) := by
        intro  σ_48 hF0 H locs hP hS ls hl
        subst ej_49
        have hF_51 := hF0
        clear hF0
        refine lv_iload_n hx hb dX12_closes_122 rfl (lv_at hl 2 rfl) ?_
        refine lv_iconst (v := 1) hx hb dX12_closes_123 (by decide +kernel) ?_
        obtain ⟨j_53, ej_53, hF_54⟩ := bnd_e hF_51
        clear hF_51
        have Jj_53 : ∀  (σ_52 : MS), j_53  σ_52 = some res → ∀ (H : Heap) (locs : List Loc), va_P (dC, dI) vwCl (mW cB cI cZ h qK qS ad σ_52) H → va_S (mCells h ad sz) s.heap H locs → ∀ ls : Array Slot, lv_has ls 4 [(0, .ref h), (3, .int x_7)] → W p l e (headSpec (g_ws yX12_closes cX12_closes 4 none) { frames := 4, cells := 0, slots := 0, locals := 105 }).room s m ([.ref h, .int p0, .int p1] : List Value).toArray below meth c H locs 0 0 (MQ below (va_Qv (fun (_ : Unit) => True) (fun _ t => va_P (dC, dI) vwCl (mW cB cI cZ h qK qS ad res.2) t.heap) (mCells h ad sz)) ([.ref h, .int p0, .int p1] : List Value).toArray s 0 0 (mCells h ad sz)) (F0 m 173 ls []) := by
          intro  σ_52 hF0 H locs hP hS ls hl
          subst ej_53
          have hF_55 := hF0
          clear hF0
          refine lv_iload_n hx hb dX12_closes_173 rfl (lv_at hl 1 rfl) ?_
          obtain ⟨j_58, ej_58, hF_59⟩ := bnd_e hF_55
          clear hF_55
          have Jj_58 : ∀ (t_56 : Int32) (σ_57 : MS), j_58 t_56 σ_57 = some res → ∀ (H : Heap) (locs : List Loc), va_P (dC, dI) vwCl (mW cB cI cZ h qK qS ad σ_57) H → va_S (mCells h ad sz) s.heap H locs → ∀ ls : Array Slot, lv_has ls 4 [(0, .ref h)] → W p l e (headSpec (g_ws yX12_closes cX12_closes 4 none) { frames := 4, cells := 0, slots := 0, locals := 105 }).room s m ([.ref h, .int p0, .int p1] : List Value).toArray below meth c H locs 0 0 (MQ below (va_Qv (fun (_ : Unit) => True) (fun _ t => va_P (dC, dI) vwCl (mW cB cI cZ h qK qS ad res.2) t.heap) (mCells h ad sz)) ([.ref h, .int p0, .int p1] : List Value).toArray s 0 0 (mCells h ad sz)) (F0 m 182 ls [.int t_56]) := by
            intro t_56 σ_57 hF0 H locs hP hS ls hl
            subst ej_58
            have hF_60 := hF0
            clear hF0
            refine lv_istore_n (lv' := [(3, .int t_56), (0, .ref h)]) hx hb dX12_closes_182 rfl hl (by decide) rfl (fun ls hl => ?_)
            exact Jj_13 t_56 σ_57 hF_60 _ _ hP hS ls (lv_sub hl [1, 0] rfl)
          refine lv_if_eq (tgt := 181) hx hb dX12_closes_174 (by decide) (fun c_61 => ?_) (fun c_61 => ?_)
          · have hF_62 := ipos c_61 hF_59
            clear hF_59
            refine lv_iconst (v := 0) hx hb dX12_closes_181 (by decide +kernel) ?_
            exact Jj_58 0 σ_52 hF_62 _ _ hP hS ls (lv_sub hl [0] rfl)
          · have hF_63 := ineg c_61 hF_59
            clear hF_59
            refine lv_iconst (v := 1) hx hb dX12_closes_177 (by decide +kernel) ?_
            refine lv_goto (tgt := 182) hx hb dX12_closes_178 (by decide) ?_
            exact Jj_58 1 σ_52 hF_63 _ _ hP hS ls (lv_sub hl [0] rfl)
        refine lv_icmp_ne (tgt := 173) hx hb dX12_closes_124 (by decide) (fun c_64 => ?_) (fun c_64 => ?_)
        · have hF_93 := ineg c_64 hF_54
          clear hF_54
          exact Jj_53  σ_48 hF_93 _ _ hP hS ls (lv_sub hl [0, 3] rfl)
        · have hF_65 := ipos c_64 hF_54
          clear hF_54
          refine lv_iload_n hx hb dX12_closes_127 rfl (lv_at hl 3 rfl) ?_
          obtain ⟨j_68, ej_68, hF_69⟩ := bnd_e hF_65
          clear hF_65
          have Jj_68 : ∀ (t_66 : Int32) (σ_67 : MS), j_68 t_66 σ_67 = some res → ∀ (H : Heap) (locs : List Loc), va_P (dC, dI) vwCl (mW cB cI cZ h qK qS ad σ_67) H → va_S (mCells h ad sz) s.heap H locs → ∀ ls : Array Slot, lv_has ls 4 [(0, .ref h), (1, .int p0), (3, .int x_7)] → W p l e (headSpec (g_ws yX12_closes cX12_closes 4 none) { frames := 4, cells := 0, slots := 0, locals := 105 }).room s m ([.ref h, .int p0, .int p1] : List Value).toArray below meth c H locs 0 0 (MQ below (va_Qv (fun (_ : Unit) => True) (fun _ t => va_P (dC, dI) vwCl (mW cB cI cZ h qK qS ad res.2) t.heap) (mCells h ad sz)) ([.ref h, .int p0, .int p1] : List Value).toArray s 0 0 (mCells h ad sz)) (F0 m 136 ls [.int t_66]) := by
            intro t_66 σ_67 hF0 H locs hP hS ls hl
            subst ej_68
            have hF_70 := hF0
            clear hF0
            refine lv_aload_n hx hb dX12_closes_136 rfl (lv_at hl 0 rfl) ?_
            refine va_get (D := (dC, dI)) (ci := 12) (v := .ref (ad 64)) (C := RX12) (T := TX12) (N := 123) hx hb hts ii_X12 hown hK hP 0 rfl rfl 64 (by decide) (hts (.fieldLink RX12 137 "StoryHouseModel" "bWhat" "[I") wq_1420) (fun _ h9 => h9) rfl dX12_closes_137 ?_
            refine lv_iload_n hx hb dX12_closes_140 rfl (lv_at hl 1 rfl) ?_
            obtain ⟨g_71, hF_72⟩ := nif_e hF_70
            clear hF_70
            refine va_iald (f := σ_67.2 64) hx hb hK hP 37 2 rfl rfl g_71 dX12_closes_141 ?_
            refine lv_bipush (v := 54) hx hb dX12_closes_142 (by decide +kernel) ?_
            obtain ⟨j_75, ej_75, hF_76⟩ := bnd_e hF_72
            clear hF_72
            have Jj_75 : ∀ (t_73 : Int32) (σ_74 : MS), j_75 t_73 σ_74 = some res → ∀ (H : Heap) (locs : List Loc), va_P (dC, dI) vwCl (mW cB cI cZ h qK qS ad σ_74) H → va_S (mCells h ad sz) s.heap H locs → ∀ ls : Array Slot, lv_has ls 4 [(0, .ref h), (1, .int p0), (3, .int x_7)] → W p l e (headSpec (g_ws yX12_closes cX12_closes 4 none) { frames := 4, cells := 0, slots := 0, locals := 105 }).room s m ([.ref h, .int p0, .int p1] : List Value).toArray below meth c H locs 0 0 (MQ below (va_Qv (fun (_ : Unit) => True) (fun _ t => va_P (dC, dI) vwCl (mW cB cI cZ h qK qS ad res.2) t.heap) (mCells h ad sz)) ([.ref h, .int p0, .int p1] : List Value).toArray s 0 0 (mCells h ad sz)) (F0 m 152 ls [.int t_73, .int t_66]) := by
              intro t_73 σ_74 hF0 H locs hP hS ls hl
              subst ej_75
              have hF_77 := hF0
              clear hF0
              refine lv_icmp_ne (tgt := 173) hx hb dX12_closes_152 (by decide) (fun c_78 => ?_) (fun c_78 => ?_)
              · have hF_86 := ineg c_78 hF_77
                clear hF_77
                exact Jj_53  σ_74 hF_86 _ _ hP hS ls (lv_sub hl [0, 2] rfl)
              · have hF_79 := ipos c_78 hF_77
                clear hF_77
                refine lv_aload_n hx hb dX12_closes_155 rfl (lv_at hl 0 rfl) ?_
                refine lv_iload_n hx hb dX12_closes_156 rfl (lv_at hl 1 rfl) ?_
                refine lv_iconst (v := 2) hx hb dX12_closes_157 (by decide +kernel) ?_
                obtain ⟨u_80, hu_80, hF_81⟩ := Option.bind_eq_some_iff.mp hF_79
                clear hF_79
                refine m_cv hsz hS (va_runV (As := [.int p0, .int 2]) (rest := []) ⟨hx, hb, hml, hown, hts⟩ (m_X12_toDo l dC dI cB cC cI cJ cZ cP h qK qS ad hDD H.size  p0 2 σ_74 _ hu_80) (cwV 2 hts (g_gV wq_1822 wq_1823 wq_2215 wq_13 wq_1824) rfl rfl rfl (by decide +kernel) ⟨Nat.le_of_ble_eq_true rfl, Nat.le_of_ble_eq_true rfl⟩) (m_preV g_bl0 hsz hK hP hS hE hKS g_to0) rfl rfl hl.1 rfl (lv_room (Nat.le_of_ble_eq_true rfl)) dX12_closes_158 ⟨Nat.le_of_ble_eq_true rfl, Nat.le_of_ble_eq_true rfl⟩) (fun H locs hP hS => ?_)
                refine lv_aload_n hx hb dX12_closes_161 rfl (lv_at hl 0 rfl) ?_
                refine lv_aload_n hx hb dX12_closes_162 rfl (lv_at hl 0 rfl) ?_
                refine va_get (D := (dC, dI)) (ci := 12) (v := .ref (ad 67)) (C := RX12) (T := TX12) (N := 123) hx hb hts ii_X12 hown hK hP 0 rfl rfl 67 (by decide) (hts (.fieldLink RX12 146 "StoryHouseModel" "bB" "[I") wq_1423) (fun _ h9 => h9) rfl dX12_closes_163 ?_
                refine lv_iload_n hx hb dX12_closes_166 rfl (lv_at hl 1 rfl) ?_
                obtain ⟨g_82, hF_83⟩ := nif_e hF_81
                clear hF_81
                refine va_iald (f := u_80.2.2 67) hx hb hK hP 40 2 rfl rfl g_82 dX12_closes_167 ?_
                refine lv_iconst (v := 0) hx hb dX12_closes_168 (by decide +kernel) ?_
                obtain ⟨u_84, hu_84, hF_85⟩ := Option.bind_eq_some_iff.mp hF_83
                clear hF_83
                refine m_cv hsz hS (va_runV (As := [.int (u_80.2.2 67 p0.toNatClampNeg), .int 0]) (rest := []) ⟨hx, hb, hml, hown, hts⟩ (m_X12_toDo l dC dI cB cC cI cJ cZ cP h qK qS ad hDD H.size  (u_80.2.2 67 p0.toNatClampNeg) 0 u_80.2 _ hu_84) (cwV 2 hts (g_gV wq_1822 wq_1823 wq_2215 wq_13 wq_1824) rfl rfl rfl (by decide +kernel) ⟨Nat.le_of_ble_eq_true rfl, Nat.le_of_ble_eq_true rfl⟩) (m_preV g_bl0 hsz hK hP hS hE hKS g_to0) rfl rfl hl.1 rfl (lv_room (Nat.le_of_ble_eq_true rfl)) dX12_closes_169 ⟨Nat.le_of_ble_eq_true rfl, Nat.le_of_ble_eq_true rfl⟩) (fun H locs hP hS => ?_)
                have h9 := Option.some.inj hF_85
                subst h9
                exact W.vret hx hb hr (fun t ht hW => ⟨⟨(), rfl, trivial, m_end ht hP⟩, hS.F ht⟩) hS.2.2 dX12_closes_172
            refine lv_icmp_ne (tgt := 151) hx hb dX12_closes_144 (by decide) (fun c_87 => ?_) (fun c_87 => ?_)
            · have hF_89 := ineg c_87 hF_76
              clear hF_76
              refine lv_iconst (v := 0) hx hb dX12_closes_151 (by decide +kernel) ?_
              exact Jj_75 0 σ_67 hF_89 _ _ hP hS ls (lv_sub hl [0, 1, 2] rfl)
            · have hF_88 := ipos c_87 hF_76
              clear hF_76
              refine lv_iconst (v := 1) hx hb dX12_closes_147 (by decide +kernel) ?_
              refine lv_goto (tgt := 152) hx hb dX12_closes_148 (by decide) ?_
              exact Jj_75 1 σ_67 hF_88 _ _ hP hS ls (lv_sub hl [0, 1, 2] rfl)
          refine lv_if_eq (tgt := 135) hx hb dX12_closes_128 (by decide) (fun c_90 => ?_) (fun c_90 => ?_)
          · have hF_91 := ipos c_90 hF_69
            clear hF_69
            refine lv_iconst (v := 0) hx hb dX12_closes_135 (by decide +kernel) ?_
            exact Jj_68 0 σ_48 hF_91 _ _ hP hS ls (lv_sub hl [0, 1, 3] rfl)
          · have hF_92 := ineg c_90 hF_69
            clear hF_69
            refine lv_iconst (v := 1) hx hb dX12_closes_131 (by decide +kernel) ?_
            refine lv_goto (tgt := 136) hx hb dX12_closes_132 (by decide) ?_
            exact Jj_68 1 σ_48 hF_92 _ _ hP hS ls (lv_sub hl [0, 1, 3] rfl)
      refine lv_icmp_eq (tgt := 122) hx hb dX12_closes_98 (by decide) (fun c_94 => ?_) (fun c_94 => ?_)
      · have hF_95 := ipos c_94 hF_50
        clear hF_50
        exact Jj_49  σ_1 hF_95 _ _ hP hS ls (lv_sub hl [1, 2, 3, 0] rfl)
      · have hF_96 := ineg c_94 hF_50
        clear hF_50
        refine lv_aload_n hx hb dX12_closes_101 rfl (lv_at hl 1 rfl) ?_
        refine va_get (D := (dC, dI)) (ci := 12) (v := .ref (ad 64)) (C := RX12) (T := TX12) (N := 123) hx hb hts ii_X12 hown hK hP 0 rfl rfl 64 (by decide) (hts (.fieldLink RX12 137 "StoryHouseModel" "bWhat" "[I") wq_1420) (fun _ h9 => h9) rfl dX12_closes_102 ?_
        refine lv_iload_n hx hb dX12_closes_105 rfl (lv_at hl 2 rfl) ?_
        obtain ⟨g_97, hF_98⟩ := nif_e hF_96
        clear hF_96
        refine va_iald (f := σ_1.2 64) hx hb hK hP 37 2 rfl rfl g_97 dX12_closes_106 ?_
        refine lv_bipush (v := 55) hx hb dX12_closes_107 (by decide +kernel) ?_
        refine lv_icmp_eq (tgt := 122) hx hb dX12_closes_109 (by decide) (fun c_99 => ?_) (fun c_99 => ?_)
        · have hF_100 := ipos c_99 hF_98
          clear hF_98
          exact Jj_49  σ_1 hF_100 _ _ hP hS ls (lv_sub hl [1, 2, 3, 0] rfl)
        · have hF_101 := ineg c_99 hF_98
          clear hF_98
          refine lv_aload_n hx hb dX12_closes_112 rfl (lv_at hl 1 rfl) ?_
          refine lv_iload_n hx hb dX12_closes_113 rfl (lv_at hl 2 rfl) ?_
          refine lv_iload_n hx hb dX12_closes_114 rfl (lv_at hl 0 rfl) ?_
          obtain ⟨u_102, hu_102, hF_103⟩ := Option.bind_eq_some_iff.mp hF_101
          clear hF_101
          refine m_ci hsz hS (va_runV (As := [.int p0, .int x_7]) (rest := []) ⟨hx, hb, hml, hown, hts⟩ (m_X12_unary l dC dI cB cC cI cJ cZ cP h qK qS ad hDD H.size  p0 x_7 σ_1 _ hu_102) (cwV 2 hts (g_gV wq_1855 wq_1856 wq_2226 wq_13 wq_1857) rfl rfl rfl (by decide +kernel) ⟨Nat.le_of_ble_eq_true rfl, Nat.le_of_ble_eq_true rfl⟩) (m_preV g_bl0 hsz hK hP hS hE hKS g_to0) rfl rfl hl.1 rfl (lv_room (Nat.le_of_ble_eq_true rfl)) dX12_closes_115 ⟨Nat.le_of_ble_eq_true rfl, Nat.le_of_ble_eq_true rfl⟩) (fun H locs hP hS => ?_)
          refine lv_istore_n (lv' := [(3, .int u_102.1), (0, .ref h), (1, .int p0), (2, .int p1)]) hx hb dX12_closes_118 rfl hl (by decide) rfl (fun ls hl => ?_)
          refine lv_goto (tgt := 183) hx hb dX12_closes_119 (by decide) ?_
          exact Jj_13 u_102.1 u_102.2 hF_103 _ _ hP hS ls (lv_sub hl [1, 0] rfl)
    · have hF_36 := ipos c_35 hF_34
      clear hF_34
      refine lv_aload_n hx hb dX12_closes_65 rfl (lv_at hl 1 rfl) ?_
      refine lv_aload_n hx hb dX12_closes_66 rfl (lv_at hl 1 rfl) ?_
      refine va_get (D := (dC, dI)) (ci := 12) (v := .ref (ad 114)) (C := RX12) (T := TX12) (N := 123) hx hb hts ii_X12 hown hK hP 0 rfl rfl 114 (by decide) (hts (.fieldLink RX12 222 "StoryHouseModel" "waits" "[I") wq_1470) (fun _ h9 => h9) rfl dX12_closes_67 ?_
      refine lv_aload_n hx hb dX12_closes_70 rfl (lv_at hl 1 rfl) ?_
      refine lv_dup hx hb dX12_closes_71 rfl ?_
      refine va_get (D := (dC, dI)) (ci := 12) (v := .int (σ_1.1 115)) (C := RX12) (T := TX12) (N := 123) hx hb hts ii_X12 hown hK hP 0 rfl rfl 115 (by decide) (hts (.fieldLink RX12 700 "StoryHouseModel" "waiting" "I") wq_1471) (fun _ h9 => h9) rfl dX12_closes_72 ?_
      refine lv_iconst (v := 1) hx hb dX12_closes_75 (by decide +kernel) ?_
      refine lv_isub hx hb dX12_closes_76 ?_
      refine lv_dup_x1 hx hb dX12_closes_77 rfl rfl ?_
      obtain ⟨σ_37, eσ_37, hF_38⟩ := bnd_e hF_36
      clear hF_36
      refine m_put (σ' := σ_37) (v := .int ((σ_1.1 115) - 1)) (ty := .int) hx hb hts hown hK hP (hDD _ _) hS (by rw [eσ_37]; exact mwI_115) (k := 115) (by decide) (hts (.fieldLink RX12 700 "StoryHouseModel" "waiting" "I") wq_1471) (fun _ h9 => h9) rfl (by decide +kernel) rfl rfl dX12_closes_78 (fun H locs hP hS => ?_)
      obtain ⟨x_39, ex_39, hF_40⟩ := bnd_e hF_38
      clear hF_38
      refine m_top ex_39 ?_
      obtain ⟨g_41, hF_42⟩ := nif_e hF_40
      clear hF_40
      refine va_iald (f := σ_37.2 114) hx hb hK hP 64 2 rfl rfl g_41 dX12_closes_81 ?_
      refine lv_iload_n hx hb dX12_closes_82 rfl (lv_at hl 0 rfl) ?_
      obtain ⟨u_43, hu_43, hF_44⟩ := Option.bind_eq_some_iff.mp hF_42
      clear hF_42
      refine m_ci hsz hS (va_runV (As := [.int (σ_37.2 114 x_39.toNatClampNeg), .int x_7]) (rest := []) ⟨hx, hb, hml, hown, hts⟩ (m_X12_isIn l dC dI cB cC cI cJ cZ cP h qK qS ad hDD H.size  (σ_37.2 114 x_39.toNatClampNeg) x_7 σ_37 _ hu_43) (cwV 2 hts (g_gV wq_1849 wq_1850 wq_2224 wq_13 wq_1851) rfl rfl rfl (by decide +kernel) ⟨Nat.le_of_ble_eq_true rfl, Nat.le_of_ble_eq_true rfl⟩) (m_preV g_bl0 hsz hK hP hS hE hKS g_to0) rfl rfl hl.1 rfl (lv_room (Nat.le_of_ble_eq_true rfl)) dX12_closes_83 ⟨Nat.le_of_ble_eq_true rfl, Nat.le_of_ble_eq_true rfl⟩) (fun H locs hP hS => ?_)
      refine lv_istore_n (lv' := [(3, .int u_43.1), (0, .ref h), (1, .int p0), (2, .int p1)]) hx hb dX12_closes_86 rfl hl (by decide) rfl (fun ls hl => ?_)
      refine lv_goto (tgt := 183) hx hb dX12_closes_87 (by decide) ?_
      exact Jj_13 u_43.1 u_43.2 hF_44 _ _ hP hS ls (lv_sub hl [1, 0] rfl)
  · have hF_23 := ipos c_22 hF_14
    clear hF_14
    refine lv_aload_n hx hb dX12_closes_28 rfl (lv_at hl 1 rfl) ?_
    refine lv_iload_n hx hb dX12_closes_29 rfl (lv_at hl 2 rfl) ?_
    refine lv_aload_n hx hb dX12_closes_30 rfl (lv_at hl 1 rfl) ?_
    refine va_get (D := (dC, dI)) (ci := 12) (v := .ref (ad 114)) (C := RX12) (T := TX12) (N := 123) hx hb hts ii_X12 hown hK hP 0 rfl rfl 114 (by decide) (hts (.fieldLink RX12 222 "StoryHouseModel" "waits" "[I") wq_1470) (fun _ h9 => h9) rfl dX12_closes_31 ?_
    refine lv_aload_n hx hb dX12_closes_34 rfl (lv_at hl 1 rfl) ?_
    refine lv_dup hx hb dX12_closes_35 rfl ?_
    refine va_get (D := (dC, dI)) (ci := 12) (v := .int (σ_1.1 115)) (C := RX12) (T := TX12) (N := 123) hx hb hts ii_X12 hown hK hP 0 rfl rfl 115 (by decide) (hts (.fieldLink RX12 700 "StoryHouseModel" "waiting" "I") wq_1471) (fun _ h9 => h9) rfl dX12_closes_36 ?_
    refine lv_iconst (v := 1) hx hb dX12_closes_39 (by decide +kernel) ?_
    refine lv_isub hx hb dX12_closes_40 ?_
    refine lv_dup_x1 hx hb dX12_closes_41 rfl rfl ?_
    obtain ⟨σ_24, eσ_24, hF_25⟩ := bnd_e hF_23
    clear hF_23
    refine m_put (σ' := σ_24) (v := .int ((σ_1.1 115) - 1)) (ty := .int) hx hb hts hown hK hP (hDD _ _) hS (by rw [eσ_24]; exact mwI_115) (k := 115) (by decide) (hts (.fieldLink RX12 700 "StoryHouseModel" "waiting" "I") wq_1471) (fun _ h9 => h9) rfl (by decide +kernel) rfl rfl dX12_closes_42 (fun H locs hP hS => ?_)
    obtain ⟨x_26, ex_26, hF_27⟩ := bnd_e hF_25
    clear hF_25
    refine m_top ex_26 ?_
    obtain ⟨g_28, hF_29⟩ := nif_e hF_27
    clear hF_27
    refine va_iald (f := σ_24.2 114) hx hb hK hP 64 2 rfl rfl g_28 dX12_closes_45 ?_
    refine lv_iload_n hx hb dX12_closes_46 rfl (lv_at hl 0 rfl) ?_
    obtain ⟨u_30, hu_30, hF_31⟩ := Option.bind_eq_some_iff.mp hF_29
    clear hF_29
    refine m_ci hsz hS (va_runV (As := [.int p0, .int (σ_24.2 114 x_26.toNatClampNeg), .int x_7]) (rest := []) ⟨hx, hb, hml, hown, hts⟩ (m_X12_binary l dC dI cB cC cI cJ cZ cP h qK qS ad hDD H.size  p0 (σ_24.2 114 x_26.toNatClampNeg) x_7 σ_24 _ hu_30) (cwV 3 hts (g_gV wq_1846 wq_1847 wq_2223 wq_13 wq_1848) rfl rfl rfl (by decide +kernel) ⟨Nat.le_of_ble_eq_true rfl, Nat.le_of_ble_eq_true rfl⟩) (m_preV g_bl0 hsz hK hP hS hE hKS g_to0) rfl rfl hl.1 rfl (lv_room (Nat.le_of_ble_eq_true rfl)) dX12_closes_47 ⟨Nat.le_of_ble_eq_true rfl, Nat.le_of_ble_eq_true rfl⟩) (fun H locs hP hS => ?_)
    refine lv_istore_n (lv' := [(3, .int u_30.1), (0, .ref h), (1, .int p0), (2, .int p1)]) hx hb dX12_closes_50 rfl hl (by decide) rfl (fun ls hl => ?_)
    refine lv_goto (tgt := 183) hx hb dX12_closes_51 (by decide) ?_
    exact Jj_13 u_30.1 u_30.2 hF_31 _ _ hP hS ls (lv_sub hl [1, 0] rfl)
theorem dX12_leaf_0 : decode cX12_leaf 0 = .ok (.aload_n 0, 1) := by decide +kernel
theorem dX12_leaf_1 : decode cX12_leaf 1 = .ok (.getfield 137, 3) := by decide +kernel
theorem dX12_leaf_4 : decode cX12_leaf 4 = .ok (.iload_n 1, 1) := by decide +kernel
theorem dX12_leaf_5 : decode cX12_leaf 5 = .ok (.iaload, 1) := by decide +kernel
theorem dX12_leaf_6 : decode cX12_leaf 6 = .ok (.tableswitch 124 40 46 #[42, 49, 124, 124, 107, 114, 119], 42) := by decide +kernel
theorem dX12_leaf_48 : decode cX12_leaf 48 = .ok (.aload_n 0, 1) := by decide +kernel
theorem dX12_leaf_49 : decode cX12_leaf 49 = .ok (.getfield 143, 3) := by decide +kernel
theorem dX12_leaf_52 : decode cX12_leaf 52 = .ok (.iload_n 1, 1) := by decide +kernel
theorem dX12_leaf_53 : decode cX12_leaf 53 = .ok (.iaload, 1) := by decide +kernel
theorem dX12_leaf_54 : decode cX12_leaf 54 = .ok (.ireturn, 1) := by decide +kernel
theorem dX12_leaf_55 : decode cX12_leaf 55 = .ok (.aload_n 0, 1) := by decide +kernel
theorem dX12_leaf_56 : decode cX12_leaf 56 = .ok (.getfield 146, 3) := by decide +kernel
theorem dX12_leaf_59 : decode cX12_leaf 59 = .ok (.iload_n 1, 1) := by decide +kernel
theorem dX12_leaf_60 : decode cX12_leaf 60 = .ok (.iaload, 1) := by decide +kernel
theorem dX12_leaf_61 : decode cX12_leaf 61 = .ok (.bipush 9, 2) := by decide +kernel
theorem dX12_leaf_63 : decode cX12_leaf 63 = .ok (.if_icmp .ne 19, 3) := by decide +kernel
theorem dX12_leaf_66 : decode cX12_leaf 66 = .ok (.aload_n 0, 1) := by decide +kernel
theorem dX12_leaf_67 : decode cX12_leaf 67 = .ok (.getfield 215, 3) := by decide +kernel
theorem dX12_leaf_70 : decode cX12_leaf 70 = .ok (.iload_n 2, 1) := by decide +kernel
theorem dX12_leaf_71 : decode cX12_leaf 71 = .ok (.aload_n 0, 1) := by decide +kernel
theorem dX12_leaf_72 : decode cX12_leaf 72 = .ok (.getfield 149, 3) := by decide +kernel
theorem dX12_leaf_75 : decode cX12_leaf 75 = .ok (.iload_n 1, 1) := by decide +kernel
theorem dX12_leaf_76 : decode cX12_leaf 76 = .ok (.iaload, 1) := by decide +kernel
theorem dX12_leaf_77 : decode cX12_leaf 77 = .ok (.iadd, 1) := by decide +kernel
theorem dX12_leaf_78 : decode cX12_leaf 78 = .ok (.iaload, 1) := by decide +kernel
theorem dX12_leaf_79 : decode cX12_leaf 79 = .ok (.goto 33, 3) := by decide +kernel
theorem dX12_leaf_82 : decode cX12_leaf 82 = .ok (.aload_n 0, 1) := by decide +kernel
theorem dX12_leaf_83 : decode cX12_leaf 83 = .ok (.getfield 146, 3) := by decide +kernel
theorem dX12_leaf_86 : decode cX12_leaf 86 = .ok (.iload_n 1, 1) := by decide +kernel
theorem dX12_leaf_87 : decode cX12_leaf 87 = .ok (.iaload, 1) := by decide +kernel
theorem dX12_leaf_88 : decode cX12_leaf 88 = .ok (.iconst 4, 1) := by decide +kernel
theorem dX12_leaf_89 : decode cX12_leaf 89 = .ok (.if_icmp .ne 17, 3) := by decide +kernel
theorem dX12_leaf_92 : decode cX12_leaf 92 = .ok (.aload_n 0, 1) := by decide +kernel
theorem dX12_leaf_93 : decode cX12_leaf 93 = .ok (.getfield 194, 3) := by decide +kernel
theorem dX12_leaf_96 : decode cX12_leaf 96 = .ok (.aload_n 0, 1) := by decide +kernel
theorem dX12_leaf_97 : decode cX12_leaf 97 = .ok (.getfield 149, 3) := by decide +kernel
theorem dX12_leaf_100 : decode cX12_leaf 100 = .ok (.iload_n 1, 1) := by decide +kernel
theorem dX12_leaf_101 : decode cX12_leaf 101 = .ok (.iaload, 1) := by decide +kernel
theorem dX12_leaf_102 : decode cX12_leaf 102 = .ok (.iaload, 1) := by decide +kernel
theorem dX12_leaf_103 : decode cX12_leaf 103 = .ok (.goto 9, 3) := by decide +kernel
theorem dX12_leaf_106 : decode cX12_leaf 106 = .ok (.aload_n 0, 1) := by decide +kernel
theorem dX12_leaf_107 : decode cX12_leaf 107 = .ok (.getfield 149, 3) := by decide +kernel
theorem dX12_leaf_110 : decode cX12_leaf 110 = .ok (.iload_n 1, 1) := by decide +kernel
theorem dX12_leaf_111 : decode cX12_leaf 111 = .ok (.iaload, 1) := by decide +kernel
theorem dX12_leaf_112 : decode cX12_leaf 112 = .ok (.ireturn, 1) := by decide +kernel
theorem dX12_leaf_113 : decode cX12_leaf 113 = .ok (.aload_n 0, 1) := by decide +kernel
theorem dX12_leaf_114 : decode cX12_leaf 114 = .ok (.getfield 182, 3) := by decide +kernel
theorem dX12_leaf_117 : decode cX12_leaf 117 = .ok (.iconst 1, 1) := by decide +kernel
theorem dX12_leaf_118 : decode cX12_leaf 118 = .ok (.iaload, 1) := by decide +kernel
theorem dX12_leaf_119 : decode cX12_leaf 119 = .ok (.ireturn, 1) := by decide +kernel
theorem dX12_leaf_120 : decode cX12_leaf 120 = .ok (.aload_n 0, 1) := by decide +kernel
theorem dX12_leaf_121 : decode cX12_leaf 121 = .ok (.getfield 730, 3) := by decide +kernel
theorem dX12_leaf_124 : decode cX12_leaf 124 = .ok (.ireturn, 1) := by decide +kernel
theorem dX12_leaf_125 : decode cX12_leaf 125 = .ok (.aload_n 0, 1) := by decide +kernel
theorem dX12_leaf_126 : decode cX12_leaf 126 = .ok (.getfield 733, 3) := by decide +kernel
theorem dX12_leaf_129 : decode cX12_leaf 129 = .ok (.ireturn, 1) := by decide +kernel
theorem dX12_leaf_130 : decode cX12_leaf 130 = .ok (.iconst 1, 1) := by decide +kernel
theorem dX12_leaf_131 : decode cX12_leaf 131 = .ok (.ireturn, 1) := by decide +kernel
def F_X12_leaf (p0 : Int32) (p1 : Int32) (σ : MS) : MR :=
  if p0 < 0 ∨ 40000 ≤ p0.toNatClampNeg then none else
  bnd ((σ.2 64 p0.toNatClampNeg)) fun (x_3 : Int32) =>
  if x_3 = 40 then (
    if p0 < 0 ∨ 40000 ≤ p0.toNatClampNeg then none else
    some ((σ.2 66 p0.toNatClampNeg), σ)
  ) else
  if x_3 = 41 then (
    if p0 < 0 ∨ 40000 ≤ p0.toNatClampNeg then none else
    if (σ.2 67 p0.toNatClampNeg) = 9 then (
      if p0 < 0 ∨ 40000 ≤ p0.toNatClampNeg then none else
      bnd ((p1 + (σ.2 68 p0.toNatClampNeg))) fun (x_18 : Int32) =>
      if x_18 < 0 ∨ 700 ≤ x_18.toNatClampNeg then none else
      some ((σ.2 111 x_18.toNatClampNeg), σ)
    ) else (
      if p0 < 0 ∨ 40000 ≤ p0.toNatClampNeg then none else
      if (σ.2 67 p0.toNatClampNeg) = 4 then (
        if p0 < 0 ∨ 40000 ≤ p0.toNatClampNeg then none else
        bnd ((σ.2 68 p0.toNatClampNeg)) fun (x_29 : Int32) =>
        if x_29 < 0 ∨ 100 ≤ x_29.toNatClampNeg then none else
        some ((σ.2 91 x_29.toNatClampNeg), σ)
      ) else (
        if p0 < 0 ∨ 40000 ≤ p0.toNatClampNeg then none else
        some ((σ.2 68 p0.toNatClampNeg), σ)
      )
    )
  ) else
  if x_3 = 44 then (
    some ((σ.2 87 (1 : Int32).toNatClampNeg), σ)
  ) else
  if x_3 = 45 then (
    some ((σ.1 108), σ)
  ) else
  if x_3 = 46 then (
    some ((σ.1 109), σ)
  ) else
  (
    some (1, σ)
  )
set_option maxHeartbeats 4000000 in
set_option maxRecDepth 100000 in
theorem m_X12_leaf (l : Launch) (dC : Nat → ClassId) (dI : Nat → Nat → Nat) (cB cC cI cJ cZ cP : ClassId) (h qK qS : Nat) (ad : Nat → Nat) (hDD : mDis cB cI cZ h qK qS ad) (sz : Nat)  (p0 : Int32) (p1 : Int32) (σ : MS) (res : Int32 × MS) (hF : F_X12_leaf p0 p1 σ = some res) : Met l yX12_leaf (g_ws yX12_leaf cX12_leaf 3 (some .int)) ({ frames := 1, cells := 0, slots := 0, locals := 40 }) (va_Pc [.ref h, .int p0, .int p1] (m_B (dC, dI) [(cB, .byte), (cC, .char), (cI, .int), (cJ, .long), (cZ, .boolean), (cP, .object "StoryHouse$Play")] sz h ad qK qS (mW cB cI cZ h qK qS ad σ) g_0)) (va_Qi (fun r (_ : Unit) => r = res.1) (fun _ t => va_P (dC, dI) vwCl (mW cB cI cZ h qK qS ad res.2) t.heap) (mCells h ad sz)) 0 0 (mCells h ad sz) := by
  refine Met.ofW (cc := cX12_leaf) (maxL := 3) (ret := (some .int)) (by decide) rfl ?_
  intro p e s m args below meth c s₁ B hml hv
  obtain ⟨rfl, hsz, hP, hK, hE, hKS, hX⟩ := hv
  have hx := B.exec
  have hb := B.bytes
  have hr := B.returns
  have hts0 := atoms_spec (ws := g_ws yX12_leaf cX12_leaf 3 (some .int)) B.pre
  have hts : ∀ w ∈ lw_good, w.before ([.ref h, .int p0, .int p1] : List Value).toArray s = true := fun w z => hts0 w (List.mem_cons_of_mem _ z)
  have hown : s.vm.findClass RX12 = some m.cls := findClass_of_methodNamed B.named
  have hlocks := B.notSynchronized
  have hS : va_S (mCells h ad sz) s.heap s.heap [] := va_S.rf
  have hl := lv_entry ([.ref h, .int p0, .int p1]) (n := 3) (Nat.le_of_ble_eq_true rfl)
  rw [lg_entry_eq]
  generalize (lg_sl ([.ref h, .int p0, .int p1]) ++ List.replicate (3 - (lg_sl ([.ref h, .int p0, .int p1])).length) Slot.unset).toArray = ls at hl ⊢
  have hl : lv_has ls 3 [(0, .ref h), (1, .int p0), (2, .int p1)] := hl
  unfold F_X12_leaf at hF
  refine lv_aload_n hx hb dX12_leaf_0 rfl (lv_at hl 0 rfl) ?_
  refine va_get (D := (dC, dI)) (ci := 12) (v := .ref (ad 64)) (C := RX12) (T := TX12) (N := 123) hx hb hts ii_X12 hown hK hP 0 rfl rfl 64 (by decide) (hts (.fieldLink RX12 137 "StoryHouseModel" "bWhat" "[I") wq_1420) (fun _ h9 => h9) rfl dX12_leaf_1 ?_
  refine lv_iload_n hx hb dX12_leaf_4 rfl (lv_at hl 1 rfl) ?_
  obtain ⟨g_1, hF_2⟩ := nif_e hF
  clear hF
  refine va_iald (f := σ.2 64) hx hb hK hP 37 2 rfl rfl g_1 dX12_leaf_5 ?_
  obtain ⟨x_3, ex_3, hF_4⟩ := bnd_e hF_2
  clear hF_2
  refine m_top ex_3 ?_
  by_cases c_5 : x_3 = 40
  · have hF_6 := ipos c_5 hF_4
    clear hF_4
    refine lv_tableIn (off := 42) (tgt := 48) hx hb dX12_leaf_6 (by rw [c_5]; decide +kernel) (by rw [c_5]; decide +kernel) (by rw [c_5]; decide +kernel) (by decide) ?_
    refine lv_aload_n hx hb dX12_leaf_48 rfl (lv_at hl 0 rfl) ?_
    refine va_get (D := (dC, dI)) (ci := 12) (v := .ref (ad 66)) (C := RX12) (T := TX12) (N := 123) hx hb hts ii_X12 hown hK hP 0 rfl rfl 66 (by decide) (hts (.fieldLink RX12 143 "StoryHouseModel" "bA" "[I") wq_1422) (fun _ h9 => h9) rfl dX12_leaf_49 ?_
    refine lv_iload_n hx hb dX12_leaf_52 rfl (lv_at hl 1 rfl) ?_
    obtain ⟨g_7, hF_8⟩ := nif_e hF_6
    clear hF_6
    refine va_iald (f := σ.2 66) hx hb hK hP 39 2 rfl rfl g_7 dX12_leaf_53 ?_
    have h9 := Option.some.inj hF_8
    subst h9
    exact W.iret (v := (σ.2 66 p0.toNatClampNeg)) hx hb hr (fun t ht hW => ⟨⟨(σ.2 66 p0.toNatClampNeg), (), rfl, rfl, m_end ht hP⟩, hS.F ht⟩) hS.2.2 dX12_leaf_54
  have hF_9 := ineg c_5 hF_4
  clear hF_4
  by_cases c_10 : x_3 = 41
  · have hF_11 := ipos c_10 hF_9
    clear hF_9
    refine lv_tableIn (off := 49) (tgt := 55) hx hb dX12_leaf_6 (by rw [c_10]; decide +kernel) (by rw [c_10]; decide +kernel) (by rw [c_10]; decide +kernel) (by decide) ?_
    refine lv_aload_n hx hb dX12_leaf_55 rfl (lv_at hl 0 rfl) ?_
    refine va_get (D := (dC, dI)) (ci := 12) (v := .ref (ad 67)) (C := RX12) (T := TX12) (N := 123) hx hb hts ii_X12 hown hK hP 0 rfl rfl 67 (by decide) (hts (.fieldLink RX12 146 "StoryHouseModel" "bB" "[I") wq_1423) (fun _ h9 => h9) rfl dX12_leaf_56 ?_
    refine lv_iload_n hx hb dX12_leaf_59 rfl (lv_at hl 1 rfl) ?_
    obtain ⟨g_12, hF_13⟩ := nif_e hF_11
    clear hF_11
    refine va_iald (f := σ.2 67) hx hb hK hP 40 2 rfl rfl g_12 dX12_leaf_60 ?_
    refine lv_bipush (v := 9) hx hb dX12_leaf_61 (by decide +kernel) ?_
    refine lv_icmp_ne (tgt := 82) hx hb dX12_leaf_63 (by decide) (fun c_14 => ?_) (fun c_14 => ?_)
    · have hF_22 := ineg c_14 hF_13
      clear hF_13
      refine lv_aload_n hx hb dX12_leaf_82 rfl (lv_at hl 0 rfl) ?_
      refine va_get (D := (dC, dI)) (ci := 12) (v := .ref (ad 67)) (C := RX12) (T := TX12) (N := 123) hx hb hts ii_X12 hown hK hP 0 rfl rfl 67 (by decide) (hts (.fieldLink RX12 146 "StoryHouseModel" "bB" "[I") wq_1423) (fun _ h9 => h9) rfl dX12_leaf_83 ?_
      refine lv_iload_n hx hb dX12_leaf_86 rfl (lv_at hl 1 rfl) ?_
      obtain ⟨g_23, hF_24⟩ := nif_e hF_22
      clear hF_22
      refine va_iald (f := σ.2 67) hx hb hK hP 40 2 rfl rfl g_23 dX12_leaf_87 ?_
      refine lv_iconst (v := 4) hx hb dX12_leaf_88 (by decide +kernel) ?_
      refine lv_icmp_ne (tgt := 106) hx hb dX12_leaf_89 (by decide) (fun c_25 => ?_) (fun c_25 => ?_)
      · have hF_33 := ineg c_25 hF_24
        clear hF_24
        refine lv_aload_n hx hb dX12_leaf_106 rfl (lv_at hl 0 rfl) ?_
        refine va_get (D := (dC, dI)) (ci := 12) (v := .ref (ad 68)) (C := RX12) (T := TX12) (N := 123) hx hb hts ii_X12 hown hK hP 0 rfl rfl 68 (by decide) (hts (.fieldLink RX12 149 "StoryHouseModel" "bD" "[I") wq_1424) (fun _ h9 => h9) rfl dX12_leaf_107 ?_
        refine lv_iload_n hx hb dX12_leaf_110 rfl (lv_at hl 1 rfl) ?_
        obtain ⟨g_34, hF_35⟩ := nif_e hF_33
        clear hF_33
        refine va_iald (f := σ.2 68) hx hb hK hP 41 2 rfl rfl g_34 dX12_leaf_111 ?_
        have h9 := Option.some.inj hF_35
        subst h9
        exact W.iret (v := (σ.2 68 p0.toNatClampNeg)) hx hb hr (fun t ht hW => ⟨⟨(σ.2 68 p0.toNatClampNeg), (), rfl, rfl, m_end ht hP⟩, hS.F ht⟩) hS.2.2 dX12_leaf_112
      · have hF_26 := ipos c_25 hF_24
        clear hF_24
        refine lv_aload_n hx hb dX12_leaf_92 rfl (lv_at hl 0 rfl) ?_
        refine va_get (D := (dC, dI)) (ci := 12) (v := .ref (ad 91)) (C := RX12) (T := TX12) (N := 123) hx hb hts ii_X12 hown hK hP 0 rfl rfl 91 (by decide) (hts (.fieldLink RX12 194 "StoryHouseModel" "values" "[I") wq_1447) (fun _ h9 => h9) rfl dX12_leaf_93 ?_
        refine lv_aload_n hx hb dX12_leaf_96 rfl (lv_at hl 0 rfl) ?_
        refine va_get (D := (dC, dI)) (ci := 12) (v := .ref (ad 68)) (C := RX12) (T := TX12) (N := 123) hx hb hts ii_X12 hown hK hP 0 rfl rfl 68 (by decide) (hts (.fieldLink RX12 149 "StoryHouseModel" "bD" "[I") wq_1424) (fun _ h9 => h9) rfl dX12_leaf_97 ?_
        refine lv_iload_n hx hb dX12_leaf_100 rfl (lv_at hl 1 rfl) ?_
        obtain ⟨g_27, hF_28⟩ := nif_e hF_26
        clear hF_26
        refine va_iald (f := σ.2 68) hx hb hK hP 41 2 rfl rfl g_27 dX12_leaf_101 ?_
        obtain ⟨x_29, ex_29, hF_30⟩ := bnd_e hF_28
        clear hF_28
        refine m_top ex_29 ?_
        obtain ⟨g_31, hF_32⟩ := nif_e hF_30
        clear hF_30
        refine va_iald (f := σ.2 91) hx hb hK hP 56 2 rfl rfl g_31 dX12_leaf_102 ?_
        refine lv_goto (tgt := 112) hx hb dX12_leaf_103 (by decide) ?_
        have h9 := Option.some.inj hF_32
        subst h9
        exact W.iret (v := (σ.2 91 x_29.toNatClampNeg)) hx hb hr (fun t ht hW => ⟨⟨(σ.2 91 x_29.toNatClampNeg), (), rfl, rfl, m_end ht hP⟩, hS.F ht⟩) hS.2.2 dX12_leaf_112
    · have hF_15 := ipos c_14 hF_13
      clear hF_13
      refine lv_aload_n hx hb dX12_leaf_66 rfl (lv_at hl 0 rfl) ?_
      refine va_get (D := (dC, dI)) (ci := 12) (v := .ref (ad 111)) (C := RX12) (T := TX12) (N := 123) hx hb hts ii_X12 hown hK hP 0 rfl rfl 111 (by decide) (hts (.fieldLink RX12 215 "StoryHouseModel" "locals" "[I") wq_1467) (fun _ h9 => h9) rfl dX12_leaf_67 ?_
      refine lv_iload_n hx hb dX12_leaf_70 rfl (lv_at hl 2 rfl) ?_
      refine lv_aload_n hx hb dX12_leaf_71 rfl (lv_at hl 0 rfl) ?_
      refine va_get (D := (dC, dI)) (ci := 12) (v := .ref (ad 68)) (C := RX12) (T := TX12) (N := 123) hx hb hts ii_X12 hown hK hP 0 rfl rfl 68 (by decide) (hts (.fieldLink RX12 149 "StoryHouseModel" "bD" "[I") wq_1424) (fun _ h9 => h9) rfl dX12_leaf_72 ?_
      refine lv_iload_n hx hb dX12_leaf_75 rfl (lv_at hl 1 rfl) ?_
      obtain ⟨g_16, hF_17⟩ := nif_e hF_15
      clear hF_15
      refine va_iald (f := σ.2 68) hx hb hK hP 41 2 rfl rfl g_16 dX12_leaf_76 ?_
      refine lv_iadd hx hb dX12_leaf_77 ?_
      obtain ⟨x_18, ex_18, hF_19⟩ := bnd_e hF_17
      clear hF_17
      refine m_top ex_18 ?_
      obtain ⟨g_20, hF_21⟩ := nif_e hF_19
      clear hF_19
      refine va_iald (f := σ.2 111) hx hb hK hP 62 2 rfl rfl g_20 dX12_leaf_78 ?_
      refine lv_goto (tgt := 112) hx hb dX12_leaf_79 (by decide) ?_
      have h9 := Option.some.inj hF_21
      subst h9
      exact W.iret (v := (σ.2 111 x_18.toNatClampNeg)) hx hb hr (fun t ht hW => ⟨⟨(σ.2 111 x_18.toNatClampNeg), (), rfl, rfl, m_end ht hP⟩, hS.F ht⟩) hS.2.2 dX12_leaf_112
  have hF_36 := ineg c_10 hF_9
  clear hF_9
  by_cases c_37 : x_3 = 44
  · have hF_38 := ipos c_37 hF_36
    clear hF_36
    refine lv_tableIn (off := 107) (tgt := 113) hx hb dX12_leaf_6 (by rw [c_37]; decide +kernel) (by rw [c_37]; decide +kernel) (by rw [c_37]; decide +kernel) (by decide) ?_
    refine lv_aload_n hx hb dX12_leaf_113 rfl (lv_at hl 0 rfl) ?_
    refine va_get (D := (dC, dI)) (ci := 12) (v := .ref (ad 87)) (C := RX12) (T := TX12) (N := 123) hx hb hts ii_X12 hown hK hP 0 rfl rfl 87 (by decide) (hts (.fieldLink RX12 182 "StoryHouseModel" "holder" "[I") wq_1443) (fun _ h9 => h9) rfl dX12_leaf_114 ?_
    refine lv_iconst (v := 1) hx hb dX12_leaf_117 (by decide +kernel) ?_
    refine va_iald (f := σ.2 87) hx hb hK hP 52 2 rfl rfl (vp_in_iff.mpr (by decide +kernel)) dX12_leaf_118 ?_
    have h9 := Option.some.inj hF_38
    subst h9
    exact W.iret (v := (σ.2 87 (1 : Int32).toNatClampNeg)) hx hb hr (fun t ht hW => ⟨⟨(σ.2 87 (1 : Int32).toNatClampNeg), (), rfl, rfl, m_end ht hP⟩, hS.F ht⟩) hS.2.2 dX12_leaf_119
  have hF_39 := ineg c_37 hF_36
  clear hF_36
  by_cases c_40 : x_3 = 45
  · have hF_41 := ipos c_40 hF_39
    clear hF_39
    refine lv_tableIn (off := 114) (tgt := 120) hx hb dX12_leaf_6 (by rw [c_40]; decide +kernel) (by rw [c_40]; decide +kernel) (by rw [c_40]; decide +kernel) (by decide) ?_
    refine lv_aload_n hx hb dX12_leaf_120 rfl (lv_at hl 0 rfl) ?_
    refine va_get (D := (dC, dI)) (ci := 12) (v := .int (σ.1 108)) (C := RX12) (T := TX12) (N := 123) hx hb hts ii_X12 hown hK hP 0 rfl rfl 108 (by decide) (hts (.fieldLink RX12 730 "StoryHouseModel" "noun" "I") wq_1464) (fun _ h9 => h9) rfl dX12_leaf_121 ?_
    have h9 := Option.some.inj hF_41
    subst h9
    exact W.iret (v := (σ.1 108)) hx hb hr (fun t ht hW => ⟨⟨(σ.1 108), (), rfl, rfl, m_end ht hP⟩, hS.F ht⟩) hS.2.2 dX12_leaf_124
  have hF_42 := ineg c_40 hF_39
  clear hF_39
  by_cases c_43 : x_3 = 46
  · have hF_44 := ipos c_43 hF_42
    clear hF_42
    refine lv_tableIn (off := 119) (tgt := 125) hx hb dX12_leaf_6 (by rw [c_43]; decide +kernel) (by rw [c_43]; decide +kernel) (by rw [c_43]; decide +kernel) (by decide) ?_
    refine lv_aload_n hx hb dX12_leaf_125 rfl (lv_at hl 0 rfl) ?_
    refine va_get (D := (dC, dI)) (ci := 12) (v := .int (σ.1 109)) (C := RX12) (T := TX12) (N := 123) hx hb hts ii_X12 hown hK hP 0 rfl rfl 109 (by decide) (hts (.fieldLink RX12 733 "StoryHouseModel" "second" "I") wq_1465) (fun _ h9 => h9) rfl dX12_leaf_126 ?_
    have h9 := Option.some.inj hF_44
    subst h9
    exact W.iret (v := (σ.1 109)) hx hb hr (fun t ht hW => ⟨⟨(σ.1 109), (), rfl, rfl, m_end ht hP⟩, hS.F ht⟩) hS.2.2 dX12_leaf_129
  have hF_45 := ineg c_43 hF_42
  clear hF_42
  refine m_tabD (lo := 40) (n := 7) (tgt := 130) hx hb dX12_leaf_6 (by decide +kernel) (by decide) (fun j9 h9 e9 => by
      match j9, h9 with
      | 0, _ => exact absurd ((by rw [e9]; decide +kernel)) c_5
      | 1, _ => exact absurd ((by rw [e9]; decide +kernel)) c_10
      | 2, _ => rfl
      | 3, _ => rfl
      | 4, _ => exact absurd ((by rw [e9]; decide +kernel)) c_37
      | 5, _ => exact absurd ((by rw [e9]; decide +kernel)) c_40
      | 6, _ => exact absurd ((by rw [e9]; decide +kernel)) c_43
      | n9 + 7, h9 => exact absurd h9 (by omega)) ?_
  refine lv_iconst (v := 1) hx hb dX12_leaf_130 (by decide +kernel) ?_
  have h9 := Option.some.inj hF_45
  subst h9
  exact W.iret (v := 1) hx hb hr (fun t ht hW => ⟨⟨1, (), rfl, rfl, m_end ht hP⟩, hS.F ht⟩) hS.2.2 dX12_leaf_131
theorem dX12_opens__0 : decode cX12_opens_ 0 = .ok (.aload_n 0, 1) := by decide +kernel
theorem dX12_opens__1 : decode cX12_opens_ 1 = .ok (.getfield 137, 3) := by decide +kernel
theorem dX12_opens__4 : decode cX12_opens_ 4 = .ok (.iload_n 1, 1) := by decide +kernel
theorem dX12_opens__5 : decode cX12_opens_ 5 = .ok (.iaload, 1) := by decide +kernel
theorem dX12_opens__6 : decode cX12_opens_ 6 = .ok (.tableswitch 252 42 58 #[82, 212, 252, 252, 252, 252, 232, 232, 232, 232, 232, 232, 232, 232, 181, 181, 232], 82) := by decide +kernel
theorem dX12_opens__88 : decode cX12_opens_ 88 = .ok (.aload_n 0, 1) := by decide +kernel
theorem dX12_opens__89 : decode cX12_opens_ 89 = .ok (.iload_n 1, 1) := by decide +kernel
theorem dX12_opens__90 : decode cX12_opens_ 90 = .ok (.iconst 1, 1) := by decide +kernel
theorem dX12_opens__91 : decode cX12_opens_ 91 = .ok (.invokevirtual 703, 3) := by decide +kernel
theorem dX12_opens__94 : decode cX12_opens_ 94 = .ok (.aload_n 0, 1) := by decide +kernel
theorem dX12_opens__95 : decode cX12_opens_ 95 = .ok (.getfield 697, 3) := by decide +kernel
theorem dX12_opens__98 : decode cX12_opens_ 98 = .ok (.istore_n 3, 1) := by decide +kernel
theorem dX12_opens__99 : decode cX12_opens_ 99 = .ok (.aload_n 0, 1) := by decide +kernel
theorem dX12_opens__100 : decode cX12_opens_ 100 = .ok (.getfield 146, 3) := by decide +kernel
theorem dX12_opens__103 : decode cX12_opens_ 103 = .ok (.iload_n 1, 1) := by decide +kernel
theorem dX12_opens__104 : decode cX12_opens_ 104 = .ok (.iaload, 1) := by decide +kernel
theorem dX12_opens__105 : decode cX12_opens_ 105 = .ok (.istore 4, 2) := by decide +kernel
theorem dX12_opens__107 : decode cX12_opens_ 107 = .ok (.iload 4, 2) := by decide +kernel
theorem dX12_opens__109 : decode cX12_opens_ 109 = .ok (.ifCond .lt 22, 3) := by decide +kernel
theorem dX12_opens__112 : decode cX12_opens_ 112 = .ok (.aload_n 0, 1) := by decide +kernel
theorem dX12_opens__113 : decode cX12_opens_ 113 = .ok (.iload 4, 2) := by decide +kernel
theorem dX12_opens__115 : decode cX12_opens_ 115 = .ok (.iconst 0, 1) := by decide +kernel
theorem dX12_opens__116 : decode cX12_opens_ 116 = .ok (.invokevirtual 703, 3) := by decide +kernel
theorem dX12_opens__119 : decode cX12_opens_ 119 = .ok (.aload_n 0, 1) := by decide +kernel
theorem dX12_opens__120 : decode cX12_opens_ 120 = .ok (.getfield 152, 3) := by decide +kernel
theorem dX12_opens__123 : decode cX12_opens_ 123 = .ok (.iload 4, 2) := by decide +kernel
theorem dX12_opens__125 : decode cX12_opens_ 125 = .ok (.iaload, 1) := by decide +kernel
theorem dX12_opens__126 : decode cX12_opens_ 126 = .ok (.istore 4, 2) := by decide +kernel
theorem dX12_opens__128 : decode cX12_opens_ 128 = .ok (.goto (-21), 3) := by decide +kernel
theorem dX12_opens__131 : decode cX12_opens_ 131 = .ok (.aload_n 0, 1) := by decide +kernel
theorem dX12_opens__132 : decode cX12_opens_ 132 = .ok (.getfield 697, 3) := by decide +kernel
theorem dX12_opens__135 : decode cX12_opens_ 135 = .ok (.iconst 1, 1) := by decide +kernel
theorem dX12_opens__136 : decode cX12_opens_ 136 = .ok (.isub, 1) := by decide +kernel
theorem dX12_opens__137 : decode cX12_opens_ 137 = .ok (.istore 4, 2) := by decide +kernel
theorem dX12_opens__139 : decode cX12_opens_ 139 = .ok (.iload_n 3, 1) := by decide +kernel
theorem dX12_opens__140 : decode cX12_opens_ 140 = .ok (.iload 4, 2) := by decide +kernel
theorem dX12_opens__142 : decode cX12_opens_ 142 = .ok (.if_icmp .ge 42, 3) := by decide +kernel
theorem dX12_opens__145 : decode cX12_opens_ 145 = .ok (.aload_n 0, 1) := by decide +kernel
theorem dX12_opens__146 : decode cX12_opens_ 146 = .ok (.getfield 219, 3) := by decide +kernel
theorem dX12_opens__149 : decode cX12_opens_ 149 = .ok (.iload 4, 2) := by decide +kernel
theorem dX12_opens__151 : decode cX12_opens_ 151 = .ok (.iaload, 1) := by decide +kernel
theorem dX12_opens__152 : decode cX12_opens_ 152 = .ok (.istore 5, 2) := by decide +kernel
theorem dX12_opens__154 : decode cX12_opens_ 154 = .ok (.aload_n 0, 1) := by decide +kernel
theorem dX12_opens__155 : decode cX12_opens_ 155 = .ok (.getfield 219, 3) := by decide +kernel
theorem dX12_opens__158 : decode cX12_opens_ 158 = .ok (.iload 4, 2) := by decide +kernel
theorem dX12_opens__160 : decode cX12_opens_ 160 = .ok (.aload_n 0, 1) := by decide +kernel
theorem dX12_opens__161 : decode cX12_opens_ 161 = .ok (.getfield 219, 3) := by decide +kernel
theorem dX12_opens__164 : decode cX12_opens_ 164 = .ok (.iload_n 3, 1) := by decide +kernel
theorem dX12_opens__165 : decode cX12_opens_ 165 = .ok (.iaload, 1) := by decide +kernel
theorem dX12_opens__166 : decode cX12_opens_ 166 = .ok (.iastore, 1) := by decide +kernel
theorem dX12_opens__167 : decode cX12_opens_ 167 = .ok (.aload_n 0, 1) := by decide +kernel
theorem dX12_opens__168 : decode cX12_opens_ 168 = .ok (.getfield 219, 3) := by decide +kernel
theorem dX12_opens__171 : decode cX12_opens_ 171 = .ok (.iload_n 3, 1) := by decide +kernel
theorem dX12_opens__172 : decode cX12_opens_ 172 = .ok (.iinc 3 1, 3) := by decide +kernel
theorem dX12_opens__175 : decode cX12_opens_ 175 = .ok (.iload 5, 2) := by decide +kernel
theorem dX12_opens__177 : decode cX12_opens_ 177 = .ok (.iastore, 1) := by decide +kernel
theorem dX12_opens__178 : decode cX12_opens_ 178 = .ok (.iinc 4 (-1), 3) := by decide +kernel
theorem dX12_opens__181 : decode cX12_opens_ 181 = .ok (.goto (-42), 3) := by decide +kernel
theorem dX12_opens__184 : decode cX12_opens_ 184 = .ok (.goto 96, 3) := by decide +kernel
theorem dX12_opens__187 : decode cX12_opens_ 187 = .ok (.aload_n 0, 1) := by decide +kernel
theorem dX12_opens__188 : decode cX12_opens_ 188 = .ok (.iload_n 1, 1) := by decide +kernel
theorem dX12_opens__189 : decode cX12_opens_ 189 = .ok (.iconst 1, 1) := by decide +kernel
theorem dX12_opens__190 : decode cX12_opens_ 190 = .ok (.invokevirtual 703, 3) := by decide +kernel
theorem dX12_opens__193 : decode cX12_opens_ 193 = .ok (.aload_n 0, 1) := by decide +kernel
theorem dX12_opens__194 : decode cX12_opens_ 194 = .ok (.aload_n 0, 1) := by decide +kernel
theorem dX12_opens__195 : decode cX12_opens_ 195 = .ok (.getfield 146, 3) := by decide +kernel
theorem dX12_opens__198 : decode cX12_opens_ 198 = .ok (.iload_n 1, 1) := by decide +kernel
theorem dX12_opens__199 : decode cX12_opens_ 199 = .ok (.iaload, 1) := by decide +kernel
theorem dX12_opens__200 : decode cX12_opens_ 200 = .ok (.iconst 0, 1) := by decide +kernel
theorem dX12_opens__201 : decode cX12_opens_ 201 = .ok (.invokevirtual 703, 3) := by decide +kernel
theorem dX12_opens__204 : decode cX12_opens_ 204 = .ok (.aload_n 0, 1) := by decide +kernel
theorem dX12_opens__205 : decode cX12_opens_ 205 = .ok (.aload_n 0, 1) := by decide +kernel
theorem dX12_opens__206 : decode cX12_opens_ 206 = .ok (.getfield 143, 3) := by decide +kernel
theorem dX12_opens__209 : decode cX12_opens_ 209 = .ok (.iload_n 1, 1) := by decide +kernel
theorem dX12_opens__210 : decode cX12_opens_ 210 = .ok (.iaload, 1) := by decide +kernel
theorem dX12_opens__211 : decode cX12_opens_ 211 = .ok (.iconst 0, 1) := by decide +kernel
theorem dX12_opens__212 : decode cX12_opens_ 212 = .ok (.invokevirtual 703, 3) := by decide +kernel
theorem dX12_opens__215 : decode cX12_opens_ 215 = .ok (.goto 65, 3) := by decide +kernel
theorem dX12_opens__218 : decode cX12_opens_ 218 = .ok (.aload_n 0, 1) := by decide +kernel
theorem dX12_opens__219 : decode cX12_opens_ 219 = .ok (.iload_n 1, 1) := by decide +kernel
theorem dX12_opens__220 : decode cX12_opens_ 220 = .ok (.iconst 1, 1) := by decide +kernel
theorem dX12_opens__221 : decode cX12_opens_ 221 = .ok (.invokevirtual 703, 3) := by decide +kernel
theorem dX12_opens__224 : decode cX12_opens_ 224 = .ok (.aload_n 0, 1) := by decide +kernel
theorem dX12_opens__225 : decode cX12_opens_ 225 = .ok (.aload_n 0, 1) := by decide +kernel
theorem dX12_opens__226 : decode cX12_opens_ 226 = .ok (.getfield 146, 3) := by decide +kernel
theorem dX12_opens__229 : decode cX12_opens_ 229 = .ok (.iload_n 1, 1) := by decide +kernel
theorem dX12_opens__230 : decode cX12_opens_ 230 = .ok (.iaload, 1) := by decide +kernel
theorem dX12_opens__231 : decode cX12_opens_ 231 = .ok (.iconst 0, 1) := by decide +kernel
theorem dX12_opens__232 : decode cX12_opens_ 232 = .ok (.invokevirtual 703, 3) := by decide +kernel
theorem dX12_opens__235 : decode cX12_opens_ 235 = .ok (.goto 45, 3) := by decide +kernel
theorem dX12_opens__238 : decode cX12_opens_ 238 = .ok (.aload_n 0, 1) := by decide +kernel
theorem dX12_opens__239 : decode cX12_opens_ 239 = .ok (.iload_n 1, 1) := by decide +kernel
theorem dX12_opens__240 : decode cX12_opens_ 240 = .ok (.iconst 1, 1) := by decide +kernel
theorem dX12_opens__241 : decode cX12_opens_ 241 = .ok (.invokevirtual 703, 3) := by decide +kernel
theorem dX12_opens__244 : decode cX12_opens_ 244 = .ok (.aload_n 0, 1) := by decide +kernel
theorem dX12_opens__245 : decode cX12_opens_ 245 = .ok (.aload_n 0, 1) := by decide +kernel
theorem dX12_opens__246 : decode cX12_opens_ 246 = .ok (.getfield 143, 3) := by decide +kernel
theorem dX12_opens__249 : decode cX12_opens_ 249 = .ok (.iload_n 1, 1) := by decide +kernel
theorem dX12_opens__250 : decode cX12_opens_ 250 = .ok (.iaload, 1) := by decide +kernel
theorem dX12_opens__251 : decode cX12_opens_ 251 = .ok (.iconst 0, 1) := by decide +kernel
theorem dX12_opens__252 : decode cX12_opens_ 252 = .ok (.invokevirtual 703, 3) := by decide +kernel
theorem dX12_opens__255 : decode cX12_opens_ 255 = .ok (.goto 25, 3) := by decide +kernel
theorem dX12_opens__258 : decode cX12_opens_ 258 = .ok (.aload_n 0, 1) := by decide +kernel
theorem dX12_opens__259 : decode cX12_opens_ 259 = .ok (.getfield 222, 3) := by decide +kernel
theorem dX12_opens__262 : decode cX12_opens_ 262 = .ok (.aload_n 0, 1) := by decide +kernel
theorem dX12_opens__263 : decode cX12_opens_ 263 = .ok (.dup, 1) := by decide +kernel
theorem dX12_opens__264 : decode cX12_opens_ 264 = .ok (.getfield 700, 3) := by decide +kernel
theorem dX12_opens__267 : decode cX12_opens_ 267 = .ok (.dup_x1, 1) := by decide +kernel
theorem dX12_opens__268 : decode cX12_opens_ 268 = .ok (.iconst 1, 1) := by decide +kernel
theorem dX12_opens__269 : decode cX12_opens_ 269 = .ok (.iadd, 1) := by decide +kernel
theorem dX12_opens__270 : decode cX12_opens_ 270 = .ok (.putfield 700, 3) := by decide +kernel
theorem dX12_opens__273 : decode cX12_opens_ 273 = .ok (.aload_n 0, 1) := by decide +kernel
theorem dX12_opens__274 : decode cX12_opens_ 274 = .ok (.iload_n 1, 1) := by decide +kernel
theorem dX12_opens__275 : decode cX12_opens_ 275 = .ok (.iload_n 2, 1) := by decide +kernel
theorem dX12_opens__276 : decode cX12_opens_ 276 = .ok (.invokevirtual 718, 3) := by decide +kernel
theorem dX12_opens__279 : decode cX12_opens_ 279 = .ok (.iastore, 1) := by decide +kernel
theorem dX12_opens__280 : decode cX12_opens_ 280 = .ok (.return_, 1) := by decide +kernel
def F_X12_opens_ (p0 : Int32) (p1 : Int32) (σ : MS) : MR :=
  if p0 < 0 ∨ 40000 ≤ p0.toNatClampNeg then none else
  bnd ((σ.2 64 p0.toNatClampNeg)) fun (x_3 : Int32) =>
  if x_3 = 42 then (
    (F_X12_toDo p0 1 σ).bind fun u_7 =>
    bnd ((u_7.2.1 113)) fun (x_9 : Int32) =>
    if p0 < 0 ∨ 40000 ≤ p0.toNatClampNeg then none else
    bnd ((u_7.2.2 67 p0.toNatClampNeg)) fun (x_13 : Int32) =>
    loopF (fun (again_16 : (Int32 × MS) → MR) (s_15 : Int32 × MS) => (
      if s_15.1 < 0 then (
        bnd (((s_15.2.1 113) - 1)) fun (x_21 : Int32) =>
        loopF (fun (again_24 : (Int32 × Int32 × MS) → MR) (s_23 : Int32 × Int32 × MS) => (
          if s_23.2.1 ≤ s_23.1 then (
            some (0, s_23.2.2)
          ) else (
            if s_23.2.1 < 0 ∨ 130000 ≤ s_23.2.1.toNatClampNeg then none else
            bnd ((s_23.2.2.2 112 s_23.2.1.toNatClampNeg)) fun (x_32 : Int32) =>
            if s_23.1 < 0 ∨ 130000 ≤ s_23.1.toNatClampNeg then none else
            bnd ((s_23.2.2.2 112 s_23.1.toNatClampNeg)) fun (x_36 : Int32) =>
            if s_23.2.1 < 0 ∨ 130000 ≤ s_23.2.1.toNatClampNeg then none else
            bnd (mA s_23.2.2 112 (upd (s_23.2.2.2 112) s_23.2.1.toNatClampNeg x_36)) fun σ_40 =>
            bnd (s_23.1 + 1) fun (x_42 : Int32) =>
            if s_23.1 < 0 ∨ 130000 ≤ s_23.1.toNatClampNeg then none else
            bnd (mA σ_40 112 (upd (σ_40.2 112) s_23.1.toNatClampNeg x_32)) fun σ_46 =>
            bnd (s_23.2.1 + (-1)) fun (x_48 : Int32) =>
            again_24 (x_42, x_48, σ_46)
          )
        )) FU (x_9, x_21, s_15.2)
      ) else (
        (F_X12_toDo s_15.1 0 s_15.2).bind fun u_51 =>
        if s_15.1 < 0 ∨ 40000 ≤ s_15.1.toNatClampNeg then none else
        bnd ((u_51.2.2 69 s_15.1.toNatClampNeg)) fun (x_55 : Int32) =>
        again_16 (x_55, u_51.2)
      )
    )) FU (x_13, u_7.2)
  ) else
  if x_3 = 43 then (
    (F_X12_toDo p0 1 σ).bind fun u_60 =>
    if p0 < 0 ∨ 40000 ≤ p0.toNatClampNeg then none else
    (F_X12_toDo (u_60.2.2 67 p0.toNatClampNeg) 0 u_60.2).bind fun u_64 =>
    some (0, u_64.2)
  ) else
  if x_3 = 48 ∨ x_3 = 49 ∨ x_3 = 50 ∨ x_3 = 51 ∨ x_3 = 52 ∨ x_3 = 53 ∨ x_3 = 54 ∨ x_3 = 55 ∨ x_3 = 58 then (
    (F_X12_toDo p0 1 σ).bind fun u_69 =>
    if p0 < 0 ∨ 40000 ≤ p0.toNatClampNeg then none else
    (F_X12_toDo (u_69.2.2 66 p0.toNatClampNeg) 0 u_69.2).bind fun u_73 =>
    some (0, u_73.2)
  ) else
  if x_3 = 56 ∨ x_3 = 57 then (
    (F_X12_toDo p0 1 σ).bind fun u_78 =>
    if p0 < 0 ∨ 40000 ≤ p0.toNatClampNeg then none else
    (F_X12_toDo (u_78.2.2 67 p0.toNatClampNeg) 0 u_78.2).bind fun u_82 =>
    if p0 < 0 ∨ 40000 ≤ p0.toNatClampNeg then none else
    (F_X12_toDo (u_82.2.2 66 p0.toNatClampNeg) 0 u_82.2).bind fun u_86 =>
    some (0, u_86.2)
  ) else
  (
    bnd (mI σ 115 ((σ.1 115) + 1)) fun σ_89 =>
    (F_X12_leaf p0 p1 σ_89).bind fun u_91 =>
    if (σ.1 115) < 0 ∨ 9000 ≤ (σ.1 115).toNatClampNeg then none else
    bnd (mA u_91.2 114 (upd (u_91.2.2 114) (σ.1 115).toNatClampNeg u_91.1)) fun σ_95 =>
    some (0, σ_95)
  )
set_option maxHeartbeats 4000000 in
set_option maxRecDepth 100000 in
theorem m_X12_opens_ (l : Launch) (dC : Nat → ClassId) (dI : Nat → Nat → Nat) (cB cC cI cJ cZ cP : ClassId) (h qK qS : Nat) (ad : Nat → Nat) (hDD : mDis cB cI cZ h qK qS ad) (sz : Nat)  (p0 : Int32) (p1 : Int32) (σ : MS) (res : Int32 × MS) (hF : F_X12_opens_ p0 p1 σ = some res) : Met l yX12_opens_ (g_ws yX12_opens_ cX12_opens_ 6 none) ({ frames := 2, cells := 0, slots := 0, locals := 62 }) (va_Pc [.ref h, .int p0, .int p1] (m_B (dC, dI) [(cB, .byte), (cC, .char), (cI, .int), (cJ, .long), (cZ, .boolean), (cP, .object "StoryHouse$Play")] sz h ad qK qS (mW cB cI cZ h qK qS ad σ) g_0)) (va_Qv (fun (_ : Unit) => True) (fun _ t => va_P (dC, dI) vwCl (mW cB cI cZ h qK qS ad res.2) t.heap) (mCells h ad sz)) 0 0 (mCells h ad sz) := by
  refine Met.ofW (cc := cX12_opens_) (maxL := 6) (ret := none) (by decide) rfl ?_
  intro p e s m args below meth c s₁ B hml hv
  obtain ⟨rfl, hsz, hP, hK, hE, hKS, hX⟩ := hv
  have hx := B.exec
  have hb := B.bytes
  have hr := B.returns
  have hts0 := atoms_spec (ws := g_ws yX12_opens_ cX12_opens_ 6 none) B.pre
  have hts : ∀ w ∈ lw_good, w.before ([.ref h, .int p0, .int p1] : List Value).toArray s = true := fun w z => hts0 w (List.mem_cons_of_mem _ z)
  have hown : s.vm.findClass RX12 = some m.cls := findClass_of_methodNamed B.named
  have hlocks := B.notSynchronized
  have hS : va_S (mCells h ad sz) s.heap s.heap [] := va_S.rf
  have hl := lv_entry ([.ref h, .int p0, .int p1]) (n := 6) (Nat.le_of_ble_eq_true rfl)
  rw [lg_entry_eq]
  generalize (lg_sl ([.ref h, .int p0, .int p1]) ++ List.replicate (6 - (lg_sl ([.ref h, .int p0, .int p1])).length) Slot.unset).toArray = ls at hl ⊢
  have hl : lv_has ls 6 [(0, .ref h), (1, .int p0), (2, .int p1)] := hl
  unfold F_X12_opens_ at hF
  refine lv_aload_n hx hb dX12_opens__0 rfl (lv_at hl 0 rfl) ?_
  refine va_get (D := (dC, dI)) (ci := 12) (v := .ref (ad 64)) (C := RX12) (T := TX12) (N := 123) hx hb hts ii_X12 hown hK hP 0 rfl rfl 64 (by decide) (hts (.fieldLink RX12 137 "StoryHouseModel" "bWhat" "[I") wq_1420) (fun _ h9 => h9) rfl dX12_opens__1 ?_
  refine lv_iload_n hx hb dX12_opens__4 rfl (lv_at hl 1 rfl) ?_
  obtain ⟨g_1, hF_2⟩ := nif_e hF
  clear hF
  refine va_iald (f := σ.2 64) hx hb hK hP 37 2 rfl rfl g_1 dX12_opens__5 ?_
  obtain ⟨x_3, ex_3, hF_4⟩ := bnd_e hF_2
  clear hF_2
  refine m_top ex_3 ?_
  by_cases c_5 : x_3 = 42
  · have hF_6 := ipos c_5 hF_4
    clear hF_4
    refine lv_tableIn (off := 82) (tgt := 88) hx hb dX12_opens__6 (by rw [c_5]; decide +kernel) (by rw [c_5]; decide +kernel) (by rw [c_5]; decide +kernel) (by decide) ?_
    refine lv_aload_n hx hb dX12_opens__88 rfl (lv_at hl 0 rfl) ?_
    refine lv_iload_n hx hb dX12_opens__89 rfl (lv_at hl 1 rfl) ?_
    refine lv_iconst (v := 1) hx hb dX12_opens__90 (by decide +kernel) ?_
    obtain ⟨u_7, hu_7, hF_8⟩ := Option.bind_eq_some_iff.mp hF_6
    clear hF_6
    refine m_cv hsz hS (va_runV (As := [.int p0, .int 1]) (rest := []) ⟨hx, hb, hml, hown, hts⟩ (m_X12_toDo l dC dI cB cC cI cJ cZ cP h qK qS ad hDD s.heap.size  p0 1 σ _ hu_7) (cwV 2 hts (g_gV wq_1822 wq_1823 wq_2215 wq_13 wq_1824) rfl rfl rfl (by decide +kernel) ⟨Nat.le_of_ble_eq_true rfl, Nat.le_of_ble_eq_true rfl⟩) (m_preV g_bl0 hsz hK hP hS hE hKS g_to0) rfl rfl hl.1 rfl (lv_room (Nat.le_of_ble_eq_true rfl)) dX12_opens__91 ⟨Nat.le_of_ble_eq_true rfl, Nat.le_of_ble_eq_true rfl⟩) (fun H locs hP hS => ?_)
    refine lv_aload_n hx hb dX12_opens__94 rfl (lv_at hl 0 rfl) ?_
    refine va_get (D := (dC, dI)) (ci := 12) (v := .int (u_7.2.1 113)) (C := RX12) (T := TX12) (N := 123) hx hb hts ii_X12 hown hK hP 0 rfl rfl 113 (by decide) (hts (.fieldLink RX12 697 "StoryHouseModel" "works" "I") wq_1469) (fun _ h9 => h9) rfl dX12_opens__95 ?_
    obtain ⟨x_9, ex_9, hF_10⟩ := bnd_e hF_8
    clear hF_8
    refine m_top ex_9 ?_
    refine lv_istore_n (lv' := [(3, .int x_9), (0, .ref h), (1, .int p0), (2, .int p1)]) hx hb dX12_opens__98 rfl hl (by decide) rfl (fun ls hl => ?_)
    refine lv_aload_n hx hb dX12_opens__99 rfl (lv_at hl 1 rfl) ?_
    refine va_get (D := (dC, dI)) (ci := 12) (v := .ref (ad 67)) (C := RX12) (T := TX12) (N := 123) hx hb hts ii_X12 hown hK hP 0 rfl rfl 67 (by decide) (hts (.fieldLink RX12 146 "StoryHouseModel" "bB" "[I") wq_1423) (fun _ h9 => h9) rfl dX12_opens__100 ?_
    refine lv_iload_n hx hb dX12_opens__103 rfl (lv_at hl 2 rfl) ?_
    obtain ⟨g_11, hF_12⟩ := nif_e hF_10
    clear hF_10
    refine va_iald (f := u_7.2.2 67) hx hb hK hP 40 2 rfl rfl g_11 dX12_opens__104 ?_
    obtain ⟨x_13, ex_13, hF_14⟩ := bnd_e hF_12
    clear hF_12
    refine m_top ex_13 ?_
    refine lv_istore (lv' := [(4, .int x_13), (3, .int x_9), (0, .ref h), (1, .int p0), (2, .int p1)]) hx hb dX12_opens__105 hl (by decide) rfl (fun ls hl => ?_)
    refine loopF_ind (P := fun (s_15 : Int32 × MS) => ∀ (H : Heap) (locs : List Loc), va_P (dC, dI) vwCl (mW cB cI cZ h qK qS ad s_15.2) H → va_S (mCells h ad sz) s.heap H locs → ∀ ls : Array Slot, lv_has ls 6 [(0, .ref h), (3, .int x_9), (4, .int s_15.1)] → W p l e (headSpec (g_ws yX12_opens_ cX12_opens_ 6 none) { frames := 2, cells := 0, slots := 0, locals := 62 }).room s m ([.ref h, .int p0, .int p1] : List Value).toArray below meth c H locs 0 0 (MQ below (va_Qv (fun (_ : Unit) => True) (fun _ t => va_P (dC, dI) vwCl (mW cB cI cZ h qK qS ad res.2) t.heap) (mCells h ad sz)) ([.ref h, .int p0, .int p1] : List Value).toArray s 0 0 (mCells h ad sz)) (F0 m 107 ls [])) ?_ _ _ hF_14 _ _ hP hS ls (lv_sub hl [2, 1, 0] rfl)
    intro again_16 s_15 ih_17 hF_18
    intro H locs hP hS ls hl
    refine lv_iload hx hb dX12_opens__107 (lv_at hl 2 rfl) ?_
    refine lv_if_lt (tgt := 131) hx hb dX12_opens__109 (by decide) (fun c_19 => ?_) (fun c_19 => ?_)
    · have hF_20 := ipos c_19 hF_18
      clear hF_18
      refine lv_aload_n hx hb dX12_opens__131 rfl (lv_at hl 0 rfl) ?_
      refine va_get (D := (dC, dI)) (ci := 12) (v := .int (s_15.2.1 113)) (C := RX12) (T := TX12) (N := 123) hx hb hts ii_X12 hown hK hP 0 rfl rfl 113 (by decide) (hts (.fieldLink RX12 697 "StoryHouseModel" "works" "I") wq_1469) (fun _ h9 => h9) rfl dX12_opens__132 ?_
      refine lv_iconst (v := 1) hx hb dX12_opens__135 (by decide +kernel) ?_
      refine lv_isub hx hb dX12_opens__136 ?_
      obtain ⟨x_21, ex_21, hF_22⟩ := bnd_e hF_20
      clear hF_20
      refine m_top ex_21 ?_
      refine lv_istore (lv' := [(4, .int x_21), (0, .ref h), (3, .int x_9)]) hx hb dX12_opens__137 hl (by decide) rfl (fun ls hl => ?_)
      refine loopF_ind (P := fun (s_23 : Int32 × Int32 × MS) => ∀ (H : Heap) (locs : List Loc), va_P (dC, dI) vwCl (mW cB cI cZ h qK qS ad s_23.2.2) H → va_S (mCells h ad sz) s.heap H locs → ∀ ls : Array Slot, lv_has ls 6 [(0, .ref h), (3, .int s_23.1), (4, .int s_23.2.1)] → W p l e (headSpec (g_ws yX12_opens_ cX12_opens_ 6 none) { frames := 2, cells := 0, slots := 0, locals := 62 }).room s m ([.ref h, .int p0, .int p1] : List Value).toArray below meth c H locs 0 0 (MQ below (va_Qv (fun (_ : Unit) => True) (fun _ t => va_P (dC, dI) vwCl (mW cB cI cZ h qK qS ad res.2) t.heap) (mCells h ad sz)) ([.ref h, .int p0, .int p1] : List Value).toArray s 0 0 (mCells h ad sz)) (F0 m 139 ls [])) ?_ _ _ hF_22 _ _ hP hS ls (lv_sub hl [1, 2, 0] rfl)
      intro again_24 s_23 ih_25 hF_26
      intro H locs hP hS ls hl
      refine lv_iload_n hx hb dX12_opens__139 rfl (lv_at hl 1 rfl) ?_
      refine lv_iload hx hb dX12_opens__140 (lv_at hl 2 rfl) ?_
      refine lv_icmp_ge (tgt := 184) hx hb dX12_opens__142 (by decide) (fun c_27 => ?_) (fun c_27 => ?_)
      · have hF_28 := ipos c_27 hF_26
        clear hF_26
        refine lv_goto (tgt := 280) hx hb dX12_opens__184 (by decide) ?_
        have h9 := Option.some.inj hF_28
        subst h9
        exact W.vret hx hb hr (fun t ht hW => ⟨⟨(), rfl, trivial, m_end ht hP⟩, hS.F ht⟩) hS.2.2 dX12_opens__280
      · have hF_29 := ineg c_27 hF_26
        clear hF_26
        refine lv_aload_n hx hb dX12_opens__145 rfl (lv_at hl 0 rfl) ?_
        refine va_get (D := (dC, dI)) (ci := 12) (v := .ref (ad 112)) (C := RX12) (T := TX12) (N := 123) hx hb hts ii_X12 hown hK hP 0 rfl rfl 112 (by decide) (hts (.fieldLink RX12 219 "StoryHouseModel" "work" "[I") wq_1468) (fun _ h9 => h9) rfl dX12_opens__146 ?_
        refine lv_iload hx hb dX12_opens__149 (lv_at hl 2 rfl) ?_
        obtain ⟨g_30, hF_31⟩ := nif_e hF_29
        clear hF_29
        refine va_iald (f := s_23.2.2.2 112) hx hb hK hP 63 2 rfl rfl g_30 dX12_opens__151 ?_
        obtain ⟨x_32, ex_32, hF_33⟩ := bnd_e hF_31
        clear hF_31
        refine m_top ex_32 ?_
        refine lv_istore (lv' := [(5, .int x_32), (0, .ref h), (3, .int s_23.1), (4, .int s_23.2.1)]) hx hb dX12_opens__152 hl (by decide) rfl (fun ls hl => ?_)
        refine lv_aload_n hx hb dX12_opens__154 rfl (lv_at hl 1 rfl) ?_
        refine va_get (D := (dC, dI)) (ci := 12) (v := .ref (ad 112)) (C := RX12) (T := TX12) (N := 123) hx hb hts ii_X12 hown hK hP 0 rfl rfl 112 (by decide) (hts (.fieldLink RX12 219 "StoryHouseModel" "work" "[I") wq_1468) (fun _ h9 => h9) rfl dX12_opens__155 ?_
        refine lv_iload hx hb dX12_opens__158 (lv_at hl 3 rfl) ?_
        refine lv_aload_n hx hb dX12_opens__160 rfl (lv_at hl 1 rfl) ?_
        refine va_get (D := (dC, dI)) (ci := 12) (v := .ref (ad 112)) (C := RX12) (T := TX12) (N := 123) hx hb hts ii_X12 hown hK hP 0 rfl rfl 112 (by decide) (hts (.fieldLink RX12 219 "StoryHouseModel" "work" "[I") wq_1468) (fun _ h9 => h9) rfl dX12_opens__161 ?_
        refine lv_iload_n hx hb dX12_opens__164 rfl (lv_at hl 2 rfl) ?_
        obtain ⟨g_34, hF_35⟩ := nif_e hF_33
        clear hF_33
        refine va_iald (f := s_23.2.2.2 112) hx hb hK hP 63 2 rfl rfl g_34 dX12_opens__165 ?_
        obtain ⟨x_36, ex_36, hF_37⟩ := bnd_e hF_35
        clear hF_35
        refine m_top ex_36 ?_
        obtain ⟨g_38, hF_39⟩ := nif_e hF_37
        clear hF_37
        obtain ⟨σ_40, eσ_40, hF_41⟩ := bnd_e hF_39
        clear hF_39
        refine m_iast (σ' := σ_40) hx hb hK hP (hDD _ _) hS (q0 := 63) (t0 := 2) (f := s_23.2.2.2 112) rfl rfl (by rw [eσ_40]; exact mwA_112) g_38 dX12_opens__166 (fun H locs hP hS => ?_)
        refine lv_aload_n hx hb dX12_opens__167 rfl (lv_at hl 1 rfl) ?_
        refine va_get (D := (dC, dI)) (ci := 12) (v := .ref (ad 112)) (C := RX12) (T := TX12) (N := 123) hx hb hts ii_X12 hown hK hP 0 rfl rfl 112 (by decide) (hts (.fieldLink RX12 219 "StoryHouseModel" "work" "[I") wq_1468) (fun _ h9 => h9) rfl dX12_opens__168 ?_
        refine lv_iload_n hx hb dX12_opens__171 rfl (lv_at hl 2 rfl) ?_
        obtain ⟨x_42, ex_42, hF_43⟩ := bnd_e hF_41
        clear hF_41
        refine lv_iinc (v := x_42) (lv' := [(3, .int x_42), (5, .int x_32), (0, .ref h), (4, .int s_23.2.1)]) hx hb dX12_opens__172 hl (k := 2) rfl (by rw [ex_42]; rfl) (by decide) rfl (fun ls hl => ?_)
        refine lv_iload hx hb dX12_opens__175 (lv_at hl 1 rfl) ?_
        obtain ⟨g_44, hF_45⟩ := nif_e hF_43
        clear hF_43
        obtain ⟨σ_46, eσ_46, hF_47⟩ := bnd_e hF_45
        clear hF_45
        refine m_iast (σ' := σ_46) hx hb hK hP (hDD _ _) hS (q0 := 63) (t0 := 2) (f := σ_40.2 112) rfl rfl (by rw [eσ_46]; exact mwA_112) g_44 dX12_opens__177 (fun H locs hP hS => ?_)
        obtain ⟨x_48, ex_48, hF_49⟩ := bnd_e hF_47
        clear hF_47
        refine lv_iinc (v := x_48) (lv' := [(4, .int x_48), (3, .int x_42), (5, .int x_32), (0, .ref h)]) hx hb dX12_opens__178 hl (k := 3) rfl (by rw [ex_48]; rfl) (by decide) rfl (fun ls hl => ?_)
        refine lv_goto (tgt := 139) hx hb dX12_opens__181 (by decide) ?_
        exact ih_25 (x_42, x_48, σ_46) hF_49 _ _ hP hS ls (lv_sub hl [3, 1, 0] rfl)
    · have hF_50 := ineg c_19 hF_18
      clear hF_18
      refine lv_aload_n hx hb dX12_opens__112 rfl (lv_at hl 0 rfl) ?_
      refine lv_iload hx hb dX12_opens__113 (lv_at hl 2 rfl) ?_
      refine lv_iconst (v := 0) hx hb dX12_opens__115 (by decide +kernel) ?_
      obtain ⟨u_51, hu_51, hF_52⟩ := Option.bind_eq_some_iff.mp hF_50
      clear hF_50
      refine m_cv hsz hS (va_runV (As := [.int s_15.1, .int 0]) (rest := []) ⟨hx, hb, hml, hown, hts⟩ (m_X12_toDo l dC dI cB cC cI cJ cZ cP h qK qS ad hDD H.size  s_15.1 0 s_15.2 _ hu_51) (cwV 2 hts (g_gV wq_1822 wq_1823 wq_2215 wq_13 wq_1824) rfl rfl rfl (by decide +kernel) ⟨Nat.le_of_ble_eq_true rfl, Nat.le_of_ble_eq_true rfl⟩) (m_preV g_bl0 hsz hK hP hS hE hKS g_to0) rfl rfl hl.1 rfl (lv_room (Nat.le_of_ble_eq_true rfl)) dX12_opens__116 ⟨Nat.le_of_ble_eq_true rfl, Nat.le_of_ble_eq_true rfl⟩) (fun H locs hP hS => ?_)
      refine lv_aload_n hx hb dX12_opens__119 rfl (lv_at hl 0 rfl) ?_
      refine va_get (D := (dC, dI)) (ci := 12) (v := .ref (ad 69)) (C := RX12) (T := TX12) (N := 123) hx hb hts ii_X12 hown hK hP 0 rfl rfl 69 (by decide) (hts (.fieldLink RX12 152 "StoryHouseModel" "bThen" "[I") wq_1425) (fun _ h9 => h9) rfl dX12_opens__120 ?_
      refine lv_iload hx hb dX12_opens__123 (lv_at hl 2 rfl) ?_
      obtain ⟨g_53, hF_54⟩ := nif_e hF_52
      clear hF_52
      refine va_iald (f := u_51.2.2 69) hx hb hK hP 42 2 rfl rfl g_53 dX12_opens__125 ?_
      obtain ⟨x_55, ex_55, hF_56⟩ := bnd_e hF_54
      clear hF_54
      refine m_top ex_55 ?_
      refine lv_istore (lv' := [(4, .int x_55), (0, .ref h), (3, .int x_9)]) hx hb dX12_opens__126 hl (by decide) rfl (fun ls hl => ?_)
      refine lv_goto (tgt := 107) hx hb dX12_opens__128 (by decide) ?_
      exact ih_17 (x_55, u_51.2) hF_56 _ _ hP hS ls (lv_sub hl [1, 2, 0] rfl)
  have hF_57 := ineg c_5 hF_4
  clear hF_4
  by_cases c_58 : x_3 = 43
  · have hF_59 := ipos c_58 hF_57
    clear hF_57
    refine lv_tableIn (off := 212) (tgt := 218) hx hb dX12_opens__6 (by rw [c_58]; decide +kernel) (by rw [c_58]; decide +kernel) (by rw [c_58]; decide +kernel) (by decide) ?_
    refine lv_aload_n hx hb dX12_opens__218 rfl (lv_at hl 0 rfl) ?_
    refine lv_iload_n hx hb dX12_opens__219 rfl (lv_at hl 1 rfl) ?_
    refine lv_iconst (v := 1) hx hb dX12_opens__220 (by decide +kernel) ?_
    obtain ⟨u_60, hu_60, hF_61⟩ := Option.bind_eq_some_iff.mp hF_59
    clear hF_59
    refine m_cv hsz hS (va_runV (As := [.int p0, .int 1]) (rest := []) ⟨hx, hb, hml, hown, hts⟩ (m_X12_toDo l dC dI cB cC cI cJ cZ cP h qK qS ad hDD s.heap.size  p0 1 σ _ hu_60) (cwV 2 hts (g_gV wq_1822 wq_1823 wq_2215 wq_13 wq_1824) rfl rfl rfl (by decide +kernel) ⟨Nat.le_of_ble_eq_true rfl, Nat.le_of_ble_eq_true rfl⟩) (m_preV g_bl0 hsz hK hP hS hE hKS g_to0) rfl rfl hl.1 rfl (lv_room (Nat.le_of_ble_eq_true rfl)) dX12_opens__221 ⟨Nat.le_of_ble_eq_true rfl, Nat.le_of_ble_eq_true rfl⟩) (fun H locs hP hS => ?_)
    refine lv_aload_n hx hb dX12_opens__224 rfl (lv_at hl 0 rfl) ?_
    refine lv_aload_n hx hb dX12_opens__225 rfl (lv_at hl 0 rfl) ?_
    refine va_get (D := (dC, dI)) (ci := 12) (v := .ref (ad 67)) (C := RX12) (T := TX12) (N := 123) hx hb hts ii_X12 hown hK hP 0 rfl rfl 67 (by decide) (hts (.fieldLink RX12 146 "StoryHouseModel" "bB" "[I") wq_1423) (fun _ h9 => h9) rfl dX12_opens__226 ?_
    refine lv_iload_n hx hb dX12_opens__229 rfl (lv_at hl 1 rfl) ?_
    obtain ⟨g_62, hF_63⟩ := nif_e hF_61
    clear hF_61
    refine va_iald (f := u_60.2.2 67) hx hb hK hP 40 2 rfl rfl g_62 dX12_opens__230 ?_
    refine lv_iconst (v := 0) hx hb dX12_opens__231 (by decide +kernel) ?_
    obtain ⟨u_64, hu_64, hF_65⟩ := Option.bind_eq_some_iff.mp hF_63
    clear hF_63
    refine m_cv hsz hS (va_runV (As := [.int (u_60.2.2 67 p0.toNatClampNeg), .int 0]) (rest := []) ⟨hx, hb, hml, hown, hts⟩ (m_X12_toDo l dC dI cB cC cI cJ cZ cP h qK qS ad hDD H.size  (u_60.2.2 67 p0.toNatClampNeg) 0 u_60.2 _ hu_64) (cwV 2 hts (g_gV wq_1822 wq_1823 wq_2215 wq_13 wq_1824) rfl rfl rfl (by decide +kernel) ⟨Nat.le_of_ble_eq_true rfl, Nat.le_of_ble_eq_true rfl⟩) (m_preV g_bl0 hsz hK hP hS hE hKS g_to0) rfl rfl hl.1 rfl (lv_room (Nat.le_of_ble_eq_true rfl)) dX12_opens__232 ⟨Nat.le_of_ble_eq_true rfl, Nat.le_of_ble_eq_true rfl⟩) (fun H locs hP hS => ?_)
    refine lv_goto (tgt := 280) hx hb dX12_opens__235 (by decide) ?_
    have h9 := Option.some.inj hF_65
    subst h9
    exact W.vret hx hb hr (fun t ht hW => ⟨⟨(), rfl, trivial, m_end ht hP⟩, hS.F ht⟩) hS.2.2 dX12_opens__280
  have hF_66 := ineg c_58 hF_57
  clear hF_57
  by_cases c_67 : x_3 = 48 ∨ x_3 = 49 ∨ x_3 = 50 ∨ x_3 = 51 ∨ x_3 = 52 ∨ x_3 = 53 ∨ x_3 = 54 ∨ x_3 = 55 ∨ x_3 = 58
  · have hF_68 := ipos c_67 hF_66
    clear hF_66
    refine lv_tableIn (off := 232) (tgt := 238) hx hb dX12_opens__6 (by rcases c_67 with q9 | q9 | q9 | q9 | q9 | q9 | q9 | q9 | q9 <;> (rw [q9]; decide +kernel)) (by rcases c_67 with q9 | q9 | q9 | q9 | q9 | q9 | q9 | q9 | q9 <;> (rw [q9]; decide +kernel)) (by rcases c_67 with q9 | q9 | q9 | q9 | q9 | q9 | q9 | q9 | q9 <;> (rw [q9]; decide +kernel)) (by decide) ?_
    refine lv_aload_n hx hb dX12_opens__238 rfl (lv_at hl 0 rfl) ?_
    refine lv_iload_n hx hb dX12_opens__239 rfl (lv_at hl 1 rfl) ?_
    refine lv_iconst (v := 1) hx hb dX12_opens__240 (by decide +kernel) ?_
    obtain ⟨u_69, hu_69, hF_70⟩ := Option.bind_eq_some_iff.mp hF_68
    clear hF_68
    refine m_cv hsz hS (va_runV (As := [.int p0, .int 1]) (rest := []) ⟨hx, hb, hml, hown, hts⟩ (m_X12_toDo l dC dI cB cC cI cJ cZ cP h qK qS ad hDD s.heap.size  p0 1 σ _ hu_69) (cwV 2 hts (g_gV wq_1822 wq_1823 wq_2215 wq_13 wq_1824) rfl rfl rfl (by decide +kernel) ⟨Nat.le_of_ble_eq_true rfl, Nat.le_of_ble_eq_true rfl⟩) (m_preV g_bl0 hsz hK hP hS hE hKS g_to0) rfl rfl hl.1 rfl (lv_room (Nat.le_of_ble_eq_true rfl)) dX12_opens__241 ⟨Nat.le_of_ble_eq_true rfl, Nat.le_of_ble_eq_true rfl⟩) (fun H locs hP hS => ?_)
    refine lv_aload_n hx hb dX12_opens__244 rfl (lv_at hl 0 rfl) ?_
    refine lv_aload_n hx hb dX12_opens__245 rfl (lv_at hl 0 rfl) ?_
    refine va_get (D := (dC, dI)) (ci := 12) (v := .ref (ad 66)) (C := RX12) (T := TX12) (N := 123) hx hb hts ii_X12 hown hK hP 0 rfl rfl 66 (by decide) (hts (.fieldLink RX12 143 "StoryHouseModel" "bA" "[I") wq_1422) (fun _ h9 => h9) rfl dX12_opens__246 ?_
    refine lv_iload_n hx hb dX12_opens__249 rfl (lv_at hl 1 rfl) ?_
    obtain ⟨g_71, hF_72⟩ := nif_e hF_70
    clear hF_70
    refine va_iald (f := u_69.2.2 66) hx hb hK hP 39 2 rfl rfl g_71 dX12_opens__250 ?_
    refine lv_iconst (v := 0) hx hb dX12_opens__251 (by decide +kernel) ?_
    obtain ⟨u_73, hu_73, hF_74⟩ := Option.bind_eq_some_iff.mp hF_72
    clear hF_72
    refine m_cv hsz hS (va_runV (As := [.int (u_69.2.2 66 p0.toNatClampNeg), .int 0]) (rest := []) ⟨hx, hb, hml, hown, hts⟩ (m_X12_toDo l dC dI cB cC cI cJ cZ cP h qK qS ad hDD H.size  (u_69.2.2 66 p0.toNatClampNeg) 0 u_69.2 _ hu_73) (cwV 2 hts (g_gV wq_1822 wq_1823 wq_2215 wq_13 wq_1824) rfl rfl rfl (by decide +kernel) ⟨Nat.le_of_ble_eq_true rfl, Nat.le_of_ble_eq_true rfl⟩) (m_preV g_bl0 hsz hK hP hS hE hKS g_to0) rfl rfl hl.1 rfl (lv_room (Nat.le_of_ble_eq_true rfl)) dX12_opens__252 ⟨Nat.le_of_ble_eq_true rfl, Nat.le_of_ble_eq_true rfl⟩) (fun H locs hP hS => ?_)
    refine lv_goto (tgt := 280) hx hb dX12_opens__255 (by decide) ?_
    have h9 := Option.some.inj hF_74
    subst h9
    exact W.vret hx hb hr (fun t ht hW => ⟨⟨(), rfl, trivial, m_end ht hP⟩, hS.F ht⟩) hS.2.2 dX12_opens__280
  have hF_75 := ineg c_67 hF_66
  clear hF_66
  by_cases c_76 : x_3 = 56 ∨ x_3 = 57
  · have hF_77 := ipos c_76 hF_75
    clear hF_75
    refine lv_tableIn (off := 181) (tgt := 187) hx hb dX12_opens__6 (by rcases c_76 with q9 | q9 <;> (rw [q9]; decide +kernel)) (by rcases c_76 with q9 | q9 <;> (rw [q9]; decide +kernel)) (by rcases c_76 with q9 | q9 <;> (rw [q9]; decide +kernel)) (by decide) ?_
    refine lv_aload_n hx hb dX12_opens__187 rfl (lv_at hl 0 rfl) ?_
    refine lv_iload_n hx hb dX12_opens__188 rfl (lv_at hl 1 rfl) ?_
    refine lv_iconst (v := 1) hx hb dX12_opens__189 (by decide +kernel) ?_
    obtain ⟨u_78, hu_78, hF_79⟩ := Option.bind_eq_some_iff.mp hF_77
    clear hF_77
    refine m_cv hsz hS (va_runV (As := [.int p0, .int 1]) (rest := []) ⟨hx, hb, hml, hown, hts⟩ (m_X12_toDo l dC dI cB cC cI cJ cZ cP h qK qS ad hDD s.heap.size  p0 1 σ _ hu_78) (cwV 2 hts (g_gV wq_1822 wq_1823 wq_2215 wq_13 wq_1824) rfl rfl rfl (by decide +kernel) ⟨Nat.le_of_ble_eq_true rfl, Nat.le_of_ble_eq_true rfl⟩) (m_preV g_bl0 hsz hK hP hS hE hKS g_to0) rfl rfl hl.1 rfl (lv_room (Nat.le_of_ble_eq_true rfl)) dX12_opens__190 ⟨Nat.le_of_ble_eq_true rfl, Nat.le_of_ble_eq_true rfl⟩) (fun H locs hP hS => ?_)
    refine lv_aload_n hx hb dX12_opens__193 rfl (lv_at hl 0 rfl) ?_
    refine lv_aload_n hx hb dX12_opens__194 rfl (lv_at hl 0 rfl) ?_
    refine va_get (D := (dC, dI)) (ci := 12) (v := .ref (ad 67)) (C := RX12) (T := TX12) (N := 123) hx hb hts ii_X12 hown hK hP 0 rfl rfl 67 (by decide) (hts (.fieldLink RX12 146 "StoryHouseModel" "bB" "[I") wq_1423) (fun _ h9 => h9) rfl dX12_opens__195 ?_
    refine lv_iload_n hx hb dX12_opens__198 rfl (lv_at hl 1 rfl) ?_
    obtain ⟨g_80, hF_81⟩ := nif_e hF_79
    clear hF_79
    refine va_iald (f := u_78.2.2 67) hx hb hK hP 40 2 rfl rfl g_80 dX12_opens__199 ?_
    refine lv_iconst (v := 0) hx hb dX12_opens__200 (by decide +kernel) ?_
    obtain ⟨u_82, hu_82, hF_83⟩ := Option.bind_eq_some_iff.mp hF_81
    clear hF_81
    refine m_cv hsz hS (va_runV (As := [.int (u_78.2.2 67 p0.toNatClampNeg), .int 0]) (rest := []) ⟨hx, hb, hml, hown, hts⟩ (m_X12_toDo l dC dI cB cC cI cJ cZ cP h qK qS ad hDD H.size  (u_78.2.2 67 p0.toNatClampNeg) 0 u_78.2 _ hu_82) (cwV 2 hts (g_gV wq_1822 wq_1823 wq_2215 wq_13 wq_1824) rfl rfl rfl (by decide +kernel) ⟨Nat.le_of_ble_eq_true rfl, Nat.le_of_ble_eq_true rfl⟩) (m_preV g_bl0 hsz hK hP hS hE hKS g_to0) rfl rfl hl.1 rfl (lv_room (Nat.le_of_ble_eq_true rfl)) dX12_opens__201 ⟨Nat.le_of_ble_eq_true rfl, Nat.le_of_ble_eq_true rfl⟩) (fun H locs hP hS => ?_)
    refine lv_aload_n hx hb dX12_opens__204 rfl (lv_at hl 0 rfl) ?_
    refine lv_aload_n hx hb dX12_opens__205 rfl (lv_at hl 0 rfl) ?_
    refine va_get (D := (dC, dI)) (ci := 12) (v := .ref (ad 66)) (C := RX12) (T := TX12) (N := 123) hx hb hts ii_X12 hown hK hP 0 rfl rfl 66 (by decide) (hts (.fieldLink RX12 143 "StoryHouseModel" "bA" "[I") wq_1422) (fun _ h9 => h9) rfl dX12_opens__206 ?_
    refine lv_iload_n hx hb dX12_opens__209 rfl (lv_at hl 1 rfl) ?_
    obtain ⟨g_84, hF_85⟩ := nif_e hF_83
    clear hF_83
    refine va_iald (f := u_82.2.2 66) hx hb hK hP 39 2 rfl rfl g_84 dX12_opens__210 ?_
    refine lv_iconst (v := 0) hx hb dX12_opens__211 (by decide +kernel) ?_
    obtain ⟨u_86, hu_86, hF_87⟩ := Option.bind_eq_some_iff.mp hF_85
    clear hF_85
    refine m_cv hsz hS (va_runV (As := [.int (u_82.2.2 66 p0.toNatClampNeg), .int 0]) (rest := []) ⟨hx, hb, hml, hown, hts⟩ (m_X12_toDo l dC dI cB cC cI cJ cZ cP h qK qS ad hDD H.size  (u_82.2.2 66 p0.toNatClampNeg) 0 u_82.2 _ hu_86) (cwV 2 hts (g_gV wq_1822 wq_1823 wq_2215 wq_13 wq_1824) rfl rfl rfl (by decide +kernel) ⟨Nat.le_of_ble_eq_true rfl, Nat.le_of_ble_eq_true rfl⟩) (m_preV g_bl0 hsz hK hP hS hE hKS g_to0) rfl rfl hl.1 rfl (lv_room (Nat.le_of_ble_eq_true rfl)) dX12_opens__212 ⟨Nat.le_of_ble_eq_true rfl, Nat.le_of_ble_eq_true rfl⟩) (fun H locs hP hS => ?_)
    refine lv_goto (tgt := 280) hx hb dX12_opens__215 (by decide) ?_
    have h9 := Option.some.inj hF_87
    subst h9
    exact W.vret hx hb hr (fun t ht hW => ⟨⟨(), rfl, trivial, m_end ht hP⟩, hS.F ht⟩) hS.2.2 dX12_opens__280
  have hF_88 := ineg c_76 hF_75
  clear hF_75
  refine m_tabD (lo := 42) (n := 17) (tgt := 258) hx hb dX12_opens__6 (by decide +kernel) (by decide) (fun j9 h9 e9 => by
      match j9, h9 with
      | 0, _ => exact absurd ((by rw [e9]; decide +kernel)) c_5
      | 1, _ => exact absurd ((by rw [e9]; decide +kernel)) c_58
      | 2, _ => rfl
      | 3, _ => rfl
      | 4, _ => rfl
      | 5, _ => rfl
      | 6, _ => exact absurd (Or.inl (by rw [e9]; decide +kernel)) c_67
      | 7, _ => exact absurd (Or.inr (Or.inl (by rw [e9]; decide +kernel))) c_67
      | 8, _ => exact absurd (Or.inr (Or.inr (Or.inl (by rw [e9]; decide +kernel)))) c_67
      | 9, _ => exact absurd (Or.inr (Or.inr (Or.inr (Or.inl (by rw [e9]; decide +kernel))))) c_67
      | 10, _ => exact absurd (Or.inr (Or.inr (Or.inr (Or.inr (Or.inl (by rw [e9]; decide +kernel)))))) c_67
      | 11, _ => exact absurd (Or.inr (Or.inr (Or.inr (Or.inr (Or.inr (Or.inl (by rw [e9]; decide +kernel))))))) c_67
      | 12, _ => exact absurd (Or.inr (Or.inr (Or.inr (Or.inr (Or.inr (Or.inr (Or.inl (by rw [e9]; decide +kernel)))))))) c_67
      | 13, _ => exact absurd (Or.inr (Or.inr (Or.inr (Or.inr (Or.inr (Or.inr (Or.inr (Or.inl (by rw [e9]; decide +kernel))))))))) c_67
      | 14, _ => exact absurd (Or.inl (by rw [e9]; decide +kernel)) c_76
      | 15, _ => exact absurd (Or.inr ((by rw [e9]; decide +kernel))) c_76
      | 16, _ => exact absurd (Or.inr (Or.inr (Or.inr (Or.inr (Or.inr (Or.inr (Or.inr (Or.inr ((by rw [e9]; decide +kernel)))))))))) c_67
      | n9 + 17, h9 => exact absurd h9 (by omega)) ?_
  refine lv_aload_n hx hb dX12_opens__258 rfl (lv_at hl 0 rfl) ?_
  refine va_get (D := (dC, dI)) (ci := 12) (v := .ref (ad 114)) (C := RX12) (T := TX12) (N := 123) hx hb hts ii_X12 hown hK hP 0 rfl rfl 114 (by decide) (hts (.fieldLink RX12 222 "StoryHouseModel" "waits" "[I") wq_1470) (fun _ h9 => h9) rfl dX12_opens__259 ?_
  refine lv_aload_n hx hb dX12_opens__262 rfl (lv_at hl 0 rfl) ?_
  refine lv_dup hx hb dX12_opens__263 rfl ?_
  refine va_get (D := (dC, dI)) (ci := 12) (v := .int (σ.1 115)) (C := RX12) (T := TX12) (N := 123) hx hb hts ii_X12 hown hK hP 0 rfl rfl 115 (by decide) (hts (.fieldLink RX12 700 "StoryHouseModel" "waiting" "I") wq_1471) (fun _ h9 => h9) rfl dX12_opens__264 ?_
  refine lv_dup_x1 hx hb dX12_opens__267 rfl rfl ?_
  refine lv_iconst (v := 1) hx hb dX12_opens__268 (by decide +kernel) ?_
  refine lv_iadd hx hb dX12_opens__269 ?_
  obtain ⟨σ_89, eσ_89, hF_90⟩ := bnd_e hF_88
  clear hF_88
  refine m_put (σ' := σ_89) (v := .int ((σ.1 115) + 1)) (ty := .int) hx hb hts hown hK hP (hDD _ _) hS (by rw [eσ_89]; exact mwI_115) (k := 115) (by decide) (hts (.fieldLink RX12 700 "StoryHouseModel" "waiting" "I") wq_1471) (fun _ h9 => h9) rfl (by decide +kernel) rfl rfl dX12_opens__270 (fun H locs hP hS => ?_)
  refine lv_aload_n hx hb dX12_opens__273 rfl (lv_at hl 0 rfl) ?_
  refine lv_iload_n hx hb dX12_opens__274 rfl (lv_at hl 1 rfl) ?_
  refine lv_iload_n hx hb dX12_opens__275 rfl (lv_at hl 2 rfl) ?_
  obtain ⟨u_91, hu_91, hF_92⟩ := Option.bind_eq_some_iff.mp hF_90
  clear hF_90
  refine m_ci hsz hS (va_runV (As := [.int p0, .int p1]) (rest := [.int (σ.1 115), .ref (ad 114)]) ⟨hx, hb, hml, hown, hts⟩ (m_X12_leaf l dC dI cB cC cI cJ cZ cP h qK qS ad hDD H.size  p0 p1 σ_89 _ hu_91) (cwV 2 hts (g_gV wq_1828 wq_1829 wq_2217 wq_13 wq_1830) rfl rfl rfl (by decide +kernel) ⟨Nat.le_of_ble_eq_true rfl, Nat.le_of_ble_eq_true rfl⟩) (m_preV g_bl0 hsz hK hP hS hE hKS g_to0) rfl rfl hl.1 rfl (lv_room (Nat.le_of_ble_eq_true rfl)) dX12_opens__276 ⟨Nat.le_of_ble_eq_true rfl, Nat.le_of_ble_eq_true rfl⟩) (fun H locs hP hS => ?_)
  obtain ⟨g_93, hF_94⟩ := nif_e hF_92
  clear hF_92
  obtain ⟨σ_95, eσ_95, hF_96⟩ := bnd_e hF_94
  clear hF_94
  refine m_iast (σ' := σ_95) hx hb hK hP (hDD _ _) hS (q0 := 64) (t0 := 2) (f := u_91.2.2 114) rfl rfl (by rw [eσ_95]; exact mwA_114) g_93 dX12_opens__279 (fun H locs hP hS => ?_)
  have h9 := Option.some.inj hF_96
  subst h9
  exact W.vret hx hb hr (fun t ht hW => ⟨⟨(), rfl, trivial, m_end ht hP⟩, hS.F ht⟩) hS.2.2 dX12_opens__280
