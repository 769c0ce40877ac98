/-! methods of the reference: what each does is its function -/
theorem dX12_take_0 : decode cX12_take 0 = .ok (.sipush 2600, 3) := by decide +kernel
theorem dX12_take_3 : decode cX12_take 3 = .ok (.iload_n 1, 1) := by decide +kernel
theorem dX12_take_4 : decode cX12_take 4 = .ok (.imul, 1) := by decide +kernel
theorem dX12_take_5 : decode cX12_take 5 = .ok (.istore_n 2, 1) := by decide +kernel
theorem dX12_take_6 : decode cX12_take 6 = .ok (.iconst 1, 1) := by decide +kernel
theorem dX12_take_7 : decode cX12_take 7 = .ok (.istore_n 3, 1) := by decide +kernel
theorem dX12_take_8 : decode cX12_take 8 = .ok (.iload_n 3, 1) := by decide +kernel
theorem dX12_take_9 : decode cX12_take 9 = .ok (.aload_n 0, 1) := by decide +kernel
theorem dX12_take_10 : decode cX12_take 10 = .ok (.getfield 587, 3) := by decide +kernel
theorem dX12_take_13 : decode cX12_take 13 = .ok (.if_icmp .gt 109, 3) := by decide +kernel
theorem dX12_take_16 : decode cX12_take 16 = .ok (.aload_n 0, 1) := by decide +kernel
theorem dX12_take_17 : decode cX12_take 17 = .ok (.getfield 182, 3) := by decide +kernel
theorem dX12_take_20 : decode cX12_take 20 = .ok (.iload_n 3, 1) := by decide +kernel
theorem dX12_take_21 : decode cX12_take 21 = .ok (.aload_n 0, 1) := by decide +kernel
theorem dX12_take_22 : decode cX12_take 22 = .ok (.getfield 206, 3) := by decide +kernel
theorem dX12_take_25 : decode cX12_take 25 = .ok (.iload_n 2, 1) := by decide +kernel
theorem dX12_take_26 : decode cX12_take 26 = .ok (.iinc 2 1, 3) := by decide +kernel
theorem dX12_take_29 : decode cX12_take 29 = .ok (.iaload, 1) := by decide +kernel
theorem dX12_take_30 : decode cX12_take 30 = .ok (.iastore, 1) := by decide +kernel
theorem dX12_take_31 : decode cX12_take 31 = .ok (.aload_n 0, 1) := by decide +kernel
theorem dX12_take_32 : decode cX12_take 32 = .ok (.getfield 185, 3) := by decide +kernel
theorem dX12_take_35 : decode cX12_take 35 = .ok (.iload_n 3, 1) := by decide +kernel
theorem dX12_take_36 : decode cX12_take 36 = .ok (.aload_n 0, 1) := by decide +kernel
theorem dX12_take_37 : decode cX12_take 37 = .ok (.getfield 206, 3) := by decide +kernel
theorem dX12_take_40 : decode cX12_take 40 = .ok (.iload_n 2, 1) := by decide +kernel
theorem dX12_take_41 : decode cX12_take 41 = .ok (.iinc 2 1, 3) := by decide +kernel
theorem dX12_take_44 : decode cX12_take 44 = .ok (.iaload, 1) := by decide +kernel
theorem dX12_take_45 : decode cX12_take 45 = .ok (.iastore, 1) := by decide +kernel
theorem dX12_take_46 : decode cX12_take 46 = .ok (.aload_n 0, 1) := by decide +kernel
theorem dX12_take_47 : decode cX12_take 47 = .ok (.getfield 188, 3) := by decide +kernel
theorem dX12_take_50 : decode cX12_take 50 = .ok (.iload_n 3, 1) := by decide +kernel
theorem dX12_take_51 : decode cX12_take 51 = .ok (.aload_n 0, 1) := by decide +kernel
theorem dX12_take_52 : decode cX12_take 52 = .ok (.getfield 206, 3) := by decide +kernel
theorem dX12_take_55 : decode cX12_take 55 = .ok (.iload_n 2, 1) := by decide +kernel
theorem dX12_take_56 : decode cX12_take 56 = .ok (.iinc 2 1, 3) := by decide +kernel
theorem dX12_take_59 : decode cX12_take 59 = .ok (.iaload, 1) := by decide +kernel
theorem dX12_take_60 : decode cX12_take 60 = .ok (.iastore, 1) := by decide +kernel
theorem dX12_take_61 : decode cX12_take 61 = .ok (.aload_n 0, 1) := by decide +kernel
theorem dX12_take_62 : decode cX12_take 62 = .ok (.getfield 206, 3) := by decide +kernel
theorem dX12_take_65 : decode cX12_take 65 = .ok (.iload_n 2, 1) := by decide +kernel
theorem dX12_take_66 : decode cX12_take 66 = .ok (.iinc 2 1, 3) := by decide +kernel
theorem dX12_take_69 : decode cX12_take 69 = .ok (.iaload, 1) := by decide +kernel
theorem dX12_take_70 : decode cX12_take 70 = .ok (.istore 4, 2) := by decide +kernel
theorem dX12_take_72 : decode cX12_take 72 = .ok (.iconst 0, 1) := by decide +kernel
theorem dX12_take_73 : decode cX12_take 73 = .ok (.istore 5, 2) := by decide +kernel
theorem dX12_take_75 : decode cX12_take 75 = .ok (.iload 5, 2) := by decide +kernel
theorem dX12_take_77 : decode cX12_take 77 = .ok (.bipush 7, 2) := by decide +kernel
theorem dX12_take_79 : decode cX12_take 79 = .ok (.if_icmp .ge 37, 3) := by decide +kernel
theorem dX12_take_82 : decode cX12_take 82 = .ok (.aload_n 0, 1) := by decide +kernel
theorem dX12_take_83 : decode cX12_take 83 = .ok (.getfield 191, 3) := by decide +kernel
theorem dX12_take_86 : decode cX12_take 86 = .ok (.bipush 7, 2) := by decide +kernel
theorem dX12_take_88 : decode cX12_take 88 = .ok (.iload_n 3, 1) := by decide +kernel
theorem dX12_take_89 : decode cX12_take 89 = .ok (.imul, 1) := by decide +kernel
theorem dX12_take_90 : decode cX12_take 90 = .ok (.iload 5, 2) := by decide +kernel
theorem dX12_take_92 : decode cX12_take 92 = .ok (.iadd, 1) := by decide +kernel
theorem dX12_take_93 : decode cX12_take 93 = .ok (.iload 4, 2) := by decide +kernel
theorem dX12_take_95 : decode cX12_take 95 = .ok (.iload 5, 2) := by decide +kernel
theorem dX12_take_97 : decode cX12_take 97 = .ok (.ishr, 1) := by decide +kernel
theorem dX12_take_98 : decode cX12_take 98 = .ok (.iconst 1, 1) := by decide +kernel
theorem dX12_take_99 : decode cX12_take 99 = .ok (.iand, 1) := by decide +kernel
theorem dX12_take_100 : decode cX12_take 100 = .ok (.iconst 1, 1) := by decide +kernel
theorem dX12_take_101 : decode cX12_take 101 = .ok (.if_icmp .ne 7, 3) := by decide +kernel
theorem dX12_take_104 : decode cX12_take 104 = .ok (.iconst 1, 1) := by decide +kernel
theorem dX12_take_105 : decode cX12_take 105 = .ok (.goto 4, 3) := by decide +kernel
theorem dX12_take_108 : decode cX12_take 108 = .ok (.iconst 0, 1) := by decide +kernel
theorem dX12_take_109 : decode cX12_take 109 = .ok (.bastore, 1) := by decide +kernel
theorem dX12_take_110 : decode cX12_take 110 = .ok (.iinc 5 1, 3) := by decide +kernel
theorem dX12_take_113 : decode cX12_take 113 = .ok (.goto (-38), 3) := by decide +kernel
theorem dX12_take_116 : decode cX12_take 116 = .ok (.iinc 3 1, 3) := by decide +kernel
theorem dX12_take_119 : decode cX12_take 119 = .ok (.goto (-111), 3) := by decide +kernel
theorem dX12_take_122 : decode cX12_take 122 = .ok (.iconst 0, 1) := by decide +kernel
theorem dX12_take_123 : decode cX12_take 123 = .ok (.istore_n 3, 1) := by decide +kernel
theorem dX12_take_124 : decode cX12_take 124 = .ok (.iload_n 3, 1) := by decide +kernel
theorem dX12_take_125 : decode cX12_take 125 = .ok (.aload_n 0, 1) := by decide +kernel
theorem dX12_take_126 : decode cX12_take 126 = .ok (.getfield 606, 3) := by decide +kernel
theorem dX12_take_129 : decode cX12_take 129 = .ok (.if_icmp .ge 24, 3) := by decide +kernel
theorem dX12_take_132 : decode cX12_take 132 = .ok (.aload_n 0, 1) := by decide +kernel
theorem dX12_take_133 : decode cX12_take 133 = .ok (.getfield 194, 3) := by decide +kernel
theorem dX12_take_136 : decode cX12_take 136 = .ok (.iload_n 3, 1) := by decide +kernel
theorem dX12_take_137 : decode cX12_take 137 = .ok (.aload_n 0, 1) := by decide +kernel
theorem dX12_take_138 : decode cX12_take 138 = .ok (.getfield 206, 3) := by decide +kernel
theorem dX12_take_141 : decode cX12_take 141 = .ok (.iload_n 2, 1) := by decide +kernel
theorem dX12_take_142 : decode cX12_take 142 = .ok (.iinc 2 1, 3) := by decide +kernel
theorem dX12_take_145 : decode cX12_take 145 = .ok (.iaload, 1) := by decide +kernel
theorem dX12_take_146 : decode cX12_take 146 = .ok (.iastore, 1) := by decide +kernel
theorem dX12_take_147 : decode cX12_take 147 = .ok (.iinc 3 1, 3) := by decide +kernel
theorem dX12_take_150 : decode cX12_take 150 = .ok (.goto (-26), 3) := by decide +kernel
theorem dX12_take_153 : decode cX12_take 153 = .ok (.iconst 0, 1) := by decide +kernel
theorem dX12_take_154 : decode cX12_take 154 = .ok (.istore_n 3, 1) := by decide +kernel
theorem dX12_take_155 : decode cX12_take 155 = .ok (.iload_n 3, 1) := by decide +kernel
theorem dX12_take_156 : decode cX12_take 156 = .ok (.aload_n 0, 1) := by decide +kernel
theorem dX12_take_157 : decode cX12_take 157 = .ok (.getfield 176, 3) := by decide +kernel
theorem dX12_take_160 : decode cX12_take 160 = .ok (.aload_n 0, 1) := by decide +kernel
theorem dX12_take_161 : decode cX12_take 161 = .ok (.getfield 609, 3) := by decide +kernel
theorem dX12_take_164 : decode cX12_take 164 = .ok (.iaload, 1) := by decide +kernel
theorem dX12_take_165 : decode cX12_take 165 = .ok (.if_icmp .ge 24, 3) := by decide +kernel
theorem dX12_take_168 : decode cX12_take 168 = .ok (.aload_n 0, 1) := by decide +kernel
theorem dX12_take_169 : decode cX12_take 169 = .ok (.getfield 197, 3) := by decide +kernel
theorem dX12_take_172 : decode cX12_take 172 = .ok (.iload_n 3, 1) := by decide +kernel
theorem dX12_take_173 : decode cX12_take 173 = .ok (.aload_n 0, 1) := by decide +kernel
theorem dX12_take_174 : decode cX12_take 174 = .ok (.getfield 206, 3) := by decide +kernel
theorem dX12_take_177 : decode cX12_take 177 = .ok (.iload_n 2, 1) := by decide +kernel
theorem dX12_take_178 : decode cX12_take 178 = .ok (.iinc 2 1, 3) := by decide +kernel
theorem dX12_take_181 : decode cX12_take 181 = .ok (.iaload, 1) := by decide +kernel
theorem dX12_take_182 : decode cX12_take 182 = .ok (.iastore, 1) := by decide +kernel
theorem dX12_take_183 : decode cX12_take 183 = .ok (.iinc 3 1, 3) := by decide +kernel
theorem dX12_take_186 : decode cX12_take 186 = .ok (.goto (-31), 3) := by decide +kernel
theorem dX12_take_189 : decode cX12_take 189 = .ok (.aload_n 0, 1) := by decide +kernel
theorem dX12_take_190 : decode cX12_take 190 = .ok (.aload_n 0, 1) := by decide +kernel
theorem dX12_take_191 : decode cX12_take 191 = .ok (.getfield 206, 3) := by decide +kernel
theorem dX12_take_194 : decode cX12_take 194 = .ok (.iload_n 2, 1) := by decide +kernel
theorem dX12_take_195 : decode cX12_take 195 = .ok (.iinc 2 1, 3) := by decide +kernel
theorem dX12_take_198 : decode cX12_take 198 = .ok (.iaload, 1) := by decide +kernel
theorem dX12_take_199 : decode cX12_take 199 = .ok (.putfield 657, 3) := by decide +kernel
theorem dX12_take_202 : decode cX12_take 202 = .ok (.aload_n 0, 1) := by decide +kernel
theorem dX12_take_203 : decode cX12_take 203 = .ok (.aload_n 0, 1) := by decide +kernel
theorem dX12_take_204 : decode cX12_take 204 = .ok (.getfield 206, 3) := by decide +kernel
theorem dX12_take_207 : decode cX12_take 207 = .ok (.iload_n 2, 1) := by decide +kernel
theorem dX12_take_208 : decode cX12_take 208 = .ok (.iinc 2 1, 3) := by decide +kernel
theorem dX12_take_211 : decode cX12_take 211 = .ok (.iaload, 1) := by decide +kernel
theorem dX12_take_212 : decode cX12_take 212 = .ok (.putfield 660, 3) := by decide +kernel
theorem dX12_take_215 : decode cX12_take 215 = .ok (.aload_n 0, 1) := by decide +kernel
theorem dX12_take_216 : decode cX12_take 216 = .ok (.aload_n 0, 1) := by decide +kernel
theorem dX12_take_217 : decode cX12_take 217 = .ok (.getfield 206, 3) := by decide +kernel
theorem dX12_take_220 : decode cX12_take 220 = .ok (.iload_n 2, 1) := by decide +kernel
theorem dX12_take_221 : decode cX12_take 221 = .ok (.iinc 2 1, 3) := by decide +kernel
theorem dX12_take_224 : decode cX12_take 224 = .ok (.iaload, 1) := by decide +kernel
theorem dX12_take_225 : decode cX12_take 225 = .ok (.putfield 663, 3) := by decide +kernel
theorem dX12_take_228 : decode cX12_take 228 = .ok (.aload_n 0, 1) := by decide +kernel
theorem dX12_take_229 : decode cX12_take 229 = .ok (.aload_n 0, 1) := by decide +kernel
theorem dX12_take_230 : decode cX12_take 230 = .ok (.getfield 206, 3) := by decide +kernel
theorem dX12_take_233 : decode cX12_take 233 = .ok (.iload_n 2, 1) := by decide +kernel
theorem dX12_take_234 : decode cX12_take 234 = .ok (.iinc 2 1, 3) := by decide +kernel
theorem dX12_take_237 : decode cX12_take 237 = .ok (.iaload, 1) := by decide +kernel
theorem dX12_take_238 : decode cX12_take 238 = .ok (.putfield 665, 3) := by decide +kernel
theorem dX12_take_241 : decode cX12_take 241 = .ok (.aload_n 0, 1) := by decide +kernel
theorem dX12_take_242 : decode cX12_take 242 = .ok (.aload_n 0, 1) := by decide +kernel
theorem dX12_take_243 : decode cX12_take 243 = .ok (.getfield 206, 3) := by decide +kernel
theorem dX12_take_246 : decode cX12_take 246 = .ok (.iload_n 2, 1) := by decide +kernel
theorem dX12_take_247 : decode cX12_take 247 = .ok (.iinc 2 1, 3) := by decide +kernel
theorem dX12_take_250 : decode cX12_take 250 = .ok (.iaload, 1) := by decide +kernel
theorem dX12_take_251 : decode cX12_take 251 = .ok (.putfield 203, 3) := by decide +kernel
theorem dX12_take_254 : decode cX12_take 254 = .ok (.iconst 0, 1) := by decide +kernel
theorem dX12_take_255 : decode cX12_take 255 = .ok (.istore_n 3, 1) := by decide +kernel
theorem dX12_take_256 : decode cX12_take 256 = .ok (.iload_n 3, 1) := by decide +kernel
theorem dX12_take_257 : decode cX12_take 257 = .ok (.aload_n 0, 1) := by decide +kernel
theorem dX12_take_258 : decode cX12_take 258 = .ok (.getfield 203, 3) := by decide +kernel
theorem dX12_take_261 : decode cX12_take 261 = .ok (.if_icmp .ge 25, 3) := by decide +kernel
theorem dX12_take_264 : decode cX12_take 264 = .ok (.aload_n 0, 1) := by decide +kernel
theorem dX12_take_265 : decode cX12_take 265 = .ok (.getfield 200, 3) := by decide +kernel
theorem dX12_take_268 : decode cX12_take 268 = .ok (.iload_n 3, 1) := by decide +kernel
theorem dX12_take_269 : decode cX12_take 269 = .ok (.aload_n 0, 1) := by decide +kernel
theorem dX12_take_270 : decode cX12_take 270 = .ok (.getfield 206, 3) := by decide +kernel
theorem dX12_take_273 : decode cX12_take 273 = .ok (.iload_n 2, 1) := by decide +kernel
theorem dX12_take_274 : decode cX12_take 274 = .ok (.iinc 2 1, 3) := by decide +kernel
theorem dX12_take_277 : decode cX12_take 277 = .ok (.iaload, 1) := by decide +kernel
theorem dX12_take_278 : decode cX12_take 278 = .ok (.i2b, 1) := by decide +kernel
theorem dX12_take_279 : decode cX12_take 279 = .ok (.bastore, 1) := by decide +kernel
theorem dX12_take_280 : decode cX12_take 280 = .ok (.iinc 3 1, 3) := by decide +kernel
theorem dX12_take_283 : decode cX12_take 283 = .ok (.goto (-27), 3) := by decide +kernel
theorem dX12_take_286 : decode cX12_take 286 = .ok (.return_, 1) := by decide +kernel
def F_X12_take (p0 : Int32) (σ : MS) : MR :=
  bnd ((2600 * p0)) fun (x_1 : Int32) =>
  loopF (fun (again_4 : (Int32 × Int32 × MS) → MR) (s_3 : Int32 × Int32 × MS) => (
    if (s_3.2.2.1 78) < s_3.2.1 then (
      loopF (fun (again_10 : (Int32 × Int32 × MS) → MR) (s_9 : Int32 × Int32 × MS) => (
        if (s_9.2.2.1 80) ≤ s_9.2.1 then (
          loopF (fun (again_16 : (Int32 × Int32 × MS) → MR) (s_15 : Int32 × Int32 × MS) => (
            bnd ((s_15.2.2.1 81)) fun (x_19 : Int32) =>
            if x_19 < 0 ∨ 21 ≤ x_19.toNatClampNeg then none else
            if (s_15.2.2.2 77 x_19.toNatClampNeg) ≤ s_15.2.1 then (
              bnd (s_15.1 + 1) fun (x_25 : Int32) =>
              if s_15.1 < 0 ∨ 26000 ≤ s_15.1.toNatClampNeg then none else
              bnd ((s_15.2.2.2 99 s_15.1.toNatClampNeg)) fun (x_29 : Int32) =>
              bnd (mI s_15.2.2 93 x_29) fun σ_31 =>
              bnd (x_25 + 1) fun (x_33 : Int32) =>
              if x_25 < 0 ∨ 26000 ≤ x_25.toNatClampNeg then none else
              bnd (mI σ_31 94 (σ_31.2 99 x_25.toNatClampNeg)) fun σ_37 =>
              bnd (x_33 + 1) fun (x_39 : Int32) =>
              if x_33 < 0 ∨ 26000 ≤ x_33.toNatClampNeg then none else
              bnd (mI σ_37 95 (σ_37.2 99 x_33.toNatClampNeg)) fun σ_43 =>
              bnd (x_39 + 1) fun (x_45 : Int32) =>
              if x_39 < 0 ∨ 26000 ≤ x_39.toNatClampNeg then none else
              bnd (mI σ_43 96 (σ_43.2 99 x_39.toNatClampNeg)) fun σ_49 =>
              bnd (x_45 + 1) fun (x_51 : Int32) =>
              if x_45 < 0 ∨ 26000 ≤ x_45.toNatClampNeg then none else
              bnd (mI σ_49 98 (σ_49.2 99 x_45.toNatClampNeg)) fun σ_55 =>
              loopF (fun (again_58 : (Int32 × Int32 × MS) → MR) (s_57 : Int32 × Int32 × MS) => (
                if (s_57.2.2.1 98) ≤ s_57.2.1 then (
                  some (0, s_57.2.2)
                ) else (
                  bnd (s_57.1 + 1) fun (x_64 : Int32) =>
                  if s_57.1 < 0 ∨ 26000 ≤ s_57.1.toNatClampNeg then none else
                  bnd ((s_57.2.2.2 99 s_57.1.toNatClampNeg).toInt8.toInt32) fun (x_68 : Int32) =>
                  if s_57.2.1 < 0 ∨ 120 ≤ s_57.2.1.toNatClampNeg then none else
                  bnd (mA s_57.2.2 97 (upd (s_57.2.2.2 97) s_57.2.1.toNatClampNeg (vp_nar .byte x_68))) fun σ_72 =>
                  bnd (s_57.2.1 + 1) fun (x_74 : Int32) =>
                  again_58 (x_64, x_74, σ_72)
                )
              )) FU (x_51, 0, σ_55)
            ) else (
              bnd (s_15.1 + 1) fun (x_77 : Int32) =>
              if s_15.1 < 0 ∨ 26000 ≤ s_15.1.toNatClampNeg then none else
              bnd ((s_15.2.2.2 99 s_15.1.toNatClampNeg)) fun (x_81 : Int32) =>
              if s_15.2.1 < 0 ∨ 1000 ≤ s_15.2.1.toNatClampNeg then none else
              bnd (mA s_15.2.2 92 (upd (s_15.2.2.2 92) s_15.2.1.toNatClampNeg x_81)) fun σ_85 =>
              bnd (s_15.2.1 + 1) fun (x_87 : Int32) =>
              again_16 (x_77, x_87, σ_85)
            )
          )) FU (s_9.1, 0, s_9.2.2)
        ) else (
          bnd (s_9.1 + 1) fun (x_90 : Int32) =>
          if s_9.1 < 0 ∨ 26000 ≤ s_9.1.toNatClampNeg then none else
          bnd ((s_9.2.2.2 99 s_9.1.toNatClampNeg)) fun (x_94 : Int32) =>
          if s_9.2.1 < 0 ∨ 100 ≤ s_9.2.1.toNatClampNeg then none else
          bnd (mA s_9.2.2 91 (upd (s_9.2.2.2 91) s_9.2.1.toNatClampNeg x_94)) fun σ_98 =>
          bnd (s_9.2.1 + 1) fun (x_100 : Int32) =>
          again_10 (x_90, x_100, σ_98)
        )
      )) FU (s_3.1, 0, s_3.2.2)
    ) else (
      bnd (s_3.1 + 1) fun (x_103 : Int32) =>
      if s_3.1 < 0 ∨ 26000 ≤ s_3.1.toNatClampNeg then none else
      bnd ((s_3.2.2.2 99 s_3.1.toNatClampNeg)) fun (x_107 : Int32) =>
      if s_3.2.1 < 0 ∨ 121 ≤ s_3.2.1.toNatClampNeg then none else
      bnd (mA s_3.2.2 87 (upd (s_3.2.2.2 87) s_3.2.1.toNatClampNeg x_107)) fun σ_111 =>
      bnd (x_103 + 1) fun (x_113 : Int32) =>
      if x_103 < 0 ∨ 26000 ≤ x_103.toNatClampNeg then none else
      bnd ((σ_111.2 99 x_103.toNatClampNeg)) fun (x_117 : Int32) =>
      if s_3.2.1 < 0 ∨ 121 ≤ s_3.2.1.toNatClampNeg then none else
      bnd (mA σ_111 88 (upd (σ_111.2 88) s_3.2.1.toNatClampNeg x_117)) fun σ_121 =>
      bnd (x_113 + 1) fun (x_123 : Int32) =>
      if x_113 < 0 ∨ 26000 ≤ x_113.toNatClampNeg then none else
      bnd ((σ_121.2 99 x_113.toNatClampNeg)) fun (x_127 : Int32) =>
      if s_3.2.1 < 0 ∨ 121 ≤ s_3.2.1.toNatClampNeg then none else
      bnd (mA σ_121 89 (upd (σ_121.2 89) s_3.2.1.toNatClampNeg x_127)) fun σ_131 =>
      bnd (x_123 + 1) fun (x_133 : Int32) =>
      if x_123 < 0 ∨ 26000 ≤ x_123.toNatClampNeg then none else
      bnd ((σ_131.2 99 x_123.toNatClampNeg)) fun (x_137 : Int32) =>
      loopF (fun (again_140 : (Int32 × MS) → MR) (s_139 : Int32 × MS) => (
        if 7 ≤ s_139.1 then (
          bnd (s_3.2.1 + 1) fun (x_145 : Int32) =>
          again_4 (x_133, x_145, s_139.2)
        ) else (
          bnd (fun (t_148 : Int32) (σ_149 : MS) => (
            if ((7 * s_3.2.1) + s_139.1) < 0 ∨ 847 ≤ ((7 * s_3.2.1) + s_139.1).toNatClampNeg then none else
            bnd (mA σ_149 90 (upd (σ_149.2 90) ((7 * s_3.2.1) + s_139.1).toNatClampNeg (vp_nar .boolean t_148))) fun σ_155 =>
            bnd (s_139.1 + 1) fun (x_157 : Int32) =>
            again_140 (x_157, σ_155)
          ) : Int32 → MS → MR) fun j_150 =>
          if ((x_137 >>> (s_139.1 &&& 31)) &&& 1) = 1 then (
            j_150 1 s_139.2
          ) else (
            j_150 0 s_139.2
          )
        )
      )) FU (0, σ_131)
    )
  )) FU (x_1, 1, σ)
set_option maxHeartbeats 4000000 in
set_option maxRecDepth 100000 in
theorem m_X12_take (l : Launch) (dC : Nat → ClassId) (dI : Nat → Nat → Nat) (cB cC cI cJ cZ cP : ClassId) (h qK qS : Nat) (ad : Nat → Nat) (hDD : mDis cB cI cZ h qK qS ad) (sz : Nat)  (p0 : Int32) (σ : MS) (res : Int32 × MS) (hF : F_X12_take p0 σ = some res) : Met l yX12_take (g_ws yX12_take cX12_take 6 none) ({ frames := 1, cells := 0, slots := 0, locals := 40 }) (va_Pc [.ref h, .int p0] (m_B (dC, dI) [(cB, .byte), (cC, .char), (cI, .int), (cJ, .long), (cZ, .boolean), (cP, .object "StoryHouse$Play")] sz h ad qK qS (mW cB cI cZ h qK qS ad σ) g_0)) (va_Qv (fun (_ : Unit) => True) (fun _ t => va_P (dC, dI) vwCl (mW cB cI cZ h qK qS ad res.2) t.heap) (mCells h ad sz)) 0 0 (mCells h ad sz) := by
  refine Met.ofW (cc := cX12_take) (maxL := 6) (ret := none) (by decide) rfl ?_
  intro p e s m args below meth c s₁ B hml hv
  obtain ⟨rfl, hsz, hP, hK, hE, hKS, hX⟩ := hv
  have hx := B.exec
  have hb := B.bytes
  have hr := B.returns
  have hts0 := atoms_spec (ws := g_ws yX12_take cX12_take 6 none) B.pre
  have hts : ∀ w ∈ lw_good, w.before ([.ref h, .int p0] : List Value).toArray s = true := fun w z => hts0 w (List.mem_cons_of_mem _ z)
  have hown : s.vm.findClass RX12 = some m.cls := findClass_of_methodNamed B.named
  have hlocks := B.notSynchronized
  have hS : va_S (mCells h ad sz) s.heap s.heap [] := va_S.rf
  have hl := lv_entry ([.ref h, .int p0]) (n := 6) (Nat.le_of_ble_eq_true rfl)
  rw [lg_entry_eq]
  generalize (lg_sl ([.ref h, .int p0]) ++ List.replicate (6 - (lg_sl ([.ref h, .int p0])).length) Slot.unset).toArray = ls at hl ⊢
  have hl : lv_has ls 6 [(0, .ref h), (1, .int p0)] := hl
  unfold F_X12_take at hF
  refine lv_sipush (v := 2600) hx hb dX12_take_0 (by decide +kernel) ?_
  refine lv_iload_n hx hb dX12_take_3 rfl (lv_at hl 1 rfl) ?_
  refine lv_imul hx hb dX12_take_4 ?_
  obtain ⟨x_1, ex_1, hF_2⟩ := bnd_e hF
  clear hF
  refine m_top ex_1 ?_
  refine lv_istore_n (lv' := [(2, .int x_1), (0, .ref h), (1, .int p0)]) hx hb dX12_take_5 rfl hl (by decide) rfl (fun ls hl => ?_)
  refine lv_iconst (v := 1) hx hb dX12_take_6 (by decide +kernel) ?_
  refine lv_istore_n (lv' := [(3, .int 1), (2, .int x_1), (0, .ref h), (1, .int p0)]) hx hb dX12_take_7 rfl hl (by decide) rfl (fun ls hl => ?_)
  refine loopF_ind (P := fun (s_3 : Int32 × Int32 × MS) => ∀ (H : Heap) (locs : List Loc), va_P (dC, dI) vwCl (mW cB cI cZ h qK qS ad s_3.2.2) H → va_S (mCells h ad sz) s.heap H locs → ∀ ls : Array Slot, lv_has ls 6 [(0, .ref h), (2, .int s_3.1), (3, .int s_3.2.1)] → W p l e (headSpec (g_ws yX12_take cX12_take 6 none) { frames := 1, cells := 0, slots := 0, locals := 40 }).room s m ([.ref h, .int p0] : List Value).toArray below meth c H locs 0 0 (MQ below (va_Qv (fun (_ : Unit) => True) (fun _ t => va_P (dC, dI) vwCl (mW cB cI cZ h qK qS ad res.2) t.heap) (mCells h ad sz)) ([.ref h, .int p0] : List Value).toArray s 0 0 (mCells h ad sz)) (F0 m 8 ls [])) ?_ _ _ hF_2 _ _ hP hS ls (lv_sub hl [2, 1, 0] rfl)
  intro again_4 s_3 ih_5 hF_6
  intro H locs hP hS ls hl
  refine lv_iload_n hx hb dX12_take_8 rfl (lv_at hl 2 rfl) ?_
  refine lv_aload_n hx hb dX12_take_9 rfl (lv_at hl 0 rfl) ?_
  refine va_get (D := (dC, dI)) (ci := 12) (v := .int (s_3.2.2.1 78)) (C := RX12) (T := TX12) (N := 123) hx hb hts ii_X12 hown hK hP 0 rfl rfl 78 (by decide) (hts (.fieldLink RX12 587 "StoryHouseModel" "nObjects" "I") wq_1434) (fun _ h9 => h9) rfl dX12_take_10 ?_
  refine lv_icmp_gt (tgt := 122) hx hb dX12_take_13 (by decide) (fun c_7 => ?_) (fun c_7 => ?_)
  · have hF_8 := ipos c_7 hF_6
    clear hF_6
    refine lv_iconst (v := 0) hx hb dX12_take_122 (by decide +kernel) ?_
    refine lv_istore_n (lv' := [(3, .int 0), (0, .ref h), (2, .int s_3.1)]) hx hb dX12_take_123 rfl hl (by decide) rfl (fun ls hl => ?_)
    refine loopF_ind (P := fun (s_9 : Int32 × Int32 × MS) => ∀ (H : Heap) (locs : List Loc), va_P (dC, dI) vwCl (mW cB cI cZ h qK qS ad s_9.2.2) H → va_S (mCells h ad sz) s.heap H locs → ∀ ls : Array Slot, lv_has ls 6 [(0, .ref h), (2, .int s_9.1), (3, .int s_9.2.1)] → W p l e (headSpec (g_ws yX12_take cX12_take 6 none) { frames := 1, cells := 0, slots := 0, locals := 40 }).room s m ([.ref h, .int p0] : List Value).toArray below meth c H locs 0 0 (MQ below (va_Qv (fun (_ : Unit) => True) (fun _ t => va_P (dC, dI) vwCl (mW cB cI cZ h qK qS ad res.2) t.heap) (mCells h ad sz)) ([.ref h, .int p0] : List Value).toArray s 0 0 (mCells h ad sz)) (F0 m 124 ls [])) ?_ _ _ hF_8 _ _ hP hS ls (lv_sub hl [1, 2, 0] rfl)
    intro again_10 s_9 ih_11 hF_12
    intro H locs hP hS ls hl
    refine lv_iload_n hx hb dX12_take_124 rfl (lv_at hl 2 rfl) ?_
    refine lv_aload_n hx hb dX12_take_125 rfl (lv_at hl 0 rfl) ?_
    refine va_get (D := (dC, dI)) (ci := 12) (v := .int (s_9.2.2.1 80)) (C := RX12) (T := TX12) (N := 123) hx hb hts ii_X12 hown hK hP 0 rfl rfl 80 (by decide) (hts (.fieldLink RX12 606 "StoryHouseModel" "nVars" "I") wq_1436) (fun _ h9 => h9) rfl dX12_take_126 ?_
    refine lv_icmp_ge (tgt := 153) hx hb dX12_take_129 (by decide) (fun c_13 => ?_) (fun c_13 => ?_)
    · have hF_14 := ipos c_13 hF_12
      clear hF_12
      refine lv_iconst (v := 0) hx hb dX12_take_153 (by decide +kernel) ?_
      refine lv_istore_n (lv' := [(3, .int 0), (0, .ref h), (2, .int s_9.1)]) hx hb dX12_take_154 rfl hl (by decide) rfl (fun ls hl => ?_)
      refine loopF_ind (P := fun (s_15 : Int32 × Int32 × MS) => ∀ (H : Heap) (locs : List Loc), va_P (dC, dI) vwCl (mW cB cI cZ h qK qS ad s_15.2.2) H → va_S (mCells h ad sz) s.heap H locs → ∀ ls : Array Slot, lv_has ls 6 [(0, .ref h), (2, .int s_15.1), (3, .int s_15.2.1)] → W p l e (headSpec (g_ws yX12_take cX12_take 6 none) { frames := 1, cells := 0, slots := 0, locals := 40 }).room s m ([.ref h, .int p0] : List Value).toArray below meth c H locs 0 0 (MQ below (va_Qv (fun (_ : Unit) => True) (fun _ t => va_P (dC, dI) vwCl (mW cB cI cZ h qK qS ad res.2) t.heap) (mCells h ad sz)) ([.ref h, .int p0] : List Value).toArray s 0 0 (mCells h ad sz)) (F0 m 155 ls [])) ?_ _ _ hF_14 _ _ hP hS ls (lv_sub hl [1, 2, 0] rfl)
      intro again_16 s_15 ih_17 hF_18
      intro H locs hP hS ls hl
      refine lv_iload_n hx hb dX12_take_155 rfl (lv_at hl 2 rfl) ?_
      refine lv_aload_n hx hb dX12_take_156 rfl (lv_at hl 0 rfl) ?_
      refine va_get (D := (dC, dI)) (ci := 12) (v := .ref (ad 77)) (C := RX12) (T := TX12) (N := 123) hx hb hts ii_X12 hown hK hP 0 rfl rfl 77 (by decide) (hts (.fieldLink RX12 176 "StoryHouseModel" "arrayAt" "[I") wq_1433) (fun _ h9 => h9) rfl dX12_take_157 ?_
      refine lv_aload_n hx hb dX12_take_160 rfl (lv_at hl 0 rfl) ?_
      refine va_get (D := (dC, dI)) (ci := 12) (v := .int (s_15.2.2.1 81)) (C := RX12) (T := TX12) (N := 123) hx hb hts ii_X12 hown hK hP 0 rfl rfl 81 (by decide) (hts (.fieldLink RX12 609 "StoryHouseModel" "nArrays" "I") wq_1437) (fun _ h9 => h9) rfl dX12_take_161 ?_
      obtain ⟨x_19, ex_19, hF_20⟩ := bnd_e hF_18
      clear hF_18
      refine m_top ex_19 ?_
      obtain ⟨g_21, hF_22⟩ := nif_e hF_20
      clear hF_20
      refine va_iald (f := s_15.2.2.2 77) hx hb hK hP 50 2 rfl rfl g_21 dX12_take_164 ?_
      refine lv_icmp_ge (tgt := 189) hx hb dX12_take_165 (by decide) (fun c_23 => ?_) (fun c_23 => ?_)
      · have hF_24 := ipos c_23 hF_22
        clear hF_22
        refine lv_aload_n hx hb dX12_take_189 rfl (lv_at hl 0 rfl) ?_
        refine lv_aload_n hx hb dX12_take_190 rfl (lv_at hl 0 rfl) ?_
        refine va_get (D := (dC, dI)) (ci := 12) (v := .ref (ad 99)) (C := RX12) (T := TX12) (N := 123) hx hb hts ii_X12 hown hK hP 0 rfl rfl 99 (by decide) (hts (.fieldLink RX12 206 "StoryHouseModel" "plays" "[I") wq_1455) (fun _ h9 => h9) rfl dX12_take_191 ?_
        refine lv_iload_n hx hb dX12_take_194 rfl (lv_at hl 1 rfl) ?_
        obtain ⟨x_25, ex_25, hF_26⟩ := bnd_e hF_24
        clear hF_24
        refine lv_iinc (v := x_25) (lv' := [(2, .int x_25), (0, .ref h), (3, .int s_15.2.1)]) hx hb dX12_take_195 hl (k := 1) rfl (by rw [ex_25]; rfl) (by decide) rfl (fun ls hl => ?_)
        obtain ⟨g_27, hF_28⟩ := nif_e hF_26
        clear hF_26
        refine va_iald (f := s_15.2.2.2 99) hx hb hK hP 59 2 rfl rfl g_27 dX12_take_198 ?_
        obtain ⟨x_29, ex_29, hF_30⟩ := bnd_e hF_28
        clear hF_28
        refine m_top ex_29 ?_
        obtain ⟨σ_31, eσ_31, hF_32⟩ := bnd_e hF_30
        clear hF_30
        refine m_put (σ' := σ_31) (v := .int x_29) (ty := .int) hx hb hts hown hK hP (hDD _ _) hS (by rw [eσ_31]; exact mwI_93) (k := 93) (by decide) (hts (.fieldLink RX12 657 "StoryHouseModel" "seed" "I") wq_1449) (fun _ h9 => h9) rfl (by decide +kernel) rfl rfl dX12_take_199 (fun H locs hP hS => ?_)
        refine lv_aload_n hx hb dX12_take_202 rfl (lv_at hl 1 rfl) ?_
        refine lv_aload_n hx hb dX12_take_203 rfl (lv_at hl 1 rfl) ?_
        refine va_get (D := (dC, dI)) (ci := 12) (v := .ref (ad 99)) (C := RX12) (T := TX12) (N := 123) hx hb hts ii_X12 hown hK hP 0 rfl rfl 99 (by decide) (hts (.fieldLink RX12 206 "StoryHouseModel" "plays" "[I") wq_1455) (fun _ h9 => h9) rfl dX12_take_204 ?_
        refine lv_iload_n hx hb dX12_take_207 rfl (lv_at hl 0 rfl) ?_
        obtain ⟨x_33, ex_33, hF_34⟩ := bnd_e hF_32
        clear hF_32
        refine lv_iinc (v := x_33) (lv' := [(2, .int x_33), (0, .ref h), (3, .int s_15.2.1)]) hx hb dX12_take_208 hl (k := 0) rfl (by rw [ex_33]; rfl) (by decide) rfl (fun ls hl => ?_)
        obtain ⟨g_35, hF_36⟩ := nif_e hF_34
        clear hF_34
        refine va_iald (f := σ_31.2 99) hx hb hK hP 59 2 rfl rfl g_35 dX12_take_211 ?_
        obtain ⟨σ_37, eσ_37, hF_38⟩ := bnd_e hF_36
        clear hF_36
        refine m_put (σ' := σ_37) (v := .int (σ_31.2 99 x_25.toNatClampNeg)) (ty := .int) hx hb hts hown hK hP (hDD _ _) hS (by rw [eσ_37]; exact mwI_94) (k := 94) (by decide) (hts (.fieldLink RX12 660 "StoryHouseModel" "turns" "I") wq_1450) (fun _ h9 => h9) rfl (by decide +kernel) rfl rfl dX12_take_212 (fun H locs hP hS => ?_)
        refine lv_aload_n hx hb dX12_take_215 rfl (lv_at hl 1 rfl) ?_
        refine lv_aload_n hx hb dX12_take_216 rfl (lv_at hl 1 rfl) ?_
        refine va_get (D := (dC, dI)) (ci := 12) (v := .ref (ad 99)) (C := RX12) (T := TX12) (N := 123) hx hb hts ii_X12 hown hK hP 0 rfl rfl 99 (by decide) (hts (.fieldLink RX12 206 "StoryHouseModel" "plays" "[I") wq_1455) (fun _ h9 => h9) rfl dX12_take_217 ?_
        refine lv_iload_n hx hb dX12_take_220 rfl (lv_at hl 0 rfl) ?_
        obtain ⟨x_39, ex_39, hF_40⟩ := bnd_e hF_38
        clear hF_38
        refine lv_iinc (v := x_39) (lv' := [(2, .int x_39), (0, .ref h), (3, .int s_15.2.1)]) hx hb dX12_take_221 hl (k := 0) rfl (by rw [ex_39]; rfl) (by decide) rfl (fun ls hl => ?_)
        obtain ⟨g_41, hF_42⟩ := nif_e hF_40
        clear hF_40
        refine va_iald (f := σ_37.2 99) hx hb hK hP 59 2 rfl rfl g_41 dX12_take_224 ?_
        obtain ⟨σ_43, eσ_43, hF_44⟩ := bnd_e hF_42
        clear hF_42
        refine m_put (σ' := σ_43) (v := .int (σ_37.2 99 x_33.toNatClampNeg)) (ty := .int) hx hb hts hown hK hP (hDD _ _) hS (by rw [eσ_43]; exact mwI_95) (k := 95) (by decide) (hts (.fieldLink RX12 663 "StoryHouseModel" "ended" "I") wq_1451) (fun _ h9 => h9) rfl (by decide +kernel) rfl rfl dX12_take_225 (fun H locs hP hS => ?_)
        refine lv_aload_n hx hb dX12_take_228 rfl (lv_at hl 1 rfl) ?_
        refine lv_aload_n hx hb dX12_take_229 rfl (lv_at hl 1 rfl) ?_
        refine va_get (D := (dC, dI)) (ci := 12) (v := .ref (ad 99)) (C := RX12) (T := TX12) (N := 123) hx hb hts ii_X12 hown hK hP 0 rfl rfl 99 (by decide) (hts (.fieldLink RX12 206 "StoryHouseModel" "plays" "[I") wq_1455) (fun _ h9 => h9) rfl dX12_take_230 ?_
        refine lv_iload_n hx hb dX12_take_233 rfl (lv_at hl 0 rfl) ?_
        obtain ⟨x_45, ex_45, hF_46⟩ := bnd_e hF_44
        clear hF_44
        refine lv_iinc (v := x_45) (lv' := [(2, .int x_45), (0, .ref h), (3, .int s_15.2.1)]) hx hb dX12_take_234 hl (k := 0) rfl (by rw [ex_45]; rfl) (by decide) rfl (fun ls hl => ?_)
        obtain ⟨g_47, hF_48⟩ := nif_e hF_46
        clear hF_46
        refine va_iald (f := σ_43.2 99) hx hb hK hP 59 2 rfl rfl g_47 dX12_take_237 ?_
        obtain ⟨σ_49, eσ_49, hF_50⟩ := bnd_e hF_48
        clear hF_48
        refine m_put (σ' := σ_49) (v := .int (σ_43.2 99 x_39.toNatClampNeg)) (ty := .int) hx hb hts hown hK hP (hDD _ _) hS (by rw [eσ_49]; exact mwI_96) (k := 96) (by decide) (hts (.fieldLink RX12 665 "StoryHouseModel" "it" "I") wq_1452) (fun _ h9 => h9) rfl (by decide +kernel) rfl rfl dX12_take_238 (fun H locs hP hS => ?_)
        refine lv_aload_n hx hb dX12_take_241 rfl (lv_at hl 1 rfl) ?_
        refine lv_aload_n hx hb dX12_take_242 rfl (lv_at hl 1 rfl) ?_
        refine va_get (D := (dC, dI)) (ci := 12) (v := .ref (ad 99)) (C := RX12) (T := TX12) (N := 123) hx hb hts ii_X12 hown hK hP 0 rfl rfl 99 (by decide) (hts (.fieldLink RX12 206 "StoryHouseModel" "plays" "[I") wq_1455) (fun _ h9 => h9) rfl dX12_take_243 ?_
        refine lv_iload_n hx hb dX12_take_246 rfl (lv_at hl 0 rfl) ?_
        obtain ⟨x_51, ex_51, hF_52⟩ := bnd_e hF_50
        clear hF_50
        refine lv_iinc (v := x_51) (lv' := [(2, .int x_51), (0, .ref h), (3, .int s_15.2.1)]) hx hb dX12_take_247 hl (k := 0) rfl (by rw [ex_51]; rfl) (by decide) rfl (fun ls hl => ?_)
        obtain ⟨g_53, hF_54⟩ := nif_e hF_52
        clear hF_52
        refine va_iald (f := σ_49.2 99) hx hb hK hP 59 2 rfl rfl g_53 dX12_take_250 ?_
        obtain ⟨σ_55, eσ_55, hF_56⟩ := bnd_e hF_54
        clear hF_54
        refine m_put (σ' := σ_55) (v := .int (σ_49.2 99 x_45.toNatClampNeg)) (ty := .int) hx hb hts hown hK hP (hDD _ _) hS (by rw [eσ_55]; exact mwI_98) (k := 98) (by decide) (hts (.fieldLink RX12 203 "StoryHouseModel" "latestSize" "I") wq_1454) (fun _ h9 => h9) rfl (by decide +kernel) rfl rfl dX12_take_251 (fun H locs hP hS => ?_)
        refine lv_iconst (v := 0) hx hb dX12_take_254 (by decide +kernel) ?_
        refine lv_istore_n (lv' := [(3, .int 0), (2, .int x_51), (0, .ref h)]) hx hb dX12_take_255 rfl hl (by decide) rfl (fun ls hl => ?_)
        refine loopF_ind (P := fun (s_57 : Int32 × Int32 × MS) => ∀ (H : Heap) (locs : List Loc), va_P (dC, dI) vwCl (mW cB cI cZ h qK qS ad s_57.2.2) H → va_S (mCells h ad sz) s.heap H locs → ∀ ls : Array Slot, lv_has ls 6 [(0, .ref h), (2, .int s_57.1), (3, .int s_57.2.1)] → W p l e (headSpec (g_ws yX12_take cX12_take 6 none) { frames := 1, cells := 0, slots := 0, locals := 40 }).room s m ([.ref h, .int p0] : List Value).toArray below meth c H locs 0 0 (MQ below (va_Qv (fun (_ : Unit) => True) (fun _ t => va_P (dC, dI) vwCl (mW cB cI cZ h qK qS ad res.2) t.heap) (mCells h ad sz)) ([.ref h, .int p0] : List Value).toArray s 0 0 (mCells h ad sz)) (F0 m 256 ls [])) ?_ _ _ hF_56 _ _ hP hS ls (lv_sub hl [2, 1, 0] rfl)
        intro again_58 s_57 ih_59 hF_60
        intro H locs hP hS ls hl
        refine lv_iload_n hx hb dX12_take_256 rfl (lv_at hl 2 rfl) ?_
        refine lv_aload_n hx hb dX12_take_257 rfl (lv_at hl 0 rfl) ?_
        refine va_get (D := (dC, dI)) (ci := 12) (v := .int (s_57.2.2.1 98)) (C := RX12) (T := TX12) (N := 123) hx hb hts ii_X12 hown hK hP 0 rfl rfl 98 (by decide) (hts (.fieldLink RX12 203 "StoryHouseModel" "latestSize" "I") wq_1454) (fun _ h9 => h9) rfl dX12_take_258 ?_
        refine lv_icmp_ge (tgt := 286) hx hb dX12_take_261 (by decide) (fun c_61 => ?_) (fun c_61 => ?_)
        · have hF_62 := ipos c_61 hF_60
          clear hF_60
          have h9 := Option.some.inj hF_62
          subst h9
          exact W.vret hx hb hr (fun t ht hW => ⟨⟨(), rfl, trivial, m_end ht hP⟩, hS.F ht⟩) hS.2.2 dX12_take_286
        · have hF_63 := ineg c_61 hF_60
          clear hF_60
          refine lv_aload_n hx hb dX12_take_264 rfl (lv_at hl 0 rfl) ?_
          refine va_get (D := (dC, dI)) (ci := 12) (v := .ref (ad 97)) (C := RX12) (T := TX12) (N := 123) hx hb hts ii_X12 hown hK hP 0 rfl rfl 97 (by decide) (hts (.fieldLink RX12 200 "StoryHouseModel" "latest" "[B") wq_1453) (fun _ h9 => h9) rfl dX12_take_265 ?_
          refine lv_iload_n hx hb dX12_take_268 rfl (lv_at hl 2 rfl) ?_
          refine lv_aload_n hx hb dX12_take_269 rfl (lv_at hl 0 rfl) ?_
          refine va_get (D := (dC, dI)) (ci := 12) (v := .ref (ad 99)) (C := RX12) (T := TX12) (N := 123) hx hb hts ii_X12 hown hK hP 0 rfl rfl 99 (by decide) (hts (.fieldLink RX12 206 "StoryHouseModel" "plays" "[I") wq_1455) (fun _ h9 => h9) rfl dX12_take_270 ?_
          refine lv_iload_n hx hb dX12_take_273 rfl (lv_at hl 1 rfl) ?_
          obtain ⟨x_64, ex_64, hF_65⟩ := bnd_e hF_63
          clear hF_63
          refine lv_iinc (v := x_64) (lv' := [(2, .int x_64), (0, .ref h), (3, .int s_57.2.1)]) hx hb dX12_take_274 hl (k := 1) rfl (by rw [ex_64]; rfl) (by decide) rfl (fun ls hl => ?_)
          obtain ⟨g_66, hF_67⟩ := nif_e hF_65
          clear hF_65
          refine va_iald (f := s_57.2.2.2 99) hx hb hK hP 59 2 rfl rfl g_66 dX12_take_277 ?_
          refine lv_i2b hx hb dX12_take_278 rfl ?_
          obtain ⟨x_68, ex_68, hF_69⟩ := bnd_e hF_67
          clear hF_67
          refine m_top ex_68 ?_
          obtain ⟨g_70, hF_71⟩ := nif_e hF_69
          clear hF_69
          obtain ⟨σ_72, eσ_72, hF_73⟩ := bnd_e hF_71
          clear hF_71
          refine m_bast (σ' := σ_72) hx hb hK hP (hDD _ _) hS (q0 := 58) (t0 := 0) (f := s_57.2.2.2 97) rfl rfl (by rw [eσ_72]; exact mwA_97) g_70 dX12_take_279 (fun H locs hP hS => ?_)
          obtain ⟨x_74, ex_74, hF_75⟩ := bnd_e hF_73
          clear hF_73
          refine lv_iinc (v := x_74) (lv' := [(3, .int x_74), (2, .int x_64), (0, .ref h)]) hx hb dX12_take_280 hl (k := 2) rfl (by rw [ex_74]; rfl) (by decide) rfl (fun ls hl => ?_)
          refine lv_goto (tgt := 256) hx hb dX12_take_283 (by decide) ?_
          exact ih_59 (x_64, x_74, σ_72) hF_75 _ _ hP hS ls (lv_sub hl [2, 1, 0] rfl)
      · have hF_76 := ineg c_23 hF_22
        clear hF_22
        refine lv_aload_n hx hb dX12_take_168 rfl (lv_at hl 0 rfl) ?_
        refine va_get (D := (dC, dI)) (ci := 12) (v := .ref (ad 92)) (C := RX12) (T := TX12) (N := 123) hx hb hts ii_X12 hown hK hP 0 rfl rfl 92 (by decide) (hts (.fieldLink RX12 197 "StoryHouseModel" "room" "[I") wq_1448) (fun _ h9 => h9) rfl dX12_take_169 ?_
        refine lv_iload_n hx hb dX12_take_172 rfl (lv_at hl 2 rfl) ?_
        refine lv_aload_n hx hb dX12_take_173 rfl (lv_at hl 0 rfl) ?_
        refine va_get (D := (dC, dI)) (ci := 12) (v := .ref (ad 99)) (C := RX12) (T := TX12) (N := 123) hx hb hts ii_X12 hown hK hP 0 rfl rfl 99 (by decide) (hts (.fieldLink RX12 206 "StoryHouseModel" "plays" "[I") wq_1455) (fun _ h9 => h9) rfl dX12_take_174 ?_
        refine lv_iload_n hx hb dX12_take_177 rfl (lv_at hl 1 rfl) ?_
        obtain ⟨x_77, ex_77, hF_78⟩ := bnd_e hF_76
        clear hF_76
        refine lv_iinc (v := x_77) (lv' := [(2, .int x_77), (0, .ref h), (3, .int s_15.2.1)]) hx hb dX12_take_178 hl (k := 1) rfl (by rw [ex_77]; rfl) (by decide) rfl (fun ls hl => ?_)
        obtain ⟨g_79, hF_80⟩ := nif_e hF_78
        clear hF_78
        refine va_iald (f := s_15.2.2.2 99) hx hb hK hP 59 2 rfl rfl g_79 dX12_take_181 ?_
        obtain ⟨x_81, ex_81, hF_82⟩ := bnd_e hF_80
        clear hF_80
        refine m_top ex_81 ?_
        obtain ⟨g_83, hF_84⟩ := nif_e hF_82
        clear hF_82
        obtain ⟨σ_85, eσ_85, hF_86⟩ := bnd_e hF_84
        clear hF_84
        refine m_iast (σ' := σ_85) hx hb hK hP (hDD _ _) hS (q0 := 57) (t0 := 2) (f := s_15.2.2.2 92) rfl rfl (by rw [eσ_85]; exact mwA_92) g_83 dX12_take_182 (fun H locs hP hS => ?_)
        obtain ⟨x_87, ex_87, hF_88⟩ := bnd_e hF_86
        clear hF_86
        refine lv_iinc (v := x_87) (lv' := [(3, .int x_87), (2, .int x_77), (0, .ref h)]) hx hb dX12_take_183 hl (k := 2) rfl (by rw [ex_87]; rfl) (by decide) rfl (fun ls hl => ?_)
        refine lv_goto (tgt := 155) hx hb dX12_take_186 (by decide) ?_
        exact ih_17 (x_77, x_87, σ_85) hF_88 _ _ hP hS ls (lv_sub hl [2, 1, 0] rfl)
    · have hF_89 := ineg c_13 hF_12
      clear hF_12
      refine lv_aload_n hx hb dX12_take_132 rfl (lv_at hl 0 rfl) ?_
      refine va_get (D := (dC, dI)) (ci := 12) (v := .ref (ad 91)) (C := RX12) (T := TX12) (N := 123) hx hb hts ii_X12 hown hK hP 0 rfl rfl 91 (by decide) (hts (.fieldLink RX12 194 "StoryHouseModel" "values" "[I") wq_1447) (fun _ h9 => h9) rfl dX12_take_133 ?_
      refine lv_iload_n hx hb dX12_take_136 rfl (lv_at hl 2 rfl) ?_
      refine lv_aload_n hx hb dX12_take_137 rfl (lv_at hl 0 rfl) ?_
      refine va_get (D := (dC, dI)) (ci := 12) (v := .ref (ad 99)) (C := RX12) (T := TX12) (N := 123) hx hb hts ii_X12 hown hK hP 0 rfl rfl 99 (by decide) (hts (.fieldLink RX12 206 "StoryHouseModel" "plays" "[I") wq_1455) (fun _ h9 => h9) rfl dX12_take_138 ?_
      refine lv_iload_n hx hb dX12_take_141 rfl (lv_at hl 1 rfl) ?_
      obtain ⟨x_90, ex_90, hF_91⟩ := bnd_e hF_89
      clear hF_89
      refine lv_iinc (v := x_90) (lv' := [(2, .int x_90), (0, .ref h), (3, .int s_9.2.1)]) hx hb dX12_take_142 hl (k := 1) rfl (by rw [ex_90]; rfl) (by decide) rfl (fun ls hl => ?_)
      obtain ⟨g_92, hF_93⟩ := nif_e hF_91
      clear hF_91
      refine va_iald (f := s_9.2.2.2 99) hx hb hK hP 59 2 rfl rfl g_92 dX12_take_145 ?_
      obtain ⟨x_94, ex_94, hF_95⟩ := bnd_e hF_93
      clear hF_93
      refine m_top ex_94 ?_
      obtain ⟨g_96, hF_97⟩ := nif_e hF_95
      clear hF_95
      obtain ⟨σ_98, eσ_98, hF_99⟩ := bnd_e hF_97
      clear hF_97
      refine m_iast (σ' := σ_98) hx hb hK hP (hDD _ _) hS (q0 := 56) (t0 := 2) (f := s_9.2.2.2 91) rfl rfl (by rw [eσ_98]; exact mwA_91) g_96 dX12_take_146 (fun H locs hP hS => ?_)
      obtain ⟨x_100, ex_100, hF_101⟩ := bnd_e hF_99
      clear hF_99
      refine lv_iinc (v := x_100) (lv' := [(3, .int x_100), (2, .int x_90), (0, .ref h)]) hx hb dX12_take_147 hl (k := 2) rfl (by rw [ex_100]; rfl) (by decide) rfl (fun ls hl => ?_)
      refine lv_goto (tgt := 124) hx hb dX12_take_150 (by decide) ?_
      exact ih_11 (x_90, x_100, σ_98) hF_101 _ _ hP hS ls (lv_sub hl [2, 1, 0] rfl)
  · have hF_102 := ineg c_7 hF_6
    clear hF_6
    refine lv_aload_n hx hb dX12_take_16 rfl (lv_at hl 0 rfl) ?_
    refine va_get (D := (dC, dI)) (ci := 12) (v := .ref (ad 87)) (C := RX12) (T := TX12) (N := 123) hx hb hts ii_X12 hown hK hP 0 rfl rfl 87 (by decide) (hts (.fieldLink RX12 182 "StoryHouseModel" "holder" "[I") wq_1443) (fun _ h9 => h9) rfl dX12_take_17 ?_
    refine lv_iload_n hx hb dX12_take_20 rfl (lv_at hl 2 rfl) ?_
    refine lv_aload_n hx hb dX12_take_21 rfl (lv_at hl 0 rfl) ?_
    refine va_get (D := (dC, dI)) (ci := 12) (v := .ref (ad 99)) (C := RX12) (T := TX12) (N := 123) hx hb hts ii_X12 hown hK hP 0 rfl rfl 99 (by decide) (hts (.fieldLink RX12 206 "StoryHouseModel" "plays" "[I") wq_1455) (fun _ h9 => h9) rfl dX12_take_22 ?_
    refine lv_iload_n hx hb dX12_take_25 rfl (lv_at hl 1 rfl) ?_
    obtain ⟨x_103, ex_103, hF_104⟩ := bnd_e hF_102
    clear hF_102
    refine lv_iinc (v := x_103) (lv' := [(2, .int x_103), (0, .ref h), (3, .int s_3.2.1)]) hx hb dX12_take_26 hl (k := 1) rfl (by rw [ex_103]; rfl) (by decide) rfl (fun ls hl => ?_)
    obtain ⟨g_105, hF_106⟩ := nif_e hF_104
    clear hF_104
    refine va_iald (f := s_3.2.2.2 99) hx hb hK hP 59 2 rfl rfl g_105 dX12_take_29 ?_
    obtain ⟨x_107, ex_107, hF_108⟩ := bnd_e hF_106
    clear hF_106
    refine m_top ex_107 ?_
    obtain ⟨g_109, hF_110⟩ := nif_e hF_108
    clear hF_108
    obtain ⟨σ_111, eσ_111, hF_112⟩ := bnd_e hF_110
    clear hF_110
    refine m_iast (σ' := σ_111) hx hb hK hP (hDD _ _) hS (q0 := 52) (t0 := 2) (f := s_3.2.2.2 87) rfl rfl (by rw [eσ_111]; exact mwA_87) g_109 dX12_take_30 (fun H locs hP hS => ?_)
    refine lv_aload_n hx hb dX12_take_31 rfl (lv_at hl 1 rfl) ?_
    refine va_get (D := (dC, dI)) (ci := 12) (v := .ref (ad 88)) (C := RX12) (T := TX12) (N := 123) hx hb hts ii_X12 hown hK hP 0 rfl rfl 88 (by decide) (hts (.fieldLink RX12 185 "StoryHouseModel" "first" "[I") wq_1444) (fun _ h9 => h9) rfl dX12_take_32 ?_
    refine lv_iload_n hx hb dX12_take_35 rfl (lv_at hl 2 rfl) ?_
    refine lv_aload_n hx hb dX12_take_36 rfl (lv_at hl 1 rfl) ?_
    refine va_get (D := (dC, dI)) (ci := 12) (v := .ref (ad 99)) (C := RX12) (T := TX12) (N := 123) hx hb hts ii_X12 hown hK hP 0 rfl rfl 99 (by decide) (hts (.fieldLink RX12 206 "StoryHouseModel" "plays" "[I") wq_1455) (fun _ h9 => h9) rfl dX12_take_37 ?_
    refine lv_iload_n hx hb dX12_take_40 rfl (lv_at hl 0 rfl) ?_
    obtain ⟨x_113, ex_113, hF_114⟩ := bnd_e hF_112
    clear hF_112
    refine lv_iinc (v := x_113) (lv' := [(2, .int x_113), (0, .ref h), (3, .int s_3.2.1)]) hx hb dX12_take_41 hl (k := 0) rfl (by rw [ex_113]; rfl) (by decide) rfl (fun ls hl => ?_)
    obtain ⟨g_115, hF_116⟩ := nif_e hF_114
    clear hF_114
    refine va_iald (f := σ_111.2 99) hx hb hK hP 59 2 rfl rfl g_115 dX12_take_44 ?_
    obtain ⟨x_117, ex_117, hF_118⟩ := bnd_e hF_116
    clear hF_116
    refine m_top ex_117 ?_
    obtain ⟨g_119, hF_120⟩ := nif_e hF_118
    clear hF_118
    obtain ⟨σ_121, eσ_121, hF_122⟩ := bnd_e hF_120
    clear hF_120
    refine m_iast (σ' := σ_121) hx hb hK hP (hDD _ _) hS (q0 := 53) (t0 := 2) (f := σ_111.2 88) rfl rfl (by rw [eσ_121]; exact mwA_88) g_119 dX12_take_45 (fun H locs hP hS => ?_)
    refine lv_aload_n hx hb dX12_take_46 rfl (lv_at hl 1 rfl) ?_
    refine va_get (D := (dC, dI)) (ci := 12) (v := .ref (ad 89)) (C := RX12) (T := TX12) (N := 123) hx hb hts ii_X12 hown hK hP 0 rfl rfl 89 (by decide) (hts (.fieldLink RX12 188 "StoryHouseModel" "next" "[I") wq_1445) (fun _ h9 => h9) rfl dX12_take_47 ?_
    refine lv_iload_n hx hb dX12_take_50 rfl (lv_at hl 2 rfl) ?_
    refine lv_aload_n hx hb dX12_take_51 rfl (lv_at hl 1 rfl) ?_
    refine va_get (D := (dC, dI)) (ci := 12) (v := .ref (ad 99)) (C := RX12) (T := TX12) (N := 123) hx hb hts ii_X12 hown hK hP 0 rfl rfl 99 (by decide) (hts (.fieldLink RX12 206 "StoryHouseModel" "plays" "[I") wq_1455) (fun _ h9 => h9) rfl dX12_take_52 ?_
    refine lv_iload_n hx hb dX12_take_55 rfl (lv_at hl 0 rfl) ?_
    obtain ⟨x_123, ex_123, hF_124⟩ := bnd_e hF_122
    clear hF_122
    refine lv_iinc (v := x_123) (lv' := [(2, .int x_123), (0, .ref h), (3, .int s_3.2.1)]) hx hb dX12_take_56 hl (k := 0) rfl (by rw [ex_123]; rfl) (by decide) rfl (fun ls hl => ?_)
    obtain ⟨g_125, hF_126⟩ := nif_e hF_124
    clear hF_124
    refine va_iald (f := σ_121.2 99) hx hb hK hP 59 2 rfl rfl g_125 dX12_take_59 ?_
    obtain ⟨x_127, ex_127, hF_128⟩ := bnd_e hF_126
    clear hF_126
    refine m_top ex_127 ?_
    obtain ⟨g_129, hF_130⟩ := nif_e hF_128
    clear hF_128
    obtain ⟨σ_131, eσ_131, hF_132⟩ := bnd_e hF_130
    clear hF_130
    refine m_iast (σ' := σ_131) hx hb hK hP (hDD _ _) hS (q0 := 54) (t0 := 2) (f := σ_121.2 89) rfl rfl (by rw [eσ_131]; exact mwA_89) g_129 dX12_take_60 (fun H locs hP hS => ?_)
    refine lv_aload_n hx hb dX12_take_61 rfl (lv_at hl 1 rfl) ?_
    refine va_get (D := (dC, dI)) (ci := 12) (v := .ref (ad 99)) (C := RX12) (T := TX12) (N := 123) hx hb hts ii_X12 hown hK hP 0 rfl rfl 99 (by decide) (hts (.fieldLink RX12 206 "StoryHouseModel" "plays" "[I") wq_1455) (fun _ h9 => h9) rfl dX12_take_62 ?_
    refine lv_iload_n hx hb dX12_take_65 rfl (lv_at hl 0 rfl) ?_
    obtain ⟨x_133, ex_133, hF_134⟩ := bnd_e hF_132
    clear hF_132
    refine lv_iinc (v := x_133) (lv' := [(2, .int x_133), (0, .ref h), (3, .int s_3.2.1)]) hx hb dX12_take_66 hl (k := 0) rfl (by rw [ex_133]; rfl) (by decide) rfl (fun ls hl => ?_)
    obtain ⟨g_135, hF_136⟩ := nif_e hF_134
    clear hF_134
    refine va_iald (f := σ_131.2 99) hx hb hK hP 59 2 rfl rfl g_135 dX12_take_69 ?_
    obtain ⟨x_137, ex_137, hF_138⟩ := bnd_e hF_136
    clear hF_136
    refine m_top ex_137 ?_
    refine lv_istore (lv' := [(4, .int x_137), (2, .int x_133), (0, .ref h), (3, .int s_3.2.1)]) hx hb dX12_take_70 hl (by decide) rfl (fun ls hl => ?_)
    refine lv_iconst (v := 0) hx hb dX12_take_72 (by decide +kernel) ?_
    refine lv_istore (lv' := [(5, .int 0), (4, .int x_137), (2, .int x_133), (0, .ref h), (3, .int s_3.2.1)]) hx hb dX12_take_73 hl (by decide) rfl (fun ls hl => ?_)
    refine loopF_ind (P := fun (s_139 : Int32 × MS) => ∀ (H : Heap) (locs : List Loc), va_P (dC, dI) vwCl (mW cB cI cZ h qK qS ad s_139.2) H → va_S (mCells h ad sz) s.heap H locs → ∀ ls : Array Slot, lv_has ls 6 [(0, .ref h), (2, .int x_133), (3, .int s_3.2.1), (4, .int x_137), (5, .int s_139.1)] → W p l e (headSpec (g_ws yX12_take cX12_take 6 none) { frames := 1, cells := 0, slots := 0, locals := 40 }).room s m ([.ref h, .int p0] : List Value).toArray below meth c H locs 0 0 (MQ below (va_Qv (fun (_ : Unit) => True) (fun _ t => va_P (dC, dI) vwCl (mW cB cI cZ h qK qS ad res.2) t.heap) (mCells h ad sz)) ([.ref h, .int p0] : List Value).toArray s 0 0 (mCells h ad sz)) (F0 m 75 ls [])) ?_ _ _ hF_138 _ _ hP hS ls (lv_sub hl [3, 2, 4, 1, 0] rfl)
    intro again_140 s_139 ih_141 hF_142
    intro H locs hP hS ls hl
    refine lv_iload hx hb dX12_take_75 (lv_at hl 4 rfl) ?_
    refine lv_bipush (v := 7) hx hb dX12_take_77 (by decide +kernel) ?_
    refine lv_icmp_ge (tgt := 116) hx hb dX12_take_79 (by decide) (fun c_143 => ?_) (fun c_143 => ?_)
    · have hF_144 := ipos c_143 hF_142
      clear hF_142
      obtain ⟨x_145, ex_145, hF_146⟩ := bnd_e hF_144
      clear hF_144
      refine lv_iinc (v := x_145) (lv' := [(3, .int x_145), (0, .ref h), (2, .int x_133), (4, .int x_137), (5, .int s_139.1)]) hx hb dX12_take_116 hl (k := 2) rfl (by rw [ex_145]; rfl) (by decide) rfl (fun ls hl => ?_)
      refine lv_goto (tgt := 8) hx hb dX12_take_119 (by decide) ?_
      exact ih_5 (x_133, x_145, s_139.2) hF_146 _ _ hP hS ls (lv_sub hl [1, 2, 0] rfl)
    · have hF_147 := ineg c_143 hF_142
      clear hF_142
      refine lv_aload_n hx hb dX12_take_82 rfl (lv_at hl 0 rfl) ?_
      refine va_get (D := (dC, dI)) (ci := 12) (v := .ref (ad 90)) (C := RX12) (T := TX12) (N := 123) hx hb hts ii_X12 hown hK hP 0 rfl rfl 90 (by decide) (hts (.fieldLink RX12 191 "StoryHouseModel" "has" "[Z") wq_1446) (fun _ h9 => h9) rfl dX12_take_83 ?_
      refine lv_bipush (v := 7) hx hb dX12_take_86 (by decide +kernel) ?_
      refine lv_iload_n hx hb dX12_take_88 rfl (lv_at hl 2 rfl) ?_
      refine lv_imul hx hb dX12_take_89 ?_
      refine lv_iload hx hb dX12_take_90 (lv_at hl 4 rfl) ?_
      refine lv_iadd hx hb dX12_take_92 ?_
      refine lv_iload hx hb dX12_take_93 (lv_at hl 3 rfl) ?_
      refine lv_iload hx hb dX12_take_95 (lv_at hl 4 rfl) ?_
      refine lv_ishr hx hb dX12_take_97 ?_
      refine lv_iconst (v := 1) hx hb dX12_take_98 (by decide +kernel) ?_
      refine lv_iand hx hb dX12_take_99 ?_
      refine lv_iconst (v := 1) hx hb dX12_take_100 (by decide +kernel) ?_
      obtain ⟨j_150, ej_150, hF_151⟩ := bnd_e hF_147
      clear hF_147
      have Jj_150 : ∀ (t_148 : Int32) (σ_149 : MS), j_150 t_148 σ_149 = some res → ∀ (H : Heap) (locs : List Loc), va_P (dC, dI) vwCl (mW cB cI cZ h qK qS ad σ_149) H → va_S (mCells h ad sz) s.heap H locs → ∀ ls : Array Slot, lv_has ls 6 [(0, .ref h), (2, .int x_133), (3, .int s_3.2.1), (4, .int x_137), (5, .int s_139.1)] → W p l e (headSpec (g_ws yX12_take cX12_take 6 none) { frames := 1, cells := 0, slots := 0, locals := 40 }).room s m ([.ref h, .int p0] : List Value).toArray below meth c H locs 0 0 (MQ below (va_Qv (fun (_ : Unit) => True) (fun _ t => va_P (dC, dI) vwCl (mW cB cI cZ h qK qS ad res.2) t.heap) (mCells h ad sz)) ([.ref h, .int p0] : List Value).toArray s 0 0 (mCells h ad sz)) (F0 m 109 ls [.int t_148, .int ((7 * s_3.2.1) + s_139.1), .ref (ad 90)]) := by
        intro t_148 σ_149 hF0 H locs hP hS ls hl
        subst ej_150
        have hF_152 := hF0
        clear hF0
        obtain ⟨g_153, hF_154⟩ := nif_e hF_152
        clear hF_152
        obtain ⟨σ_155, eσ_155, hF_156⟩ := bnd_e hF_154
        clear hF_154
        refine m_zast (σ' := σ_155) hx hb hK hP (hDD _ _) hS (q0 := 55) (t0 := 4) (f := σ_149.2 90) rfl rfl (by rw [eσ_155]; exact mwA_90) g_153 dX12_take_109 (fun H locs hP hS => ?_)
        obtain ⟨x_157, ex_157, hF_158⟩ := bnd_e hF_156
        clear hF_156
        refine lv_iinc (v := x_157) (lv' := [(5, .int x_157), (0, .ref h), (2, .int x_133), (3, .int s_3.2.1), (4, .int x_137)]) hx hb dX12_take_110 hl (k := 4) rfl (by rw [ex_157]; rfl) (by decide) rfl (fun ls hl => ?_)
        refine lv_goto (tgt := 75) hx hb dX12_take_113 (by decide) ?_
        exact ih_141 (x_157, σ_155) hF_158 _ _ hP hS ls (lv_sub hl [1, 2, 3, 4, 0] rfl)
      refine lv_icmp_ne (tgt := 108) hx hb dX12_take_101 (by decide) (fun c_159 => ?_) (fun c_159 => ?_)
      · have hF_161 := ineg c_159 hF_151
        clear hF_151
        refine lv_iconst (v := 0) hx hb dX12_take_108 (by decide +kernel) ?_
        exact Jj_150 0 s_139.2 hF_161 _ _ hP hS ls (lv_sub hl [0, 1, 2, 3, 4] rfl)
      · have hF_160 := ipos c_159 hF_151
        clear hF_151
        refine lv_iconst (v := 1) hx hb dX12_take_104 (by decide +kernel) ?_
        refine lv_goto (tgt := 109) hx hb dX12_take_105 (by decide) ?_
        exact Jj_150 1 s_139.2 hF_160 _ _ hP hS ls (lv_sub hl [0, 1, 2, 3, 4] rfl)
theorem dX12_put_0 : decode cX12_put 0 = .ok (.aload_n 0, 1) := by decide +kernel
theorem dX12_put_1 : decode cX12_put 1 = .ok (.getfield 668, 3) := by decide +kernel
theorem dX12_put_4 : decode cX12_put 4 = .ok (.sipush 3000, 3) := by decide +kernel
theorem dX12_put_7 : decode cX12_put 7 = .ok (.if_icmp .ge 21, 3) := by decide +kernel
theorem dX12_put_10 : decode cX12_put 10 = .ok (.aload_n 0, 1) := by decide +kernel
theorem dX12_put_11 : decode cX12_put 11 = .ok (.getfield 212, 3) := by decide +kernel
theorem dX12_put_14 : decode cX12_put 14 = .ok (.aload_n 0, 1) := by decide +kernel
theorem dX12_put_15 : decode cX12_put 15 = .ok (.dup, 1) := by decide +kernel
theorem dX12_put_16 : decode cX12_put 16 = .ok (.getfield 668, 3) := by decide +kernel
theorem dX12_put_19 : decode cX12_put 19 = .ok (.dup_x1, 1) := by decide +kernel
theorem dX12_put_20 : decode cX12_put 20 = .ok (.iconst 1, 1) := by decide +kernel
theorem dX12_put_21 : decode cX12_put 21 = .ok (.iadd, 1) := by decide +kernel
theorem dX12_put_22 : decode cX12_put 22 = .ok (.putfield 668, 3) := by decide +kernel
theorem dX12_put_25 : decode cX12_put 25 = .ok (.iload_n 1, 1) := by decide +kernel
theorem dX12_put_26 : decode cX12_put 26 = .ok (.i2b, 1) := by decide +kernel
theorem dX12_put_27 : decode cX12_put 27 = .ok (.bastore, 1) := by decide +kernel
theorem dX12_put_28 : decode cX12_put 28 = .ok (.return_, 1) := by decide +kernel
def F_X12_put (p0 : Int32) (σ : MS) : MR :=
  if 3000 ≤ (σ.1 103) then (
    some (0, σ)
  ) else (
    bnd (mI σ 103 ((σ.1 103) + 1)) fun σ_4 =>
    bnd (p0.toInt8.toInt32) fun (x_6 : Int32) =>
    if (σ.1 103) < 0 ∨ 3000 ≤ (σ.1 103).toNatClampNeg then none else
    bnd (mA σ_4 102 (upd (σ_4.2 102) (σ.1 103).toNatClampNeg (vp_nar .byte x_6))) fun σ_10 =>
    some (0, σ_10)
  )
set_option maxHeartbeats 4000000 in
set_option maxRecDepth 100000 in
theorem m_X12_put (l : Launch) (dC : Nat → ClassId) (dI : Nat → Nat → Nat) (cB cC cI cJ cZ cP : ClassId) (h qK qS : Nat) (ad : Nat → Nat) (hDD : mDis cB cI cZ h qK qS ad) (sz : Nat)  (p0 : Int32) (σ : MS) (res : Int32 × MS) (hF : F_X12_put p0 σ = some res) : Met l yX12_put (g_ws yX12_put cX12_put 2 none) ({ frames := 1, cells := 0, slots := 0, locals := 40 }) (va_Pc [.ref h, .int p0] (m_B (dC, dI) [(cB, .byte), (cC, .char), (cI, .int), (cJ, .long), (cZ, .boolean), (cP, .object "StoryHouse$Play")] sz h ad qK qS (mW cB cI cZ h qK qS ad σ) g_0)) (va_Qv (fun (_ : Unit) => True) (fun _ t => va_P (dC, dI) vwCl (mW cB cI cZ h qK qS ad res.2) t.heap) (mCells h ad sz)) 0 0 (mCells h ad sz) := by
  refine Met.ofW (cc := cX12_put) (maxL := 2) (ret := none) (by decide) rfl ?_
  intro p e s m args below meth c s₁ B hml hv
  obtain ⟨rfl, hsz, hP, hK, hE, hKS, hX⟩ := hv
  have hx := B.exec
  have hb := B.bytes
  have hr := B.returns
  have hts0 := atoms_spec (ws := g_ws yX12_put cX12_put 2 none) B.pre
  have hts : ∀ w ∈ lw_good, w.before ([.ref h, .int p0] : List Value).toArray s = true := fun w z => hts0 w (List.mem_cons_of_mem _ z)
  have hown : s.vm.findClass RX12 = some m.cls := findClass_of_methodNamed B.named
  have hlocks := B.notSynchronized
  have hS : va_S (mCells h ad sz) s.heap s.heap [] := va_S.rf
  have hl := lv_entry ([.ref h, .int p0]) (n := 2) (Nat.le_of_ble_eq_true rfl)
  rw [lg_entry_eq]
  generalize (lg_sl ([.ref h, .int p0]) ++ List.replicate (2 - (lg_sl ([.ref h, .int p0])).length) Slot.unset).toArray = ls at hl ⊢
  have hl : lv_has ls 2 [(0, .ref h), (1, .int p0)] := hl
  unfold F_X12_put at hF
  refine lv_aload_n hx hb dX12_put_0 rfl (lv_at hl 0 rfl) ?_
  refine va_get (D := (dC, dI)) (ci := 12) (v := .int (σ.1 103)) (C := RX12) (T := TX12) (N := 123) hx hb hts ii_X12 hown hK hP 0 rfl rfl 103 (by decide) (hts (.fieldLink RX12 668 "StoryHouseModel" "said" "I") wq_1459) (fun _ h9 => h9) rfl dX12_put_1 ?_
  refine lv_sipush (v := 3000) hx hb dX12_put_4 (by decide +kernel) ?_
  refine lv_icmp_ge (tgt := 28) hx hb dX12_put_7 (by decide) (fun c_1 => ?_) (fun c_1 => ?_)
  · have hF_2 := ipos c_1 hF
    clear hF
    have h9 := Option.some.inj hF_2
    subst h9
    exact W.vret hx hb hr (fun t ht hW => ⟨⟨(), rfl, trivial, m_end ht hP⟩, hS.F ht⟩) hS.2.2 dX12_put_28
  · have hF_3 := ineg c_1 hF
    clear hF
    refine lv_aload_n hx hb dX12_put_10 rfl (lv_at hl 0 rfl) ?_
    refine va_get (D := (dC, dI)) (ci := 12) (v := .ref (ad 102)) (C := RX12) (T := TX12) (N := 123) hx hb hts ii_X12 hown hK hP 0 rfl rfl 102 (by decide) (hts (.fieldLink RX12 212 "StoryHouseModel" "out" "[B") wq_1458) (fun _ h9 => h9) rfl dX12_put_11 ?_
    refine lv_aload_n hx hb dX12_put_14 rfl (lv_at hl 0 rfl) ?_
    refine lv_dup hx hb dX12_put_15 rfl ?_
    refine va_get (D := (dC, dI)) (ci := 12) (v := .int (σ.1 103)) (C := RX12) (T := TX12) (N := 123) hx hb hts ii_X12 hown hK hP 0 rfl rfl 103 (by decide) (hts (.fieldLink RX12 668 "StoryHouseModel" "said" "I") wq_1459) (fun _ h9 => h9) rfl dX12_put_16 ?_
    refine lv_dup_x1 hx hb dX12_put_19 rfl rfl ?_
    refine lv_iconst (v := 1) hx hb dX12_put_20 (by decide +kernel) ?_
    refine lv_iadd hx hb dX12_put_21 ?_
    obtain ⟨σ_4, eσ_4, hF_5⟩ := bnd_e hF_3
    clear hF_3
    refine m_put (σ' := σ_4) (v := .int ((σ.1 103) + 1)) (ty := .int) hx hb hts hown hK hP (hDD _ _) hS (by rw [eσ_4]; exact mwI_103) (k := 103) (by decide) (hts (.fieldLink RX12 668 "StoryHouseModel" "said" "I") wq_1459) (fun _ h9 => h9) rfl (by decide +kernel) rfl rfl dX12_put_22 (fun H locs hP hS => ?_)
    refine lv_iload_n hx hb dX12_put_25 rfl (lv_at hl 1 rfl) ?_
    refine lv_i2b hx hb dX12_put_26 rfl ?_
    obtain ⟨x_6, ex_6, hF_7⟩ := bnd_e hF_5
    clear hF_5
    refine m_top ex_6 ?_
    obtain ⟨g_8, hF_9⟩ := nif_e hF_7
    clear hF_7
    obtain ⟨σ_10, eσ_10, hF_11⟩ := bnd_e hF_9
    clear hF_9
    refine m_bast (σ' := σ_10) hx hb hK hP (hDD _ _) hS (q0 := 61) (t0 := 0) (f := σ_4.2 102) rfl rfl (by rw [eσ_10]; exact mwA_102) g_8 dX12_put_27 (fun H locs hP hS => ?_)
    have h9 := Option.some.inj hF_11
    subst h9
    exact W.vret hx hb hr (fun t ht hW => ⟨⟨(), rfl, trivial, m_end ht hP⟩, hS.F ht⟩) hS.2.2 dX12_put_28
theorem dX12_say_0 : decode cX12_say 0 = .ok (.iconst 0, 1) := by decide +kernel
theorem dX12_say_1 : decode cX12_say 1 = .ok (.istore_n 2, 1) := by decide +kernel
theorem dX12_say_2 : decode cX12_say 2 = .ok (.iload_n 2, 1) := by decide +kernel
theorem dX12_say_3 : decode cX12_say 3 = .ok (.aload_n 1, 1) := by decide +kernel
theorem dX12_say_4 : decode cX12_say 4 = .ok (.invokevirtual 283, 3) := by decide +kernel
theorem dX12_say_7 : decode cX12_say 7 = .ok (.if_icmp .ge 18, 3) := by decide +kernel
theorem dX12_say_10 : decode cX12_say 10 = .ok (.aload_n 0, 1) := by decide +kernel
theorem dX12_say_11 : decode cX12_say 11 = .ok (.aload_n 1, 1) := by decide +kernel
theorem dX12_say_12 : decode cX12_say 12 = .ok (.iload_n 2, 1) := by decide +kernel
theorem dX12_say_13 : decode cX12_say 13 = .ok (.invokevirtual 289, 3) := by decide +kernel
theorem dX12_say_16 : decode cX12_say 16 = .ok (.invokevirtual 671, 3) := by decide +kernel
theorem dX12_say_19 : decode cX12_say 19 = .ok (.iinc 2 1, 3) := by decide +kernel
theorem dX12_say_22 : decode cX12_say 22 = .ok (.goto (-20), 3) := by decide +kernel
theorem dX12_say_25 : decode cX12_say 25 = .ok (.return_, 1) := by decide +kernel
def F_X12_say (b0 : List Int32) (σ : MS) : MR :=
  loopF (fun (again_2 : (Int32 × MS) → MR) (s_1 : Int32 × MS) => (
    bnd ((Int32.ofNat (b0).length)) fun (x_5 : Int32) =>
    if x_5 ≤ s_1.1 then (
      some (0, s_1.2)
    ) else (
      if s_1.1 < 0 ∨ Int32.ofNat (b0).length ≤ s_1.1 then none else
      bnd ((g_chr ((b0).getD s_1.1.toNatClampNeg 0))) fun (x_12 : Int32) =>
      (F_X12_put x_12 s_1.2).bind fun u_14 =>
      bnd (s_1.1 + 1) fun (x_16 : Int32) =>
      again_2 (x_16, u_14.2)
    )
  )) FU (0, σ)
set_option maxHeartbeats 4000000 in
set_option maxRecDepth 100000 in
theorem m_X12_say (l : Launch) (dC : Nat → ClassId) (dI : Nat → Nat → Nat) (cB cC cI cJ cZ cP : ClassId) (h qK qS : Nat) (ad : Nat → Nat) (hDD : mDis cB cI cZ h qK qS ad) (sz : Nat) (q0 vq0 : Nat) (b0 : List Int32) (σ : MS) (res : Int32 × MS) (hF : F_X12_say b0 σ = some res) : Met l yX12_say (g_ws yX12_say cX12_say 3 none) ({ frames := 5, cells := 0, slots := 0, locals := 125 }) (va_Pc [.ref h, .ref q0] (m_B (dC, dI) [(cB, .byte), (cC, .char), (cI, .int), (cJ, .long), (cZ, .boolean), (cP, .object "StoryHouse$Play")] sz h ad qK qS (mW cB cI cZ h qK qS ad σ) (fun U : State => g_S q0 vq0 b0 (mCells h ad sz) U U.heap))) (va_Qv (fun (_ : Unit) => True) (fun _ t => va_P (dC, dI) vwCl (mW cB cI cZ h qK qS ad res.2) t.heap) (mCells h ad sz)) 0 0 (mCells h ad sz) := by
  refine Met.ofW (cc := cX12_say) (maxL := 3) (ret := none) (by decide) rfl ?_
  intro p e s m args below meth c s₁ B hml hv
  obtain ⟨rfl, hsz, hP, hK, hE, hKS, hX⟩ := hv
  have hStr_q0 := hX
  have hx := B.exec
  have hb := B.bytes
  have hr := B.returns
  have hts0 := atoms_spec (ws := g_ws yX12_say cX12_say 3 none) B.pre
  have hts : ∀ w ∈ lw_good, w.before ([.ref h, .ref q0] : List Value).toArray s = true := fun w z => hts0 w (List.mem_cons_of_mem _ z)
  have hown : s.vm.findClass RX12 = some m.cls := findClass_of_methodNamed B.named
  have hlocks := B.notSynchronized
  have hS : va_S (mCells h ad sz) s.heap s.heap [] := va_S.rf
  have hl := lv_entry ([.ref h, .ref q0]) (n := 3) (Nat.le_of_ble_eq_true rfl)
  rw [lg_entry_eq]
  generalize (lg_sl ([.ref h, .ref q0]) ++ List.replicate (3 - (lg_sl ([.ref h, .ref q0])).length) Slot.unset).toArray = ls at hl ⊢
  have hl : lv_has ls 3 [(0, .ref h), (1, .ref q0)] := hl
  unfold F_X12_say at hF
  refine lv_iconst (v := 0) hx hb dX12_say_0 (by decide +kernel) ?_
  refine lv_istore_n (lv' := [(2, .int 0), (0, .ref h), (1, .ref q0)]) hx hb dX12_say_1 rfl hl (by decide) rfl (fun ls hl => ?_)
  refine loopF_ind (P := fun (s_1 : Int32 × MS) => ∀ (H : Heap) (locs : List Loc), va_P (dC, dI) vwCl (mW cB cI cZ h qK qS ad s_1.2) H → va_S (mCells h ad sz) s.heap H locs → ∀ ls : Array Slot, lv_has ls 3 [(0, .ref h), (1, .ref q0), (2, .int s_1.1)] → W p l e (headSpec (g_ws yX12_say cX12_say 3 none) { frames := 5, cells := 0, slots := 0, locals := 125 }).room s m ([.ref h, .ref q0] : List Value).toArray below meth c H locs 0 0 (MQ below (va_Qv (fun (_ : Unit) => True) (fun _ t => va_P (dC, dI) vwCl (mW cB cI cZ h qK qS ad res.2) t.heap) (mCells h ad sz)) ([.ref h, .ref q0] : List Value).toArray s 0 0 (mCells h ad sz)) (F0 m 2 ls [])) ?_ _ _ hF _ _ hP hS ls (lv_sub hl [1, 2, 0] rfl)
  intro again_2 s_1 ih_3 hF_4
  intro H locs hP hS ls hl
  refine lv_iload_n hx hb dX12_say_2 rfl (lv_at hl 2 rfl) ?_
  refine lv_aload_n hx hb dX12_say_3 rfl (lv_at hl 1 rfl) ?_
  refine m_cs (v := Int32.ofNat (b0).length) hsz hP hS (va_runV (As := []) (rest := [.int s_1.1]) ⟨hx, hb, hml, hown, hts⟩ (c_J0_length_8abf5 l dC dI cB cC cI cJ cZ cP H.size q0  _ b0 ) (cwV 0 hts (g_gV wq_1509 wq_346 wq_347 wq_22 wq_348) rfl rfl rfl (by decide +kernel) ⟨Nat.le_of_ble_eq_true rfl, Nat.le_of_ble_eq_true rfl⟩) (g_preVs g_blS hK (wc := []) (A := mCells h ad sz) (fun k q z => by simp at z) ⟨fun i j p q z => by simp at z, fun k q z => by simp at z⟩ hS hE (m_nil hS hsz) (g_toS hStr_q0 hS (m_nil hS hsz)) (va_Orecv hStr_q0.1 hS)) rfl rfl hl.1 rfl (lv_room (Nat.le_of_ble_eq_true rfl)) dX12_say_4 ⟨Nat.le_of_ble_eq_true rfl, Nat.le_of_ble_eq_true rfl⟩) (fun H locs hP hS => ?_)
  obtain ⟨x_5, ex_5, hF_6⟩ := bnd_e hF_4
  clear hF_4
  refine m_top ex_5 ?_
  refine lv_icmp_ge (tgt := 25) hx hb dX12_say_7 (by decide) (fun c_7 => ?_) (fun c_7 => ?_)
  · have hF_8 := ipos c_7 hF_6
    clear hF_6
    have h9 := Option.some.inj hF_8
    subst h9
    exact W.vret hx hb hr (fun t ht hW => ⟨⟨(), rfl, trivial, m_end ht hP⟩, hS.F ht⟩) hS.2.2 dX12_say_25
  · have hF_9 := ineg c_7 hF_6
    clear hF_6
    refine lv_aload_n hx hb dX12_say_10 rfl (lv_at hl 0 rfl) ?_
    refine lv_aload_n hx hb dX12_say_11 rfl (lv_at hl 1 rfl) ?_
    refine lv_iload_n hx hb dX12_say_12 rfl (lv_at hl 2 rfl) ?_
    obtain ⟨g_10, hF_11⟩ := nif_e hF_9
    clear hF_9
    refine m_cs (v := g_chr ((b0).getD s_1.1.toNatClampNeg 0)) hsz hP hS (va_runV (As := [.int s_1.1]) (rest := [.ref h]) ⟨hx, hb, hml, hown, hts⟩ (c_J0_charAt_5068e l dC dI cB cC cI cJ cZ cP H.size q0 s_1.1 _ b0 (fun z => g_10 (Or.inl z)) (Int32.not_le.mp (fun z => g_10 (Or.inr z)))) (cwV 1 hts (g_gV wq_1510 wq_359 wq_360 wq_22 wq_361) rfl rfl rfl (by decide +kernel) ⟨Nat.le_of_ble_eq_true rfl, Nat.le_of_ble_eq_true rfl⟩) (g_preVs g_blS hK (wc := []) (A := mCells h ad sz) (fun k q z => by simp at z) ⟨fun i j p q z => by simp at z, fun k q z => by simp at z⟩ hS hE (m_nil hS hsz) (g_toS hStr_q0 hS (m_nil hS hsz)) (va_Orecv hStr_q0.1 hS)) rfl rfl hl.1 rfl (lv_room (Nat.le_of_ble_eq_true rfl)) dX12_say_13 ⟨Nat.le_of_ble_eq_true rfl, Nat.le_of_ble_eq_true rfl⟩) (fun H locs hP hS => ?_)
    obtain ⟨x_12, ex_12, hF_13⟩ := bnd_e hF_11
    clear hF_11
    refine m_top ex_12 ?_
    obtain ⟨u_14, hu_14, hF_15⟩ := Option.bind_eq_some_iff.mp hF_13
    clear hF_13
    refine m_cv hsz hS (va_runV (As := [.int x_12]) (rest := []) ⟨hx, hb, hml, hown, hts⟩ (m_X12_put l dC dI cB cC cI cJ cZ cP h qK qS ad hDD H.size  x_12 s_1.2 _ hu_14) (cwV 1 hts (g_gV wq_1773 wq_1774 wq_2200 wq_13 wq_1775) rfl rfl rfl (by decide +kernel) ⟨Nat.le_of_ble_eq_true rfl, Nat.le_of_ble_eq_true rfl⟩) (m_preV g_bl0 hsz hK hP hS hE hKS g_to0) rfl rfl hl.1 rfl (lv_room (Nat.le_of_ble_eq_true rfl)) dX12_say_16 ⟨Nat.le_of_ble_eq_true rfl, Nat.le_of_ble_eq_true rfl⟩) (fun H locs hP hS => ?_)
    obtain ⟨x_16, ex_16, hF_17⟩ := bnd_e hF_15
    clear hF_15
    refine lv_iinc (v := x_16) (lv' := [(2, .int x_16), (0, .ref h), (1, .ref q0)]) hx hb dX12_say_19 hl (k := 2) rfl (by rw [ex_16]; rfl) (by decide) rfl (fun ls hl => ?_)
    refine lv_goto (tgt := 2) hx hb dX12_say_22 (by decide) ?_
    exact ih_3 (x_16, u_14.2) hF_17 _ _ hP hS ls (lv_sub hl [1, 2, 0] rfl)
theorem dX12_line_0 : decode cX12_line 0 = .ok (.aload_n 0, 1) := by decide +kernel
theorem dX12_line_1 : decode cX12_line 1 = .ok (.aload_n 1, 1) := by decide +kernel
theorem dX12_line_2 : decode cX12_line 2 = .ok (.invokevirtual 673, 3) := by decide +kernel
theorem dX12_line_5 : decode cX12_line 5 = .ok (.aload_n 0, 1) := by decide +kernel
theorem dX12_line_6 : decode cX12_line 6 = .ok (.bipush 10, 2) := by decide +kernel
theorem dX12_line_8 : decode cX12_line 8 = .ok (.invokevirtual 671, 3) := by decide +kernel
theorem dX12_line_11 : decode cX12_line 11 = .ok (.return_, 1) := by decide +kernel
def F_X12_line (b0 : List Int32) (σ : MS) : MR :=
  (F_X12_say b0 σ).bind fun u_1 =>
  (F_X12_put 10 u_1.2).bind fun u_3 =>
  some (0, u_3.2)
set_option maxHeartbeats 4000000 in
set_option maxRecDepth 100000 in
theorem m_X12_line (l : Launch) (dC : Nat → ClassId) (dI : Nat → Nat → Nat) (cB cC cI cJ cZ cP : ClassId) (h qK qS : Nat) (ad : Nat → Nat) (hDD : mDis cB cI cZ h qK qS ad) (sz : Nat) (q0 vq0 : Nat) (b0 : List Int32) (σ : MS) (res : Int32 × MS) (hF : F_X12_line b0 σ = some res) : Met l yX12_line (g_ws yX12_line cX12_line 2 none) ({ frames := 6, cells := 0, slots := 0, locals := 147 }) (va_Pc [.ref h, .ref q0] (m_B (dC, dI) [(cB, .byte), (cC, .char), (cI, .int), (cJ, .long), (cZ, .boolean), (cP, .object "StoryHouse$Play")] sz h ad qK qS (mW cB cI cZ h qK qS ad σ) (fun U : State => g_S q0 vq0 b0 (mCells h ad sz) U U.heap))) (va_Qv (fun (_ : Unit) => True) (fun _ t => va_P (dC, dI) vwCl (mW cB cI cZ h qK qS ad res.2) t.heap) (mCells h ad sz)) 0 0 (mCells h ad sz) := by
  refine Met.ofW (cc := cX12_line) (maxL := 2) (ret := none) (by decide) rfl ?_
  intro p e s m args below meth c s₁ B hml hv
  obtain ⟨rfl, hsz, hP, hK, hE, hKS, hX⟩ := hv
  have hStr_q0 := hX
  have hx := B.exec
  have hb := B.bytes
  have hr := B.returns
  have hts0 := atoms_spec (ws := g_ws yX12_line cX12_line 2 none) B.pre
  have hts : ∀ w ∈ lw_good, w.before ([.ref h, .ref q0] : List Value).toArray s = true := fun w z => hts0 w (List.mem_cons_of_mem _ z)
  have hown : s.vm.findClass RX12 = some m.cls := findClass_of_methodNamed B.named
  have hlocks := B.notSynchronized
  have hS : va_S (mCells h ad sz) s.heap s.heap [] := va_S.rf
  have hl := lv_entry ([.ref h, .ref q0]) (n := 2) (Nat.le_of_ble_eq_true rfl)
  rw [lg_entry_eq]
  generalize (lg_sl ([.ref h, .ref q0]) ++ List.replicate (2 - (lg_sl ([.ref h, .ref q0])).length) Slot.unset).toArray = ls at hl ⊢
  have hl : lv_has ls 2 [(0, .ref h), (1, .ref q0)] := hl
  unfold F_X12_line at hF
  refine lv_aload_n hx hb dX12_line_0 rfl (lv_at hl 0 rfl) ?_
  refine lv_aload_n hx hb dX12_line_1 rfl (lv_at hl 1 rfl) ?_
  obtain ⟨u_1, hu_1, hF_2⟩ := Option.bind_eq_some_iff.mp hF
  clear hF
  refine m_cv hsz hS (va_runV (As := [.ref q0]) (rest := []) ⟨hx, hb, hml, hown, hts⟩ (m_X12_say l dC dI cB cC cI cJ cZ cP h qK qS ad hDD s.heap.size q0 _ b0 σ _ hu_1) (cwV 1 hts (g_gV wq_1770 wq_1771 wq_2199 wq_13 wq_1772) rfl rfl rfl (by decide +kernel) ⟨Nat.le_of_ble_eq_true rfl, Nat.le_of_ble_eq_true rfl⟩) (m_preV g_blS hsz hK hP hS hE hKS (g_toS hStr_q0 hS (m_narrow hS hsz))) rfl rfl hl.1 rfl (lv_room (Nat.le_of_ble_eq_true rfl)) dX12_line_2 ⟨Nat.le_of_ble_eq_true rfl, Nat.le_of_ble_eq_true rfl⟩) (fun H locs hP hS => ?_)
  refine lv_aload_n hx hb dX12_line_5 rfl (lv_at hl 0 rfl) ?_
  refine lv_bipush (v := 10) hx hb dX12_line_6 (by decide +kernel) ?_
  obtain ⟨u_3, hu_3, hF_4⟩ := Option.bind_eq_some_iff.mp hF_2
  clear hF_2
  refine m_cv hsz hS (va_runV (As := [.int 10]) (rest := []) ⟨hx, hb, hml, hown, hts⟩ (m_X12_put l dC dI cB cC cI cJ cZ cP h qK qS ad hDD H.size  10 u_1.2 _ hu_3) (cwV 1 hts (g_gV wq_1773 wq_1774 wq_2200 wq_13 wq_1775) rfl rfl rfl (by decide +kernel) ⟨Nat.le_of_ble_eq_true rfl, Nat.le_of_ble_eq_true rfl⟩) (m_preV g_bl0 hsz hK hP hS hE hKS g_to0) rfl rfl hl.1 rfl (lv_room (Nat.le_of_ble_eq_true rfl)) dX12_line_8 ⟨Nat.le_of_ble_eq_true rfl, Nat.le_of_ble_eq_true rfl⟩) (fun H locs hP hS => ?_)
  have h9 := Option.some.inj hF_4
  subst h9
  exact W.vret hx hb hr (fun t ht hW => ⟨⟨(), rfl, trivial, m_end ht hP⟩, hS.F ht⟩) hS.2.2 dX12_line_11
theorem dX12_sayText_0 : decode cX12_sayText 0 = .ok (.iconst 0, 1) := by decide +kernel
theorem dX12_sayText_1 : decode cX12_sayText 1 = .ok (.istore_n 3, 1) := by decide +kernel
theorem dX12_sayText_2 : decode cX12_sayText 2 = .ok (.iload_n 3, 1) := by decide +kernel
theorem dX12_sayText_3 : decode cX12_sayText 3 = .ok (.iload_n 2, 1) := by decide +kernel
theorem dX12_sayText_4 : decode cX12_sayText 4 = .ok (.if_icmp .ge 39, 3) := by decide +kernel
theorem dX12_sayText_7 : decode cX12_sayText 7 = .ok (.aload_n 0, 1) := by decide +kernel
theorem dX12_sayText_8 : decode cX12_sayText 8 = .ok (.aload_n 0, 1) := by decide +kernel
theorem dX12_sayText_9 : decode cX12_sayText 9 = .ok (.getfield 82, 3) := by decide +kernel
theorem dX12_sayText_12 : decode cX12_sayText 12 = .ok (.iload_n 1, 1) := by decide +kernel
theorem dX12_sayText_13 : decode cX12_sayText 13 = .ok (.iload_n 3, 1) := by decide +kernel
theorem dX12_sayText_14 : decode cX12_sayText 14 = .ok (.iadd, 1) := by decide +kernel
theorem dX12_sayText_15 : decode cX12_sayText 15 = .ok (.baload, 1) := by decide +kernel
theorem dX12_sayText_16 : decode cX12_sayText 16 = .ok (.bipush 94, 2) := by decide +kernel
theorem dX12_sayText_18 : decode cX12_sayText 18 = .ok (.if_icmp .ne 8, 3) := by decide +kernel
theorem dX12_sayText_21 : decode cX12_sayText 21 = .ok (.bipush 10, 2) := by decide +kernel
theorem dX12_sayText_23 : decode cX12_sayText 23 = .ok (.goto 11, 3) := by decide +kernel
theorem dX12_sayText_26 : decode cX12_sayText 26 = .ok (.aload_n 0, 1) := by decide +kernel
theorem dX12_sayText_27 : decode cX12_sayText 27 = .ok (.getfield 82, 3) := by decide +kernel
theorem dX12_sayText_30 : decode cX12_sayText 30 = .ok (.iload_n 1, 1) := by decide +kernel
theorem dX12_sayText_31 : decode cX12_sayText 31 = .ok (.iload_n 3, 1) := by decide +kernel
theorem dX12_sayText_32 : decode cX12_sayText 32 = .ok (.iadd, 1) := by decide +kernel
theorem dX12_sayText_33 : decode cX12_sayText 33 = .ok (.baload, 1) := by decide +kernel
theorem dX12_sayText_34 : decode cX12_sayText 34 = .ok (.invokevirtual 671, 3) := by decide +kernel
theorem dX12_sayText_37 : decode cX12_sayText 37 = .ok (.iinc 3 1, 3) := by decide +kernel
theorem dX12_sayText_40 : decode cX12_sayText 40 = .ok (.goto (-38), 3) := by decide +kernel
theorem dX12_sayText_43 : decode cX12_sayText 43 = .ok (.return_, 1) := by decide +kernel
def F_X12_sayText (p0 : Int32) (p1 : Int32) (σ : MS) : MR :=
  loopF (fun (again_2 : (Int32 × MS) → MR) (s_1 : Int32 × MS) => (
    if p1 ≤ s_1.1 then (
      some (0, s_1.2)
    ) else (
      bnd ((p0 + s_1.1)) fun (x_8 : Int32) =>
      if x_8 < 0 ∨ 16000 ≤ x_8.toNatClampNeg then none else
      bnd (fun (t_12 : Int32) (σ_13 : MS) => (
        (F_X12_put t_12 σ_13).bind fun u_17 =>
        bnd (s_1.1 + 1) fun (x_19 : Int32) =>
        again_2 (x_19, u_17.2)
      ) : Int32 → MS → MR) fun j_14 =>
      if (s_1.2.2 45 x_8.toNatClampNeg) = 94 then (
        j_14 10 s_1.2
      ) else (
        bnd ((p0 + s_1.1)) fun (x_24 : Int32) =>
        if x_24 < 0 ∨ 16000 ≤ x_24.toNatClampNeg then none else
        j_14 (s_1.2.2 45 x_24.toNatClampNeg) s_1.2
      )
    )
  )) FU (0, σ)
set_option maxHeartbeats 4000000 in
set_option maxRecDepth 100000 in
theorem m_X12_sayText (l : Launch) (dC : Nat → ClassId) (dI : Nat → Nat → Nat) (cB cC cI cJ cZ cP : ClassId) (h qK qS : Nat) (ad : Nat → Nat) (hDD : mDis cB cI cZ h qK qS ad) (sz : Nat)  (p0 : Int32) (p1 : Int32) (σ : MS) (res : Int32 × MS) (hF : F_X12_sayText p0 p1 σ = some res) : Met l yX12_sayText (g_ws yX12_sayText cX12_sayText 4 none) ({ frames := 2, cells := 0, slots := 0, locals := 61 }) (va_Pc [.ref h, .int p0, .int p1] (m_B (dC, dI) [(cB, .byte), (cC, .char), (cI, .int), (cJ, .long), (cZ, .boolean), (cP, .object "StoryHouse$Play")] sz h ad qK qS (mW cB cI cZ h qK qS ad σ) g_0)) (va_Qv (fun (_ : Unit) => True) (fun _ t => va_P (dC, dI) vwCl (mW cB cI cZ h qK qS ad res.2) t.heap) (mCells h ad sz)) 0 0 (mCells h ad sz) := by
  refine Met.ofW (cc := cX12_sayText) (maxL := 4) (ret := none) (by decide) rfl ?_
  intro p e s m args below meth c s₁ B hml hv
  obtain ⟨rfl, hsz, hP, hK, hE, hKS, hX⟩ := hv
  have hx := B.exec
  have hb := B.bytes
  have hr := B.returns
  have hts0 := atoms_spec (ws := g_ws yX12_sayText cX12_sayText 4 none) B.pre
  have hts : ∀ w ∈ lw_good, w.before ([.ref h, .int p0, .int p1] : List Value).toArray s = true := fun w z => hts0 w (List.mem_cons_of_mem _ z)
  have hown : s.vm.findClass RX12 = some m.cls := findClass_of_methodNamed B.named
  have hlocks := B.notSynchronized
  have hS : va_S (mCells h ad sz) s.heap s.heap [] := va_S.rf
  have hl := lv_entry ([.ref h, .int p0, .int p1]) (n := 4) (Nat.le_of_ble_eq_true rfl)
  rw [lg_entry_eq]
  generalize (lg_sl ([.ref h, .int p0, .int p1]) ++ List.replicate (4 - (lg_sl ([.ref h, .int p0, .int p1])).length) Slot.unset).toArray = ls at hl ⊢
  have hl : lv_has ls 4 [(0, .ref h), (1, .int p0), (2, .int p1)] := hl
  unfold F_X12_sayText at hF
  refine lv_iconst (v := 0) hx hb dX12_sayText_0 (by decide +kernel) ?_
  refine lv_istore_n (lv' := [(3, .int 0), (0, .ref h), (1, .int p0), (2, .int p1)]) hx hb dX12_sayText_1 rfl hl (by decide) rfl (fun ls hl => ?_)
  refine loopF_ind (P := fun (s_1 : Int32 × MS) => ∀ (H : Heap) (locs : List Loc), va_P (dC, dI) vwCl (mW cB cI cZ h qK qS ad s_1.2) H → va_S (mCells h ad sz) s.heap H locs → ∀ ls : Array Slot, lv_has ls 4 [(0, .ref h), (1, .int p0), (2, .int p1), (3, .int s_1.1)] → W p l e (headSpec (g_ws yX12_sayText cX12_sayText 4 none) { frames := 2, cells := 0, slots := 0, locals := 61 }).room s m ([.ref h, .int p0, .int p1] : List Value).toArray below meth c H locs 0 0 (MQ below (va_Qv (fun (_ : Unit) => True) (fun _ t => va_P (dC, dI) vwCl (mW cB cI cZ h qK qS ad res.2) t.heap) (mCells h ad sz)) ([.ref h, .int p0, .int p1] : List Value).toArray s 0 0 (mCells h ad sz)) (F0 m 2 ls [])) ?_ _ _ hF _ _ hP hS ls (lv_sub hl [1, 2, 3, 0] rfl)
  intro again_2 s_1 ih_3 hF_4
  intro H locs hP hS ls hl
  refine lv_iload_n hx hb dX12_sayText_2 rfl (lv_at hl 3 rfl) ?_
  refine lv_iload_n hx hb dX12_sayText_3 rfl (lv_at hl 2 rfl) ?_
  refine lv_icmp_ge (tgt := 43) hx hb dX12_sayText_4 (by decide) (fun c_5 => ?_) (fun c_5 => ?_)
  · have hF_6 := ipos c_5 hF_4
    clear hF_4
    have h9 := Option.some.inj hF_6
    subst h9
    exact W.vret hx hb hr (fun t ht hW => ⟨⟨(), rfl, trivial, m_end ht hP⟩, hS.F ht⟩) hS.2.2 dX12_sayText_43
  · have hF_7 := ineg c_5 hF_4
    clear hF_4
    refine lv_aload_n hx hb dX12_sayText_7 rfl (lv_at hl 0 rfl) ?_
    refine lv_aload_n hx hb dX12_sayText_8 rfl (lv_at hl 0 rfl) ?_
    refine va_get (D := (dC, dI)) (ci := 12) (v := .ref (ad 45)) (C := RX12) (T := TX12) (N := 123) hx hb hts ii_X12 hown hK hP 0 rfl rfl 45 (by decide) (hts (.fieldLink RX12 82 "StoryHouseModel" "text" "[B") wq_1401) (fun _ h9 => h9) rfl dX12_sayText_9 ?_
    refine lv_iload_n hx hb dX12_sayText_12 rfl (lv_at hl 1 rfl) ?_
    refine lv_iload_n hx hb dX12_sayText_13 rfl (lv_at hl 3 rfl) ?_
    refine lv_iadd hx hb dX12_sayText_14 ?_
    obtain ⟨x_8, ex_8, hF_9⟩ := bnd_e hF_7
    clear hF_7
    refine m_top ex_8 ?_
    obtain ⟨g_10, hF_11⟩ := nif_e hF_9
    clear hF_9
    refine va_bald (f := s_1.2.2 45) hx hb hK hP 19 0 rfl rfl g_10 dX12_sayText_15 ?_
    refine lv_bipush (v := 94) hx hb dX12_sayText_16 (by decide +kernel) ?_
    obtain ⟨j_14, ej_14, hF_15⟩ := bnd_e hF_11
    clear hF_11
    have Jj_14 : ∀ (t_12 : Int32) (σ_13 : MS), j_14 t_12 σ_13 = some res → ∀ (H : Heap) (locs : List Loc), va_P (dC, dI) vwCl (mW cB cI cZ h qK qS ad σ_13) H → va_S (mCells h ad sz) s.heap H locs → ∀ ls : Array Slot, lv_has ls 4 [(0, .ref h), (1, .int p0), (2, .int p1), (3, .int s_1.1)] → W p l e (headSpec (g_ws yX12_sayText cX12_sayText 4 none) { frames := 2, cells := 0, slots := 0, locals := 61 }).room s m ([.ref h, .int p0, .int p1] : List Value).toArray below meth c H locs 0 0 (MQ below (va_Qv (fun (_ : Unit) => True) (fun _ t => va_P (dC, dI) vwCl (mW cB cI cZ h qK qS ad res.2) t.heap) (mCells h ad sz)) ([.ref h, .int p0, .int p1] : List Value).toArray s 0 0 (mCells h ad sz)) (F0 m 34 ls [.int t_12, .ref h]) := by
      intro t_12 σ_13 hF0 H locs hP hS ls hl
      subst ej_14
      have hF_16 := hF0
      clear hF0
      obtain ⟨u_17, hu_17, hF_18⟩ := Option.bind_eq_some_iff.mp hF_16
      clear hF_16
      refine m_cv hsz hS (va_runV (As := [.int t_12]) (rest := []) ⟨hx, hb, hml, hown, hts⟩ (m_X12_put l dC dI cB cC cI cJ cZ cP h qK qS ad hDD H.size  t_12 σ_13 _ hu_17) (cwV 1 hts (g_gV wq_1773 wq_1774 wq_2200 wq_13 wq_1775) rfl rfl rfl (by decide +kernel) ⟨Nat.le_of_ble_eq_true rfl, Nat.le_of_ble_eq_true rfl⟩) (m_preV g_bl0 hsz hK hP hS hE hKS g_to0) rfl rfl hl.1 rfl (lv_room (Nat.le_of_ble_eq_true rfl)) dX12_sayText_34 ⟨Nat.le_of_ble_eq_true rfl, Nat.le_of_ble_eq_true rfl⟩) (fun H locs hP hS => ?_)
      obtain ⟨x_19, ex_19, hF_20⟩ := bnd_e hF_18
      clear hF_18
      refine lv_iinc (v := x_19) (lv' := [(3, .int x_19), (0, .ref h), (1, .int p0), (2, .int p1)]) hx hb dX12_sayText_37 hl (k := 3) rfl (by rw [ex_19]; rfl) (by decide) rfl (fun ls hl => ?_)
      refine lv_goto (tgt := 2) hx hb dX12_sayText_40 (by decide) ?_
      exact ih_3 (x_19, u_17.2) hF_20 _ _ hP hS ls (lv_sub hl [1, 2, 3, 0] rfl)
    refine lv_icmp_ne (tgt := 26) hx hb dX12_sayText_18 (by decide) (fun c_21 => ?_) (fun c_21 => ?_)
    · have hF_23 := ineg c_21 hF_15
      clear hF_15
      refine lv_aload_n hx hb dX12_sayText_26 rfl (lv_at hl 0 rfl) ?_
      refine va_get (D := (dC, dI)) (ci := 12) (v := .ref (ad 45)) (C := RX12) (T := TX12) (N := 123) hx hb hts ii_X12 hown hK hP 0 rfl rfl 45 (by decide) (hts (.fieldLink RX12 82 "StoryHouseModel" "text" "[B") wq_1401) (fun _ h9 => h9) rfl dX12_sayText_27 ?_
      refine lv_iload_n hx hb dX12_sayText_30 rfl (lv_at hl 1 rfl) ?_
      refine lv_iload_n hx hb dX12_sayText_31 rfl (lv_at hl 3 rfl) ?_
      refine lv_iadd hx hb dX12_sayText_32 ?_
      obtain ⟨x_24, ex_24, hF_25⟩ := bnd_e hF_23
      clear hF_23
      refine m_top ex_24 ?_
      obtain ⟨g_26, hF_27⟩ := nif_e hF_25
      clear hF_25
      refine va_bald (f := s_1.2.2 45) hx hb hK hP 19 0 rfl rfl g_26 dX12_sayText_33 ?_
      exact Jj_14 (s_1.2.2 45 x_24.toNatClampNeg) s_1.2 hF_27 _ _ hP hS ls (lv_sub hl [0, 1, 2, 3] rfl)
    · have hF_22 := ipos c_21 hF_15
      clear hF_15
      refine lv_bipush (v := 10) hx hb dX12_sayText_21 (by decide +kernel) ?_
      refine lv_goto (tgt := 34) hx hb dX12_sayText_23 (by decide) ?_
      exact Jj_14 10 s_1.2 hF_22 _ _ hP hS ls (lv_sub hl [0, 1, 2, 3] rfl)
theorem dX12_sayNumber_0 : decode cX12_sayNumber 0 = .ok (.iload_n 1, 1) := by decide +kernel
theorem dX12_sayNumber_1 : decode cX12_sayNumber 1 = .ok (.ifCond .ge 8, 3) := by decide +kernel
theorem dX12_sayNumber_4 : decode cX12_sayNumber 4 = .ok (.iload_n 1, 1) := by decide +kernel
theorem dX12_sayNumber_5 : decode cX12_sayNumber 5 = .ok (.ineg, 1) := by decide +kernel
theorem dX12_sayNumber_6 : decode cX12_sayNumber 6 = .ok (.goto 4, 3) := by decide +kernel
theorem dX12_sayNumber_9 : decode cX12_sayNumber 9 = .ok (.iload_n 1, 1) := by decide +kernel
theorem dX12_sayNumber_10 : decode cX12_sayNumber 10 = .ok (.istore_n 2, 1) := by decide +kernel
theorem dX12_sayNumber_11 : decode cX12_sayNumber 11 = .ok (.iload_n 1, 1) := by decide +kernel
theorem dX12_sayNumber_12 : decode cX12_sayNumber 12 = .ok (.ifCond .ge 9, 3) := by decide +kernel
theorem dX12_sayNumber_15 : decode cX12_sayNumber 15 = .ok (.aload_n 0, 1) := by decide +kernel
theorem dX12_sayNumber_16 : decode cX12_sayNumber 16 = .ok (.bipush 45, 2) := by decide +kernel
theorem dX12_sayNumber_18 : decode cX12_sayNumber 18 = .ok (.invokevirtual 671, 3) := by decide +kernel
theorem dX12_sayNumber_21 : decode cX12_sayNumber 21 = .ok (.iconst 1, 1) := by decide +kernel
theorem dX12_sayNumber_22 : decode cX12_sayNumber 22 = .ok (.istore_n 3, 1) := by decide +kernel
theorem dX12_sayNumber_23 : decode cX12_sayNumber 23 = .ok (.iload_n 2, 1) := by decide +kernel
theorem dX12_sayNumber_24 : decode cX12_sayNumber 24 = .ok (.iload_n 3, 1) := by decide +kernel
theorem dX12_sayNumber_25 : decode cX12_sayNumber 25 = .ok (.idiv, 1) := by decide +kernel
theorem dX12_sayNumber_26 : decode cX12_sayNumber 26 = .ok (.bipush 9, 2) := by decide +kernel
theorem dX12_sayNumber_28 : decode cX12_sayNumber 28 = .ok (.if_icmp .le 11, 3) := by decide +kernel
theorem dX12_sayNumber_31 : decode cX12_sayNumber 31 = .ok (.iload_n 3, 1) := by decide +kernel
theorem dX12_sayNumber_32 : decode cX12_sayNumber 32 = .ok (.bipush 10, 2) := by decide +kernel
theorem dX12_sayNumber_34 : decode cX12_sayNumber 34 = .ok (.imul, 1) := by decide +kernel
theorem dX12_sayNumber_35 : decode cX12_sayNumber 35 = .ok (.istore_n 3, 1) := by decide +kernel
theorem dX12_sayNumber_36 : decode cX12_sayNumber 36 = .ok (.goto (-13), 3) := by decide +kernel
theorem dX12_sayNumber_39 : decode cX12_sayNumber 39 = .ok (.iload_n 3, 1) := by decide +kernel
theorem dX12_sayNumber_40 : decode cX12_sayNumber 40 = .ok (.ifCond .le 24, 3) := by decide +kernel
theorem dX12_sayNumber_43 : decode cX12_sayNumber 43 = .ok (.aload_n 0, 1) := by decide +kernel
theorem dX12_sayNumber_44 : decode cX12_sayNumber 44 = .ok (.bipush 48, 2) := by decide +kernel
theorem dX12_sayNumber_46 : decode cX12_sayNumber 46 = .ok (.iload_n 2, 1) := by decide +kernel
theorem dX12_sayNumber_47 : decode cX12_sayNumber 47 = .ok (.iload_n 3, 1) := by decide +kernel
theorem dX12_sayNumber_48 : decode cX12_sayNumber 48 = .ok (.idiv, 1) := by decide +kernel
theorem dX12_sayNumber_49 : decode cX12_sayNumber 49 = .ok (.bipush 10, 2) := by decide +kernel
theorem dX12_sayNumber_51 : decode cX12_sayNumber 51 = .ok (.irem, 1) := by decide +kernel
theorem dX12_sayNumber_52 : decode cX12_sayNumber 52 = .ok (.iadd, 1) := by decide +kernel
theorem dX12_sayNumber_53 : decode cX12_sayNumber 53 = .ok (.invokevirtual 671, 3) := by decide +kernel
theorem dX12_sayNumber_56 : decode cX12_sayNumber 56 = .ok (.iload_n 3, 1) := by decide +kernel
theorem dX12_sayNumber_57 : decode cX12_sayNumber 57 = .ok (.bipush 10, 2) := by decide +kernel
theorem dX12_sayNumber_59 : decode cX12_sayNumber 59 = .ok (.idiv, 1) := by decide +kernel
theorem dX12_sayNumber_60 : decode cX12_sayNumber 60 = .ok (.istore_n 3, 1) := by decide +kernel
theorem dX12_sayNumber_61 : decode cX12_sayNumber 61 = .ok (.goto (-22), 3) := by decide +kernel
theorem dX12_sayNumber_64 : decode cX12_sayNumber 64 = .ok (.return_, 1) := by decide +kernel
def F_X12_sayNumber (p0 : Int32) (σ : MS) : MR :=
  bnd (fun (t_1 : Int32) (σ_2 : MS) => (
    bnd (fun  (σ_6 : MS) => (
      loopF (fun (again_11 : (Int32 × MS) → MR) (s_10 : Int32 × MS) => (
        if s_10.1 = 0 then none else
        bnd ((t_1 / s_10.1)) fun (x_16 : Int32) =>
        if x_16 ≤ 9 then (
          loopF (fun (again_21 : (Int32 × MS) → MR) (s_20 : Int32 × MS) => (
            if s_20.1 ≤ 0 then (
              some (0, s_20.2)
            ) else (
              if s_20.1 = 0 then none else
              bnd ((t_1 / s_20.1)) fun (x_29 : Int32) =>
              bnd ((x_29 - x_29 / 10 * 10)) fun (x_31 : Int32) =>
              (F_X12_put (48 + x_31) s_20.2).bind fun u_33 =>
              bnd ((s_20.1 / 10)) fun (x_35 : Int32) =>
              again_21 (x_35, u_33.2)
            )
          )) FU (s_10.1, s_10.2)
        ) else (
          bnd ((s_10.1 * 10)) fun (x_38 : Int32) =>
          again_11 (x_38, s_10.2)
        )
      )) FU (1, σ_6)
    ) : MS → MR) fun j_7 =>
    if 0 ≤ p0 then (
      j_7  σ_2
    ) else (
      (F_X12_put 45 σ_2).bind fun u_43 =>
      j_7  u_43.2
    )
  ) : Int32 → MS → MR) fun j_3 =>
  if 0 ≤ p0 then (
    j_3 p0 σ
  ) else (
    j_3 (-p0) σ
  )
set_option maxHeartbeats 4000000 in
set_option maxRecDepth 100000 in
theorem m_X12_sayNumber (l : Launch) (dC : Nat → ClassId) (dI : Nat → Nat → Nat) (cB cC cI cJ cZ cP : ClassId) (h qK qS : Nat) (ad : Nat → Nat) (hDD : mDis cB cI cZ h qK qS ad) (sz : Nat)  (p0 : Int32) (σ : MS) (res : Int32 × MS) (hF : F_X12_sayNumber p0 σ = some res) : Met l yX12_sayNumber (g_ws yX12_sayNumber cX12_sayNumber 4 none) ({ frames := 2, cells := 0, slots := 0, locals := 61 }) (va_Pc [.ref h, .int p0] (m_B (dC, dI) [(cB, .byte), (cC, .char), (cI, .int), (cJ, .long), (cZ, .boolean), (cP, .object "StoryHouse$Play")] sz h ad qK qS (mW cB cI cZ h qK qS ad σ) g_0)) (va_Qv (fun (_ : Unit) => True) (fun _ t => va_P (dC, dI) vwCl (mW cB cI cZ h qK qS ad res.2) t.heap) (mCells h ad sz)) 0 0 (mCells h ad sz) := by
  refine Met.ofW (cc := cX12_sayNumber) (maxL := 4) (ret := none) (by decide) rfl ?_
  intro p e s m args below meth c s₁ B hml hv
  obtain ⟨rfl, hsz, hP, hK, hE, hKS, hX⟩ := hv
  have hx := B.exec
  have hb := B.bytes
  have hr := B.returns
  have hts0 := atoms_spec (ws := g_ws yX12_sayNumber cX12_sayNumber 4 none) B.pre
  have hts : ∀ w ∈ lw_good, w.before ([.ref h, .int p0] : List Value).toArray s = true := fun w z => hts0 w (List.mem_cons_of_mem _ z)
  have hown : s.vm.findClass RX12 = some m.cls := findClass_of_methodNamed B.named
  have hlocks := B.notSynchronized
  have hS : va_S (mCells h ad sz) s.heap s.heap [] := va_S.rf
  have hl := lv_entry ([.ref h, .int p0]) (n := 4) (Nat.le_of_ble_eq_true rfl)
  rw [lg_entry_eq]
  generalize (lg_sl ([.ref h, .int p0]) ++ List.replicate (4 - (lg_sl ([.ref h, .int p0])).length) Slot.unset).toArray = ls at hl ⊢
  have hl : lv_has ls 4 [(0, .ref h), (1, .int p0)] := hl
  unfold F_X12_sayNumber at hF
  refine lv_iload_n hx hb dX12_sayNumber_0 rfl (lv_at hl 1 rfl) ?_
  obtain ⟨j_3, ej_3, hF_4⟩ := bnd_e hF
  clear hF
  have Jj_3 : ∀ (t_1 : Int32) (σ_2 : MS), j_3 t_1 σ_2 = some res → ∀ (H : Heap) (locs : List Loc), va_P (dC, dI) vwCl (mW cB cI cZ h qK qS ad σ_2) H → va_S (mCells h ad sz) s.heap H locs → ∀ ls : Array Slot, lv_has ls 4 [(0, .ref h), (1, .int p0)] → W p l e (headSpec (g_ws yX12_sayNumber cX12_sayNumber 4 none) { frames := 2, cells := 0, slots := 0, locals := 61 }).room s m ([.ref h, .int p0] : List Value).toArray below meth c H locs 0 0 (MQ below (va_Qv (fun (_ : Unit) => True) (fun _ t => va_P (dC, dI) vwCl (mW cB cI cZ h qK qS ad res.2) t.heap) (mCells h ad sz)) ([.ref h, .int p0] : List Value).toArray s 0 0 (mCells h ad sz)) (F0 m 10 ls [.int t_1]) := by
    intro t_1 σ_2 hF0 H locs hP hS ls hl
    subst ej_3
    have hF_5 := hF0
    clear hF0
    refine lv_istore_n (lv' := [(2, .int t_1), (0, .ref h), (1, .int p0)]) hx hb dX12_sayNumber_10 rfl hl (by decide) rfl (fun ls hl => ?_)
    refine lv_iload_n hx hb dX12_sayNumber_11 rfl (lv_at hl 2 rfl) ?_
    obtain ⟨j_7, ej_7, hF_8⟩ := bnd_e hF_5
    clear hF_5
    have Jj_7 : ∀  (σ_6 : MS), j_7  σ_6 = some res → ∀ (H : Heap) (locs : List Loc), va_P (dC, dI) vwCl (mW cB cI cZ h qK qS ad σ_6) H → va_S (mCells h ad sz) s.heap H locs → ∀ ls : Array Slot, lv_has ls 4 [(0, .ref h), (2, .int t_1)] → W p l e (headSpec (g_ws yX12_sayNumber cX12_sayNumber 4 none) { frames := 2, cells := 0, slots := 0, locals := 61 }).room s m ([.ref h, .int p0] : List Value).toArray below meth c H locs 0 0 (MQ below (va_Qv (fun (_ : Unit) => True) (fun _ t => va_P (dC, dI) vwCl (mW cB cI cZ h qK qS ad res.2) t.heap) (mCells h ad sz)) ([.ref h, .int p0] : List Value).toArray s 0 0 (mCells h ad sz)) (F0 m 21 ls []) := by
      intro  σ_6 hF0 H locs hP hS ls hl
      subst ej_7
      have hF_9 := hF0
      clear hF0
      refine lv_iconst (v := 1) hx hb dX12_sayNumber_21 (by decide +kernel) ?_
      refine lv_istore_n (lv' := [(3, .int 1), (0, .ref h), (2, .int t_1)]) hx hb dX12_sayNumber_22 rfl hl (by decide) rfl (fun ls hl => ?_)
      refine loopF_ind (P := fun (s_10 : Int32 × MS) => ∀ (H : Heap) (locs : List Loc), va_P (dC, dI) vwCl (mW cB cI cZ h qK qS ad s_10.2) H → va_S (mCells h ad sz) s.heap H locs → ∀ ls : Array Slot, lv_has ls 4 [(0, .ref h), (2, .int t_1), (3, .int s_10.1)] → W p l e (headSpec (g_ws yX12_sayNumber cX12_sayNumber 4 none) { frames := 2, cells := 0, slots := 0, locals := 61 }).room s m ([.ref h, .int p0] : List Value).toArray below meth c H locs 0 0 (MQ below (va_Qv (fun (_ : Unit) => True) (fun _ t => va_P (dC, dI) vwCl (mW cB cI cZ h qK qS ad res.2) t.heap) (mCells h ad sz)) ([.ref h, .int p0] : List Value).toArray s 0 0 (mCells h ad sz)) (F0 m 23 ls [])) ?_ _ _ hF_9 _ _ hP hS ls (lv_sub hl [1, 2, 0] rfl)
      intro again_11 s_10 ih_12 hF_13
      intro H locs hP hS ls hl
      refine lv_iload_n hx hb dX12_sayNumber_23 rfl (lv_at hl 1 rfl) ?_
      refine lv_iload_n hx hb dX12_sayNumber_24 rfl (lv_at hl 2 rfl) ?_
      obtain ⟨g_14, hF_15⟩ := nif_e hF_13
      clear hF_13
      refine lv_idiv hx hb dX12_sayNumber_25 g_14 ?_
      obtain ⟨x_16, ex_16, hF_17⟩ := bnd_e hF_15
      clear hF_15
      refine m_top ex_16 ?_
      refine lv_bipush (v := 9) hx hb dX12_sayNumber_26 (by decide +kernel) ?_
      refine lv_icmp_le (tgt := 39) hx hb dX12_sayNumber_28 (by decide) (fun c_18 => ?_) (fun c_18 => ?_)
      · have hF_19 := ipos c_18 hF_17
        clear hF_17
        refine loopF_ind (P := fun (s_20 : Int32 × MS) => ∀ (H : Heap) (locs : List Loc), va_P (dC, dI) vwCl (mW cB cI cZ h qK qS ad s_20.2) H → va_S (mCells h ad sz) s.heap H locs → ∀ ls : Array Slot, lv_has ls 4 [(0, .ref h), (2, .int t_1), (3, .int s_20.1)] → W p l e (headSpec (g_ws yX12_sayNumber cX12_sayNumber 4 none) { frames := 2, cells := 0, slots := 0, locals := 61 }).room s m ([.ref h, .int p0] : List Value).toArray below meth c H locs 0 0 (MQ below (va_Qv (fun (_ : Unit) => True) (fun _ t => va_P (dC, dI) vwCl (mW cB cI cZ h qK qS ad res.2) t.heap) (mCells h ad sz)) ([.ref h, .int p0] : List Value).toArray s 0 0 (mCells h ad sz)) (F0 m 39 ls [])) ?_ _ _ hF_19 _ _ hP hS ls (lv_sub hl [0, 1, 2] rfl)
        intro again_21 s_20 ih_22 hF_23
        intro H locs hP hS ls hl
        refine lv_iload_n hx hb dX12_sayNumber_39 rfl (lv_at hl 2 rfl) ?_
        refine lv_if_le (tgt := 64) hx hb dX12_sayNumber_40 (by decide) (fun c_24 => ?_) (fun c_24 => ?_)
        · have hF_25 := ipos c_24 hF_23
          clear hF_23
          have h9 := Option.some.inj hF_25
          subst h9
          exact W.vret hx hb hr (fun t ht hW => ⟨⟨(), rfl, trivial, m_end ht hP⟩, hS.F ht⟩) hS.2.2 dX12_sayNumber_64
        · have hF_26 := ineg c_24 hF_23
          clear hF_23
          refine lv_aload_n hx hb dX12_sayNumber_43 rfl (lv_at hl 0 rfl) ?_
          refine lv_bipush (v := 48) hx hb dX12_sayNumber_44 (by decide +kernel) ?_
          refine lv_iload_n hx hb dX12_sayNumber_46 rfl (lv_at hl 1 rfl) ?_
          refine lv_iload_n hx hb dX12_sayNumber_47 rfl (lv_at hl 2 rfl) ?_
          obtain ⟨g_27, hF_28⟩ := nif_e hF_26
          clear hF_26
          refine lv_idiv hx hb dX12_sayNumber_48 g_27 ?_
          obtain ⟨x_29, ex_29, hF_30⟩ := bnd_e hF_28
          clear hF_28
          refine m_top ex_29 ?_
          refine lv_bipush (v := 10) hx hb dX12_sayNumber_49 (by decide +kernel) ?_
          refine lv_irem hx hb dX12_sayNumber_51 (by decide +kernel) ?_
          obtain ⟨x_31, ex_31, hF_32⟩ := bnd_e hF_30
          clear hF_30
          refine m_top ex_31 ?_
          refine lv_iadd hx hb dX12_sayNumber_52 ?_
          obtain ⟨u_33, hu_33, hF_34⟩ := Option.bind_eq_some_iff.mp hF_32
          clear hF_32
          refine m_cv hsz hS (va_runV (As := [.int (48 + x_31)]) (rest := []) ⟨hx, hb, hml, hown, hts⟩ (m_X12_put l dC dI cB cC cI cJ cZ cP h qK qS ad hDD H.size  (48 + x_31) s_20.2 _ hu_33) (cwV 1 hts (g_gV wq_1773 wq_1774 wq_2200 wq_13 wq_1775) rfl rfl rfl (by decide +kernel) ⟨Nat.le_of_ble_eq_true rfl, Nat.le_of_ble_eq_true rfl⟩) (m_preV g_bl0 hsz hK hP hS hE hKS g_to0) rfl rfl hl.1 rfl (lv_room (Nat.le_of_ble_eq_true rfl)) dX12_sayNumber_53 ⟨Nat.le_of_ble_eq_true rfl, Nat.le_of_ble_eq_true rfl⟩) (fun H locs hP hS => ?_)
          refine lv_iload_n hx hb dX12_sayNumber_56 rfl (lv_at hl 2 rfl) ?_
          refine lv_bipush (v := 10) hx hb dX12_sayNumber_57 (by decide +kernel) ?_
          refine lv_idiv hx hb dX12_sayNumber_59 (by decide +kernel) ?_
          obtain ⟨x_35, ex_35, hF_36⟩ := bnd_e hF_34
          clear hF_34
          refine m_top ex_35 ?_
          refine lv_istore_n (lv' := [(3, .int x_35), (0, .ref h), (2, .int t_1)]) hx hb dX12_sayNumber_60 rfl hl (by decide) rfl (fun ls hl => ?_)
          refine lv_goto (tgt := 39) hx hb dX12_sayNumber_61 (by decide) ?_
          exact ih_22 (x_35, u_33.2) hF_36 _ _ hP hS ls (lv_sub hl [1, 2, 0] rfl)
      · have hF_37 := ineg c_18 hF_17
        clear hF_17
        refine lv_iload_n hx hb dX12_sayNumber_31 rfl (lv_at hl 2 rfl) ?_
        refine lv_bipush (v := 10) hx hb dX12_sayNumber_32 (by decide +kernel) ?_
        refine lv_imul hx hb dX12_sayNumber_34 ?_
        obtain ⟨x_38, ex_38, hF_39⟩ := bnd_e hF_37
        clear hF_37
        refine m_top ex_38 ?_
        refine lv_istore_n (lv' := [(3, .int x_38), (0, .ref h), (2, .int t_1)]) hx hb dX12_sayNumber_35 rfl hl (by decide) rfl (fun ls hl => ?_)
        refine lv_goto (tgt := 23) hx hb dX12_sayNumber_36 (by decide) ?_
        exact ih_12 (x_38, s_10.2) hF_39 _ _ hP hS ls (lv_sub hl [1, 2, 0] rfl)
    refine lv_if_ge (tgt := 21) hx hb dX12_sayNumber_12 (by decide) (fun c_40 => ?_) (fun c_40 => ?_)
    · have hF_41 := ipos c_40 hF_8
      clear hF_8
      exact Jj_7  σ_2 hF_41 _ _ hP hS ls (lv_sub hl [1, 0] rfl)
    · have hF_42 := ineg c_40 hF_8
      clear hF_8
      refine lv_aload_n hx hb dX12_sayNumber_15 rfl (lv_at hl 1 rfl) ?_
      refine lv_bipush (v := 45) hx hb dX12_sayNumber_16 (by decide +kernel) ?_
      obtain ⟨u_43, hu_43, hF_44⟩ := Option.bind_eq_some_iff.mp hF_42
      clear hF_42
      refine m_cv hsz hS (va_runV (As := [.int 45]) (rest := []) ⟨hx, hb, hml, hown, hts⟩ (m_X12_put l dC dI cB cC cI cJ cZ cP h qK qS ad hDD H.size  45 σ_2 _ hu_43) (cwV 1 hts (g_gV wq_1773 wq_1774 wq_2200 wq_13 wq_1775) rfl rfl rfl (by decide +kernel) ⟨Nat.le_of_ble_eq_true rfl, Nat.le_of_ble_eq_true rfl⟩) (m_preV g_bl0 hsz hK hP hS hE hKS g_to0) rfl rfl hl.1 rfl (lv_room (Nat.le_of_ble_eq_true rfl)) dX12_sayNumber_18 ⟨Nat.le_of_ble_eq_true rfl, Nat.le_of_ble_eq_true rfl⟩) (fun H locs hP hS => ?_)
      exact Jj_7  u_43.2 hF_44 _ _ hP hS ls (lv_sub hl [1, 0] rfl)
  refine lv_if_ge (tgt := 9) hx hb dX12_sayNumber_1 (by decide) (fun c_45 => ?_) (fun c_45 => ?_)
  · have hF_46 := ipos c_45 hF_4
    clear hF_4
    refine lv_iload_n hx hb dX12_sayNumber_9 rfl (lv_at hl 1 rfl) ?_
    exact Jj_3 p0 σ hF_46 _ _ hP hS ls (lv_sub hl [0, 1] rfl)
  · have hF_47 := ineg c_45 hF_4
    clear hF_4
    refine lv_iload_n hx hb dX12_sayNumber_4 rfl (lv_at hl 1 rfl) ?_
    refine lv_ineg hx hb dX12_sayNumber_5 ?_
    refine lv_goto (tgt := 10) hx hb dX12_sayNumber_6 (by decide) ?_
    exact Jj_3 (-p0) σ hF_47 _ _ hP hS ls (lv_sub hl [0, 1] rfl)
theorem dX12_sayName_0 : decode cX12_sayName 0 = .ok (.iload_n 1, 1) := by decide +kernel
theorem dX12_sayName_1 : decode cX12_sayName 1 = .ok (.iconst 1, 1) := by decide +kernel
theorem dX12_sayName_2 : decode cX12_sayName 2 = .ok (.if_icmp .ne 13, 3) := by decide +kernel
theorem dX12_sayName_5 : decode cX12_sayName 5 = .ok (.aload_n 0, 1) := by decide +kernel
theorem dX12_sayName_6 : decode cX12_sayName 6 = .ok (.ldc_w 677, 3) := by decide +kernel
theorem dX12_sayName_9 : decode cX12_sayName 9 = .ok (.invokevirtual 673, 3) := by decide +kernel
theorem dX12_sayName_12 : decode cX12_sayName 12 = .ok (.goto 19, 3) := by decide +kernel
theorem dX12_sayName_15 : decode cX12_sayName 15 = .ok (.aload_n 0, 1) := by decide +kernel
theorem dX12_sayName_16 : decode cX12_sayName 16 = .ok (.aload_n 0, 1) := by decide +kernel
theorem dX12_sayName_17 : decode cX12_sayName 17 = .ok (.getfield 85, 3) := by decide +kernel
theorem dX12_sayName_20 : decode cX12_sayName 20 = .ok (.iload_n 1, 1) := by decide +kernel
theorem dX12_sayName_21 : decode cX12_sayName 21 = .ok (.iaload, 1) := by decide +kernel
theorem dX12_sayName_22 : decode cX12_sayName 22 = .ok (.aload_n 0, 1) := by decide +kernel
theorem dX12_sayName_23 : decode cX12_sayName 23 = .ok (.getfield 88, 3) := by decide +kernel
theorem dX12_sayName_26 : decode cX12_sayName 26 = .ok (.iload_n 1, 1) := by decide +kernel
theorem dX12_sayName_27 : decode cX12_sayName 27 = .ok (.iaload, 1) := by decide +kernel
theorem dX12_sayName_28 : decode cX12_sayName 28 = .ok (.invokevirtual 679, 3) := by decide +kernel
theorem dX12_sayName_31 : decode cX12_sayName 31 = .ok (.return_, 1) := by decide +kernel
def F_X12_sayName (p0 : Int32) (σ : MS) : MR :=
  if p0 = 1 then (
    (F_X12_say ([121, 111, 117, 114, 115, 101, 108, 102] : List Int32) σ).bind fun u_4 =>
    some (0, u_4.2)
  ) else (
    if p0 < 0 ∨ 121 ≤ p0.toNatClampNeg then none else
    if p0 < 0 ∨ 121 ≤ p0.toNatClampNeg then none else
    (F_X12_sayText (σ.2 46 p0.toNatClampNeg) (σ.2 47 p0.toNatClampNeg) σ).bind fun u_11 =>
    some (0, u_11.2)
  )
set_option maxHeartbeats 4000000 in
set_option maxRecDepth 100000 in
theorem m_X12_sayName (l : Launch) (dC : Nat → ClassId) (dI : Nat → Nat → Nat) (cB cC cI cJ cZ cP : ClassId) (h qK qS : Nat) (ad : Nat → Nat) (hDD : mDis cB cI cZ h qK qS ad) (sz : Nat)  (p0 : Int32) (σ : MS) (res : Int32 × MS) (hF : F_X12_sayName p0 σ = some res) : Met l yX12_sayName (g_ws yX12_sayName cX12_sayName 2 none) ({ frames := 6, cells := 0, slots := 0, locals := 147 }) (va_Pc [.ref h, .int p0] (m_B (dC, dI) [(cB, .byte), (cC, .char), (cI, .int), (cJ, .long), (cZ, .boolean), (cP, .object "StoryHouse$Play")] sz h ad qK qS (mW cB cI cZ h qK qS ad σ) g_0)) (va_Qv (fun (_ : Unit) => True) (fun _ t => va_P (dC, dI) vwCl (mW cB cI cZ h qK qS ad res.2) t.heap) (mCells h ad sz)) 0 0 (mCells h ad sz) := by
  refine Met.ofW (cc := cX12_sayName) (maxL := 2) (ret := none) (by decide) rfl ?_
  intro p e s m args below meth c s₁ B hml hv
  obtain ⟨rfl, hsz, hP, hK, hE, hKS, hX⟩ := hv
  have hx := B.exec
  have hb := B.bytes
  have hr := B.returns
  have hts0 := atoms_spec (ws := g_ws yX12_sayName cX12_sayName 2 none) B.pre
  have hts : ∀ w ∈ lw_good, w.before ([.ref h, .int p0] : List Value).toArray s = true := fun w z => hts0 w (List.mem_cons_of_mem _ z)
  have hown : s.vm.findClass RX12 = some m.cls := findClass_of_methodNamed B.named
  have hlocks := B.notSynchronized
  have hS : va_S (mCells h ad sz) s.heap s.heap [] := va_S.rf
  have hl := lv_entry ([.ref h, .int p0]) (n := 2) (Nat.le_of_ble_eq_true rfl)
  rw [lg_entry_eq]
  generalize (lg_sl ([.ref h, .int p0]) ++ List.replicate (2 - (lg_sl ([.ref h, .int p0])).length) Slot.unset).toArray = ls at hl ⊢
  have hl : lv_has ls 2 [(0, .ref h), (1, .int p0)] := hl
  unfold F_X12_sayName at hF
  refine lv_iload_n hx hb dX12_sayName_0 rfl (lv_at hl 1 rfl) ?_
  refine lv_iconst (v := 1) hx hb dX12_sayName_1 (by decide +kernel) ?_
  refine lv_icmp_ne (tgt := 15) hx hb dX12_sayName_2 (by decide) (fun c_1 => ?_) (fun c_1 => ?_)
  · have hF_6 := ineg c_1 hF
    clear hF
    refine lv_aload_n hx hb dX12_sayName_15 rfl (lv_at hl 0 rfl) ?_
    refine lv_aload_n hx hb dX12_sayName_16 rfl (lv_at hl 0 rfl) ?_
    refine va_get (D := (dC, dI)) (ci := 12) (v := .ref (ad 46)) (C := RX12) (T := TX12) (N := 123) hx hb hts ii_X12 hown hK hP 0 rfl rfl 46 (by decide) (hts (.fieldLink RX12 85 "StoryHouseModel" "calledAt" "[I") wq_1402) (fun _ h9 => h9) rfl dX12_sayName_17 ?_
    refine lv_iload_n hx hb dX12_sayName_20 rfl (lv_at hl 1 rfl) ?_
    obtain ⟨g_7, hF_8⟩ := nif_e hF_6
    clear hF_6
    refine va_iald (f := σ.2 46) hx hb hK hP 20 2 rfl rfl g_7 dX12_sayName_21 ?_
    refine lv_aload_n hx hb dX12_sayName_22 rfl (lv_at hl 0 rfl) ?_
    refine va_get (D := (dC, dI)) (ci := 12) (v := .ref (ad 47)) (C := RX12) (T := TX12) (N := 123) hx hb hts ii_X12 hown hK hP 0 rfl rfl 47 (by decide) (hts (.fieldLink RX12 88 "StoryHouseModel" "calledSize" "[I") wq_1403) (fun _ h9 => h9) rfl dX12_sayName_23 ?_
    refine lv_iload_n hx hb dX12_sayName_26 rfl (lv_at hl 1 rfl) ?_
    obtain ⟨g_9, hF_10⟩ := nif_e hF_8
    clear hF_8
    refine va_iald (f := σ.2 47) hx hb hK hP 21 2 rfl rfl g_9 dX12_sayName_27 ?_
    obtain ⟨u_11, hu_11, hF_12⟩ := Option.bind_eq_some_iff.mp hF_10
    clear hF_10
    refine m_cv hsz hS (va_runV (As := [.int (σ.2 46 p0.toNatClampNeg), .int (σ.2 47 p0.toNatClampNeg)]) (rest := []) ⟨hx, hb, hml, hown, hts⟩ (m_X12_sayText l dC dI cB cC cI cJ cZ cP h qK qS ad hDD s.heap.size  (σ.2 46 p0.toNatClampNeg) (σ.2 47 p0.toNatClampNeg) σ _ hu_11) (cwV 2 hts (g_gV wq_1779 wq_1780 wq_2202 wq_13 wq_1781) rfl rfl rfl (by decide +kernel) ⟨Nat.le_of_ble_eq_true rfl, Nat.le_of_ble_eq_true rfl⟩) (m_preV g_bl0 hsz hK hP hS hE hKS g_to0) rfl rfl hl.1 rfl (lv_room (Nat.le_of_ble_eq_true rfl)) dX12_sayName_28 ⟨Nat.le_of_ble_eq_true rfl, Nat.le_of_ble_eq_true rfl⟩) (fun H locs hP hS => ?_)
    have h9 := Option.some.inj hF_12
    subst h9
    exact W.vret hx hb hr (fun t ht hW => ⟨⟨(), rfl, trivial, m_end ht hP⟩, hS.F ht⟩) hS.2.2 dX12_sayName_31
  · have hF_2 := ipos c_1 hF
    clear hF
    refine lv_aload_n hx hb dX12_sayName_5 rfl (lv_at hl 0 rfl) ?_
    obtain ⟨q_3, vq_3, hRq_3, hSq_3⟩ := hE.2.2.2.2 _ (List.mem_of_getElem? (i := 101) rfl)
    refine g_ldcwS (own := RX12) (tx := "yourself") hx hb hown hRq_3 dX12_sayName_6 ?_
    obtain ⟨u_4, hu_4, hF_5⟩ := Option.bind_eq_some_iff.mp hF_2
    clear hF_2
    refine m_cv hsz hS (va_runV (As := [.ref q_3]) (rest := []) ⟨hx, hb, hml, hown, hts⟩ (m_X12_say l dC dI cB cC cI cJ cZ cP h qK qS ad hDD s.heap.size q_3 _ ([121, 111, 117, 114, 115, 101, 108, 102] : List Int32) σ _ hu_4) (cwV 1 hts (g_gV wq_1770 wq_1771 wq_2199 wq_13 wq_1772) rfl rfl rfl (by decide +kernel) ⟨Nat.le_of_ble_eq_true rfl, Nat.le_of_ble_eq_true rfl⟩) (m_preV g_blS hsz hK hP hS hE hKS (g_toS hSq_3 hS (m_narrow hS hsz))) rfl rfl hl.1 rfl (lv_room (Nat.le_of_ble_eq_true rfl)) dX12_sayName_9 ⟨Nat.le_of_ble_eq_true rfl, Nat.le_of_ble_eq_true rfl⟩) (fun H locs hP hS => ?_)
    refine lv_goto (tgt := 31) hx hb dX12_sayName_12 (by decide) ?_
    have h9 := Option.some.inj hF_5
    subst h9
    exact W.vret hx hb hr (fun t ht hW => ⟨⟨(), rfl, trivial, m_end ht hP⟩, hS.F ht⟩) hS.2.2 dX12_sayName_31
theorem dX12_takeOut_0 : decode cX12_takeOut 0 = .ok (.aload_n 0, 1) := by decide +kernel
theorem dX12_takeOut_1 : decode cX12_takeOut 1 = .ok (.getfield 182, 3) := by decide +kernel
theorem dX12_takeOut_4 : decode cX12_takeOut 4 = .ok (.iload_n 1, 1) := by decide +kernel
theorem dX12_takeOut_5 : decode cX12_takeOut 5 = .ok (.iaload, 1) := by decide +kernel
theorem dX12_takeOut_6 : decode cX12_takeOut 6 = .ok (.istore_n 2, 1) := by decide +kernel
theorem dX12_takeOut_7 : decode cX12_takeOut 7 = .ok (.iload_n 2, 1) := by decide +kernel
theorem dX12_takeOut_8 : decode cX12_takeOut 8 = .ok (.ifCond .ne 4, 3) := by decide +kernel
theorem dX12_takeOut_11 : decode cX12_takeOut 11 = .ok (.return_, 1) := by decide +kernel
theorem dX12_takeOut_12 : decode cX12_takeOut 12 = .ok (.aload_n 0, 1) := by decide +kernel
theorem dX12_takeOut_13 : decode cX12_takeOut 13 = .ok (.getfield 185, 3) := by decide +kernel
theorem dX12_takeOut_16 : decode cX12_takeOut 16 = .ok (.iload_n 2, 1) := by decide +kernel
theorem dX12_takeOut_17 : decode cX12_takeOut 17 = .ok (.iaload, 1) := by decide +kernel
theorem dX12_takeOut_18 : decode cX12_takeOut 18 = .ok (.iload_n 1, 1) := by decide +kernel
theorem dX12_takeOut_19 : decode cX12_takeOut 19 = .ok (.if_icmp .ne 18, 3) := by decide +kernel
theorem dX12_takeOut_22 : decode cX12_takeOut 22 = .ok (.aload_n 0, 1) := by decide +kernel
theorem dX12_takeOut_23 : decode cX12_takeOut 23 = .ok (.getfield 185, 3) := by decide +kernel
theorem dX12_takeOut_26 : decode cX12_takeOut 26 = .ok (.iload_n 2, 1) := by decide +kernel
theorem dX12_takeOut_27 : decode cX12_takeOut 27 = .ok (.aload_n 0, 1) := by decide +kernel
theorem dX12_takeOut_28 : decode cX12_takeOut 28 = .ok (.getfield 188, 3) := by decide +kernel
theorem dX12_takeOut_31 : decode cX12_takeOut 31 = .ok (.iload_n 1, 1) := by decide +kernel
theorem dX12_takeOut_32 : decode cX12_takeOut 32 = .ok (.iaload, 1) := by decide +kernel
theorem dX12_takeOut_33 : decode cX12_takeOut 33 = .ok (.iastore, 1) := by decide +kernel
theorem dX12_takeOut_34 : decode cX12_takeOut 34 = .ok (.goto 42, 3) := by decide +kernel
theorem dX12_takeOut_37 : decode cX12_takeOut 37 = .ok (.aload_n 0, 1) := by decide +kernel
theorem dX12_takeOut_38 : decode cX12_takeOut 38 = .ok (.getfield 185, 3) := by decide +kernel
theorem dX12_takeOut_41 : decode cX12_takeOut 41 = .ok (.iload_n 2, 1) := by decide +kernel
theorem dX12_takeOut_42 : decode cX12_takeOut 42 = .ok (.iaload, 1) := by decide +kernel
theorem dX12_takeOut_43 : decode cX12_takeOut 43 = .ok (.istore_n 3, 1) := by decide +kernel
theorem dX12_takeOut_44 : decode cX12_takeOut 44 = .ok (.aload_n 0, 1) := by decide +kernel
theorem dX12_takeOut_45 : decode cX12_takeOut 45 = .ok (.getfield 188, 3) := by decide +kernel
theorem dX12_takeOut_48 : decode cX12_takeOut 48 = .ok (.iload_n 3, 1) := by decide +kernel
theorem dX12_takeOut_49 : decode cX12_takeOut 49 = .ok (.iaload, 1) := by decide +kernel
theorem dX12_takeOut_50 : decode cX12_takeOut 50 = .ok (.iload_n 1, 1) := by decide +kernel
theorem dX12_takeOut_51 : decode cX12_takeOut 51 = .ok (.if_icmp .eq 13, 3) := by decide +kernel
theorem dX12_takeOut_54 : decode cX12_takeOut 54 = .ok (.aload_n 0, 1) := by decide +kernel
theorem dX12_takeOut_55 : decode cX12_takeOut 55 = .ok (.getfield 188, 3) := by decide +kernel
theorem dX12_takeOut_58 : decode cX12_takeOut 58 = .ok (.iload_n 3, 1) := by decide +kernel
theorem dX12_takeOut_59 : decode cX12_takeOut 59 = .ok (.iaload, 1) := by decide +kernel
theorem dX12_takeOut_60 : decode cX12_takeOut 60 = .ok (.istore_n 3, 1) := by decide +kernel
theorem dX12_takeOut_61 : decode cX12_takeOut 61 = .ok (.goto (-17), 3) := by decide +kernel
theorem dX12_takeOut_64 : decode cX12_takeOut 64 = .ok (.aload_n 0, 1) := by decide +kernel
theorem dX12_takeOut_65 : decode cX12_takeOut 65 = .ok (.getfield 188, 3) := by decide +kernel
theorem dX12_takeOut_68 : decode cX12_takeOut 68 = .ok (.iload_n 3, 1) := by decide +kernel
theorem dX12_takeOut_69 : decode cX12_takeOut 69 = .ok (.aload_n 0, 1) := by decide +kernel
theorem dX12_takeOut_70 : decode cX12_takeOut 70 = .ok (.getfield 188, 3) := by decide +kernel
theorem dX12_takeOut_73 : decode cX12_takeOut 73 = .ok (.iload_n 1, 1) := by decide +kernel
theorem dX12_takeOut_74 : decode cX12_takeOut 74 = .ok (.iaload, 1) := by decide +kernel
theorem dX12_takeOut_75 : decode cX12_takeOut 75 = .ok (.iastore, 1) := by decide +kernel
theorem dX12_takeOut_76 : decode cX12_takeOut 76 = .ok (.aload_n 0, 1) := by decide +kernel
theorem dX12_takeOut_77 : decode cX12_takeOut 77 = .ok (.getfield 182, 3) := by decide +kernel
theorem dX12_takeOut_80 : decode cX12_takeOut 80 = .ok (.iload_n 1, 1) := by decide +kernel
theorem dX12_takeOut_81 : decode cX12_takeOut 81 = .ok (.iconst 0, 1) := by decide +kernel
theorem dX12_takeOut_82 : decode cX12_takeOut 82 = .ok (.iastore, 1) := by decide +kernel
theorem dX12_takeOut_83 : decode cX12_takeOut 83 = .ok (.aload_n 0, 1) := by decide +kernel
theorem dX12_takeOut_84 : decode cX12_takeOut 84 = .ok (.getfield 188, 3) := by decide +kernel
theorem dX12_takeOut_87 : decode cX12_takeOut 87 = .ok (.iload_n 1, 1) := by decide +kernel
theorem dX12_takeOut_88 : decode cX12_takeOut 88 = .ok (.iconst 0, 1) := by decide +kernel
theorem dX12_takeOut_89 : decode cX12_takeOut 89 = .ok (.iastore, 1) := by decide +kernel
theorem dX12_takeOut_90 : decode cX12_takeOut 90 = .ok (.return_, 1) := by decide +kernel
def F_X12_takeOut (p0 : Int32) (σ : MS) : MR :=
  if p0 < 0 ∨ 121 ≤ p0.toNatClampNeg then none else
  bnd ((σ.2 87 p0.toNatClampNeg)) fun (x_3 : Int32) =>
  if x_3 = 0 then (
    some (0, σ)
  ) else (
    if x_3 < 0 ∨ 121 ≤ x_3.toNatClampNeg then none else
    bnd (fun  (σ_10 : MS) => (
      if p0 < 0 ∨ 121 ≤ p0.toNatClampNeg then none else
      bnd (mA σ_10 87 (upd (σ_10.2 87) p0.toNatClampNeg 0)) fun σ_16 =>
      if p0 < 0 ∨ 121 ≤ p0.toNatClampNeg then none else
      bnd (mA σ_16 89 (upd (σ_16.2 89) p0.toNatClampNeg 0)) fun σ_20 =>
      some (0, σ_20)
    ) : MS → MR) fun j_11 =>
    if (σ.2 88 x_3.toNatClampNeg) = p0 then (
      if p0 < 0 ∨ 121 ≤ p0.toNatClampNeg then none else
      if x_3 < 0 ∨ 121 ≤ x_3.toNatClampNeg then none else
      bnd (mA σ 88 (upd (σ.2 88) x_3.toNatClampNeg (σ.2 89 p0.toNatClampNeg))) fun σ_28 =>
      j_11  σ_28
    ) else (
      if x_3 < 0 ∨ 121 ≤ x_3.toNatClampNeg then none else
      bnd ((σ.2 88 x_3.toNatClampNeg)) fun (x_33 : Int32) =>
      loopF (fun (again_36 : (Int32 × MS) → MR) (s_35 : Int32 × MS) => (
        if s_35.1 < 0 ∨ 121 ≤ s_35.1.toNatClampNeg then none else
        if (s_35.2.2 89 s_35.1.toNatClampNeg) = p0 then (
          if p0 < 0 ∨ 121 ≤ p0.toNatClampNeg then none else
          if s_35.1 < 0 ∨ 121 ≤ s_35.1.toNatClampNeg then none else
          bnd (mA s_35.2 89 (upd (s_35.2.2 89) s_35.1.toNatClampNeg (s_35.2.2 89 p0.toNatClampNeg))) fun σ_47 =>
          j_11  σ_47
        ) else (
          if s_35.1 < 0 ∨ 121 ≤ s_35.1.toNatClampNeg then none else
          bnd ((s_35.2.2 89 s_35.1.toNatClampNeg)) fun (x_52 : Int32) =>
          again_36 (x_52, s_35.2)
        )
      )) FU (x_33, σ)
    )
  )
set_option maxHeartbeats 4000000 in
set_option maxRecDepth 100000 in
theorem m_X12_takeOut (l : Launch) (dC : Nat → ClassId) (dI : Nat → Nat → Nat) (cB cC cI cJ cZ cP : ClassId) (h qK qS : Nat) (ad : Nat → Nat) (hDD : mDis cB cI cZ h qK qS ad) (sz : Nat)  (p0 : Int32) (σ : MS) (res : Int32 × MS) (hF : F_X12_takeOut p0 σ = some res) : Met l yX12_takeOut (g_ws yX12_takeOut cX12_takeOut 4 none) ({ frames := 1, cells := 0, slots := 0, locals := 40 }) (va_Pc [.ref h, .int p0] (m_B (dC, dI) [(cB, .byte), (cC, .char), (cI, .int), (cJ, .long), (cZ, .boolean), (cP, .object "StoryHouse$Play")] sz h ad qK qS (mW cB cI cZ h qK qS ad σ) g_0)) (va_Qv (fun (_ : Unit) => True) (fun _ t => va_P (dC, dI) vwCl (mW cB cI cZ h qK qS ad res.2) t.heap) (mCells h ad sz)) 0 0 (mCells h ad sz) := by
  refine Met.ofW (cc := cX12_takeOut) (maxL := 4) (ret := none) (by decide) rfl ?_
  intro p e s m args below meth c s₁ B hml hv
  obtain ⟨rfl, hsz, hP, hK, hE, hKS, hX⟩ := hv
  have hx := B.exec
  have hb := B.bytes
  have hr := B.returns
  have hts0 := atoms_spec (ws := g_ws yX12_takeOut cX12_takeOut 4 none) B.pre
  have hts : ∀ w ∈ lw_good, w.before ([.ref h, .int p0] : List Value).toArray s = true := fun w z => hts0 w (List.mem_cons_of_mem _ z)
  have hown : s.vm.findClass RX12 = some m.cls := findClass_of_methodNamed B.named
  have hlocks := B.notSynchronized
  have hS : va_S (mCells h ad sz) s.heap s.heap [] := va_S.rf
  have hl := lv_entry ([.ref h, .int p0]) (n := 4) (Nat.le_of_ble_eq_true rfl)
  rw [lg_entry_eq]
  generalize (lg_sl ([.ref h, .int p0]) ++ List.replicate (4 - (lg_sl ([.ref h, .int p0])).length) Slot.unset).toArray = ls at hl ⊢
  have hl : lv_has ls 4 [(0, .ref h), (1, .int p0)] := hl
  unfold F_X12_takeOut at hF
  refine lv_aload_n hx hb dX12_takeOut_0 rfl (lv_at hl 0 rfl) ?_
  refine va_get (D := (dC, dI)) (ci := 12) (v := .ref (ad 87)) (C := RX12) (T := TX12) (N := 123) hx hb hts ii_X12 hown hK hP 0 rfl rfl 87 (by decide) (hts (.fieldLink RX12 182 "StoryHouseModel" "holder" "[I") wq_1443) (fun _ h9 => h9) rfl dX12_takeOut_1 ?_
  refine lv_iload_n hx hb dX12_takeOut_4 rfl (lv_at hl 1 rfl) ?_
  obtain ⟨g_1, hF_2⟩ := nif_e hF
  clear hF
  refine va_iald (f := σ.2 87) hx hb hK hP 52 2 rfl rfl g_1 dX12_takeOut_5 ?_
  obtain ⟨x_3, ex_3, hF_4⟩ := bnd_e hF_2
  clear hF_2
  refine m_top ex_3 ?_
  refine lv_istore_n (lv' := [(2, .int x_3), (0, .ref h), (1, .int p0)]) hx hb dX12_takeOut_6 rfl hl (by decide) rfl (fun ls hl => ?_)
  refine lv_iload_n hx hb dX12_takeOut_7 rfl (lv_at hl 0 rfl) ?_
  refine lv_if_ne (tgt := 12) hx hb dX12_takeOut_8 (by decide) (fun c_5 => ?_) (fun c_5 => ?_)
  · have hF_7 := ineg c_5 hF_4
    clear hF_4
    refine lv_aload_n hx hb dX12_takeOut_12 rfl (lv_at hl 1 rfl) ?_
    refine va_get (D := (dC, dI)) (ci := 12) (v := .ref (ad 88)) (C := RX12) (T := TX12) (N := 123) hx hb hts ii_X12 hown hK hP 0 rfl rfl 88 (by decide) (hts (.fieldLink RX12 185 "StoryHouseModel" "first" "[I") wq_1444) (fun _ h9 => h9) rfl dX12_takeOut_13 ?_
    refine lv_iload_n hx hb dX12_takeOut_16 rfl (lv_at hl 0 rfl) ?_
    obtain ⟨g_8, hF_9⟩ := nif_e hF_7
    clear hF_7
    refine va_iald (f := σ.2 88) hx hb hK hP 53 2 rfl rfl g_8 dX12_takeOut_17 ?_
    refine lv_iload_n hx hb dX12_takeOut_18 rfl (lv_at hl 2 rfl) ?_
    obtain ⟨j_11, ej_11, hF_12⟩ := bnd_e hF_9
    clear hF_9
    have Jj_11 : ∀  (σ_10 : MS), j_11  σ_10 = some res → ∀ (H : Heap) (locs : List Loc), va_P (dC, dI) vwCl (mW cB cI cZ h qK qS ad σ_10) H → va_S (mCells h ad sz) s.heap H locs → ∀ ls : Array Slot, lv_has ls 4 [(0, .ref h), (1, .int p0)] → W p l e (headSpec (g_ws yX12_takeOut cX12_takeOut 4 none) { frames := 1, cells := 0, slots := 0, locals := 40 }).room s m ([.ref h, .int p0] : List Value).toArray below meth c H locs 0 0 (MQ below (va_Qv (fun (_ : Unit) => True) (fun _ t => va_P (dC, dI) vwCl (mW cB cI cZ h qK qS ad res.2) t.heap) (mCells h ad sz)) ([.ref h, .int p0] : List Value).toArray s 0 0 (mCells h ad sz)) (F0 m 76 ls []) := by
      intro  σ_10 hF0 H locs hP hS ls hl
      subst ej_11
      have hF_13 := hF0
      clear hF0
      refine lv_aload_n hx hb dX12_takeOut_76 rfl (lv_at hl 0 rfl) ?_
      refine va_get (D := (dC, dI)) (ci := 12) (v := .ref (ad 87)) (C := RX12) (T := TX12) (N := 123) hx hb hts ii_X12 hown hK hP 0 rfl rfl 87 (by decide) (hts (.fieldLink RX12 182 "StoryHouseModel" "holder" "[I") wq_1443) (fun _ h9 => h9) rfl dX12_takeOut_77 ?_
      refine lv_iload_n hx hb dX12_takeOut_80 rfl (lv_at hl 1 rfl) ?_
      refine lv_iconst (v := 0) hx hb dX12_takeOut_81 (by decide +kernel) ?_
      obtain ⟨g_14, hF_15⟩ := nif_e hF_13
      clear hF_13
      obtain ⟨σ_16, eσ_16, hF_17⟩ := bnd_e hF_15
      clear hF_15
      refine m_iast (σ' := σ_16) hx hb hK hP (hDD _ _) hS (q0 := 52) (t0 := 2) (f := σ_10.2 87) rfl rfl (by rw [eσ_16]; exact mwA_87) g_14 dX12_takeOut_82 (fun H locs hP hS => ?_)
      refine lv_aload_n hx hb dX12_takeOut_83 rfl (lv_at hl 0 rfl) ?_
      refine va_get (D := (dC, dI)) (ci := 12) (v := .ref (ad 89)) (C := RX12) (T := TX12) (N := 123) hx hb hts ii_X12 hown hK hP 0 rfl rfl 89 (by decide) (hts (.fieldLink RX12 188 "StoryHouseModel" "next" "[I") wq_1445) (fun _ h9 => h9) rfl dX12_takeOut_84 ?_
      refine lv_iload_n hx hb dX12_takeOut_87 rfl (lv_at hl 1 rfl) ?_
      refine lv_iconst (v := 0) hx hb dX12_takeOut_88 (by decide +kernel) ?_
      obtain ⟨g_18, hF_19⟩ := nif_e hF_17
      clear hF_17
      obtain ⟨σ_20, eσ_20, hF_21⟩ := bnd_e hF_19
      clear hF_19
      refine m_iast (σ' := σ_20) hx hb hK hP (hDD _ _) hS (q0 := 54) (t0 := 2) (f := σ_16.2 89) rfl rfl (by rw [eσ_20]; exact mwA_89) g_18 dX12_takeOut_89 (fun H locs hP hS => ?_)
      have h9 := Option.some.inj hF_21
      subst h9
      exact W.vret hx hb hr (fun t ht hW => ⟨⟨(), rfl, trivial, m_end ht hP⟩, hS.F ht⟩) hS.2.2 dX12_takeOut_90
    refine lv_icmp_ne (tgt := 37) hx hb dX12_takeOut_19 (by decide) (fun c_22 => ?_) (fun c_22 => ?_)
    · have hF_30 := ineg c_22 hF_12
      clear hF_12
      refine lv_aload_n hx hb dX12_takeOut_37 rfl (lv_at hl 1 rfl) ?_
      refine va_get (D := (dC, dI)) (ci := 12) (v := .ref (ad 88)) (C := RX12) (T := TX12) (N := 123) hx hb hts ii_X12 hown hK hP 0 rfl rfl 88 (by decide) (hts (.fieldLink RX12 185 "StoryHouseModel" "first" "[I") wq_1444) (fun _ h9 => h9) rfl dX12_takeOut_38 ?_
      refine lv_iload_n hx hb dX12_takeOut_41 rfl (lv_at hl 0 rfl) ?_
      obtain ⟨g_31, hF_32⟩ := nif_e hF_30
      clear hF_30
      refine va_iald (f := σ.2 88) hx hb hK hP 53 2 rfl rfl g_31 dX12_takeOut_42 ?_
      obtain ⟨x_33, ex_33, hF_34⟩ := bnd_e hF_32
      clear hF_32
      refine m_top ex_33 ?_
      refine lv_istore_n (lv' := [(3, .int x_33), (2, .int x_3), (0, .ref h), (1, .int p0)]) hx hb dX12_takeOut_43 rfl hl (by decide) rfl (fun ls hl => ?_)
      refine loopF_ind (P := fun (s_35 : Int32 × MS) => ∀ (H : Heap) (locs : List Loc), va_P (dC, dI) vwCl (mW cB cI cZ h qK qS ad s_35.2) H → va_S (mCells h ad sz) s.heap H locs → ∀ ls : Array Slot, lv_has ls 4 [(0, .ref h), (1, .int p0), (3, .int s_35.1)] → W p l e (headSpec (g_ws yX12_takeOut cX12_takeOut 4 none) { frames := 1, cells := 0, slots := 0, locals := 40 }).room s m ([.ref h, .int p0] : List Value).toArray below meth c H locs 0 0 (MQ below (va_Qv (fun (_ : Unit) => True) (fun _ t => va_P (dC, dI) vwCl (mW cB cI cZ h qK qS ad res.2) t.heap) (mCells h ad sz)) ([.ref h, .int p0] : List Value).toArray s 0 0 (mCells h ad sz)) (F0 m 44 ls [])) ?_ _ _ hF_34 _ _ hP hS ls (lv_sub hl [2, 3, 0] rfl)
      intro again_36 s_35 ih_37 hF_38
      intro H locs hP hS ls hl
      refine lv_aload_n hx hb dX12_takeOut_44 rfl (lv_at hl 0 rfl) ?_
      refine va_get (D := (dC, dI)) (ci := 12) (v := .ref (ad 89)) (C := RX12) (T := TX12) (N := 123) hx hb hts ii_X12 hown hK hP 0 rfl rfl 89 (by decide) (hts (.fieldLink RX12 188 "StoryHouseModel" "next" "[I") wq_1445) (fun _ h9 => h9) rfl dX12_takeOut_45 ?_
      refine lv_iload_n hx hb dX12_takeOut_48 rfl (lv_at hl 2 rfl) ?_
      obtain ⟨g_39, hF_40⟩ := nif_e hF_38
      clear hF_38
      refine va_iald (f := s_35.2.2 89) hx hb hK hP 54 2 rfl rfl g_39 dX12_takeOut_49 ?_
      refine lv_iload_n hx hb dX12_takeOut_50 rfl (lv_at hl 1 rfl) ?_
      refine lv_icmp_eq (tgt := 64) hx hb dX12_takeOut_51 (by decide) (fun c_41 => ?_) (fun c_41 => ?_)
      · have hF_42 := ipos c_41 hF_40
        clear hF_40
        refine lv_aload_n hx hb dX12_takeOut_64 rfl (lv_at hl 0 rfl) ?_
        refine va_get (D := (dC, dI)) (ci := 12) (v := .ref (ad 89)) (C := RX12) (T := TX12) (N := 123) hx hb hts ii_X12 hown hK hP 0 rfl rfl 89 (by decide) (hts (.fieldLink RX12 188 "StoryHouseModel" "next" "[I") wq_1445) (fun _ h9 => h9) rfl dX12_takeOut_65 ?_
        refine lv_iload_n hx hb dX12_takeOut_68 rfl (lv_at hl 2 rfl) ?_
        refine lv_aload_n hx hb dX12_takeOut_69 rfl (lv_at hl 0 rfl) ?_
        refine va_get (D := (dC, dI)) (ci := 12) (v := .ref (ad 89)) (C := RX12) (T := TX12) (N := 123) hx hb hts ii_X12 hown hK hP 0 rfl rfl 89 (by decide) (hts (.fieldLink RX12 188 "StoryHouseModel" "next" "[I") wq_1445) (fun _ h9 => h9) rfl dX12_takeOut_70 ?_
        refine lv_iload_n hx hb dX12_takeOut_73 rfl (lv_at hl 1 rfl) ?_
        obtain ⟨g_43, hF_44⟩ := nif_e hF_42
        clear hF_42
        refine va_iald (f := s_35.2.2 89) hx hb hK hP 54 2 rfl rfl g_43 dX12_takeOut_74 ?_
        obtain ⟨g_45, hF_46⟩ := nif_e hF_44
        clear hF_44
        obtain ⟨σ_47, eσ_47, hF_48⟩ := bnd_e hF_46
        clear hF_46
        refine m_iast (σ' := σ_47) hx hb hK hP (hDD _ _) hS (q0 := 54) (t0 := 2) (f := s_35.2.2 89) rfl rfl (by rw [eσ_47]; exact mwA_89) g_45 dX12_takeOut_75 (fun H locs hP hS => ?_)
        exact Jj_11  σ_47 hF_48 _ _ hP hS ls (lv_sub hl [0, 1] rfl)
      · have hF_49 := ineg c_41 hF_40
        clear hF_40
        refine lv_aload_n hx hb dX12_takeOut_54 rfl (lv_at hl 0 rfl) ?_
        refine va_get (D := (dC, dI)) (ci := 12) (v := .ref (ad 89)) (C := RX12) (T := TX12) (N := 123) hx hb hts ii_X12 hown hK hP 0 rfl rfl 89 (by decide) (hts (.fieldLink RX12 188 "StoryHouseModel" "next" "[I") wq_1445) (fun _ h9 => h9) rfl dX12_takeOut_55 ?_
        refine lv_iload_n hx hb dX12_takeOut_58 rfl (lv_at hl 2 rfl) ?_
        obtain ⟨g_50, hF_51⟩ := nif_e hF_49
        clear hF_49
        refine va_iald (f := s_35.2.2 89) hx hb hK hP 54 2 rfl rfl g_50 dX12_takeOut_59 ?_
        obtain ⟨x_52, ex_52, hF_53⟩ := bnd_e hF_51
        clear hF_51
        refine m_top ex_52 ?_
        refine lv_istore_n (lv' := [(3, .int x_52), (0, .ref h), (1, .int p0)]) hx hb dX12_takeOut_60 rfl hl (by decide) rfl (fun ls hl => ?_)
        refine lv_goto (tgt := 44) hx hb dX12_takeOut_61 (by decide) ?_
        exact ih_37 (x_52, s_35.2) hF_53 _ _ hP hS ls (lv_sub hl [1, 2, 0] rfl)
    · have hF_23 := ipos c_22 hF_12
      clear hF_12
      refine lv_aload_n hx hb dX12_takeOut_22 rfl (lv_at hl 1 rfl) ?_
      refine va_get (D := (dC, dI)) (ci := 12) (v := .ref (ad 88)) (C := RX12) (T := TX12) (N := 123) hx hb hts ii_X12 hown hK hP 0 rfl rfl 88 (by decide) (hts (.fieldLink RX12 185 "StoryHouseModel" "first" "[I") wq_1444) (fun _ h9 => h9) rfl dX12_takeOut_23 ?_
      refine lv_iload_n hx hb dX12_takeOut_26 rfl (lv_at hl 0 rfl) ?_
      refine lv_aload_n hx hb dX12_takeOut_27 rfl (lv_at hl 1 rfl) ?_
      refine va_get (D := (dC, dI)) (ci := 12) (v := .ref (ad 89)) (C := RX12) (T := TX12) (N := 123) hx hb hts ii_X12 hown hK hP 0 rfl rfl 89 (by decide) (hts (.fieldLink RX12 188 "StoryHouseModel" "next" "[I") wq_1445) (fun _ h9 => h9) rfl dX12_takeOut_28 ?_
      refine lv_iload_n hx hb dX12_takeOut_31 rfl (lv_at hl 2 rfl) ?_
      obtain ⟨g_24, hF_25⟩ := nif_e hF_23
      clear hF_23
      refine va_iald (f := σ.2 89) hx hb hK hP 54 2 rfl rfl g_24 dX12_takeOut_32 ?_
      obtain ⟨g_26, hF_27⟩ := nif_e hF_25
      clear hF_25
      obtain ⟨σ_28, eσ_28, hF_29⟩ := bnd_e hF_27
      clear hF_27
      refine m_iast (σ' := σ_28) hx hb hK hP (hDD _ _) hS (q0 := 53) (t0 := 2) (f := σ.2 88) rfl rfl (by rw [eσ_28]; exact mwA_88) g_26 dX12_takeOut_33 (fun H locs hP hS => ?_)
      refine lv_goto (tgt := 76) hx hb dX12_takeOut_34 (by decide) ?_
      exact Jj_11  σ_28 hF_29 _ _ hP hS ls (lv_sub hl [1, 2] rfl)
  · have hF_6 := ipos c_5 hF_4
    clear hF_4
    have h9 := Option.some.inj hF_6
    subst h9
    exact W.vret hx hb hr (fun t ht hW => ⟨⟨(), rfl, trivial, m_end ht hP⟩, hS.F ht⟩) hS.2.2 dX12_takeOut_11
theorem dX12_putIn_0 : decode cX12_putIn 0 = .ok (.aload_n 0, 1) := by decide +kernel
theorem dX12_putIn_1 : decode cX12_putIn 1 = .ok (.iload_n 1, 1) := by decide +kernel
theorem dX12_putIn_2 : decode cX12_putIn 2 = .ok (.invokevirtual 682, 3) := by decide +kernel
theorem dX12_putIn_5 : decode cX12_putIn 5 = .ok (.aload_n 0, 1) := by decide +kernel
theorem dX12_putIn_6 : decode cX12_putIn 6 = .ok (.getfield 182, 3) := by decide +kernel
theorem dX12_putIn_9 : decode cX12_putIn 9 = .ok (.iload_n 1, 1) := by decide +kernel
theorem dX12_putIn_10 : decode cX12_putIn 10 = .ok (.iload_n 2, 1) := by decide +kernel
theorem dX12_putIn_11 : decode cX12_putIn 11 = .ok (.iastore, 1) := by decide +kernel
theorem dX12_putIn_12 : decode cX12_putIn 12 = .ok (.aload_n 0, 1) := by decide +kernel
theorem dX12_putIn_13 : decode cX12_putIn 13 = .ok (.getfield 188, 3) := by decide +kernel
theorem dX12_putIn_16 : decode cX12_putIn 16 = .ok (.iload_n 1, 1) := by decide +kernel
theorem dX12_putIn_17 : decode cX12_putIn 17 = .ok (.aload_n 0, 1) := by decide +kernel
theorem dX12_putIn_18 : decode cX12_putIn 18 = .ok (.getfield 185, 3) := by decide +kernel
theorem dX12_putIn_21 : decode cX12_putIn 21 = .ok (.iload_n 2, 1) := by decide +kernel
theorem dX12_putIn_22 : decode cX12_putIn 22 = .ok (.iaload, 1) := by decide +kernel
theorem dX12_putIn_23 : decode cX12_putIn 23 = .ok (.iastore, 1) := by decide +kernel
theorem dX12_putIn_24 : decode cX12_putIn 24 = .ok (.aload_n 0, 1) := by decide +kernel
theorem dX12_putIn_25 : decode cX12_putIn 25 = .ok (.getfield 185, 3) := by decide +kernel
theorem dX12_putIn_28 : decode cX12_putIn 28 = .ok (.iload_n 2, 1) := by decide +kernel
theorem dX12_putIn_29 : decode cX12_putIn 29 = .ok (.iload_n 1, 1) := by decide +kernel
theorem dX12_putIn_30 : decode cX12_putIn 30 = .ok (.iastore, 1) := by decide +kernel
theorem dX12_putIn_31 : decode cX12_putIn 31 = .ok (.return_, 1) := by decide +kernel
def F_X12_putIn (p0 : Int32) (p1 : Int32) (σ : MS) : MR :=
  (F_X12_takeOut p0 σ).bind fun u_1 =>
  if p0 < 0 ∨ 121 ≤ p0.toNatClampNeg then none else
  bnd (mA u_1.2 87 (upd (u_1.2.2 87) p0.toNatClampNeg p1)) fun σ_5 =>
  if p1 < 0 ∨ 121 ≤ p1.toNatClampNeg then none else
  if p0 < 0 ∨ 121 ≤ p0.toNatClampNeg then none else
  bnd (mA σ_5 89 (upd (σ_5.2 89) p0.toNatClampNeg (σ_5.2 88 p1.toNatClampNeg))) fun σ_11 =>
  if p1 < 0 ∨ 121 ≤ p1.toNatClampNeg then none else
  bnd (mA σ_11 88 (upd (σ_11.2 88) p1.toNatClampNeg p0)) fun σ_15 =>
  some (0, σ_15)
set_option maxHeartbeats 4000000 in
set_option maxRecDepth 100000 in
theorem m_X12_putIn (l : Launch) (dC : Nat → ClassId) (dI : Nat → Nat → Nat) (cB cC cI cJ cZ cP : ClassId) (h qK qS : Nat) (ad : Nat → Nat) (hDD : mDis cB cI cZ h qK qS ad) (sz : Nat)  (p0 : Int32) (p1 : Int32) (σ : MS) (res : Int32 × MS) (hF : F_X12_putIn p0 p1 σ = some res) : Met l yX12_putIn (g_ws yX12_putIn cX12_putIn 3 none) ({ frames := 2, cells := 0, slots := 0, locals := 63 }) (va_Pc [.ref h, .int p0, .int p1] (m_B (dC, dI) [(cB, .byte), (cC, .char), (cI, .int), (cJ, .long), (cZ, .boolean), (cP, .object "StoryHouse$Play")] sz h ad qK qS (mW cB cI cZ h qK qS ad σ) g_0)) (va_Qv (fun (_ : Unit) => True) (fun _ t => va_P (dC, dI) vwCl (mW cB cI cZ h qK qS ad res.2) t.heap) (mCells h ad sz)) 0 0 (mCells h ad sz) := by
  refine Met.ofW (cc := cX12_putIn) (maxL := 3) (ret := none) (by decide) rfl ?_
  intro p e s m args below meth c s₁ B hml hv
  obtain ⟨rfl, hsz, hP, hK, hE, hKS, hX⟩ := hv
  have hx := B.exec
  have hb := B.bytes
  have hr := B.returns
  have hts0 := atoms_spec (ws := g_ws yX12_putIn cX12_putIn 3 none) B.pre
  have hts : ∀ w ∈ lw_good, w.before ([.ref h, .int p0, .int p1] : List Value).toArray s = true := fun w z => hts0 w (List.mem_cons_of_mem _ z)
  have hown : s.vm.findClass RX12 = some m.cls := findClass_of_methodNamed B.named
  have hlocks := B.notSynchronized
  have hS : va_S (mCells h ad sz) s.heap s.heap [] := va_S.rf
  have hl := lv_entry ([.ref h, .int p0, .int p1]) (n := 3) (Nat.le_of_ble_eq_true rfl)
  rw [lg_entry_eq]
  generalize (lg_sl ([.ref h, .int p0, .int p1]) ++ List.replicate (3 - (lg_sl ([.ref h, .int p0, .int p1])).length) Slot.unset).toArray = ls at hl ⊢
  have hl : lv_has ls 3 [(0, .ref h), (1, .int p0), (2, .int p1)] := hl
  unfold F_X12_putIn at hF
  refine lv_aload_n hx hb dX12_putIn_0 rfl (lv_at hl 0 rfl) ?_
  refine lv_iload_n hx hb dX12_putIn_1 rfl (lv_at hl 1 rfl) ?_
  obtain ⟨u_1, hu_1, hF_2⟩ := Option.bind_eq_some_iff.mp hF
  clear hF
  refine m_cv hsz hS (va_runV (As := [.int p0]) (rest := []) ⟨hx, hb, hml, hown, hts⟩ (m_X12_takeOut l dC dI cB cC cI cJ cZ cP h qK qS ad hDD s.heap.size  p0 σ _ hu_1) (cwV 1 hts (g_gV wq_1749 wq_1750 wq_2192 wq_13 wq_1751) rfl rfl rfl (by decide +kernel) ⟨Nat.le_of_ble_eq_true rfl, Nat.le_of_ble_eq_true rfl⟩) (m_preV g_bl0 hsz hK hP hS hE hKS g_to0) rfl rfl hl.1 rfl (lv_room (Nat.le_of_ble_eq_true rfl)) dX12_putIn_2 ⟨Nat.le_of_ble_eq_true rfl, Nat.le_of_ble_eq_true rfl⟩) (fun H locs hP hS => ?_)
  refine lv_aload_n hx hb dX12_putIn_5 rfl (lv_at hl 0 rfl) ?_
  refine va_get (D := (dC, dI)) (ci := 12) (v := .ref (ad 87)) (C := RX12) (T := TX12) (N := 123) hx hb hts ii_X12 hown hK hP 0 rfl rfl 87 (by decide) (hts (.fieldLink RX12 182 "StoryHouseModel" "holder" "[I") wq_1443) (fun _ h9 => h9) rfl dX12_putIn_6 ?_
  refine lv_iload_n hx hb dX12_putIn_9 rfl (lv_at hl 1 rfl) ?_
  refine lv_iload_n hx hb dX12_putIn_10 rfl (lv_at hl 2 rfl) ?_
  obtain ⟨g_3, hF_4⟩ := nif_e hF_2
  clear hF_2
  obtain ⟨σ_5, eσ_5, hF_6⟩ := bnd_e hF_4
  clear hF_4
  refine m_iast (σ' := σ_5) hx hb hK hP (hDD _ _) hS (q0 := 52) (t0 := 2) (f := u_1.2.2 87) rfl rfl (by rw [eσ_5]; exact mwA_87) g_3 dX12_putIn_11 (fun H locs hP hS => ?_)
  refine lv_aload_n hx hb dX12_putIn_12 rfl (lv_at hl 0 rfl) ?_
  refine va_get (D := (dC, dI)) (ci := 12) (v := .ref (ad 89)) (C := RX12) (T := TX12) (N := 123) hx hb hts ii_X12 hown hK hP 0 rfl rfl 89 (by decide) (hts (.fieldLink RX12 188 "StoryHouseModel" "next" "[I") wq_1445) (fun _ h9 => h9) rfl dX12_putIn_13 ?_
  refine lv_iload_n hx hb dX12_putIn_16 rfl (lv_at hl 1 rfl) ?_
  refine lv_aload_n hx hb dX12_putIn_17 rfl (lv_at hl 0 rfl) ?_
  refine va_get (D := (dC, dI)) (ci := 12) (v := .ref (ad 88)) (C := RX12) (T := TX12) (N := 123) hx hb hts ii_X12 hown hK hP 0 rfl rfl 88 (by decide) (hts (.fieldLink RX12 185 "StoryHouseModel" "first" "[I") wq_1444) (fun _ h9 => h9) rfl dX12_putIn_18 ?_
  refine lv_iload_n hx hb dX12_putIn_21 rfl (lv_at hl 2 rfl) ?_
  obtain ⟨g_7, hF_8⟩ := nif_e hF_6
  clear hF_6
  refine va_iald (f := σ_5.2 88) hx hb hK hP 53 2 rfl rfl g_7 dX12_putIn_22 ?_
  obtain ⟨g_9, hF_10⟩ := nif_e hF_8
  clear hF_8
  obtain ⟨σ_11, eσ_11, hF_12⟩ := bnd_e hF_10
  clear hF_10
  refine m_iast (σ' := σ_11) hx hb hK hP (hDD _ _) hS (q0 := 54) (t0 := 2) (f := σ_5.2 89) rfl rfl (by rw [eσ_11]; exact mwA_89) g_9 dX12_putIn_23 (fun H locs hP hS => ?_)
  refine lv_aload_n hx hb dX12_putIn_24 rfl (lv_at hl 0 rfl) ?_
  refine va_get (D := (dC, dI)) (ci := 12) (v := .ref (ad 88)) (C := RX12) (T := TX12) (N := 123) hx hb hts ii_X12 hown hK hP 0 rfl rfl 88 (by decide) (hts (.fieldLink RX12 185 "StoryHouseModel" "first" "[I") wq_1444) (fun _ h9 => h9) rfl dX12_putIn_25 ?_
  refine lv_iload_n hx hb dX12_putIn_28 rfl (lv_at hl 2 rfl) ?_
  refine lv_iload_n hx hb dX12_putIn_29 rfl (lv_at hl 1 rfl) ?_
  obtain ⟨g_13, hF_14⟩ := nif_e hF_12
  clear hF_12
  obtain ⟨σ_15, eσ_15, hF_16⟩ := bnd_e hF_14
  clear hF_14
  refine m_iast (σ' := σ_15) hx hb hK hP (hDD _ _) hS (q0 := 53) (t0 := 2) (f := σ_11.2 88) rfl rfl (by rw [eσ_15]; exact mwA_88) g_13 dX12_putIn_30 (fun H locs hP hS => ?_)
  have h9 := Option.some.inj hF_16
  subst h9
  exact W.vret hx hb hr (fun t ht hW => ⟨⟨(), rfl, trivial, m_end ht hP⟩, hS.F ht⟩) hS.2.2 dX12_putIn_31
theorem dX12_within_0 : decode cX12_within 0 = .ok (.iload_n 1, 1) := by decide +kernel
theorem dX12_within_1 : decode cX12_within 1 = .ok (.istore_n 3, 1) := by decide +kernel
theorem dX12_within_2 : decode cX12_within 2 = .ok (.iload_n 3, 1) := by decide +kernel
theorem dX12_within_3 : decode cX12_within 3 = .ok (.ifCond .eq 18, 3) := by decide +kernel
theorem dX12_within_6 : decode cX12_within 6 = .ok (.iload_n 3, 1) := by decide +kernel
theorem dX12_within_7 : decode cX12_within 7 = .ok (.iload_n 2, 1) := by decide +kernel
theorem dX12_within_8 : decode cX12_within 8 = .ok (.if_icmp .eq 13, 3) := by decide +kernel
theorem dX12_within_11 : decode cX12_within 11 = .ok (.aload_n 0, 1) := by decide +kernel
theorem dX12_within_12 : decode cX12_within 12 = .ok (.getfield 182, 3) := by decide +kernel
theorem dX12_within_15 : decode cX12_within 15 = .ok (.iload_n 3, 1) := by decide +kernel
theorem dX12_within_16 : decode cX12_within 16 = .ok (.iaload, 1) := by decide +kernel
theorem dX12_within_17 : decode cX12_within 17 = .ok (.istore_n 3, 1) := by decide +kernel
theorem dX12_within_18 : decode cX12_within 18 = .ok (.goto (-16), 3) := by decide +kernel
theorem dX12_within_21 : decode cX12_within 21 = .ok (.iload_n 3, 1) := by decide +kernel
theorem dX12_within_22 : decode cX12_within 22 = .ok (.ifCond .eq 7, 3) := by decide +kernel
theorem dX12_within_25 : decode cX12_within 25 = .ok (.iconst 1, 1) := by decide +kernel
theorem dX12_within_26 : decode cX12_within 26 = .ok (.goto 4, 3) := by decide +kernel
theorem dX12_within_29 : decode cX12_within 29 = .ok (.iconst 0, 1) := by decide +kernel
theorem dX12_within_30 : decode cX12_within 30 = .ok (.ireturn, 1) := by decide +kernel
def F_X12_within (p0 : Int32) (p1 : Int32) (σ : MS) : MR :=
  loopF (fun (again_2 : (Int32 × MS) → MR) (s_1 : Int32 × MS) => (
    bnd (fun  (σ_5 : MS) => (
      if s_1.1 = 0 then (
        some (0, σ_5)
      ) else (
        some (1, σ_5)
      )
    ) : MS → MR) fun j_6 =>
    if s_1.1 = 0 then (
      j_6  s_1.2
    ) else (
      if s_1.1 = p1 then (
        j_6  s_1.2
      ) else (
        if s_1.1 < 0 ∨ 121 ≤ s_1.1.toNatClampNeg then none else
        bnd ((s_1.2.2 87 s_1.1.toNatClampNeg)) fun (x_20 : Int32) =>
        again_2 (x_20, s_1.2)
      )
    )
  )) FU (p0, σ)
set_option maxHeartbeats 4000000 in
set_option maxRecDepth 100000 in
theorem m_X12_within (l : Launch) (dC : Nat → ClassId) (dI : Nat → Nat → Nat) (cB cC cI cJ cZ cP : ClassId) (h qK qS : Nat) (ad : Nat → Nat) (hDD : mDis cB cI cZ h qK qS ad) (sz : Nat)  (p0 : Int32) (p1 : Int32) (σ : MS) (res : Int32 × MS) (hF : F_X12_within p0 p1 σ = some res) : Met l yX12_within (g_ws yX12_within cX12_within 4 (some .boolean)) ({ frames := 1, cells := 0, slots := 0, locals := 40 }) (va_Pc [.ref h, .int p0, .int p1] (m_B (dC, dI) [(cB, .byte), (cC, .char), (cI, .int), (cJ, .long), (cZ, .boolean), (cP, .object "StoryHouse$Play")] sz h ad qK qS (mW cB cI cZ h qK qS ad σ) g_0)) (va_Qi (fun r (_ : Unit) => r = res.1) (fun _ t => va_P (dC, dI) vwCl (mW cB cI cZ h qK qS ad res.2) t.heap) (mCells h ad sz)) 0 0 (mCells h ad sz) := by
  refine Met.ofW (cc := cX12_within) (maxL := 4) (ret := (some .boolean)) (by decide) rfl ?_
  intro p e s m args below meth c s₁ B hml hv
  obtain ⟨rfl, hsz, hP, hK, hE, hKS, hX⟩ := hv
  have hx := B.exec
  have hb := B.bytes
  have hr := B.returns
  have hts0 := atoms_spec (ws := g_ws yX12_within cX12_within 4 (some .boolean)) B.pre
  have hts : ∀ w ∈ lw_good, w.before ([.ref h, .int p0, .int p1] : List Value).toArray s = true := fun w z => hts0 w (List.mem_cons_of_mem _ z)
  have hown : s.vm.findClass RX12 = some m.cls := findClass_of_methodNamed B.named
  have hlocks := B.notSynchronized
  have hS : va_S (mCells h ad sz) s.heap s.heap [] := va_S.rf
  have hl := lv_entry ([.ref h, .int p0, .int p1]) (n := 4) (Nat.le_of_ble_eq_true rfl)
  rw [lg_entry_eq]
  generalize (lg_sl ([.ref h, .int p0, .int p1]) ++ List.replicate (4 - (lg_sl ([.ref h, .int p0, .int p1])).length) Slot.unset).toArray = ls at hl ⊢
  have hl : lv_has ls 4 [(0, .ref h), (1, .int p0), (2, .int p1)] := hl
  unfold F_X12_within at hF
  refine lv_iload_n hx hb dX12_within_0 rfl (lv_at hl 1 rfl) ?_
  refine lv_istore_n (lv' := [(3, .int p0), (0, .ref h), (1, .int p0), (2, .int p1)]) hx hb dX12_within_1 rfl hl (by decide) rfl (fun ls hl => ?_)
  refine loopF_ind (P := fun (s_1 : Int32 × MS) => ∀ (H : Heap) (locs : List Loc), va_P (dC, dI) vwCl (mW cB cI cZ h qK qS ad s_1.2) H → va_S (mCells h ad sz) s.heap H locs → ∀ ls : Array Slot, lv_has ls 4 [(0, .ref h), (2, .int p1), (3, .int s_1.1)] → W p l e (headSpec (g_ws yX12_within cX12_within 4 (some .boolean)) { frames := 1, cells := 0, slots := 0, locals := 40 }).room s m ([.ref h, .int p0, .int p1] : List Value).toArray below meth c H locs 0 0 (MQ below (va_Qi (fun r (_ : Unit) => r = res.1) (fun _ t => va_P (dC, dI) vwCl (mW cB cI cZ h qK qS ad res.2) t.heap) (mCells h ad sz)) ([.ref h, .int p0, .int p1] : List Value).toArray s 0 0 (mCells h ad sz)) (F0 m 2 ls [])) ?_ _ _ hF _ _ hP hS ls (lv_sub hl [1, 3, 0] rfl)
  intro again_2 s_1 ih_3 hF_4
  intro H locs hP hS ls hl
  refine lv_iload_n hx hb dX12_within_2 rfl (lv_at hl 2 rfl) ?_
  obtain ⟨j_6, ej_6, hF_7⟩ := bnd_e hF_4
  clear hF_4
  have Jj_6 : ∀  (σ_5 : MS), j_6  σ_5 = some res → ∀ (H : Heap) (locs : List Loc), va_P (dC, dI) vwCl (mW cB cI cZ h qK qS ad σ_5) H → va_S (mCells h ad sz) s.heap H locs → ∀ ls : Array Slot, lv_has ls 4 [(3, .int s_1.1)] → W p l e (headSpec (g_ws yX12_within cX12_within 4 (some .boolean)) { frames := 1, cells := 0, slots := 0, locals := 40 }).room s m ([.ref h, .int p0, .int p1] : List Value).toArray below meth c H locs 0 0 (MQ below (va_Qi (fun r (_ : Unit) => r = res.1) (fun _ t => va_P (dC, dI) vwCl (mW cB cI cZ h qK qS ad res.2) t.heap) (mCells h ad sz)) ([.ref h, .int p0, .int p1] : List Value).toArray s 0 0 (mCells h ad sz)) (F0 m 21 ls []) := by
    intro  σ_5 hF0 H locs hP hS ls hl
    subst ej_6
    have hF_8 := hF0
    clear hF0
    refine lv_iload_n hx hb dX12_within_21 rfl (lv_at hl 0 rfl) ?_
    refine lv_if_eq (tgt := 29) hx hb dX12_within_22 (by decide) (fun c_9 => ?_) (fun c_9 => ?_)
    · have hF_10 := ipos c_9 hF_8
      clear hF_8
      refine lv_iconst (v := 0) hx hb dX12_within_29 (by decide +kernel) ?_
      have h9 := Option.some.inj hF_10
      subst h9
      exact W.zret (v := 0) hx hb hr (by decide +kernel) (fun t ht hW => ⟨⟨0, (), rfl, rfl, m_end ht hP⟩, hS.F ht⟩) hS.2.2 dX12_within_30
    · have hF_11 := ineg c_9 hF_8
      clear hF_8
      refine lv_iconst (v := 1) hx hb dX12_within_25 (by decide +kernel) ?_
      refine lv_goto (tgt := 30) hx hb dX12_within_26 (by decide) ?_
      have h9 := Option.some.inj hF_11
      subst h9
      exact W.zret (v := 1) hx hb hr (by decide +kernel) (fun t ht hW => ⟨⟨1, (), rfl, rfl, m_end ht hP⟩, hS.F ht⟩) hS.2.2 dX12_within_30
  refine lv_if_eq (tgt := 21) hx hb dX12_within_3 (by decide) (fun c_12 => ?_) (fun c_12 => ?_)
  · have hF_13 := ipos c_12 hF_7
    clear hF_7
    exact Jj_6  s_1.2 hF_13 _ _ hP hS ls (lv_sub hl [2] rfl)
  · have hF_14 := ineg c_12 hF_7
    clear hF_7
    refine lv_iload_n hx hb dX12_within_6 rfl (lv_at hl 2 rfl) ?_
    refine lv_iload_n hx hb dX12_within_7 rfl (lv_at hl 1 rfl) ?_
    refine lv_icmp_eq (tgt := 21) hx hb dX12_within_8 (by decide) (fun c_15 => ?_) (fun c_15 => ?_)
    · have hF_16 := ipos c_15 hF_14
      clear hF_14
      exact Jj_6  s_1.2 hF_16 _ _ hP hS ls (lv_sub hl [2] rfl)
    · have hF_17 := ineg c_15 hF_14
      clear hF_14
      refine lv_aload_n hx hb dX12_within_11 rfl (lv_at hl 0 rfl) ?_
      refine va_get (D := (dC, dI)) (ci := 12) (v := .ref (ad 87)) (C := RX12) (T := TX12) (N := 123) hx hb hts ii_X12 hown hK hP 0 rfl rfl 87 (by decide) (hts (.fieldLink RX12 182 "StoryHouseModel" "holder" "[I") wq_1443) (fun _ h9 => h9) rfl dX12_within_12 ?_
      refine lv_iload_n hx hb dX12_within_15 rfl (lv_at hl 2 rfl) ?_
      obtain ⟨g_18, hF_19⟩ := nif_e hF_17
      clear hF_17
      refine va_iald (f := s_1.2.2 87) hx hb hK hP 52 2 rfl rfl g_18 dX12_within_16 ?_
      obtain ⟨x_20, ex_20, hF_21⟩ := bnd_e hF_19
      clear hF_19
      refine m_top ex_20 ?_
      refine lv_istore_n (lv' := [(3, .int x_20), (0, .ref h), (2, .int p1)]) hx hb dX12_within_17 rfl hl (by decide) rfl (fun ls hl => ?_)
      refine lv_goto (tgt := 2) hx hb dX12_within_18 (by decide) ?_
      exact ih_3 (x_20, s_1.2) hF_21 _ _ hP hS ls (lv_sub hl [1, 2, 0] rfl)
theorem dX12_breaks_0 : decode cX12_breaks 0 = .ok (.aload_n 0, 1) := by decide +kernel
theorem dX12_breaks_1 : decode cX12_breaks 1 = .ok (.getfield 685, 3) := by decide +kernel
theorem dX12_breaks_4 : decode cX12_breaks 4 = .ok (.ifCond .ne 13, 3) := by decide +kernel
theorem dX12_breaks_7 : decode cX12_breaks 7 = .ok (.aload_n 0, 1) := by decide +kernel
theorem dX12_breaks_8 : decode cX12_breaks 8 = .ok (.iconst 3, 1) := by decide +kernel
theorem dX12_breaks_9 : decode cX12_breaks 9 = .ok (.putfield 685, 3) := by decide +kernel
theorem dX12_breaks_12 : decode cX12_breaks 12 = .ok (.aload_n 0, 1) := by decide +kernel
theorem dX12_breaks_13 : decode cX12_breaks 13 = .ok (.iload_n 1, 1) := by decide +kernel
theorem dX12_breaks_14 : decode cX12_breaks 14 = .ok (.putfield 688, 3) := by decide +kernel
theorem dX12_breaks_17 : decode cX12_breaks 17 = .ok (.iconst 0, 1) := by decide +kernel
theorem dX12_breaks_18 : decode cX12_breaks 18 = .ok (.ireturn, 1) := by decide +kernel
def F_X12_breaks (p0 : Int32) (σ : MS) : MR :=
  if (σ.1 104) = 0 then (
    bnd (mI σ 104 3) fun σ_3 =>
    bnd (mI σ_3 105 p0) fun σ_5 =>
    some (0, σ_5)
  ) else (
    some (0, σ)
  )
set_option maxHeartbeats 4000000 in
set_option maxRecDepth 100000 in
theorem m_X12_breaks (l : Launch) (dC : Nat → ClassId) (dI : Nat → Nat → Nat) (cB cC cI cJ cZ cP : ClassId) (h qK qS : Nat) (ad : Nat → Nat) (hDD : mDis cB cI cZ h qK qS ad) (sz : Nat)  (p0 : Int32) (σ : MS) (res : Int32 × MS) (hF : F_X12_breaks p0 σ = some res) : Met l yX12_breaks (g_ws yX12_breaks cX12_breaks 2 (some .int)) ({ frames := 1, cells := 0, slots := 0, locals := 40 }) (va_Pc [.ref h, .int p0] (m_B (dC, dI) [(cB, .byte), (cC, .char), (cI, .int), (cJ, .long), (cZ, .boolean), (cP, .object "StoryHouse$Play")] sz h ad qK qS (mW cB cI cZ h qK qS ad σ) g_0)) (va_Qi (fun r (_ : Unit) => r = res.1) (fun _ t => va_P (dC, dI) vwCl (mW cB cI cZ h qK qS ad res.2) t.heap) (mCells h ad sz)) 0 0 (mCells h ad sz) := by
  refine Met.ofW (cc := cX12_breaks) (maxL := 2) (ret := (some .int)) (by decide) rfl ?_
  intro p e s m args below meth c s₁ B hml hv
  obtain ⟨rfl, hsz, hP, hK, hE, hKS, hX⟩ := hv
  have hx := B.exec
  have hb := B.bytes
  have hr := B.returns
  have hts0 := atoms_spec (ws := g_ws yX12_breaks cX12_breaks 2 (some .int)) B.pre
  have hts : ∀ w ∈ lw_good, w.before ([.ref h, .int p0] : List Value).toArray s = true := fun w z => hts0 w (List.mem_cons_of_mem _ z)
  have hown : s.vm.findClass RX12 = some m.cls := findClass_of_methodNamed B.named
  have hlocks := B.notSynchronized
  have hS : va_S (mCells h ad sz) s.heap s.heap [] := va_S.rf
  have hl := lv_entry ([.ref h, .int p0]) (n := 2) (Nat.le_of_ble_eq_true rfl)
  rw [lg_entry_eq]
  generalize (lg_sl ([.ref h, .int p0]) ++ List.replicate (2 - (lg_sl ([.ref h, .int p0])).length) Slot.unset).toArray = ls at hl ⊢
  have hl : lv_has ls 2 [(0, .ref h), (1, .int p0)] := hl
  unfold F_X12_breaks at hF
  refine lv_aload_n hx hb dX12_breaks_0 rfl (lv_at hl 0 rfl) ?_
  refine va_get (D := (dC, dI)) (ci := 12) (v := .int (σ.1 104)) (C := RX12) (T := TX12) (N := 123) hx hb hts ii_X12 hown hK hP 0 rfl rfl 104 (by decide) (hts (.fieldLink RX12 685 "StoryHouseModel" "stop" "I") wq_1460) (fun _ h9 => h9) rfl dX12_breaks_1 ?_
  refine lv_if_ne (tgt := 17) hx hb dX12_breaks_4 (by decide) (fun c_1 => ?_) (fun c_1 => ?_)
  · have hF_7 := ineg c_1 hF
    clear hF
    refine lv_iconst (v := 0) hx hb dX12_breaks_17 (by decide +kernel) ?_
    have h9 := Option.some.inj hF_7
    subst h9
    exact W.iret (v := 0) hx hb hr (fun t ht hW => ⟨⟨0, (), rfl, rfl, m_end ht hP⟩, hS.F ht⟩) hS.2.2 dX12_breaks_18
  · have hF_2 := ipos c_1 hF
    clear hF
    refine lv_aload_n hx hb dX12_breaks_7 rfl (lv_at hl 0 rfl) ?_
    refine lv_iconst (v := 3) hx hb dX12_breaks_8 (by decide +kernel) ?_
    obtain ⟨σ_3, eσ_3, hF_4⟩ := bnd_e hF_2
    clear hF_2
    refine m_put (σ' := σ_3) (v := .int 3) (ty := .int) hx hb hts hown hK hP (hDD _ _) hS (by rw [eσ_3]; exact mwI_104) (k := 104) (by decide) (hts (.fieldLink RX12 685 "StoryHouseModel" "stop" "I") wq_1460) (fun _ h9 => h9) rfl (by decide +kernel) rfl rfl dX12_breaks_9 (fun H locs hP hS => ?_)
    refine lv_aload_n hx hb dX12_breaks_12 rfl (lv_at hl 0 rfl) ?_
    refine lv_iload_n hx hb dX12_breaks_13 rfl (lv_at hl 1 rfl) ?_
    obtain ⟨σ_5, eσ_5, hF_6⟩ := bnd_e hF_4
    clear hF_4
    refine m_put (σ' := σ_5) (v := .int p0) (ty := .int) hx hb hts hown hK hP (hDD _ _) hS (by rw [eσ_5]; exact mwI_105) (k := 105) (by decide) (hts (.fieldLink RX12 688 "StoryHouseModel" "broke" "I") wq_1461) (fun _ h9 => h9) rfl (by decide +kernel) rfl rfl dX12_breaks_14 (fun H locs hP hS => ?_)
    refine lv_iconst (v := 0) hx hb dX12_breaks_17 (by decide +kernel) ?_
    have h9 := Option.some.inj hF_6
    subst h9
    exact W.iret (v := 0) hx hb hr (fun t ht hW => ⟨⟨0, (), rfl, rfl, m_end ht hP⟩, hS.F ht⟩) hS.2.2 dX12_breaks_18
theorem dX12_isObject_0 : decode cX12_isObject 0 = .ok (.iload_n 1, 1) := by decide +kernel
theorem dX12_isObject_1 : decode cX12_isObject 1 = .ok (.iconst 1, 1) := by decide +kernel
theorem dX12_isObject_2 : decode cX12_isObject 2 = .ok (.if_icmp .lt 13, 3) := by decide +kernel
theorem dX12_isObject_5 : decode cX12_isObject 5 = .ok (.iload_n 1, 1) := by decide +kernel
theorem dX12_isObject_6 : decode cX12_isObject 6 = .ok (.aload_n 0, 1) := by decide +kernel
theorem dX12_isObject_7 : decode cX12_isObject 7 = .ok (.getfield 587, 3) := by decide +kernel
theorem dX12_isObject_10 : decode cX12_isObject 10 = .ok (.if_icmp .gt 5, 3) := by decide +kernel
theorem dX12_isObject_13 : decode cX12_isObject 13 = .ok (.iconst 1, 1) := by decide +kernel
theorem dX12_isObject_14 : decode cX12_isObject 14 = .ok (.ireturn, 1) := by decide +kernel
theorem dX12_isObject_15 : decode cX12_isObject 15 = .ok (.aload_n 0, 1) := by decide +kernel
theorem dX12_isObject_16 : decode cX12_isObject 16 = .ok (.iconst 2, 1) := by decide +kernel
theorem dX12_isObject_17 : decode cX12_isObject 17 = .ok (.invokevirtual 691, 3) := by decide +kernel
theorem dX12_isObject_20 : decode cX12_isObject 20 = .ok (.pop, 1) := by decide +kernel
theorem dX12_isObject_21 : decode cX12_isObject 21 = .ok (.iconst 0, 1) := by decide +kernel
theorem dX12_isObject_22 : decode cX12_isObject 22 = .ok (.ireturn, 1) := by decide +kernel
def F_X12_isObject (p0 : Int32) (σ : MS) : MR :=
  bnd (fun  (σ_1 : MS) => (
    (F_X12_breaks 2 σ_1).bind fun u_5 =>
    some (0, u_5.2)
  ) : MS → MR) fun j_2 =>
  if p0 < 1 then (
    j_2  σ
  ) else (
    if (σ.1 78) < p0 then (
      j_2  σ
    ) else (
      some (1, σ)
    )
  )
set_option maxHeartbeats 4000000 in
set_option maxRecDepth 100000 in
theorem m_X12_isObject (l : Launch) (dC : Nat → ClassId) (dI : Nat → Nat → Nat) (cB cC cI cJ cZ cP : ClassId) (h qK qS : Nat) (ad : Nat → Nat) (hDD : mDis cB cI cZ h qK qS ad) (sz : Nat)  (p0 : Int32) (σ : MS) (res : Int32 × MS) (hF : F_X12_isObject p0 σ = some res) : Met l yX12_isObject (g_ws yX12_isObject cX12_isObject 2 (some .boolean)) ({ frames := 2, cells := 0, slots := 0, locals := 61 }) (va_Pc [.ref h, .int p0] (m_B (dC, dI) [(cB, .byte), (cC, .char), (cI, .int), (cJ, .long), (cZ, .boolean), (cP, .object "StoryHouse$Play")] sz h ad qK qS (mW cB cI cZ h qK qS ad σ) g_0)) (va_Qi (fun r (_ : Unit) => r = res.1) (fun _ t => va_P (dC, dI) vwCl (mW cB cI cZ h qK qS ad res.2) t.heap) (mCells h ad sz)) 0 0 (mCells h ad sz) := by
  refine Met.ofW (cc := cX12_isObject) (maxL := 2) (ret := (some .boolean)) (by decide) rfl ?_
  intro p e s m args below meth c s₁ B hml hv
  obtain ⟨rfl, hsz, hP, hK, hE, hKS, hX⟩ := hv
  have hx := B.exec
  have hb := B.bytes
  have hr := B.returns
  have hts0 := atoms_spec (ws := g_ws yX12_isObject cX12_isObject 2 (some .boolean)) B.pre
  have hts : ∀ w ∈ lw_good, w.before ([.ref h, .int p0] : List Value).toArray s = true := fun w z => hts0 w (List.mem_cons_of_mem _ z)
  have hown : s.vm.findClass RX12 = some m.cls := findClass_of_methodNamed B.named
  have hlocks := B.notSynchronized
  have hS : va_S (mCells h ad sz) s.heap s.heap [] := va_S.rf
  have hl := lv_entry ([.ref h, .int p0]) (n := 2) (Nat.le_of_ble_eq_true rfl)
  rw [lg_entry_eq]
  generalize (lg_sl ([.ref h, .int p0]) ++ List.replicate (2 - (lg_sl ([.ref h, .int p0])).length) Slot.unset).toArray = ls at hl ⊢
  have hl : lv_has ls 2 [(0, .ref h), (1, .int p0)] := hl
  unfold F_X12_isObject at hF
  refine lv_iload_n hx hb dX12_isObject_0 rfl (lv_at hl 1 rfl) ?_
  refine lv_iconst (v := 1) hx hb dX12_isObject_1 (by decide +kernel) ?_
  obtain ⟨j_2, ej_2, hF_3⟩ := bnd_e hF
  clear hF
  have Jj_2 : ∀  (σ_1 : MS), j_2  σ_1 = some res → ∀ (H : Heap) (locs : List Loc), va_P (dC, dI) vwCl (mW cB cI cZ h qK qS ad σ_1) H → va_S (mCells h ad sz) s.heap H locs → ∀ ls : Array Slot, lv_has ls 2 [(0, .ref h)] → W p l e (headSpec (g_ws yX12_isObject cX12_isObject 2 (some .boolean)) { frames := 2, cells := 0, slots := 0, locals := 61 }).room s m ([.ref h, .int p0] : List Value).toArray below meth c H locs 0 0 (MQ below (va_Qi (fun r (_ : Unit) => r = res.1) (fun _ t => va_P (dC, dI) vwCl (mW cB cI cZ h qK qS ad res.2) t.heap) (mCells h ad sz)) ([.ref h, .int p0] : List Value).toArray s 0 0 (mCells h ad sz)) (F0 m 15 ls []) := by
    intro  σ_1 hF0 H locs hP hS ls hl
    subst ej_2
    have hF_4 := hF0
    clear hF0
    refine lv_aload_n hx hb dX12_isObject_15 rfl (lv_at hl 0 rfl) ?_
    refine lv_iconst (v := 2) hx hb dX12_isObject_16 (by decide +kernel) ?_
    obtain ⟨u_5, hu_5, hF_6⟩ := Option.bind_eq_some_iff.mp hF_4
    clear hF_4
    refine m_ci hsz hS (va_runV (As := [.int 2]) (rest := []) ⟨hx, hb, hml, hown, hts⟩ (m_X12_breaks l dC dI cB cC cI cJ cZ cP h qK qS ad hDD H.size  2 σ_1 _ hu_5) (cwV 1 hts (g_gV wq_1840 wq_1841 wq_2221 wq_13 wq_1842) rfl rfl rfl (by decide +kernel) ⟨Nat.le_of_ble_eq_true rfl, Nat.le_of_ble_eq_true rfl⟩) (m_preV g_bl0 hsz hK hP hS hE hKS g_to0) rfl rfl hl.1 rfl (lv_room (Nat.le_of_ble_eq_true rfl)) dX12_isObject_17 ⟨Nat.le_of_ble_eq_true rfl, Nat.le_of_ble_eq_true rfl⟩) (fun H locs hP hS => ?_)
    refine lv_pop hx hb dX12_isObject_20 rfl ?_
    refine lv_iconst (v := 0) hx hb dX12_isObject_21 (by decide +kernel) ?_
    have h9 := Option.some.inj hF_6
    subst h9
    exact W.zret (v := 0) hx hb hr (by decide +kernel) (fun t ht hW => ⟨⟨0, (), rfl, rfl, m_end ht hP⟩, hS.F ht⟩) hS.2.2 dX12_isObject_22
  refine lv_icmp_lt (tgt := 15) hx hb dX12_isObject_2 (by decide) (fun c_7 => ?_) (fun c_7 => ?_)
  · have hF_8 := ipos c_7 hF_3
    clear hF_3
    exact Jj_2  σ hF_8 _ _ hP hS ls (lv_sub hl [0] rfl)
  · have hF_9 := ineg c_7 hF_3
    clear hF_3
    refine lv_iload_n hx hb dX12_isObject_5 rfl (lv_at hl 1 rfl) ?_
    refine lv_aload_n hx hb dX12_isObject_6 rfl (lv_at hl 0 rfl) ?_
    refine va_get (D := (dC, dI)) (ci := 12) (v := .int (σ.1 78)) (C := RX12) (T := TX12) (N := 123) hx hb hts ii_X12 hown hK hP 0 rfl rfl 78 (by decide) (hts (.fieldLink RX12 587 "StoryHouseModel" "nObjects" "I") wq_1434) (fun _ h9 => h9) rfl dX12_isObject_7 ?_
    refine lv_icmp_gt (tgt := 15) hx hb dX12_isObject_10 (by decide) (fun c_10 => ?_) (fun c_10 => ?_)
    · have hF_11 := ipos c_10 hF_9
      clear hF_9
      exact Jj_2  σ hF_11 _ _ hP hS ls (lv_sub hl [0] rfl)
    · have hF_12 := ineg c_10 hF_9
      clear hF_9
      refine lv_iconst (v := 1) hx hb dX12_isObject_13 (by decide +kernel) ?_
      have h9 := Option.some.inj hF_12
      subst h9
      exact W.zret (v := 1) hx hb hr (by decide +kernel) (fun t ht hW => ⟨⟨1, (), rfl, rfl, m_end ht hP⟩, hS.F ht⟩) hS.2.2 dX12_isObject_14
theorem dX12_passes_0 : decode cX12_passes 0 = .ok (.aload_n 0, 1) := by decide +kernel
theorem dX12_passes_1 : decode cX12_passes 1 = .ok (.dup, 1) := by decide +kernel
theorem dX12_passes_2 : decode cX12_passes 2 = .ok (.getfield 694, 3) := by decide +kernel
theorem dX12_passes_5 : decode cX12_passes 5 = .ok (.iconst 1, 1) := by decide +kernel
theorem dX12_passes_6 : decode cX12_passes 6 = .ok (.iadd, 1) := by decide +kernel
theorem dX12_passes_7 : decode cX12_passes 7 = .ok (.dup_x1, 1) := by decide +kernel
theorem dX12_passes_8 : decode cX12_passes 8 = .ok (.putfield 694, 3) := by decide +kernel
theorem dX12_passes_11 : decode cX12_passes 11 = .ok (.sipush 20000, 3) := by decide +kernel
theorem dX12_passes_14 : decode cX12_passes 14 = .ok (.if_icmp .le 10, 3) := by decide +kernel
theorem dX12_passes_17 : decode cX12_passes 17 = .ok (.aload_n 0, 1) := by decide +kernel
theorem dX12_passes_18 : decode cX12_passes 18 = .ok (.bipush 6, 2) := by decide +kernel
theorem dX12_passes_20 : decode cX12_passes 20 = .ok (.invokevirtual 691, 3) := by decide +kernel
theorem dX12_passes_23 : decode cX12_passes 23 = .ok (.pop, 1) := by decide +kernel
theorem dX12_passes_24 : decode cX12_passes 24 = .ok (.aload_n 0, 1) := by decide +kernel
theorem dX12_passes_25 : decode cX12_passes 25 = .ok (.getfield 685, 3) := by decide +kernel
theorem dX12_passes_28 : decode cX12_passes 28 = .ok (.ifCond .ne 7, 3) := by decide +kernel
theorem dX12_passes_31 : decode cX12_passes 31 = .ok (.iconst 1, 1) := by decide +kernel
theorem dX12_passes_32 : decode cX12_passes 32 = .ok (.goto 4, 3) := by decide +kernel
theorem dX12_passes_35 : decode cX12_passes 35 = .ok (.iconst 0, 1) := by decide +kernel
theorem dX12_passes_36 : decode cX12_passes 36 = .ok (.ireturn, 1) := by decide +kernel
def F_X12_passes  (σ : MS) : MR :=
  bnd (mI σ 106 ((σ.1 106) + 1)) fun σ_1 =>
  bnd (fun  (σ_3 : MS) => (
    if (σ_3.1 104) = 0 then (
      some (1, σ_3)
    ) else (
      some (0, σ_3)
    )
  ) : MS → MR) fun j_4 =>
  if ((σ.1 106) + 1) ≤ 20000 then (
    j_4  σ_1
  ) else (
    (F_X12_breaks 6 σ_1).bind fun u_13 =>
    j_4  u_13.2
  )
set_option maxHeartbeats 4000000 in
set_option maxRecDepth 100000 in
theorem m_X12_passes (l : Launch) (dC : Nat → ClassId) (dI : Nat → Nat → Nat) (cB cC cI cJ cZ cP : ClassId) (h qK qS : Nat) (ad : Nat → Nat) (hDD : mDis cB cI cZ h qK qS ad) (sz : Nat)   (σ : MS) (res : Int32 × MS) (hF : F_X12_passes  σ = some res) : Met l yX12_passes (g_ws yX12_passes cX12_passes 1 (some .boolean)) ({ frames := 2, cells := 0, slots := 0, locals := 61 }) (va_Pc [.ref h] (m_B (dC, dI) [(cB, .byte), (cC, .char), (cI, .int), (cJ, .long), (cZ, .boolean), (cP, .object "StoryHouse$Play")] sz h ad qK qS (mW cB cI cZ h qK qS ad σ) g_0)) (va_Qi (fun r (_ : Unit) => r = res.1) (fun _ t => va_P (dC, dI) vwCl (mW cB cI cZ h qK qS ad res.2) t.heap) (mCells h ad sz)) 0 0 (mCells h ad sz) := by
  refine Met.ofW (cc := cX12_passes) (maxL := 1) (ret := (some .boolean)) (by decide) rfl ?_
  intro p e s m args below meth c s₁ B hml hv
  obtain ⟨rfl, hsz, hP, hK, hE, hKS, hX⟩ := hv
  have hx := B.exec
  have hb := B.bytes
  have hr := B.returns
  have hts0 := atoms_spec (ws := g_ws yX12_passes cX12_passes 1 (some .boolean)) B.pre
  have hts : ∀ w ∈ lw_good, w.before ([.ref h] : List Value).toArray s = true := fun w z => hts0 w (List.mem_cons_of_mem _ z)
  have hown : s.vm.findClass RX12 = some m.cls := findClass_of_methodNamed B.named
  have hlocks := B.notSynchronized
  have hS : va_S (mCells h ad sz) s.heap s.heap [] := va_S.rf
  have hl := lv_entry ([.ref h]) (n := 1) (Nat.le_of_ble_eq_true rfl)
  rw [lg_entry_eq]
  generalize (lg_sl ([.ref h]) ++ List.replicate (1 - (lg_sl ([.ref h])).length) Slot.unset).toArray = ls at hl ⊢
  have hl : lv_has ls 1 [(0, .ref h)] := hl
  unfold F_X12_passes at hF
  refine lv_aload_n hx hb dX12_passes_0 rfl (lv_at hl 0 rfl) ?_
  refine lv_dup hx hb dX12_passes_1 rfl ?_
  refine va_get (D := (dC, dI)) (ci := 12) (v := .int (σ.1 106)) (C := RX12) (T := TX12) (N := 123) hx hb hts ii_X12 hown hK hP 0 rfl rfl 106 (by decide) (hts (.fieldLink RX12 694 "StoryHouseModel" "passes" "I") wq_1462) (fun _ h9 => h9) rfl dX12_passes_2 ?_
  refine lv_iconst (v := 1) hx hb dX12_passes_5 (by decide +kernel) ?_
  refine lv_iadd hx hb dX12_passes_6 ?_
  refine lv_dup_x1 hx hb dX12_passes_7 rfl rfl ?_
  obtain ⟨σ_1, eσ_1, hF_2⟩ := bnd_e hF
  clear hF
  refine m_put (σ' := σ_1) (v := .int ((σ.1 106) + 1)) (ty := .int) hx hb hts hown hK hP (hDD _ _) hS (by rw [eσ_1]; exact mwI_106) (k := 106) (by decide) (hts (.fieldLink RX12 694 "StoryHouseModel" "passes" "I") wq_1462) (fun _ h9 => h9) rfl (by decide +kernel) rfl rfl dX12_passes_8 (fun H locs hP hS => ?_)
  refine lv_sipush (v := 20000) hx hb dX12_passes_11 (by decide +kernel) ?_
  obtain ⟨j_4, ej_4, hF_5⟩ := bnd_e hF_2
  clear hF_2
  have Jj_4 : ∀  (σ_3 : MS), j_4  σ_3 = some res → ∀ (H : Heap) (locs : List Loc), va_P (dC, dI) vwCl (mW cB cI cZ h qK qS ad σ_3) H → va_S (mCells h ad sz) s.heap H locs → ∀ ls : Array Slot, lv_has ls 1 [(0, .ref h)] → W p l e (headSpec (g_ws yX12_passes cX12_passes 1 (some .boolean)) { frames := 2, cells := 0, slots := 0, locals := 61 }).room s m ([.ref h] : List Value).toArray below meth c H locs 0 0 (MQ below (va_Qi (fun r (_ : Unit) => r = res.1) (fun _ t => va_P (dC, dI) vwCl (mW cB cI cZ h qK qS ad res.2) t.heap) (mCells h ad sz)) ([.ref h] : List Value).toArray s 0 0 (mCells h ad sz)) (F0 m 24 ls []) := by
    intro  σ_3 hF0 H locs hP hS ls hl
    subst ej_4
    have hF_6 := hF0
    clear hF0
    refine lv_aload_n hx hb dX12_passes_24 rfl (lv_at hl 0 rfl) ?_
    refine va_get (D := (dC, dI)) (ci := 12) (v := .int (σ_3.1 104)) (C := RX12) (T := TX12) (N := 123) hx hb hts ii_X12 hown hK hP 0 rfl rfl 104 (by decide) (hts (.fieldLink RX12 685 "StoryHouseModel" "stop" "I") wq_1460) (fun _ h9 => h9) rfl dX12_passes_25 ?_
    refine lv_if_ne (tgt := 35) hx hb dX12_passes_28 (by decide) (fun c_7 => ?_) (fun c_7 => ?_)
    · have hF_9 := ineg c_7 hF_6
      clear hF_6
      refine lv_iconst (v := 0) hx hb dX12_passes_35 (by decide +kernel) ?_
      have h9 := Option.some.inj hF_9
      subst h9
      exact W.zret (v := 0) hx hb hr (by decide +kernel) (fun t ht hW => ⟨⟨0, (), rfl, rfl, m_end ht hP⟩, hS.F ht⟩) hS.2.2 dX12_passes_36
    · have hF_8 := ipos c_7 hF_6
      clear hF_6
      refine lv_iconst (v := 1) hx hb dX12_passes_31 (by decide +kernel) ?_
      refine lv_goto (tgt := 36) hx hb dX12_passes_32 (by decide) ?_
      have h9 := Option.some.inj hF_8
      subst h9
      exact W.zret (v := 1) hx hb hr (by decide +kernel) (fun t ht hW => ⟨⟨1, (), rfl, rfl, m_end ht hP⟩, hS.F ht⟩) hS.2.2 dX12_passes_36
  refine lv_icmp_le (tgt := 24) hx hb dX12_passes_14 (by decide) (fun c_10 => ?_) (fun c_10 => ?_)
  · have hF_11 := ipos c_10 hF_5
    clear hF_5
    exact Jj_4  σ_1 hF_11 _ _ hP hS ls (lv_sub hl [0] rfl)
  · have hF_12 := ineg c_10 hF_5
    clear hF_5
    refine lv_aload_n hx hb dX12_passes_17 rfl (lv_at hl 0 rfl) ?_
    refine lv_bipush (v := 6) hx hb dX12_passes_18 (by decide +kernel) ?_
    obtain ⟨u_13, hu_13, hF_14⟩ := Option.bind_eq_some_iff.mp hF_12
    clear hF_12
    refine m_ci hsz hS (va_runV (As := [.int 6]) (rest := []) ⟨hx, hb, hml, hown, hts⟩ (m_X12_breaks l dC dI cB cC cI cJ cZ cP h qK qS ad hDD H.size  6 σ_1 _ hu_13) (cwV 1 hts (g_gV wq_1840 wq_1841 wq_2221 wq_13 wq_1842) rfl rfl rfl (by decide +kernel) ⟨Nat.le_of_ble_eq_true rfl, Nat.le_of_ble_eq_true rfl⟩) (m_preV g_bl0 hsz hK hP hS hE hKS g_to0) rfl rfl hl.1 rfl (lv_room (Nat.le_of_ble_eq_true rfl)) dX12_passes_20 ⟨Nat.le_of_ble_eq_true rfl, Nat.le_of_ble_eq_true rfl⟩) (fun H locs hP hS => ?_)
    refine lv_pop hx hb dX12_passes_23 rfl ?_
    exact Jj_4  u_13.2 hF_14 _ _ hP hS ls (lv_sub hl [0] rfl)
theorem dX12_toDo_0 : decode cX12_toDo 0 = .ok (.aload_n 0, 1) := by decide +kernel
theorem dX12_toDo_1 : decode cX12_toDo 1 = .ok (.getfield 219, 3) := by decide +kernel
theorem dX12_toDo_4 : decode cX12_toDo 4 = .ok (.aload_n 0, 1) := by decide +kernel
theorem dX12_toDo_5 : decode cX12_toDo 5 = .ok (.dup, 1) := by decide +kernel
theorem dX12_toDo_6 : decode cX12_toDo 6 = .ok (.getfield 697, 3) := by decide +kernel
theorem dX12_toDo_9 : decode cX12_toDo 9 = .ok (.dup_x1, 1) := by decide +kernel
theorem dX12_toDo_10 : decode cX12_toDo 10 = .ok (.iconst 1, 1) := by decide +kernel
theorem dX12_toDo_11 : decode cX12_toDo 11 = .ok (.iadd, 1) := by decide +kernel
theorem dX12_toDo_12 : decode cX12_toDo 12 = .ok (.putfield 697, 3) := by decide +kernel
theorem dX12_toDo_15 : decode cX12_toDo 15 = .ok (.iconst 4, 1) := by decide +kernel
theorem dX12_toDo_16 : decode cX12_toDo 16 = .ok (.iload_n 1, 1) := by decide +kernel
theorem dX12_toDo_17 : decode cX12_toDo 17 = .ok (.imul, 1) := by decide +kernel
theorem dX12_toDo_18 : decode cX12_toDo 18 = .ok (.iload_n 2, 1) := by decide +kernel
theorem dX12_toDo_19 : decode cX12_toDo 19 = .ok (.iadd, 1) := by decide +kernel
theorem dX12_toDo_20 : decode cX12_toDo 20 = .ok (.iastore, 1) := by decide +kernel
theorem dX12_toDo_21 : decode cX12_toDo 21 = .ok (.return_, 1) := by decide +kernel
def F_X12_toDo (p0 : Int32) (p1 : Int32) (σ : MS) : MR :=
  bnd (mI σ 113 ((σ.1 113) + 1)) fun σ_1 =>
  if (σ.1 113) < 0 ∨ 130000 ≤ (σ.1 113).toNatClampNeg then none else
  bnd (mA σ_1 112 (upd (σ_1.2 112) (σ.1 113).toNatClampNeg ((4 * p0) + p1))) fun σ_5 =>
  some (0, σ_5)
set_option maxHeartbeats 4000000 in
set_option maxRecDepth 100000 in
theorem m_X12_toDo (l : Launch) (dC : Nat → ClassId) (dI : Nat → Nat → Nat) (cB cC cI cJ cZ cP : ClassId) (h qK qS : Nat) (ad : Nat → Nat) (hDD : mDis cB cI cZ h qK qS ad) (sz : Nat)  (p0 : Int32) (p1 : Int32) (σ : MS) (res : Int32 × MS) (hF : F_X12_toDo p0 p1 σ = some res) : Met l yX12_toDo (g_ws yX12_toDo cX12_toDo 3 none) ({ frames := 1, cells := 0, slots := 0, locals := 40 }) (va_Pc [.ref h, .int p0, .int p1] (m_B (dC, dI) [(cB, .byte), (cC, .char), (cI, .int), (cJ, .long), (cZ, .boolean), (cP, .object "StoryHouse$Play")] sz h ad qK qS (mW cB cI cZ h qK qS ad σ) g_0)) (va_Qv (fun (_ : Unit) => True) (fun _ t => va_P (dC, dI) vwCl (mW cB cI cZ h qK qS ad res.2) t.heap) (mCells h ad sz)) 0 0 (mCells h ad sz) := by
  refine Met.ofW (cc := cX12_toDo) (maxL := 3) (ret := none) (by decide) rfl ?_
  intro p e s m args below meth c s₁ B hml hv
  obtain ⟨rfl, hsz, hP, hK, hE, hKS, hX⟩ := hv
  have hx := B.exec
  have hb := B.bytes
  have hr := B.returns
  have hts0 := atoms_spec (ws := g_ws yX12_toDo cX12_toDo 3 none) B.pre
  have hts : ∀ w ∈ lw_good, w.before ([.ref h, .int p0, .int p1] : List Value).toArray s = true := fun w z => hts0 w (List.mem_cons_of_mem _ z)
  have hown : s.vm.findClass RX12 = some m.cls := findClass_of_methodNamed B.named
  have hlocks := B.notSynchronized
  have hS : va_S (mCells h ad sz) s.heap s.heap [] := va_S.rf
  have hl := lv_entry ([.ref h, .int p0, .int p1]) (n := 3) (Nat.le_of_ble_eq_true rfl)
  rw [lg_entry_eq]
  generalize (lg_sl ([.ref h, .int p0, .int p1]) ++ List.replicate (3 - (lg_sl ([.ref h, .int p0, .int p1])).length) Slot.unset).toArray = ls at hl ⊢
  have hl : lv_has ls 3 [(0, .ref h), (1, .int p0), (2, .int p1)] := hl
  unfold F_X12_toDo at hF
  refine lv_aload_n hx hb dX12_toDo_0 rfl (lv_at hl 0 rfl) ?_
  refine va_get (D := (dC, dI)) (ci := 12) (v := .ref (ad 112)) (C := RX12) (T := TX12) (N := 123) hx hb hts ii_X12 hown hK hP 0 rfl rfl 112 (by decide) (hts (.fieldLink RX12 219 "StoryHouseModel" "work" "[I") wq_1468) (fun _ h9 => h9) rfl dX12_toDo_1 ?_
  refine lv_aload_n hx hb dX12_toDo_4 rfl (lv_at hl 0 rfl) ?_
  refine lv_dup hx hb dX12_toDo_5 rfl ?_
  refine va_get (D := (dC, dI)) (ci := 12) (v := .int (σ.1 113)) (C := RX12) (T := TX12) (N := 123) hx hb hts ii_X12 hown hK hP 0 rfl rfl 113 (by decide) (hts (.fieldLink RX12 697 "StoryHouseModel" "works" "I") wq_1469) (fun _ h9 => h9) rfl dX12_toDo_6 ?_
  refine lv_dup_x1 hx hb dX12_toDo_9 rfl rfl ?_
  refine lv_iconst (v := 1) hx hb dX12_toDo_10 (by decide +kernel) ?_
  refine lv_iadd hx hb dX12_toDo_11 ?_
  obtain ⟨σ_1, eσ_1, hF_2⟩ := bnd_e hF
  clear hF
  refine m_put (σ' := σ_1) (v := .int ((σ.1 113) + 1)) (ty := .int) hx hb hts hown hK hP (hDD _ _) hS (by rw [eσ_1]; exact mwI_113) (k := 113) (by decide) (hts (.fieldLink RX12 697 "StoryHouseModel" "works" "I") wq_1469) (fun _ h9 => h9) rfl (by decide +kernel) rfl rfl dX12_toDo_12 (fun H locs hP hS => ?_)
  refine lv_iconst (v := 4) hx hb dX12_toDo_15 (by decide +kernel) ?_
  refine lv_iload_n hx hb dX12_toDo_16 rfl (lv_at hl 1 rfl) ?_
  refine lv_imul hx hb dX12_toDo_17 ?_
  refine lv_iload_n hx hb dX12_toDo_18 rfl (lv_at hl 2 rfl) ?_
  refine lv_iadd hx hb dX12_toDo_19 ?_
  obtain ⟨g_3, hF_4⟩ := nif_e hF_2
  clear hF_2
  obtain ⟨σ_5, eσ_5, hF_6⟩ := bnd_e hF_4
  clear hF_4
  refine m_iast (σ' := σ_5) hx hb hK hP (hDD _ _) hS (q0 := 63) (t0 := 2) (f := σ_1.2 112) rfl rfl (by rw [eσ_5]; exact mwA_112) g_3 dX12_toDo_20 (fun H locs hP hS => ?_)
  have h9 := Option.some.inj hF_6
  subst h9
  exact W.vret hx hb hr (fun t ht hW => ⟨⟨(), rfl, trivial, m_end ht hP⟩, hS.F ht⟩) hS.2.2 dX12_toDo_21
theorem dX12_cellAt_0 : decode cX12_cellAt 0 = .ok (.aload_n 0, 1) := by decide +kernel
theorem dX12_cellAt_1 : decode cX12_cellAt 1 = .ok (.getfield 685, 3) := by decide +kernel
theorem dX12_cellAt_4 : decode cX12_cellAt 4 = .ok (.ifCond .eq 5, 3) := by decide +kernel
theorem dX12_cellAt_7 : decode cX12_cellAt 7 = .ok (.iconst 0, 1) := by decide +kernel
theorem dX12_cellAt_8 : decode cX12_cellAt 8 = .ok (.ireturn, 1) := by decide +kernel
theorem dX12_cellAt_9 : decode cX12_cellAt 9 = .ok (.iload_n 2, 1) := by decide +kernel
theorem dX12_cellAt_10 : decode cX12_cellAt 10 = .ok (.ifCond .lt 22, 3) := by decide +kernel
theorem dX12_cellAt_13 : decode cX12_cellAt 13 = .ok (.iload_n 2, 1) := by decide +kernel
theorem dX12_cellAt_14 : decode cX12_cellAt 14 = .ok (.aload_n 0, 1) := by decide +kernel
theorem dX12_cellAt_15 : decode cX12_cellAt 15 = .ok (.getfield 176, 3) := by decide +kernel
theorem dX12_cellAt_18 : decode cX12_cellAt 18 = .ok (.iload_n 1, 1) := by decide +kernel
theorem dX12_cellAt_19 : decode cX12_cellAt 19 = .ok (.iconst 1, 1) := by decide +kernel
theorem dX12_cellAt_20 : decode cX12_cellAt 20 = .ok (.iadd, 1) := by decide +kernel
theorem dX12_cellAt_21 : decode cX12_cellAt 21 = .ok (.iaload, 1) := by decide +kernel
theorem dX12_cellAt_22 : decode cX12_cellAt 22 = .ok (.aload_n 0, 1) := by decide +kernel
theorem dX12_cellAt_23 : decode cX12_cellAt 23 = .ok (.getfield 176, 3) := by decide +kernel
theorem dX12_cellAt_26 : decode cX12_cellAt 26 = .ok (.iload_n 1, 1) := by decide +kernel
theorem dX12_cellAt_27 : decode cX12_cellAt 27 = .ok (.iaload, 1) := by decide +kernel
theorem dX12_cellAt_28 : decode cX12_cellAt 28 = .ok (.isub, 1) := by decide +kernel
theorem dX12_cellAt_29 : decode cX12_cellAt 29 = .ok (.if_icmp .lt 9, 3) := by decide +kernel
theorem dX12_cellAt_32 : decode cX12_cellAt 32 = .ok (.aload_n 0, 1) := by decide +kernel
theorem dX12_cellAt_33 : decode cX12_cellAt 33 = .ok (.iconst 4, 1) := by decide +kernel
theorem dX12_cellAt_34 : decode cX12_cellAt 34 = .ok (.invokevirtual 691, 3) := by decide +kernel
theorem dX12_cellAt_37 : decode cX12_cellAt 37 = .ok (.pop, 1) := by decide +kernel
theorem dX12_cellAt_38 : decode cX12_cellAt 38 = .ok (.aload_n 0, 1) := by decide +kernel
theorem dX12_cellAt_39 : decode cX12_cellAt 39 = .ok (.getfield 685, 3) := by decide +kernel
theorem dX12_cellAt_42 : decode cX12_cellAt 42 = .ok (.ifCond .ne 7, 3) := by decide +kernel
theorem dX12_cellAt_45 : decode cX12_cellAt 45 = .ok (.iconst 1, 1) := by decide +kernel
theorem dX12_cellAt_46 : decode cX12_cellAt 46 = .ok (.goto 4, 3) := by decide +kernel
theorem dX12_cellAt_49 : decode cX12_cellAt 49 = .ok (.iconst 0, 1) := by decide +kernel
theorem dX12_cellAt_50 : decode cX12_cellAt 50 = .ok (.ireturn, 1) := by decide +kernel
def F_X12_cellAt (p0 : Int32) (p1 : Int32) (σ : MS) : MR :=
  if (σ.1 104) = 0 then (
    bnd (fun  (σ_3 : MS) => (
      if (σ_3.1 104) = 0 then (
        some (1, σ_3)
      ) else (
        some (0, σ_3)
      )
    ) : MS → MR) fun j_4 =>
    bnd (fun  (σ_10 : MS) => (
      (F_X12_breaks 4 σ_10).bind fun u_14 =>
      j_4  u_14.2
    ) : MS → MR) fun j_11 =>
    if p1 < 0 then (
      j_11  σ
    ) else (
      bnd ((p0 + 1)) fun (x_19 : Int32) =>
      if x_19 < 0 ∨ 21 ≤ x_19.toNatClampNeg then none else
      if p0 < 0 ∨ 21 ≤ p0.toNatClampNeg then none else
      bnd (((σ.2 77 x_19.toNatClampNeg) - (σ.2 77 p0.toNatClampNeg))) fun (x_25 : Int32) =>
      if p1 < x_25 then (
        j_4  σ
      ) else (
        j_11  σ
      )
    )
  ) else (
    some (0, σ)
  )
set_option maxHeartbeats 4000000 in
set_option maxRecDepth 100000 in
theorem m_X12_cellAt (l : Launch) (dC : Nat → ClassId) (dI : Nat → Nat → Nat) (cB cC cI cJ cZ cP : ClassId) (h qK qS : Nat) (ad : Nat → Nat) (hDD : mDis cB cI cZ h qK qS ad) (sz : Nat)  (p0 : Int32) (p1 : Int32) (σ : MS) (res : Int32 × MS) (hF : F_X12_cellAt p0 p1 σ = some res) : Met l yX12_cellAt (g_ws yX12_cellAt cX12_cellAt 3 (some .boolean)) ({ frames := 2, cells := 0, slots := 0, locals := 61 }) (va_Pc [.ref h, .int p0, .int p1] (m_B (dC, dI) [(cB, .byte), (cC, .char), (cI, .int), (cJ, .long), (cZ, .boolean), (cP, .object "StoryHouse$Play")] sz h ad qK qS (mW cB cI cZ h qK qS ad σ) g_0)) (va_Qi (fun r (_ : Unit) => r = res.1) (fun _ t => va_P (dC, dI) vwCl (mW cB cI cZ h qK qS ad res.2) t.heap) (mCells h ad sz)) 0 0 (mCells h ad sz) := by
  refine Met.ofW (cc := cX12_cellAt) (maxL := 3) (ret := (some .boolean)) (by decide) rfl ?_
  intro p e s m args below meth c s₁ B hml hv
  obtain ⟨rfl, hsz, hP, hK, hE, hKS, hX⟩ := hv
  have hx := B.exec
  have hb := B.bytes
  have hr := B.returns
  have hts0 := atoms_spec (ws := g_ws yX12_cellAt cX12_cellAt 3 (some .boolean)) B.pre
  have hts : ∀ w ∈ lw_good, w.before ([.ref h, .int p0, .int p1] : List Value).toArray s = true := fun w z => hts0 w (List.mem_cons_of_mem _ z)
  have hown : s.vm.findClass RX12 = some m.cls := findClass_of_methodNamed B.named
  have hlocks := B.notSynchronized
  have hS : va_S (mCells h ad sz) s.heap s.heap [] := va_S.rf
  have hl := lv_entry ([.ref h, .int p0, .int p1]) (n := 3) (Nat.le_of_ble_eq_true rfl)
  rw [lg_entry_eq]
  generalize (lg_sl ([.ref h, .int p0, .int p1]) ++ List.replicate (3 - (lg_sl ([.ref h, .int p0, .int p1])).length) Slot.unset).toArray = ls at hl ⊢
  have hl : lv_has ls 3 [(0, .ref h), (1, .int p0), (2, .int p1)] := hl
  unfold F_X12_cellAt at hF
  refine lv_aload_n hx hb dX12_cellAt_0 rfl (lv_at hl 0 rfl) ?_
  refine va_get (D := (dC, dI)) (ci := 12) (v := .int (σ.1 104)) (C := RX12) (T := TX12) (N := 123) hx hb hts ii_X12 hown hK hP 0 rfl rfl 104 (by decide) (hts (.fieldLink RX12 685 "StoryHouseModel" "stop" "I") wq_1460) (fun _ h9 => h9) rfl dX12_cellAt_1 ?_
  refine lv_if_eq (tgt := 9) hx hb dX12_cellAt_4 (by decide) (fun c_1 => ?_) (fun c_1 => ?_)
  · have hF_2 := ipos c_1 hF
    clear hF
    refine lv_iload_n hx hb dX12_cellAt_9 rfl (lv_at hl 2 rfl) ?_
    obtain ⟨j_4, ej_4, hF_5⟩ := bnd_e hF_2
    clear hF_2
    have Jj_4 : ∀  (σ_3 : MS), j_4  σ_3 = some res → ∀ (H : Heap) (locs : List Loc), va_P (dC, dI) vwCl (mW cB cI cZ h qK qS ad σ_3) H → va_S (mCells h ad sz) s.heap H locs → ∀ ls : Array Slot, lv_has ls 3 [(0, .ref h)] → W p l e (headSpec (g_ws yX12_cellAt cX12_cellAt 3 (some .boolean)) { frames := 2, cells := 0, slots := 0, locals := 61 }).room s m ([.ref h, .int p0, .int p1] : List Value).toArray below meth c H locs 0 0 (MQ below (va_Qi (fun r (_ : Unit) => r = res.1) (fun _ t => va_P (dC, dI) vwCl (mW cB cI cZ h qK qS ad res.2) t.heap) (mCells h ad sz)) ([.ref h, .int p0, .int p1] : List Value).toArray s 0 0 (mCells h ad sz)) (F0 m 38 ls []) := by
      intro  σ_3 hF0 H locs hP hS ls hl
      subst ej_4
      have hF_6 := hF0
      clear hF0
      refine lv_aload_n hx hb dX12_cellAt_38 rfl (lv_at hl 0 rfl) ?_
      refine va_get (D := (dC, dI)) (ci := 12) (v := .int (σ_3.1 104)) (C := RX12) (T := TX12) (N := 123) hx hb hts ii_X12 hown hK hP 0 rfl rfl 104 (by decide) (hts (.fieldLink RX12 685 "StoryHouseModel" "stop" "I") wq_1460) (fun _ h9 => h9) rfl dX12_cellAt_39 ?_
      refine lv_if_ne (tgt := 49) hx hb dX12_cellAt_42 (by decide) (fun c_7 => ?_) (fun c_7 => ?_)
      · have hF_9 := ineg c_7 hF_6
        clear hF_6
        refine lv_iconst (v := 0) hx hb dX12_cellAt_49 (by decide +kernel) ?_
        have h9 := Option.some.inj hF_9
        subst h9
        exact W.zret (v := 0) hx hb hr (by decide +kernel) (fun t ht hW => ⟨⟨0, (), rfl, rfl, m_end ht hP⟩, hS.F ht⟩) hS.2.2 dX12_cellAt_50
      · have hF_8 := ipos c_7 hF_6
        clear hF_6
        refine lv_iconst (v := 1) hx hb dX12_cellAt_45 (by decide +kernel) ?_
        refine lv_goto (tgt := 50) hx hb dX12_cellAt_46 (by decide) ?_
        have h9 := Option.some.inj hF_8
        subst h9
        exact W.zret (v := 1) hx hb hr (by decide +kernel) (fun t ht hW => ⟨⟨1, (), rfl, rfl, m_end ht hP⟩, hS.F ht⟩) hS.2.2 dX12_cellAt_50
    obtain ⟨j_11, ej_11, hF_12⟩ := bnd_e hF_5
    clear hF_5
    have Jj_11 : ∀  (σ_10 : MS), j_11  σ_10 = some res → ∀ (H : Heap) (locs : List Loc), va_P (dC, dI) vwCl (mW cB cI cZ h qK qS ad σ_10) H → va_S (mCells h ad sz) s.heap H locs → ∀ ls : Array Slot, lv_has ls 3 [(0, .ref h)] → W p l e (headSpec (g_ws yX12_cellAt cX12_cellAt 3 (some .boolean)) { frames := 2, cells := 0, slots := 0, locals := 61 }).room s m ([.ref h, .int p0, .int p1] : List Value).toArray below meth c H locs 0 0 (MQ below (va_Qi (fun r (_ : Unit) => r = res.1) (fun _ t => va_P (dC, dI) vwCl (mW cB cI cZ h qK qS ad res.2) t.heap) (mCells h ad sz)) ([.ref h, .int p0, .int p1] : List Value).toArray s 0 0 (mCells h ad sz)) (F0 m 32 ls []) := by
      intro  σ_10 hF0 H locs hP hS ls hl
      subst ej_11
      have hF_13 := hF0
      clear hF0
      refine lv_aload_n hx hb dX12_cellAt_32 rfl (lv_at hl 0 rfl) ?_
      refine lv_iconst (v := 4) hx hb dX12_cellAt_33 (by decide +kernel) ?_
      obtain ⟨u_14, hu_14, hF_15⟩ := Option.bind_eq_some_iff.mp hF_13
      clear hF_13
      refine m_ci hsz hS (va_runV (As := [.int 4]) (rest := []) ⟨hx, hb, hml, hown, hts⟩ (m_X12_breaks l dC dI cB cC cI cJ cZ cP h qK qS ad hDD H.size  4 σ_10 _ hu_14) (cwV 1 hts (g_gV wq_1840 wq_1841 wq_2221 wq_13 wq_1842) rfl rfl rfl (by decide +kernel) ⟨Nat.le_of_ble_eq_true rfl, Nat.le_of_ble_eq_true rfl⟩) (m_preV g_bl0 hsz hK hP hS hE hKS g_to0) rfl rfl hl.1 rfl (lv_room (Nat.le_of_ble_eq_true rfl)) dX12_cellAt_34 ⟨Nat.le_of_ble_eq_true rfl, Nat.le_of_ble_eq_true rfl⟩) (fun H locs hP hS => ?_)
      refine lv_pop hx hb dX12_cellAt_37 rfl ?_
      exact Jj_4  u_14.2 hF_15 _ _ hP hS ls (lv_sub hl [0] rfl)
    refine lv_if_lt (tgt := 32) hx hb dX12_cellAt_10 (by decide) (fun c_16 => ?_) (fun c_16 => ?_)
    · have hF_17 := ipos c_16 hF_12
      clear hF_12
      exact Jj_11  σ hF_17 _ _ hP hS ls (lv_sub hl [0] rfl)
    · have hF_18 := ineg c_16 hF_12
      clear hF_12
      refine lv_iload_n hx hb dX12_cellAt_13 rfl (lv_at hl 2 rfl) ?_
      refine lv_aload_n hx hb dX12_cellAt_14 rfl (lv_at hl 0 rfl) ?_
      refine va_get (D := (dC, dI)) (ci := 12) (v := .ref (ad 77)) (C := RX12) (T := TX12) (N := 123) hx hb hts ii_X12 hown hK hP 0 rfl rfl 77 (by decide) (hts (.fieldLink RX12 176 "StoryHouseModel" "arrayAt" "[I") wq_1433) (fun _ h9 => h9) rfl dX12_cellAt_15 ?_
      refine lv_iload_n hx hb dX12_cellAt_18 rfl (lv_at hl 1 rfl) ?_
      refine lv_iconst (v := 1) hx hb dX12_cellAt_19 (by decide +kernel) ?_
      refine lv_iadd hx hb dX12_cellAt_20 ?_
      obtain ⟨x_19, ex_19, hF_20⟩ := bnd_e hF_18
      clear hF_18
      refine m_top ex_19 ?_
      obtain ⟨g_21, hF_22⟩ := nif_e hF_20
      clear hF_20
      refine va_iald (f := σ.2 77) hx hb hK hP 50 2 rfl rfl g_21 dX12_cellAt_21 ?_
      refine lv_aload_n hx hb dX12_cellAt_22 rfl (lv_at hl 0 rfl) ?_
      refine va_get (D := (dC, dI)) (ci := 12) (v := .ref (ad 77)) (C := RX12) (T := TX12) (N := 123) hx hb hts ii_X12 hown hK hP 0 rfl rfl 77 (by decide) (hts (.fieldLink RX12 176 "StoryHouseModel" "arrayAt" "[I") wq_1433) (fun _ h9 => h9) rfl dX12_cellAt_23 ?_
      refine lv_iload_n hx hb dX12_cellAt_26 rfl (lv_at hl 1 rfl) ?_
      obtain ⟨g_23, hF_24⟩ := nif_e hF_22
      clear hF_22
      refine va_iald (f := σ.2 77) hx hb hK hP 50 2 rfl rfl g_23 dX12_cellAt_27 ?_
      refine lv_isub hx hb dX12_cellAt_28 ?_
      obtain ⟨x_25, ex_25, hF_26⟩ := bnd_e hF_24
      clear hF_24
      refine m_top ex_25 ?_
      refine lv_icmp_lt (tgt := 38) hx hb dX12_cellAt_29 (by decide) (fun c_27 => ?_) (fun c_27 => ?_)
      · have hF_28 := ipos c_27 hF_26
        clear hF_26
        exact Jj_4  σ hF_28 _ _ hP hS ls (lv_sub hl [0] rfl)
      · have hF_29 := ineg c_27 hF_26
        clear hF_26
        exact Jj_11  σ hF_29 _ _ hP hS ls (lv_sub hl [0] rfl)
  · have hF_30 := ineg c_1 hF
    clear hF
    refine lv_iconst (v := 0) hx hb dX12_cellAt_7 (by decide +kernel) ?_
    have h9 := Option.some.inj hF_30
    subst h9
    exact W.zret (v := 0) hx hb hr (by decide +kernel) (fun t ht hW => ⟨⟨0, (), rfl, rfl, m_end ht hP⟩, hS.F ht⟩) hS.2.2 dX12_cellAt_8
theorem dX12_move_0 : decode cX12_move 0 = .ok (.aload_n 0, 1) := by decide +kernel
theorem dX12_move_1 : decode cX12_move 1 = .ok (.iload_n 1, 1) := by decide +kernel
theorem dX12_move_2 : decode cX12_move 2 = .ok (.invokevirtual 736, 3) := by decide +kernel
theorem dX12_move_5 : decode cX12_move 5 = .ok (.ifCond .eq 11, 3) := by decide +kernel
theorem dX12_move_8 : decode cX12_move 8 = .ok (.aload_n 0, 1) := by decide +kernel
theorem dX12_move_9 : decode cX12_move 9 = .ok (.iload_n 2, 1) := by decide +kernel
theorem dX12_move_10 : decode cX12_move 10 = .ok (.invokevirtual 736, 3) := by decide +kernel
theorem dX12_move_13 : decode cX12_move 13 = .ok (.ifCond .ne 4, 3) := by decide +kernel
theorem dX12_move_16 : decode cX12_move 16 = .ok (.return_, 1) := by decide +kernel
theorem dX12_move_17 : decode cX12_move 17 = .ok (.aload_n 0, 1) := by decide +kernel
theorem dX12_move_18 : decode cX12_move 18 = .ok (.getfield 97, 3) := by decide +kernel
theorem dX12_move_21 : decode cX12_move 21 = .ok (.iload_n 1, 1) := by decide +kernel
theorem dX12_move_22 : decode cX12_move 22 = .ok (.baload, 1) := by decide +kernel
theorem dX12_move_23 : decode cX12_move 23 = .ok (.ifCond .ne 17, 3) := by decide +kernel
theorem dX12_move_26 : decode cX12_move 26 = .ok (.iload_n 1, 1) := by decide +kernel
theorem dX12_move_27 : decode cX12_move 27 = .ok (.iconst 1, 1) := by decide +kernel
theorem dX12_move_28 : decode cX12_move 28 = .ok (.if_icmp .ne 21, 3) := by decide +kernel
theorem dX12_move_31 : decode cX12_move 31 = .ok (.aload_n 0, 1) := by decide +kernel
theorem dX12_move_32 : decode cX12_move 32 = .ok (.getfield 97, 3) := by decide +kernel
theorem dX12_move_35 : decode cX12_move 35 = .ok (.iload_n 2, 1) := by decide +kernel
theorem dX12_move_36 : decode cX12_move 36 = .ok (.baload, 1) := by decide +kernel
theorem dX12_move_37 : decode cX12_move 37 = .ok (.ifCond .ne 12, 3) := by decide +kernel
theorem dX12_move_40 : decode cX12_move 40 = .ok (.aload_n 0, 1) := by decide +kernel
theorem dX12_move_41 : decode cX12_move 41 = .ok (.iconst 2, 1) := by decide +kernel
theorem dX12_move_42 : decode cX12_move 42 = .ok (.invokevirtual 691, 3) := by decide +kernel
theorem dX12_move_45 : decode cX12_move 45 = .ok (.pop, 1) := by decide +kernel
theorem dX12_move_46 : decode cX12_move 46 = .ok (.goto 27, 3) := by decide +kernel
theorem dX12_move_49 : decode cX12_move 49 = .ok (.aload_n 0, 1) := by decide +kernel
theorem dX12_move_50 : decode cX12_move 50 = .ok (.iload_n 2, 1) := by decide +kernel
theorem dX12_move_51 : decode cX12_move 51 = .ok (.iload_n 1, 1) := by decide +kernel
theorem dX12_move_52 : decode cX12_move 52 = .ok (.invokevirtual 774, 3) := by decide +kernel
theorem dX12_move_55 : decode cX12_move 55 = .ok (.ifCond .eq 12, 3) := by decide +kernel
theorem dX12_move_58 : decode cX12_move 58 = .ok (.aload_n 0, 1) := by decide +kernel
theorem dX12_move_59 : decode cX12_move 59 = .ok (.iconst 3, 1) := by decide +kernel
theorem dX12_move_60 : decode cX12_move 60 = .ok (.invokevirtual 691, 3) := by decide +kernel
theorem dX12_move_63 : decode cX12_move 63 = .ok (.pop, 1) := by decide +kernel
theorem dX12_move_64 : decode cX12_move 64 = .ok (.goto 9, 3) := by decide +kernel
theorem dX12_move_67 : decode cX12_move 67 = .ok (.aload_n 0, 1) := by decide +kernel
theorem dX12_move_68 : decode cX12_move 68 = .ok (.iload_n 1, 1) := by decide +kernel
theorem dX12_move_69 : decode cX12_move 69 = .ok (.iload_n 2, 1) := by decide +kernel
theorem dX12_move_70 : decode cX12_move 70 = .ok (.invokevirtual 777, 3) := by decide +kernel
theorem dX12_move_73 : decode cX12_move 73 = .ok (.return_, 1) := by decide +kernel
def F_X12_move (p0 : Int32) (p1 : Int32) (σ : MS) : MR :=
  (F_X12_isObject p0 σ).bind fun u_1 =>
  if u_1.1 = 0 then (
    some (0, u_1.2)
  ) else (
    (F_X12_isObject p1 u_1.2).bind fun u_6 =>
    if u_6.1 = 0 then (
      some (0, u_6.2)
    ) else (
      if p0 < 0 ∨ 121 ≤ p0.toNatClampNeg then none else
      bnd (fun  (σ_13 : MS) => (
        (F_X12_breaks 2 σ_13).bind fun u_17 =>
        some (0, u_17.2)
      ) : MS → MR) fun j_14 =>
      if (u_6.2.2 50 p0.toNatClampNeg) = 0 then (
        bnd (fun  (σ_21 : MS) => (
          (F_X12_within p1 p0 σ_21).bind fun u_25 =>
          if u_25.1 = 0 then (
            (F_X12_putIn p0 p1 u_25.2).bind fun u_29 =>
            some (0, u_29.2)
          ) else (
            (F_X12_breaks 3 u_25.2).bind fun u_32 =>
            some (0, u_32.2)
          )
        ) : MS → MR) fun j_22 =>
        if p0 = 1 then (
          if p1 < 0 ∨ 121 ≤ p1.toNatClampNeg then none else
          if (u_6.2.2 50 p1.toNatClampNeg) = 0 then (
            j_14  u_6.2
          ) else (
            j_22  u_6.2
          )
        ) else (
          j_22  u_6.2
        )
      ) else (
        j_14  u_6.2
      )
    )
  )
set_option maxHeartbeats 4000000 in
set_option maxRecDepth 100000 in
theorem m_X12_move (l : Launch) (dC : Nat → ClassId) (dI : Nat → Nat → Nat) (cB cC cI cJ cZ cP : ClassId) (h qK qS : Nat) (ad : Nat → Nat) (hDD : mDis cB cI cZ h qK qS ad) (sz : Nat)  (p0 : Int32) (p1 : Int32) (σ : MS) (res : Int32 × MS) (hF : F_X12_move p0 p1 σ = some res) : Met l yX12_move (g_ws yX12_move cX12_move 3 none) ({ frames := 3, cells := 0, slots := 0, locals := 85 }) (va_Pc [.ref h, .int p0, .int p1] (m_B (dC, dI) [(cB, .byte), (cC, .char), (cI, .int), (cJ, .long), (cZ, .boolean), (cP, .object "StoryHouse$Play")] sz h ad qK qS (mW cB cI cZ h qK qS ad σ) g_0)) (va_Qv (fun (_ : Unit) => True) (fun _ t => va_P (dC, dI) vwCl (mW cB cI cZ h qK qS ad res.2) t.heap) (mCells h ad sz)) 0 0 (mCells h ad sz) := by
  refine Met.ofW (cc := cX12_move) (maxL := 3) (ret := none) (by decide) rfl ?_
  intro p e s m args below meth c s₁ B hml hv
  obtain ⟨rfl, hsz, hP, hK, hE, hKS, hX⟩ := hv
  have hx := B.exec
  have hb := B.bytes
  have hr := B.returns
  have hts0 := atoms_spec (ws := g_ws yX12_move cX12_move 3 none) B.pre
  have hts : ∀ w ∈ lw_good, w.before ([.ref h, .int p0, .int p1] : List Value).toArray s = true := fun w z => hts0 w (List.mem_cons_of_mem _ z)
  have hown : s.vm.findClass RX12 = some m.cls := findClass_of_methodNamed B.named
  have hlocks := B.notSynchronized
  have hS : va_S (mCells h ad sz) s.heap s.heap [] := va_S.rf
  have hl := lv_entry ([.ref h, .int p0, .int p1]) (n := 3) (Nat.le_of_ble_eq_true rfl)
  rw [lg_entry_eq]
  generalize (lg_sl ([.ref h, .int p0, .int p1]) ++ List.replicate (3 - (lg_sl ([.ref h, .int p0, .int p1])).length) Slot.unset).toArray = ls at hl ⊢
  have hl : lv_has ls 3 [(0, .ref h), (1, .int p0), (2, .int p1)] := hl
  unfold F_X12_move at hF
  refine lv_aload_n hx hb dX12_move_0 rfl (lv_at hl 0 rfl) ?_
  refine lv_iload_n hx hb dX12_move_1 rfl (lv_at hl 1 rfl) ?_
  obtain ⟨u_1, hu_1, hF_2⟩ := Option.bind_eq_some_iff.mp hF
  clear hF
  refine m_ci hsz hS (va_runV (As := [.int p0]) (rest := []) ⟨hx, hb, hml, hown, hts⟩ (m_X12_isObject l dC dI cB cC cI cJ cZ cP h qK qS ad hDD s.heap.size  p0 σ _ hu_1) (cwV 1 hts (g_gV wq_1852 wq_1853 wq_2225 wq_13 wq_1854) rfl rfl rfl (by decide +kernel) ⟨Nat.le_of_ble_eq_true rfl, Nat.le_of_ble_eq_true rfl⟩) (m_preV g_bl0 hsz hK hP hS hE hKS g_to0) rfl rfl hl.1 rfl (lv_room (Nat.le_of_ble_eq_true rfl)) dX12_move_2 ⟨Nat.le_of_ble_eq_true rfl, Nat.le_of_ble_eq_true rfl⟩) (fun H locs hP hS => ?_)
  refine lv_if_eq (tgt := 16) hx hb dX12_move_5 (by decide) (fun c_3 => ?_) (fun c_3 => ?_)
  · have hF_4 := ipos c_3 hF_2
    clear hF_2
    have h9 := Option.some.inj hF_4
    subst h9
    exact W.vret hx hb hr (fun t ht hW => ⟨⟨(), rfl, trivial, m_end ht hP⟩, hS.F ht⟩) hS.2.2 dX12_move_16
  · have hF_5 := ineg c_3 hF_2
    clear hF_2
    refine lv_aload_n hx hb dX12_move_8 rfl (lv_at hl 0 rfl) ?_
    refine lv_iload_n hx hb dX12_move_9 rfl (lv_at hl 2 rfl) ?_
    obtain ⟨u_6, hu_6, hF_7⟩ := Option.bind_eq_some_iff.mp hF_5
    clear hF_5
    refine m_ci hsz hS (va_runV (As := [.int p1]) (rest := []) ⟨hx, hb, hml, hown, hts⟩ (m_X12_isObject l dC dI cB cC cI cJ cZ cP h qK qS ad hDD H.size  p1 u_1.2 _ hu_6) (cwV 1 hts (g_gV wq_1852 wq_1853 wq_2225 wq_13 wq_1854) rfl rfl rfl (by decide +kernel) ⟨Nat.le_of_ble_eq_true rfl, Nat.le_of_ble_eq_true rfl⟩) (m_preV g_bl0 hsz hK hP hS hE hKS g_to0) rfl rfl hl.1 rfl (lv_room (Nat.le_of_ble_eq_true rfl)) dX12_move_10 ⟨Nat.le_of_ble_eq_true rfl, Nat.le_of_ble_eq_true rfl⟩) (fun H locs hP hS => ?_)
    refine lv_if_ne (tgt := 17) hx hb dX12_move_13 (by decide) (fun c_8 => ?_) (fun c_8 => ?_)
    · have hF_10 := ineg c_8 hF_7
      clear hF_7
      refine lv_aload_n hx hb dX12_move_17 rfl (lv_at hl 0 rfl) ?_
      refine va_get (D := (dC, dI)) (ci := 12) (v := .ref (ad 50)) (C := RX12) (T := TX12) (N := 123) hx hb hts ii_X12 hown hK hP 0 rfl rfl 50 (by decide) (hts (.fieldLink RX12 97 "StoryHouseModel" "isRoom" "[Z") wq_1406) (fun _ h9 => h9) rfl dX12_move_18 ?_
      refine lv_iload_n hx hb dX12_move_21 rfl (lv_at hl 1 rfl) ?_
      obtain ⟨g_11, hF_12⟩ := nif_e hF_10
      clear hF_10
      refine va_zald (f := u_6.2.2 50) hx hb hK hP 24 4 rfl rfl g_11 dX12_move_22 ?_
      obtain ⟨j_14, ej_14, hF_15⟩ := bnd_e hF_12
      clear hF_12
      have Jj_14 : ∀  (σ_13 : MS), j_14  σ_13 = some res → ∀ (H : Heap) (locs : List Loc), va_P (dC, dI) vwCl (mW cB cI cZ h qK qS ad σ_13) H → va_S (mCells h ad sz) s.heap H locs → ∀ ls : Array Slot, lv_has ls 3 [(0, .ref h)] → W p l e (headSpec (g_ws yX12_move cX12_move 3 none) { frames := 3, cells := 0, slots := 0, locals := 85 }).room s m ([.ref h, .int p0, .int p1] : List Value).toArray below meth c H locs 0 0 (MQ below (va_Qv (fun (_ : Unit) => True) (fun _ t => va_P (dC, dI) vwCl (mW cB cI cZ h qK qS ad res.2) t.heap) (mCells h ad sz)) ([.ref h, .int p0, .int p1] : List Value).toArray s 0 0 (mCells h ad sz)) (F0 m 40 ls []) := by
        intro  σ_13 hF0 H locs hP hS ls hl
        subst ej_14
        have hF_16 := hF0
        clear hF0
        refine lv_aload_n hx hb dX12_move_40 rfl (lv_at hl 0 rfl) ?_
        refine lv_iconst (v := 2) hx hb dX12_move_41 (by decide +kernel) ?_
        obtain ⟨u_17, hu_17, hF_18⟩ := Option.bind_eq_some_iff.mp hF_16
        clear hF_16
        refine m_ci hsz hS (va_runV (As := [.int 2]) (rest := []) ⟨hx, hb, hml, hown, hts⟩ (m_X12_breaks l dC dI cB cC cI cJ cZ cP h qK qS ad hDD H.size  2 σ_13 _ hu_17) (cwV 1 hts (g_gV wq_1840 wq_1841 wq_2221 wq_13 wq_1842) rfl rfl rfl (by decide +kernel) ⟨Nat.le_of_ble_eq_true rfl, Nat.le_of_ble_eq_true rfl⟩) (m_preV g_bl0 hsz hK hP hS hE hKS g_to0) rfl rfl hl.1 rfl (lv_room (Nat.le_of_ble_eq_true rfl)) dX12_move_42 ⟨Nat.le_of_ble_eq_true rfl, Nat.le_of_ble_eq_true rfl⟩) (fun H locs hP hS => ?_)
        refine lv_pop hx hb dX12_move_45 rfl ?_
        refine lv_goto (tgt := 73) hx hb dX12_move_46 (by decide) ?_
        have h9 := Option.some.inj hF_18
        subst h9
        exact W.vret hx hb hr (fun t ht hW => ⟨⟨(), rfl, trivial, m_end ht hP⟩, hS.F ht⟩) hS.2.2 dX12_move_73
      refine lv_if_ne (tgt := 40) hx hb dX12_move_23 (by decide) (fun c_19 => ?_) (fun c_19 => ?_)
      · have hF_42 := ineg c_19 hF_15
        clear hF_15
        exact Jj_14  u_6.2 hF_42 _ _ hP hS ls (lv_sub hl [0] rfl)
      · have hF_20 := ipos c_19 hF_15
        clear hF_15
        refine lv_iload_n hx hb dX12_move_26 rfl (lv_at hl 1 rfl) ?_
        refine lv_iconst (v := 1) hx hb dX12_move_27 (by decide +kernel) ?_
        obtain ⟨j_22, ej_22, hF_23⟩ := bnd_e hF_20
        clear hF_20
        have Jj_22 : ∀  (σ_21 : MS), j_22  σ_21 = some res → ∀ (H : Heap) (locs : List Loc), va_P (dC, dI) vwCl (mW cB cI cZ h qK qS ad σ_21) H → va_S (mCells h ad sz) s.heap H locs → ∀ ls : Array Slot, lv_has ls 3 [(0, .ref h), (1, .int p0), (2, .int p1)] → W p l e (headSpec (g_ws yX12_move cX12_move 3 none) { frames := 3, cells := 0, slots := 0, locals := 85 }).room s m ([.ref h, .int p0, .int p1] : List Value).toArray below meth c H locs 0 0 (MQ below (va_Qv (fun (_ : Unit) => True) (fun _ t => va_P (dC, dI) vwCl (mW cB cI cZ h qK qS ad res.2) t.heap) (mCells h ad sz)) ([.ref h, .int p0, .int p1] : List Value).toArray s 0 0 (mCells h ad sz)) (F0 m 49 ls []) := by
          intro  σ_21 hF0 H locs hP hS ls hl
          subst ej_22
          have hF_24 := hF0
          clear hF0
          refine lv_aload_n hx hb dX12_move_49 rfl (lv_at hl 0 rfl) ?_
          refine lv_iload_n hx hb dX12_move_50 rfl (lv_at hl 2 rfl) ?_
          refine lv_iload_n hx hb dX12_move_51 rfl (lv_at hl 1 rfl) ?_
          obtain ⟨u_25, hu_25, hF_26⟩ := Option.bind_eq_some_iff.mp hF_24
          clear hF_24
          refine m_ci hsz hS (va_runV (As := [.int p1, .int p0]) (rest := []) ⟨hx, hb, hml, hown, hts⟩ (m_X12_within l dC dI cB cC cI cJ cZ cP h qK qS ad hDD H.size  p1 p0 σ_21 _ hu_25) (cwV 2 hts (g_gV wq_1871 wq_1872 wq_2231 wq_13 wq_1873) rfl rfl rfl (by decide +kernel) ⟨Nat.le_of_ble_eq_true rfl, Nat.le_of_ble_eq_true rfl⟩) (m_preV g_bl0 hsz hK hP hS hE hKS g_to0) rfl rfl hl.1 rfl (lv_room (Nat.le_of_ble_eq_true rfl)) dX12_move_52 ⟨Nat.le_of_ble_eq_true rfl, Nat.le_of_ble_eq_true rfl⟩) (fun H locs hP hS => ?_)
          refine lv_if_eq (tgt := 67) hx hb dX12_move_55 (by decide) (fun c_27 => ?_) (fun c_27 => ?_)
          · have hF_28 := ipos c_27 hF_26
            clear hF_26
            refine lv_aload_n hx hb dX12_move_67 rfl (lv_at hl 0 rfl) ?_
            refine lv_iload_n hx hb dX12_move_68 rfl (lv_at hl 1 rfl) ?_
            refine lv_iload_n hx hb dX12_move_69 rfl (lv_at hl 2 rfl) ?_
            obtain ⟨u_29, hu_29, hF_30⟩ := Option.bind_eq_some_iff.mp hF_28
            clear hF_28
            refine m_cv hsz hS (va_runV (As := [.int p0, .int p1]) (rest := []) ⟨hx, hb, hml, hown, hts⟩ (m_X12_putIn l dC dI cB cC cI cJ cZ cP h qK qS ad hDD H.size  p0 p1 u_25.2 _ hu_29) (cwV 2 hts (g_gV wq_1746 wq_1747 wq_2191 wq_13 wq_1748) rfl rfl rfl (by decide +kernel) ⟨Nat.le_of_ble_eq_true rfl, Nat.le_of_ble_eq_true rfl⟩) (m_preV g_bl0 hsz hK hP hS hE hKS g_to0) rfl rfl hl.1 rfl (lv_room (Nat.le_of_ble_eq_true rfl)) dX12_move_70 ⟨Nat.le_of_ble_eq_true rfl, Nat.le_of_ble_eq_true rfl⟩) (fun H locs hP hS => ?_)
            have h9 := Option.some.inj hF_30
            subst h9
            exact W.vret hx hb hr (fun t ht hW => ⟨⟨(), rfl, trivial, m_end ht hP⟩, hS.F ht⟩) hS.2.2 dX12_move_73
          · have hF_31 := ineg c_27 hF_26
            clear hF_26
            refine lv_aload_n hx hb dX12_move_58 rfl (lv_at hl 0 rfl) ?_
            refine lv_iconst (v := 3) hx hb dX12_move_59 (by decide +kernel) ?_
            obtain ⟨u_32, hu_32, hF_33⟩ := Option.bind_eq_some_iff.mp hF_31
            clear hF_31
            refine m_ci hsz hS (va_runV (As := [.int 3]) (rest := []) ⟨hx, hb, hml, hown, hts⟩ (m_X12_breaks l dC dI cB cC cI cJ cZ cP h qK qS ad hDD H.size  3 u_25.2 _ hu_32) (cwV 1 hts (g_gV wq_1840 wq_1841 wq_2221 wq_13 wq_1842) rfl rfl rfl (by decide +kernel) ⟨Nat.le_of_ble_eq_true rfl, Nat.le_of_ble_eq_true rfl⟩) (m_preV g_bl0 hsz hK hP hS hE hKS g_to0) rfl rfl hl.1 rfl (lv_room (Nat.le_of_ble_eq_true rfl)) dX12_move_60 ⟨Nat.le_of_ble_eq_true rfl, Nat.le_of_ble_eq_true rfl⟩) (fun H locs hP hS => ?_)
            refine lv_pop hx hb dX12_move_63 rfl ?_
            refine lv_goto (tgt := 73) hx hb dX12_move_64 (by decide) ?_
            have h9 := Option.some.inj hF_33
            subst h9
            exact W.vret hx hb hr (fun t ht hW => ⟨⟨(), rfl, trivial, m_end ht hP⟩, hS.F ht⟩) hS.2.2 dX12_move_73
        refine lv_icmp_ne (tgt := 49) hx hb dX12_move_28 (by decide) (fun c_34 => ?_) (fun c_34 => ?_)
        · have hF_41 := ineg c_34 hF_23
          clear hF_23
          exact Jj_22  u_6.2 hF_41 _ _ hP hS ls (lv_sub hl [0, 1, 2] rfl)
        · have hF_35 := ipos c_34 hF_23
          clear hF_23
          refine lv_aload_n hx hb dX12_move_31 rfl (lv_at hl 0 rfl) ?_
          refine va_get (D := (dC, dI)) (ci := 12) (v := .ref (ad 50)) (C := RX12) (T := TX12) (N := 123) hx hb hts ii_X12 hown hK hP 0 rfl rfl 50 (by decide) (hts (.fieldLink RX12 97 "StoryHouseModel" "isRoom" "[Z") wq_1406) (fun _ h9 => h9) rfl dX12_move_32 ?_
          refine lv_iload_n hx hb dX12_move_35 rfl (lv_at hl 2 rfl) ?_
          obtain ⟨g_36, hF_37⟩ := nif_e hF_35
          clear hF_35
          refine va_zald (f := u_6.2.2 50) hx hb hK hP 24 4 rfl rfl g_36 dX12_move_36 ?_
          refine lv_if_ne (tgt := 49) hx hb dX12_move_37 (by decide) (fun c_38 => ?_) (fun c_38 => ?_)
          · have hF_40 := ineg c_38 hF_37
            clear hF_37
            exact Jj_22  u_6.2 hF_40 _ _ hP hS ls (lv_sub hl [0, 1, 2] rfl)
          · have hF_39 := ipos c_38 hF_37
            clear hF_37
            exact Jj_14  u_6.2 hF_39 _ _ hP hS ls (lv_sub hl [0] rfl)
    · have hF_9 := ipos c_8 hF_7
      clear hF_7
      have h9 := Option.some.inj hF_9
      subst h9
      exact W.vret hx hb hr (fun t ht hW => ⟨⟨(), rfl, trivial, m_end ht hP⟩, hS.F ht⟩) hS.2.2 dX12_move_16
theorem dX12_store_0 : decode cX12_store 0 = .ok (.aload_n 0, 1) := by decide +kernel
theorem dX12_store_1 : decode cX12_store 1 = .ok (.getfield 685, 3) := by decide +kernel
theorem dX12_store_4 : decode cX12_store 4 = .ok (.ifCond .eq 4, 3) := by decide +kernel
theorem dX12_store_7 : decode cX12_store 7 = .ok (.return_, 1) := by decide +kernel
theorem dX12_store_8 : decode cX12_store 8 = .ok (.aload_n 0, 1) := by decide +kernel
theorem dX12_store_9 : decode cX12_store 9 = .ok (.getfield 146, 3) := by decide +kernel
theorem dX12_store_12 : decode cX12_store 12 = .ok (.iload_n 1, 1) := by decide +kernel
theorem dX12_store_13 : decode cX12_store 13 = .ok (.iaload, 1) := by decide +kernel
theorem dX12_store_14 : decode cX12_store 14 = .ok (.bipush 9, 2) := by decide +kernel
theorem dX12_store_16 : decode cX12_store 16 = .ok (.if_icmp .ne 20, 3) := by decide +kernel
theorem dX12_store_19 : decode cX12_store 19 = .ok (.aload_n 0, 1) := by decide +kernel
theorem dX12_store_20 : decode cX12_store 20 = .ok (.getfield 215, 3) := by decide +kernel
theorem dX12_store_23 : decode cX12_store 23 = .ok (.iload_n 3, 1) := by decide +kernel
theorem dX12_store_24 : decode cX12_store 24 = .ok (.aload_n 0, 1) := by decide +kernel
theorem dX12_store_25 : decode cX12_store 25 = .ok (.getfield 149, 3) := by decide +kernel
theorem dX12_store_28 : decode cX12_store 28 = .ok (.iload_n 1, 1) := by decide +kernel
theorem dX12_store_29 : decode cX12_store 29 = .ok (.iaload, 1) := by decide +kernel
theorem dX12_store_30 : decode cX12_store 30 = .ok (.iadd, 1) := by decide +kernel
theorem dX12_store_31 : decode cX12_store 31 = .ok (.iload_n 2, 1) := by decide +kernel
theorem dX12_store_32 : decode cX12_store 32 = .ok (.iastore, 1) := by decide +kernel
theorem dX12_store_33 : decode cX12_store 33 = .ok (.goto 15, 3) := by decide +kernel
theorem dX12_store_36 : decode cX12_store 36 = .ok (.aload_n 0, 1) := by decide +kernel
theorem dX12_store_37 : decode cX12_store 37 = .ok (.getfield 194, 3) := by decide +kernel
theorem dX12_store_40 : decode cX12_store 40 = .ok (.aload_n 0, 1) := by decide +kernel
theorem dX12_store_41 : decode cX12_store 41 = .ok (.getfield 149, 3) := by decide +kernel
theorem dX12_store_44 : decode cX12_store 44 = .ok (.iload_n 1, 1) := by decide +kernel
theorem dX12_store_45 : decode cX12_store 45 = .ok (.iaload, 1) := by decide +kernel
theorem dX12_store_46 : decode cX12_store 46 = .ok (.iload_n 2, 1) := by decide +kernel
theorem dX12_store_47 : decode cX12_store 47 = .ok (.iastore, 1) := by decide +kernel
theorem dX12_store_48 : decode cX12_store 48 = .ok (.return_, 1) := by decide +kernel
def F_X12_store (p0 : Int32) (p1 : Int32) (p2 : Int32) (σ : MS) : MR :=
  if (σ.1 104) = 0 then (
    if p0 < 0 ∨ 40000 ≤ p0.toNatClampNeg then none else
    if (σ.2 67 p0.toNatClampNeg) = 9 then (
      if p0 < 0 ∨ 40000 ≤ p0.toNatClampNeg then none else
      if (p2 + (σ.2 68 p0.toNatClampNeg)) < 0 ∨ 700 ≤ (p2 + (σ.2 68 p0.toNatClampNeg)).toNatClampNeg then none else
      bnd (mA σ 111 (upd (σ.2 111) (p2 + (σ.2 68 p0.toNatClampNeg)).toNatClampNeg p1)) fun σ_11 =>
      some (0, σ_11)
    ) else (
      if p0 < 0 ∨ 40000 ≤ p0.toNatClampNeg then none else
      if (σ.2 68 p0.toNatClampNeg) < 0 ∨ 100 ≤ (σ.2 68 p0.toNatClampNeg).toNatClampNeg then none else
      bnd (mA σ 91 (upd (σ.2 91) (σ.2 68 p0.toNatClampNeg).toNatClampNeg p1)) fun σ_18 =>
      some (0, σ_18)
    )
  ) else (
    some (0, σ)
  )
set_option maxHeartbeats 4000000 in
set_option maxRecDepth 100000 in
theorem m_X12_store (l : Launch) (dC : Nat → ClassId) (dI : Nat → Nat → Nat) (cB cC cI cJ cZ cP : ClassId) (h qK qS : Nat) (ad : Nat → Nat) (hDD : mDis cB cI cZ h qK qS ad) (sz : Nat)  (p0 : Int32) (p1 : Int32) (p2 : Int32) (σ : MS) (res : Int32 × MS) (hF : F_X12_store p0 p1 p2 σ = some res) : Met l yX12_store (g_ws yX12_store cX12_store 4 none) ({ frames := 1, cells := 0, slots := 0, locals := 40 }) (va_Pc [.ref h, .int p0, .int p1, .int p2] (m_B (dC, dI) [(cB, .byte), (cC, .char), (cI, .int), (cJ, .long), (cZ, .boolean), (cP, .object "StoryHouse$Play")] sz h ad qK qS (mW cB cI cZ h qK qS ad σ) g_0)) (va_Qv (fun (_ : Unit) => True) (fun _ t => va_P (dC, dI) vwCl (mW cB cI cZ h qK qS ad res.2) t.heap) (mCells h ad sz)) 0 0 (mCells h ad sz) := by
  refine Met.ofW (cc := cX12_store) (maxL := 4) (ret := none) (by decide) rfl ?_
  intro p e s m args below meth c s₁ B hml hv
  obtain ⟨rfl, hsz, hP, hK, hE, hKS, hX⟩ := hv
  have hx := B.exec
  have hb := B.bytes
  have hr := B.returns
  have hts0 := atoms_spec (ws := g_ws yX12_store cX12_store 4 none) B.pre
  have hts : ∀ w ∈ lw_good, w.before ([.ref h, .int p0, .int p1, .int p2] : List Value).toArray s = true := fun w z => hts0 w (List.mem_cons_of_mem _ z)
  have hown : s.vm.findClass RX12 = some m.cls := findClass_of_methodNamed B.named
  have hlocks := B.notSynchronized
  have hS : va_S (mCells h ad sz) s.heap s.heap [] := va_S.rf
  have hl := lv_entry ([.ref h, .int p0, .int p1, .int p2]) (n := 4) (Nat.le_of_ble_eq_true rfl)
  rw [lg_entry_eq]
  generalize (lg_sl ([.ref h, .int p0, .int p1, .int p2]) ++ List.replicate (4 - (lg_sl ([.ref h, .int p0, .int p1, .int p2])).length) Slot.unset).toArray = ls at hl ⊢
  have hl : lv_has ls 4 [(0, .ref h), (1, .int p0), (2, .int p1), (3, .int p2)] := hl
  unfold F_X12_store at hF
  refine lv_aload_n hx hb dX12_store_0 rfl (lv_at hl 0 rfl) ?_
  refine va_get (D := (dC, dI)) (ci := 12) (v := .int (σ.1 104)) (C := RX12) (T := TX12) (N := 123) hx hb hts ii_X12 hown hK hP 0 rfl rfl 104 (by decide) (hts (.fieldLink RX12 685 "StoryHouseModel" "stop" "I") wq_1460) (fun _ h9 => h9) rfl dX12_store_1 ?_
  refine lv_if_eq (tgt := 8) hx hb dX12_store_4 (by decide) (fun c_1 => ?_) (fun c_1 => ?_)
  · have hF_2 := ipos c_1 hF
    clear hF
    refine lv_aload_n hx hb dX12_store_8 rfl (lv_at hl 0 rfl) ?_
    refine va_get (D := (dC, dI)) (ci := 12) (v := .ref (ad 67)) (C := RX12) (T := TX12) (N := 123) hx hb hts ii_X12 hown hK hP 0 rfl rfl 67 (by decide) (hts (.fieldLink RX12 146 "StoryHouseModel" "bB" "[I") wq_1423) (fun _ h9 => h9) rfl dX12_store_9 ?_
    refine lv_iload_n hx hb dX12_store_12 rfl (lv_at hl 1 rfl) ?_
    obtain ⟨g_3, hF_4⟩ := nif_e hF_2
    clear hF_2
    refine va_iald (f := σ.2 67) hx hb hK hP 40 2 rfl rfl g_3 dX12_store_13 ?_
    refine lv_bipush (v := 9) hx hb dX12_store_14 (by decide +kernel) ?_
    refine lv_icmp_ne (tgt := 36) hx hb dX12_store_16 (by decide) (fun c_5 => ?_) (fun c_5 => ?_)
    · have hF_13 := ineg c_5 hF_4
      clear hF_4
      refine lv_aload_n hx hb dX12_store_36 rfl (lv_at hl 0 rfl) ?_
      refine va_get (D := (dC, dI)) (ci := 12) (v := .ref (ad 91)) (C := RX12) (T := TX12) (N := 123) hx hb hts ii_X12 hown hK hP 0 rfl rfl 91 (by decide) (hts (.fieldLink RX12 194 "StoryHouseModel" "values" "[I") wq_1447) (fun _ h9 => h9) rfl dX12_store_37 ?_
      refine lv_aload_n hx hb dX12_store_40 rfl (lv_at hl 0 rfl) ?_
      refine va_get (D := (dC, dI)) (ci := 12) (v := .ref (ad 68)) (C := RX12) (T := TX12) (N := 123) hx hb hts ii_X12 hown hK hP 0 rfl rfl 68 (by decide) (hts (.fieldLink RX12 149 "StoryHouseModel" "bD" "[I") wq_1424) (fun _ h9 => h9) rfl dX12_store_41 ?_
      refine lv_iload_n hx hb dX12_store_44 rfl (lv_at hl 1 rfl) ?_
      obtain ⟨g_14, hF_15⟩ := nif_e hF_13
      clear hF_13
      refine va_iald (f := σ.2 68) hx hb hK hP 41 2 rfl rfl g_14 dX12_store_45 ?_
      refine lv_iload_n hx hb dX12_store_46 rfl (lv_at hl 2 rfl) ?_
      obtain ⟨g_16, hF_17⟩ := nif_e hF_15
      clear hF_15
      obtain ⟨σ_18, eσ_18, hF_19⟩ := bnd_e hF_17
      clear hF_17
      refine m_iast (σ' := σ_18) hx hb hK hP (hDD _ _) hS (q0 := 56) (t0 := 2) (f := σ.2 91) rfl rfl (by rw [eσ_18]; exact mwA_91) g_16 dX12_store_47 (fun H locs hP hS => ?_)
      have h9 := Option.some.inj hF_19
      subst h9
      exact W.vret hx hb hr (fun t ht hW => ⟨⟨(), rfl, trivial, m_end ht hP⟩, hS.F ht⟩) hS.2.2 dX12_store_48
    · have hF_6 := ipos c_5 hF_4
      clear hF_4
      refine lv_aload_n hx hb dX12_store_19 rfl (lv_at hl 0 rfl) ?_
      refine va_get (D := (dC, dI)) (ci := 12) (v := .ref (ad 111)) (C := RX12) (T := TX12) (N := 123) hx hb hts ii_X12 hown hK hP 0 rfl rfl 111 (by decide) (hts (.fieldLink RX12 215 "StoryHouseModel" "locals" "[I") wq_1467) (fun _ h9 => h9) rfl dX12_store_20 ?_
      refine lv_iload_n hx hb dX12_store_23 rfl (lv_at hl 3 rfl) ?_
      refine lv_aload_n hx hb dX12_store_24 rfl (lv_at hl 0 rfl) ?_
      refine va_get (D := (dC, dI)) (ci := 12) (v := .ref (ad 68)) (C := RX12) (T := TX12) (N := 123) hx hb hts ii_X12 hown hK hP 0 rfl rfl 68 (by decide) (hts (.fieldLink RX12 149 "StoryHouseModel" "bD" "[I") wq_1424) (fun _ h9 => h9) rfl dX12_store_25 ?_
      refine lv_iload_n hx hb dX12_store_28 rfl (lv_at hl 1 rfl) ?_
      obtain ⟨g_7, hF_8⟩ := nif_e hF_6
      clear hF_6
      refine va_iald (f := σ.2 68) hx hb hK hP 41 2 rfl rfl g_7 dX12_store_29 ?_
      refine lv_iadd hx hb dX12_store_30 ?_
      refine lv_iload_n hx hb dX12_store_31 rfl (lv_at hl 2 rfl) ?_
      obtain ⟨g_9, hF_10⟩ := nif_e hF_8
      clear hF_8
      obtain ⟨σ_11, eσ_11, hF_12⟩ := bnd_e hF_10
      clear hF_10
      refine m_iast (σ' := σ_11) hx hb hK hP (hDD _ _) hS (q0 := 62) (t0 := 2) (f := σ.2 111) rfl rfl (by rw [eσ_11]; exact mwA_111) g_9 dX12_store_32 (fun H locs hP hS => ?_)
      refine lv_goto (tgt := 48) hx hb dX12_store_33 (by decide) ?_
      have h9 := Option.some.inj hF_12
      subst h9
      exact W.vret hx hb hr (fun t ht hW => ⟨⟨(), rfl, trivial, m_end ht hP⟩, hS.F ht⟩) hS.2.2 dX12_store_48
  · have hF_20 := ineg c_1 hF
    clear hF
    have h9 := Option.some.inj hF_20
    subst h9
    exact W.vret hx hb hr (fun t ht hW => ⟨⟨(), rfl, trivial, m_end ht hP⟩, hS.F ht⟩) hS.2.2 dX12_store_7
theorem dX12_binary_0 : decode cX12_binary 0 = .ok (.aload_n 0, 1) := by decide +kernel
theorem dX12_binary_1 : decode cX12_binary 1 = .ok (.getfield 685, 3) := by decide +kernel
theorem dX12_binary_4 : decode cX12_binary 4 = .ok (.ifCond .eq 5, 3) := by decide +kernel
theorem dX12_binary_7 : decode cX12_binary 7 = .ok (.iconst 0, 1) := by decide +kernel
theorem dX12_binary_8 : decode cX12_binary 8 = .ok (.ireturn, 1) := by decide +kernel
theorem dX12_binary_9 : decode cX12_binary 9 = .ok (.aload_n 0, 1) := by decide +kernel
theorem dX12_binary_10 : decode cX12_binary 10 = .ok (.getfield 149, 3) := by decide +kernel
theorem dX12_binary_13 : decode cX12_binary 13 = .ok (.iload_n 1, 1) := by decide +kernel
theorem dX12_binary_14 : decode cX12_binary 14 = .ok (.iaload, 1) := by decide +kernel
theorem dX12_binary_15 : decode cX12_binary 15 = .ok (.lookupswitch 193 #[(37, 121), (42, 99), (43, 89), (45, 94), (47, 104), (60, 138), (62, 149), (289, 171), (316, 182), (317, 160)], 89) := by decide +kernel
theorem dX12_binary_104 : decode cX12_binary 104 = .ok (.iload_n 2, 1) := by decide +kernel
theorem dX12_binary_105 : decode cX12_binary 105 = .ok (.iload_n 3, 1) := by decide +kernel
theorem dX12_binary_106 : decode cX12_binary 106 = .ok (.iadd, 1) := by decide +kernel
theorem dX12_binary_107 : decode cX12_binary 107 = .ok (.i2s, 1) := by decide +kernel
theorem dX12_binary_108 : decode cX12_binary 108 = .ok (.ireturn, 1) := by decide +kernel
theorem dX12_binary_109 : decode cX12_binary 109 = .ok (.iload_n 2, 1) := by decide +kernel
theorem dX12_binary_110 : decode cX12_binary 110 = .ok (.iload_n 3, 1) := by decide +kernel
theorem dX12_binary_111 : decode cX12_binary 111 = .ok (.isub, 1) := by decide +kernel
theorem dX12_binary_112 : decode cX12_binary 112 = .ok (.i2s, 1) := by decide +kernel
theorem dX12_binary_113 : decode cX12_binary 113 = .ok (.ireturn, 1) := by decide +kernel
theorem dX12_binary_114 : decode cX12_binary 114 = .ok (.iload_n 2, 1) := by decide +kernel
theorem dX12_binary_115 : decode cX12_binary 115 = .ok (.iload_n 3, 1) := by decide +kernel
theorem dX12_binary_116 : decode cX12_binary 116 = .ok (.imul, 1) := by decide +kernel
theorem dX12_binary_117 : decode cX12_binary 117 = .ok (.i2s, 1) := by decide +kernel
theorem dX12_binary_118 : decode cX12_binary 118 = .ok (.ireturn, 1) := by decide +kernel
theorem dX12_binary_119 : decode cX12_binary 119 = .ok (.iload_n 3, 1) := by decide +kernel
theorem dX12_binary_120 : decode cX12_binary 120 = .ok (.ifCond .ne 11, 3) := by decide +kernel
theorem dX12_binary_123 : decode cX12_binary 123 = .ok (.aload_n 0, 1) := by decide +kernel
theorem dX12_binary_124 : decode cX12_binary 124 = .ok (.iconst 1, 1) := by decide +kernel
theorem dX12_binary_125 : decode cX12_binary 125 = .ok (.invokevirtual 691, 3) := by decide +kernel
theorem dX12_binary_128 : decode cX12_binary 128 = .ok (.goto 7, 3) := by decide +kernel
theorem dX12_binary_131 : decode cX12_binary 131 = .ok (.iload_n 2, 1) := by decide +kernel
theorem dX12_binary_132 : decode cX12_binary 132 = .ok (.iload_n 3, 1) := by decide +kernel
theorem dX12_binary_133 : decode cX12_binary 133 = .ok (.idiv, 1) := by decide +kernel
theorem dX12_binary_134 : decode cX12_binary 134 = .ok (.i2s, 1) := by decide +kernel
theorem dX12_binary_135 : decode cX12_binary 135 = .ok (.ireturn, 1) := by decide +kernel
theorem dX12_binary_136 : decode cX12_binary 136 = .ok (.iload_n 3, 1) := by decide +kernel
theorem dX12_binary_137 : decode cX12_binary 137 = .ok (.ifCond .ne 11, 3) := by decide +kernel
theorem dX12_binary_140 : decode cX12_binary 140 = .ok (.aload_n 0, 1) := by decide +kernel
theorem dX12_binary_141 : decode cX12_binary 141 = .ok (.iconst 1, 1) := by decide +kernel
theorem dX12_binary_142 : decode cX12_binary 142 = .ok (.invokevirtual 691, 3) := by decide +kernel
theorem dX12_binary_145 : decode cX12_binary 145 = .ok (.goto 7, 3) := by decide +kernel
theorem dX12_binary_148 : decode cX12_binary 148 = .ok (.iload_n 2, 1) := by decide +kernel
theorem dX12_binary_149 : decode cX12_binary 149 = .ok (.iload_n 3, 1) := by decide +kernel
theorem dX12_binary_150 : decode cX12_binary 150 = .ok (.irem, 1) := by decide +kernel
theorem dX12_binary_151 : decode cX12_binary 151 = .ok (.i2s, 1) := by decide +kernel
theorem dX12_binary_152 : decode cX12_binary 152 = .ok (.ireturn, 1) := by decide +kernel
theorem dX12_binary_153 : decode cX12_binary 153 = .ok (.iload_n 2, 1) := by decide +kernel
theorem dX12_binary_154 : decode cX12_binary 154 = .ok (.iload_n 3, 1) := by decide +kernel
theorem dX12_binary_155 : decode cX12_binary 155 = .ok (.if_icmp .ge 7, 3) := by decide +kernel
theorem dX12_binary_158 : decode cX12_binary 158 = .ok (.iconst 1, 1) := by decide +kernel
theorem dX12_binary_159 : decode cX12_binary 159 = .ok (.goto 4, 3) := by decide +kernel
theorem dX12_binary_162 : decode cX12_binary 162 = .ok (.iconst 0, 1) := by decide +kernel
theorem dX12_binary_163 : decode cX12_binary 163 = .ok (.ireturn, 1) := by decide +kernel
theorem dX12_binary_164 : decode cX12_binary 164 = .ok (.iload_n 2, 1) := by decide +kernel
theorem dX12_binary_165 : decode cX12_binary 165 = .ok (.iload_n 3, 1) := by decide +kernel
theorem dX12_binary_166 : decode cX12_binary 166 = .ok (.if_icmp .le 7, 3) := by decide +kernel
theorem dX12_binary_169 : decode cX12_binary 169 = .ok (.iconst 1, 1) := by decide +kernel
theorem dX12_binary_170 : decode cX12_binary 170 = .ok (.goto 4, 3) := by decide +kernel
theorem dX12_binary_173 : decode cX12_binary 173 = .ok (.iconst 0, 1) := by decide +kernel
theorem dX12_binary_174 : decode cX12_binary 174 = .ok (.ireturn, 1) := by decide +kernel
theorem dX12_binary_175 : decode cX12_binary 175 = .ok (.iload_n 2, 1) := by decide +kernel
theorem dX12_binary_176 : decode cX12_binary 176 = .ok (.iload_n 3, 1) := by decide +kernel
theorem dX12_binary_177 : decode cX12_binary 177 = .ok (.if_icmp .ne 7, 3) := by decide +kernel
theorem dX12_binary_180 : decode cX12_binary 180 = .ok (.iconst 1, 1) := by decide +kernel
theorem dX12_binary_181 : decode cX12_binary 181 = .ok (.goto 4, 3) := by decide +kernel
theorem dX12_binary_184 : decode cX12_binary 184 = .ok (.iconst 0, 1) := by decide +kernel
theorem dX12_binary_185 : decode cX12_binary 185 = .ok (.ireturn, 1) := by decide +kernel
theorem dX12_binary_186 : decode cX12_binary 186 = .ok (.iload_n 2, 1) := by decide +kernel
theorem dX12_binary_187 : decode cX12_binary 187 = .ok (.iload_n 3, 1) := by decide +kernel
theorem dX12_binary_188 : decode cX12_binary 188 = .ok (.if_icmp .eq 7, 3) := by decide +kernel
theorem dX12_binary_191 : decode cX12_binary 191 = .ok (.iconst 1, 1) := by decide +kernel
theorem dX12_binary_192 : decode cX12_binary 192 = .ok (.goto 4, 3) := by decide +kernel
theorem dX12_binary_195 : decode cX12_binary 195 = .ok (.iconst 0, 1) := by decide +kernel
theorem dX12_binary_196 : decode cX12_binary 196 = .ok (.ireturn, 1) := by decide +kernel
theorem dX12_binary_197 : decode cX12_binary 197 = .ok (.iload_n 2, 1) := by decide +kernel
theorem dX12_binary_198 : decode cX12_binary 198 = .ok (.iload_n 3, 1) := by decide +kernel
theorem dX12_binary_199 : decode cX12_binary 199 = .ok (.if_icmp .gt 7, 3) := by decide +kernel
theorem dX12_binary_202 : decode cX12_binary 202 = .ok (.iconst 1, 1) := by decide +kernel
theorem dX12_binary_203 : decode cX12_binary 203 = .ok (.goto 4, 3) := by decide +kernel
theorem dX12_binary_206 : decode cX12_binary 206 = .ok (.iconst 0, 1) := by decide +kernel
theorem dX12_binary_207 : decode cX12_binary 207 = .ok (.ireturn, 1) := by decide +kernel
theorem dX12_binary_208 : decode cX12_binary 208 = .ok (.iload_n 2, 1) := by decide +kernel
theorem dX12_binary_209 : decode cX12_binary 209 = .ok (.iload_n 3, 1) := by decide +kernel
theorem dX12_binary_210 : decode cX12_binary 210 = .ok (.if_icmp .lt 7, 3) := by decide +kernel
theorem dX12_binary_213 : decode cX12_binary 213 = .ok (.iconst 1, 1) := by decide +kernel
theorem dX12_binary_214 : decode cX12_binary 214 = .ok (.goto 4, 3) := by decide +kernel
theorem dX12_binary_217 : decode cX12_binary 217 = .ok (.iconst 0, 1) := by decide +kernel
theorem dX12_binary_218 : decode cX12_binary 218 = .ok (.ireturn, 1) := by decide +kernel
def F_X12_binary (p0 : Int32) (p1 : Int32) (p2 : Int32) (σ : MS) : MR :=
  if (σ.1 104) = 0 then (
    if p0 < 0 ∨ 40000 ≤ p0.toNatClampNeg then none else
    bnd ((σ.2 68 p0.toNatClampNeg)) fun (x_5 : Int32) =>
    if x_5 = 37 then (
      if p2 = 0 then (
        (F_X12_breaks 1 σ).bind fun u_11 =>
        some (u_11.1, u_11.2)
      ) else (
        if p2 = 0 then none else
        bnd ((p1 - p1 / p2 * p2)) fun (x_16 : Int32) =>
        bnd (x_16.toInt16.toInt32) fun (x_18 : Int32) =>
        some (x_18, σ)
      )
    ) else
    if x_5 = 42 then (
      bnd ((p1 * p2).toInt16.toInt32) fun (x_23 : Int32) =>
      some (x_23, σ)
    ) else
    if x_5 = 43 then (
      bnd ((p1 + p2).toInt16.toInt32) fun (x_28 : Int32) =>
      some (x_28, σ)
    ) else
    if x_5 = 45 then (
      bnd ((p1 - p2).toInt16.toInt32) fun (x_33 : Int32) =>
      some (x_33, σ)
    ) else
    if x_5 = 47 then (
      if p2 = 0 then (
        (F_X12_breaks 1 σ).bind fun u_40 =>
        some (u_40.1, u_40.2)
      ) else (
        if p2 = 0 then none else
        bnd ((p1 / p2)) fun (x_45 : Int32) =>
        bnd (x_45.toInt16.toInt32) fun (x_47 : Int32) =>
        some (x_47, σ)
      )
    ) else
    if x_5 = 60 then (
      if p2 ≤ p1 then (
        some (0, σ)
      ) else (
        some (1, σ)
      )
    ) else
    if x_5 = 62 then (
      if p1 ≤ p2 then (
        some (0, σ)
      ) else (
        some (1, σ)
      )
    ) else
    if x_5 = 289 then (
      if p1 = p2 then (
        some (0, σ)
      ) else (
        some (1, σ)
      )
    ) else
    if x_5 = 316 then (
      if p2 < p1 then (
        some (0, σ)
      ) else (
        some (1, σ)
      )
    ) else
    if x_5 = 317 then (
      if p1 = p2 then (
        some (1, σ)
      ) else (
        some (0, σ)
      )
    ) else
    (
      if p1 < p2 then (
        some (0, σ)
      ) else (
        some (1, σ)
      )
    )
  ) else (
    some (0, σ)
  )
set_option maxHeartbeats 4000000 in
set_option maxRecDepth 100000 in
theorem m_X12_binary (l : Launch) (dC : Nat → ClassId) (dI : Nat → Nat → Nat) (cB cC cI cJ cZ cP : ClassId) (h qK qS : Nat) (ad : Nat → Nat) (hDD : mDis cB cI cZ h qK qS ad) (sz : Nat)  (p0 : Int32) (p1 : Int32) (p2 : Int32) (σ : MS) (res : Int32 × MS) (hF : F_X12_binary p0 p1 p2 σ = some res) : Met l yX12_binary (g_ws yX12_binary cX12_binary 4 (some .int)) ({ frames := 2, cells := 0, slots := 0, locals := 61 }) (va_Pc [.ref h, .int p0, .int p1, .int p2] (m_B (dC, dI) [(cB, .byte), (cC, .char), (cI, .int), (cJ, .long), (cZ, .boolean), (cP, .object "StoryHouse$Play")] sz h ad qK qS (mW cB cI cZ h qK qS ad σ) g_0)) (va_Qi (fun r (_ : Unit) => r = res.1) (fun _ t => va_P (dC, dI) vwCl (mW cB cI cZ h qK qS ad res.2) t.heap) (mCells h ad sz)) 0 0 (mCells h ad sz) := by
  refine Met.ofW (cc := cX12_binary) (maxL := 4) (ret := (some .int)) (by decide) rfl ?_
  intro p e s m args below meth c s₁ B hml hv
  obtain ⟨rfl, hsz, hP, hK, hE, hKS, hX⟩ := hv
  have hx := B.exec
  have hb := B.bytes
  have hr := B.returns
  have hts0 := atoms_spec (ws := g_ws yX12_binary cX12_binary 4 (some .int)) B.pre
  have hts : ∀ w ∈ lw_good, w.before ([.ref h, .int p0, .int p1, .int p2] : List Value).toArray s = true := fun w z => hts0 w (List.mem_cons_of_mem _ z)
  have hown : s.vm.findClass RX12 = some m.cls := findClass_of_methodNamed B.named
  have hlocks := B.notSynchronized
  have hS : va_S (mCells h ad sz) s.heap s.heap [] := va_S.rf
  have hl := lv_entry ([.ref h, .int p0, .int p1, .int p2]) (n := 4) (Nat.le_of_ble_eq_true rfl)
  rw [lg_entry_eq]
  generalize (lg_sl ([.ref h, .int p0, .int p1, .int p2]) ++ List.replicate (4 - (lg_sl ([.ref h, .int p0, .int p1, .int p2])).length) Slot.unset).toArray = ls at hl ⊢
  have hl : lv_has ls 4 [(0, .ref h), (1, .int p0), (2, .int p1), (3, .int p2)] := hl
  unfold F_X12_binary at hF
  refine lv_aload_n hx hb dX12_binary_0 rfl (lv_at hl 0 rfl) ?_
  refine va_get (D := (dC, dI)) (ci := 12) (v := .int (σ.1 104)) (C := RX12) (T := TX12) (N := 123) hx hb hts ii_X12 hown hK hP 0 rfl rfl 104 (by decide) (hts (.fieldLink RX12 685 "StoryHouseModel" "stop" "I") wq_1460) (fun _ h9 => h9) rfl dX12_binary_1 ?_
  refine lv_if_eq (tgt := 9) hx hb dX12_binary_4 (by decide) (fun c_1 => ?_) (fun c_1 => ?_)
  · have hF_2 := ipos c_1 hF
    clear hF
    refine lv_aload_n hx hb dX12_binary_9 rfl (lv_at hl 0 rfl) ?_
    refine va_get (D := (dC, dI)) (ci := 12) (v := .ref (ad 68)) (C := RX12) (T := TX12) (N := 123) hx hb hts ii_X12 hown hK hP 0 rfl rfl 68 (by decide) (hts (.fieldLink RX12 149 "StoryHouseModel" "bD" "[I") wq_1424) (fun _ h9 => h9) rfl dX12_binary_10 ?_
    refine lv_iload_n hx hb dX12_binary_13 rfl (lv_at hl 1 rfl) ?_
    obtain ⟨g_3, hF_4⟩ := nif_e hF_2
    clear hF_2
    refine va_iald (f := σ.2 68) hx hb hK hP 41 2 rfl rfl g_3 dX12_binary_14 ?_
    obtain ⟨x_5, ex_5, hF_6⟩ := bnd_e hF_4
    clear hF_4
    refine m_top ex_5 ?_
    by_cases c_7 : x_5 = 37
    · have hF_8 := ipos c_7 hF_6
      clear hF_6
      refine lv_lookup (off := 121) (tgt := 136) hx hb dX12_binary_15 (by decide +kernel) (by rw [c_7]; decide +kernel) (by decide) ?_
      refine lv_iload_n hx hb dX12_binary_136 rfl (lv_at hl 3 rfl) ?_
      refine lv_if_ne (tgt := 148) hx hb dX12_binary_137 (by decide) (fun c_9 => ?_) (fun c_9 => ?_)
      · have hF_13 := ineg c_9 hF_8
        clear hF_8
        refine lv_iload_n hx hb dX12_binary_148 rfl (lv_at hl 2 rfl) ?_
        refine lv_iload_n hx hb dX12_binary_149 rfl (lv_at hl 3 rfl) ?_
        obtain ⟨g_14, hF_15⟩ := nif_e hF_13
        clear hF_13
        refine lv_irem hx hb dX12_binary_150 g_14 ?_
        obtain ⟨x_16, ex_16, hF_17⟩ := bnd_e hF_15
        clear hF_15
        refine m_top ex_16 ?_
        refine lv_i2s hx hb dX12_binary_151 rfl ?_
        obtain ⟨x_18, ex_18, hF_19⟩ := bnd_e hF_17
        clear hF_17
        refine m_top ex_18 ?_
        have h9 := Option.some.inj hF_19
        subst h9
        exact W.iret (v := x_18) hx hb hr (fun t ht hW => ⟨⟨x_18, (), rfl, rfl, m_end ht hP⟩, hS.F ht⟩) hS.2.2 dX12_binary_152
      · have hF_10 := ipos c_9 hF_8
        clear hF_8
        refine lv_aload_n hx hb dX12_binary_140 rfl (lv_at hl 0 rfl) ?_
        refine lv_iconst (v := 1) hx hb dX12_binary_141 (by decide +kernel) ?_
        obtain ⟨u_11, hu_11, hF_12⟩ := Option.bind_eq_some_iff.mp hF_10
        clear hF_10
        refine m_ci hsz hS (va_runV (As := [.int 1]) (rest := []) ⟨hx, hb, hml, hown, hts⟩ (m_X12_breaks l dC dI cB cC cI cJ cZ cP h qK qS ad hDD s.heap.size  1 σ _ hu_11) (cwV 1 hts (g_gV wq_1840 wq_1841 wq_2221 wq_13 wq_1842) rfl rfl rfl (by decide +kernel) ⟨Nat.le_of_ble_eq_true rfl, Nat.le_of_ble_eq_true rfl⟩) (m_preV g_bl0 hsz hK hP hS hE hKS g_to0) rfl rfl hl.1 rfl (lv_room (Nat.le_of_ble_eq_true rfl)) dX12_binary_142 ⟨Nat.le_of_ble_eq_true rfl, Nat.le_of_ble_eq_true rfl⟩) (fun H locs hP hS => ?_)
        refine lv_goto (tgt := 152) hx hb dX12_binary_145 (by decide) ?_
        have h9 := Option.some.inj hF_12
        subst h9
        exact W.iret (v := u_11.1) hx hb hr (fun t ht hW => ⟨⟨u_11.1, (), rfl, rfl, m_end ht hP⟩, hS.F ht⟩) hS.2.2 dX12_binary_152
    have hF_20 := ineg c_7 hF_6
    clear hF_6
    by_cases c_21 : x_5 = 42
    · have hF_22 := ipos c_21 hF_20
      clear hF_20
      refine lv_lookup (off := 99) (tgt := 114) hx hb dX12_binary_15 (by decide +kernel) (by rw [c_21]; decide +kernel) (by decide) ?_
      refine lv_iload_n hx hb dX12_binary_114 rfl (lv_at hl 2 rfl) ?_
      refine lv_iload_n hx hb dX12_binary_115 rfl (lv_at hl 3 rfl) ?_
      refine lv_imul hx hb dX12_binary_116 ?_
      refine lv_i2s hx hb dX12_binary_117 rfl ?_
      obtain ⟨x_23, ex_23, hF_24⟩ := bnd_e hF_22
      clear hF_22
      refine m_top ex_23 ?_
      have h9 := Option.some.inj hF_24
      subst h9
      exact W.iret (v := x_23) hx hb hr (fun t ht hW => ⟨⟨x_23, (), rfl, rfl, m_end ht hP⟩, hS.F ht⟩) hS.2.2 dX12_binary_118
    have hF_25 := ineg c_21 hF_20
    clear hF_20
    by_cases c_26 : x_5 = 43
    · have hF_27 := ipos c_26 hF_25
      clear hF_25
      refine lv_lookup (off := 89) (tgt := 104) hx hb dX12_binary_15 (by decide +kernel) (by rw [c_26]; decide +kernel) (by decide) ?_
      refine lv_iload_n hx hb dX12_binary_104 rfl (lv_at hl 2 rfl) ?_
      refine lv_iload_n hx hb dX12_binary_105 rfl (lv_at hl 3 rfl) ?_
      refine lv_iadd hx hb dX12_binary_106 ?_
      refine lv_i2s hx hb dX12_binary_107 rfl ?_
      obtain ⟨x_28, ex_28, hF_29⟩ := bnd_e hF_27
      clear hF_27
      refine m_top ex_28 ?_
      have h9 := Option.some.inj hF_29
      subst h9
      exact W.iret (v := x_28) hx hb hr (fun t ht hW => ⟨⟨x_28, (), rfl, rfl, m_end ht hP⟩, hS.F ht⟩) hS.2.2 dX12_binary_108
    have hF_30 := ineg c_26 hF_25
    clear hF_25
    by_cases c_31 : x_5 = 45
    · have hF_32 := ipos c_31 hF_30
      clear hF_30
      refine lv_lookup (off := 94) (tgt := 109) hx hb dX12_binary_15 (by decide +kernel) (by rw [c_31]; decide +kernel) (by decide) ?_
      refine lv_iload_n hx hb dX12_binary_109 rfl (lv_at hl 2 rfl) ?_
      refine lv_iload_n hx hb dX12_binary_110 rfl (lv_at hl 3 rfl) ?_
      refine lv_isub hx hb dX12_binary_111 ?_
      refine lv_i2s hx hb dX12_binary_112 rfl ?_
      obtain ⟨x_33, ex_33, hF_34⟩ := bnd_e hF_32
      clear hF_32
      refine m_top ex_33 ?_
      have h9 := Option.some.inj hF_34
      subst h9
      exact W.iret (v := x_33) hx hb hr (fun t ht hW => ⟨⟨x_33, (), rfl, rfl, m_end ht hP⟩, hS.F ht⟩) hS.2.2 dX12_binary_113
    have hF_35 := ineg c_31 hF_30
    clear hF_30
    by_cases c_36 : x_5 = 47
    · have hF_37 := ipos c_36 hF_35
      clear hF_35
      refine lv_lookup (off := 104) (tgt := 119) hx hb dX12_binary_15 (by decide +kernel) (by rw [c_36]; decide +kernel) (by decide) ?_
      refine lv_iload_n hx hb dX12_binary_119 rfl (lv_at hl 3 rfl) ?_
      refine lv_if_ne (tgt := 131) hx hb dX12_binary_120 (by decide) (fun c_38 => ?_) (fun c_38 => ?_)
      · have hF_42 := ineg c_38 hF_37
        clear hF_37
        refine lv_iload_n hx hb dX12_binary_131 rfl (lv_at hl 2 rfl) ?_
        refine lv_iload_n hx hb dX12_binary_132 rfl (lv_at hl 3 rfl) ?_
        obtain ⟨g_43, hF_44⟩ := nif_e hF_42
        clear hF_42
        refine lv_idiv hx hb dX12_binary_133 g_43 ?_
        obtain ⟨x_45, ex_45, hF_46⟩ := bnd_e hF_44
        clear hF_44
        refine m_top ex_45 ?_
        refine lv_i2s hx hb dX12_binary_134 rfl ?_
        obtain ⟨x_47, ex_47, hF_48⟩ := bnd_e hF_46
        clear hF_46
        refine m_top ex_47 ?_
        have h9 := Option.some.inj hF_48
        subst h9
        exact W.iret (v := x_47) hx hb hr (fun t ht hW => ⟨⟨x_47, (), rfl, rfl, m_end ht hP⟩, hS.F ht⟩) hS.2.2 dX12_binary_135
      · have hF_39 := ipos c_38 hF_37
        clear hF_37
        refine lv_aload_n hx hb dX12_binary_123 rfl (lv_at hl 0 rfl) ?_
        refine lv_iconst (v := 1) hx hb dX12_binary_124 (by decide +kernel) ?_
        obtain ⟨u_40, hu_40, hF_41⟩ := Option.bind_eq_some_iff.mp hF_39
        clear hF_39
        refine m_ci hsz hS (va_runV (As := [.int 1]) (rest := []) ⟨hx, hb, hml, hown, hts⟩ (m_X12_breaks l dC dI cB cC cI cJ cZ cP h qK qS ad hDD s.heap.size  1 σ _ hu_40) (cwV 1 hts (g_gV wq_1840 wq_1841 wq_2221 wq_13 wq_1842) rfl rfl rfl (by decide +kernel) ⟨Nat.le_of_ble_eq_true rfl, Nat.le_of_ble_eq_true rfl⟩) (m_preV g_bl0 hsz hK hP hS hE hKS g_to0) rfl rfl hl.1 rfl (lv_room (Nat.le_of_ble_eq_true rfl)) dX12_binary_125 ⟨Nat.le_of_ble_eq_true rfl, Nat.le_of_ble_eq_true rfl⟩) (fun H locs hP hS => ?_)
        refine lv_goto (tgt := 135) hx hb dX12_binary_128 (by decide) ?_
        have h9 := Option.some.inj hF_41
        subst h9
        exact W.iret (v := u_40.1) hx hb hr (fun t ht hW => ⟨⟨u_40.1, (), rfl, rfl, m_end ht hP⟩, hS.F ht⟩) hS.2.2 dX12_binary_135
    have hF_49 := ineg c_36 hF_35
    clear hF_35
    by_cases c_50 : x_5 = 60
    · have hF_51 := ipos c_50 hF_49
      clear hF_49
      refine lv_lookup (off := 138) (tgt := 153) hx hb dX12_binary_15 (by decide +kernel) (by rw [c_50]; decide +kernel) (by decide) ?_
      refine lv_iload_n hx hb dX12_binary_153 rfl (lv_at hl 2 rfl) ?_
      refine lv_iload_n hx hb dX12_binary_154 rfl (lv_at hl 3 rfl) ?_
      refine lv_icmp_ge (tgt := 162) hx hb dX12_binary_155 (by decide) (fun c_52 => ?_) (fun c_52 => ?_)
      · have hF_53 := ipos c_52 hF_51
        clear hF_51
        refine lv_iconst (v := 0) hx hb dX12_binary_162 (by decide +kernel) ?_
        have h9 := Option.some.inj hF_53
        subst h9
        exact W.iret (v := 0) hx hb hr (fun t ht hW => ⟨⟨0, (), rfl, rfl, m_end ht hP⟩, hS.F ht⟩) hS.2.2 dX12_binary_163
      · have hF_54 := ineg c_52 hF_51
        clear hF_51
        refine lv_iconst (v := 1) hx hb dX12_binary_158 (by decide +kernel) ?_
        refine lv_goto (tgt := 163) hx hb dX12_binary_159 (by decide) ?_
        have h9 := Option.some.inj hF_54
        subst h9
        exact W.iret (v := 1) hx hb hr (fun t ht hW => ⟨⟨1, (), rfl, rfl, m_end ht hP⟩, hS.F ht⟩) hS.2.2 dX12_binary_163
    have hF_55 := ineg c_50 hF_49
    clear hF_49
    by_cases c_56 : x_5 = 62
    · have hF_57 := ipos c_56 hF_55
      clear hF_55
      refine lv_lookup (off := 149) (tgt := 164) hx hb dX12_binary_15 (by decide +kernel) (by rw [c_56]; decide +kernel) (by decide) ?_
      refine lv_iload_n hx hb dX12_binary_164 rfl (lv_at hl 2 rfl) ?_
      refine lv_iload_n hx hb dX12_binary_165 rfl (lv_at hl 3 rfl) ?_
      refine lv_icmp_le (tgt := 173) hx hb dX12_binary_166 (by decide) (fun c_58 => ?_) (fun c_58 => ?_)
      · have hF_59 := ipos c_58 hF_57
        clear hF_57
        refine lv_iconst (v := 0) hx hb dX12_binary_173 (by decide +kernel) ?_
        have h9 := Option.some.inj hF_59
        subst h9
        exact W.iret (v := 0) hx hb hr (fun t ht hW => ⟨⟨0, (), rfl, rfl, m_end ht hP⟩, hS.F ht⟩) hS.2.2 dX12_binary_174
      · have hF_60 := ineg c_58 hF_57
        clear hF_57
        refine lv_iconst (v := 1) hx hb dX12_binary_169 (by decide +kernel) ?_
        refine lv_goto (tgt := 174) hx hb dX12_binary_170 (by decide) ?_
        have h9 := Option.some.inj hF_60
        subst h9
        exact W.iret (v := 1) hx hb hr (fun t ht hW => ⟨⟨1, (), rfl, rfl, m_end ht hP⟩, hS.F ht⟩) hS.2.2 dX12_binary_174
    have hF_61 := ineg c_56 hF_55
    clear hF_55
    by_cases c_62 : x_5 = 289
    · have hF_63 := ipos c_62 hF_61
      clear hF_61
      refine lv_lookup (off := 171) (tgt := 186) hx hb dX12_binary_15 (by decide +kernel) (by rw [c_62]; decide +kernel) (by decide) ?_
      refine lv_iload_n hx hb dX12_binary_186 rfl (lv_at hl 2 rfl) ?_
      refine lv_iload_n hx hb dX12_binary_187 rfl (lv_at hl 3 rfl) ?_
      refine lv_icmp_eq (tgt := 195) hx hb dX12_binary_188 (by decide) (fun c_64 => ?_) (fun c_64 => ?_)
      · have hF_65 := ipos c_64 hF_63
        clear hF_63
        refine lv_iconst (v := 0) hx hb dX12_binary_195 (by decide +kernel) ?_
        have h9 := Option.some.inj hF_65
        subst h9
        exact W.iret (v := 0) hx hb hr (fun t ht hW => ⟨⟨0, (), rfl, rfl, m_end ht hP⟩, hS.F ht⟩) hS.2.2 dX12_binary_196
      · have hF_66 := ineg c_64 hF_63
        clear hF_63
        refine lv_iconst (v := 1) hx hb dX12_binary_191 (by decide +kernel) ?_
        refine lv_goto (tgt := 196) hx hb dX12_binary_192 (by decide) ?_
        have h9 := Option.some.inj hF_66
        subst h9
        exact W.iret (v := 1) hx hb hr (fun t ht hW => ⟨⟨1, (), rfl, rfl, m_end ht hP⟩, hS.F ht⟩) hS.2.2 dX12_binary_196
    have hF_67 := ineg c_62 hF_61
    clear hF_61
    by_cases c_68 : x_5 = 316
    · have hF_69 := ipos c_68 hF_67
      clear hF_67
      refine lv_lookup (off := 182) (tgt := 197) hx hb dX12_binary_15 (by decide +kernel) (by rw [c_68]; decide +kernel) (by decide) ?_
      refine lv_iload_n hx hb dX12_binary_197 rfl (lv_at hl 2 rfl) ?_
      refine lv_iload_n hx hb dX12_binary_198 rfl (lv_at hl 3 rfl) ?_
      refine lv_icmp_gt (tgt := 206) hx hb dX12_binary_199 (by decide) (fun c_70 => ?_) (fun c_70 => ?_)
      · have hF_71 := ipos c_70 hF_69
        clear hF_69
        refine lv_iconst (v := 0) hx hb dX12_binary_206 (by decide +kernel) ?_
        have h9 := Option.some.inj hF_71
        subst h9
        exact W.iret (v := 0) hx hb hr (fun t ht hW => ⟨⟨0, (), rfl, rfl, m_end ht hP⟩, hS.F ht⟩) hS.2.2 dX12_binary_207
      · have hF_72 := ineg c_70 hF_69
        clear hF_69
        refine lv_iconst (v := 1) hx hb dX12_binary_202 (by decide +kernel) ?_
        refine lv_goto (tgt := 207) hx hb dX12_binary_203 (by decide) ?_
        have h9 := Option.some.inj hF_72
        subst h9
        exact W.iret (v := 1) hx hb hr (fun t ht hW => ⟨⟨1, (), rfl, rfl, m_end ht hP⟩, hS.F ht⟩) hS.2.2 dX12_binary_207
    have hF_73 := ineg c_68 hF_67
    clear hF_67
    by_cases c_74 : x_5 = 317
    · have hF_75 := ipos c_74 hF_73
      clear hF_73
      refine lv_lookup (off := 160) (tgt := 175) hx hb dX12_binary_15 (by decide +kernel) (by rw [c_74]; decide +kernel) (by decide) ?_
      refine lv_iload_n hx hb dX12_binary_175 rfl (lv_at hl 2 rfl) ?_
      refine lv_iload_n hx hb dX12_binary_176 rfl (lv_at hl 3 rfl) ?_
      refine lv_icmp_ne (tgt := 184) hx hb dX12_binary_177 (by decide) (fun c_76 => ?_) (fun c_76 => ?_)
      · have hF_78 := ineg c_76 hF_75
        clear hF_75
        refine lv_iconst (v := 0) hx hb dX12_binary_184 (by decide +kernel) ?_
        have h9 := Option.some.inj hF_78
        subst h9
        exact W.iret (v := 0) hx hb hr (fun t ht hW => ⟨⟨0, (), rfl, rfl, m_end ht hP⟩, hS.F ht⟩) hS.2.2 dX12_binary_185
      · have hF_77 := ipos c_76 hF_75
        clear hF_75
        refine lv_iconst (v := 1) hx hb dX12_binary_180 (by decide +kernel) ?_
        refine lv_goto (tgt := 185) hx hb dX12_binary_181 (by decide) ?_
        have h9 := Option.some.inj hF_77
        subst h9
        exact W.iret (v := 1) hx hb hr (fun t ht hW => ⟨⟨1, (), rfl, rfl, m_end ht hP⟩, hS.F ht⟩) hS.2.2 dX12_binary_185
    have hF_79 := ineg c_74 hF_73
    clear hF_73
    refine lv_lookup (off := 193) (tgt := 208) hx hb dX12_binary_15 (by decide +kernel) ((lv_osw (k := 37) c_7 (by decide +kernel)).trans ((lv_osw (k := 42) c_21 (by decide +kernel)).trans ((lv_osw (k := 43) c_26 (by decide +kernel)).trans ((lv_osw (k := 45) c_31 (by decide +kernel)).trans ((lv_osw (k := 47) c_36 (by decide +kernel)).trans ((lv_osw (k := 60) c_50 (by decide +kernel)).trans ((lv_osw (k := 62) c_56 (by decide +kernel)).trans ((lv_osw (k := 289) c_62 (by decide +kernel)).trans ((lv_osw (k := 316) c_68 (by decide +kernel)).trans ((lv_osw (k := 317) c_74 (by decide +kernel)).trans rfl)))))))))) (by decide) ?_
    refine lv_iload_n hx hb dX12_binary_208 rfl (lv_at hl 2 rfl) ?_
    refine lv_iload_n hx hb dX12_binary_209 rfl (lv_at hl 3 rfl) ?_
    refine lv_icmp_lt (tgt := 217) hx hb dX12_binary_210 (by decide) (fun c_80 => ?_) (fun c_80 => ?_)
    · have hF_81 := ipos c_80 hF_79
      clear hF_79
      refine lv_iconst (v := 0) hx hb dX12_binary_217 (by decide +kernel) ?_
      have h9 := Option.some.inj hF_81
      subst h9
      exact W.iret (v := 0) hx hb hr (fun t ht hW => ⟨⟨0, (), rfl, rfl, m_end ht hP⟩, hS.F ht⟩) hS.2.2 dX12_binary_218
    · have hF_82 := ineg c_80 hF_79
      clear hF_79
      refine lv_iconst (v := 1) hx hb dX12_binary_213 (by decide +kernel) ?_
      refine lv_goto (tgt := 218) hx hb dX12_binary_214 (by decide) ?_
      have h9 := Option.some.inj hF_82
      subst h9
      exact W.iret (v := 1) hx hb hr (fun t ht hW => ⟨⟨1, (), rfl, rfl, m_end ht hP⟩, hS.F ht⟩) hS.2.2 dX12_binary_218
  · have hF_83 := ineg c_1 hF
    clear hF
    refine lv_iconst (v := 0) hx hb dX12_binary_7 (by decide +kernel) ?_
    have h9 := Option.some.inj hF_83
    subst h9
    exact W.iret (v := 0) hx hb hr (fun t ht hW => ⟨⟨0, (), rfl, rfl, m_end ht hP⟩, hS.F ht⟩) hS.2.2 dX12_binary_8
theorem dX12_isIn_0 : decode cX12_isIn 0 = .ok (.aload_n 0, 1) := by decide +kernel
theorem dX12_isIn_1 : decode cX12_isIn 1 = .ok (.getfield 685, 3) := by decide +kernel
theorem dX12_isIn_4 : decode cX12_isIn 4 = .ok (.ifCond .ne 25, 3) := by decide +kernel
theorem dX12_isIn_7 : decode cX12_isIn 7 = .ok (.aload_n 0, 1) := by decide +kernel
theorem dX12_isIn_8 : decode cX12_isIn 8 = .ok (.iload_n 1, 1) := by decide +kernel
theorem dX12_isIn_9 : decode cX12_isIn 9 = .ok (.invokevirtual 736, 3) := by decide +kernel
theorem dX12_isIn_12 : decode cX12_isIn 12 = .ok (.ifCond .eq 17, 3) := by decide +kernel
theorem dX12_isIn_15 : decode cX12_isIn 15 = .ok (.aload_n 0, 1) := by decide +kernel
theorem dX12_isIn_16 : decode cX12_isIn 16 = .ok (.getfield 182, 3) := by decide +kernel
theorem dX12_isIn_19 : decode cX12_isIn 19 = .ok (.iload_n 1, 1) := by decide +kernel
theorem dX12_isIn_20 : decode cX12_isIn 20 = .ok (.iaload, 1) := by decide +kernel
theorem dX12_isIn_21 : decode cX12_isIn 21 = .ok (.iload_n 2, 1) := by decide +kernel
theorem dX12_isIn_22 : decode cX12_isIn 22 = .ok (.if_icmp .ne 7, 3) := by decide +kernel
theorem dX12_isIn_25 : decode cX12_isIn 25 = .ok (.iconst 1, 1) := by decide +kernel
theorem dX12_isIn_26 : decode cX12_isIn 26 = .ok (.goto 4, 3) := by decide +kernel
theorem dX12_isIn_29 : decode cX12_isIn 29 = .ok (.iconst 0, 1) := by decide +kernel
theorem dX12_isIn_30 : decode cX12_isIn 30 = .ok (.ireturn, 1) := by decide +kernel
def F_X12_isIn (p0 : Int32) (p1 : Int32) (σ : MS) : MR :=
  if (σ.1 104) = 0 then (
    (F_X12_isObject p0 σ).bind fun u_3 =>
    if u_3.1 = 0 then (
      some (0, u_3.2)
    ) else (
      if p0 < 0 ∨ 121 ≤ p0.toNatClampNeg then none else
      if (u_3.2.2 87 p0.toNatClampNeg) = p1 then (
        some (1, u_3.2)
      ) else (
        some (0, u_3.2)
      )
    )
  ) else (
    some (0, σ)
  )
set_option maxHeartbeats 4000000 in
set_option maxRecDepth 100000 in
theorem m_X12_isIn (l : Launch) (dC : Nat → ClassId) (dI : Nat → Nat → Nat) (cB cC cI cJ cZ cP : ClassId) (h qK qS : Nat) (ad : Nat → Nat) (hDD : mDis cB cI cZ h qK qS ad) (sz : Nat)  (p0 : Int32) (p1 : Int32) (σ : MS) (res : Int32 × MS) (hF : F_X12_isIn p0 p1 σ = some res) : Met l yX12_isIn (g_ws yX12_isIn cX12_isIn 3 (some .int)) ({ frames := 3, cells := 0, slots := 0, locals := 82 }) (va_Pc [.ref h, .int p0, .int p1] (m_B (dC, dI) [(cB, .byte), (cC, .char), (cI, .int), (cJ, .long), (cZ, .boolean), (cP, .object "StoryHouse$Play")] sz h ad qK qS (mW cB cI cZ h qK qS ad σ) g_0)) (va_Qi (fun r (_ : Unit) => r = res.1) (fun _ t => va_P (dC, dI) vwCl (mW cB cI cZ h qK qS ad res.2) t.heap) (mCells h ad sz)) 0 0 (mCells h ad sz) := by
  refine Met.ofW (cc := cX12_isIn) (maxL := 3) (ret := (some .int)) (by decide) rfl ?_
  intro p e s m args below meth c s₁ B hml hv
  obtain ⟨rfl, hsz, hP, hK, hE, hKS, hX⟩ := hv
  have hx := B.exec
  have hb := B.bytes
  have hr := B.returns
  have hts0 := atoms_spec (ws := g_ws yX12_isIn cX12_isIn 3 (some .int)) B.pre
  have hts : ∀ w ∈ lw_good, w.before ([.ref h, .int p0, .int p1] : List Value).toArray s = true := fun w z => hts0 w (List.mem_cons_of_mem _ z)
  have hown : s.vm.findClass RX12 = some m.cls := findClass_of_methodNamed B.named
  have hlocks := B.notSynchronized
  have hS : va_S (mCells h ad sz) s.heap s.heap [] := va_S.rf
  have hl := lv_entry ([.ref h, .int p0, .int p1]) (n := 3) (Nat.le_of_ble_eq_true rfl)
  rw [lg_entry_eq]
  generalize (lg_sl ([.ref h, .int p0, .int p1]) ++ List.replicate (3 - (lg_sl ([.ref h, .int p0, .int p1])).length) Slot.unset).toArray = ls at hl ⊢
  have hl : lv_has ls 3 [(0, .ref h), (1, .int p0), (2, .int p1)] := hl
  unfold F_X12_isIn at hF
  refine lv_aload_n hx hb dX12_isIn_0 rfl (lv_at hl 0 rfl) ?_
  refine va_get (D := (dC, dI)) (ci := 12) (v := .int (σ.1 104)) (C := RX12) (T := TX12) (N := 123) hx hb hts ii_X12 hown hK hP 0 rfl rfl 104 (by decide) (hts (.fieldLink RX12 685 "StoryHouseModel" "stop" "I") wq_1460) (fun _ h9 => h9) rfl dX12_isIn_1 ?_
  refine lv_if_ne (tgt := 29) hx hb dX12_isIn_4 (by decide) (fun c_1 => ?_) (fun c_1 => ?_)
  · have hF_13 := ineg c_1 hF
    clear hF
    refine lv_iconst (v := 0) hx hb dX12_isIn_29 (by decide +kernel) ?_
    have h9 := Option.some.inj hF_13
    subst h9
    exact W.iret (v := 0) hx hb hr (fun t ht hW => ⟨⟨0, (), rfl, rfl, m_end ht hP⟩, hS.F ht⟩) hS.2.2 dX12_isIn_30
  · have hF_2 := ipos c_1 hF
    clear hF
    refine lv_aload_n hx hb dX12_isIn_7 rfl (lv_at hl 0 rfl) ?_
    refine lv_iload_n hx hb dX12_isIn_8 rfl (lv_at hl 1 rfl) ?_
    obtain ⟨u_3, hu_3, hF_4⟩ := Option.bind_eq_some_iff.mp hF_2
    clear hF_2
    refine m_ci hsz hS (va_runV (As := [.int p0]) (rest := []) ⟨hx, hb, hml, hown, hts⟩ (m_X12_isObject l dC dI cB cC cI cJ cZ cP h qK qS ad hDD s.heap.size  p0 σ _ hu_3) (cwV 1 hts (g_gV wq_1852 wq_1853 wq_2225 wq_13 wq_1854) rfl rfl rfl (by decide +kernel) ⟨Nat.le_of_ble_eq_true rfl, Nat.le_of_ble_eq_true rfl⟩) (m_preV g_bl0 hsz hK hP hS hE hKS g_to0) rfl rfl hl.1 rfl (lv_room (Nat.le_of_ble_eq_true rfl)) dX12_isIn_9 ⟨Nat.le_of_ble_eq_true rfl, Nat.le_of_ble_eq_true rfl⟩) (fun H locs hP hS => ?_)
    refine lv_if_eq (tgt := 29) hx hb dX12_isIn_12 (by decide) (fun c_5 => ?_) (fun c_5 => ?_)
    · have hF_6 := ipos c_5 hF_4
      clear hF_4
      refine lv_iconst (v := 0) hx hb dX12_isIn_29 (by decide +kernel) ?_
      have h9 := Option.some.inj hF_6
      subst h9
      exact W.iret (v := 0) hx hb hr (fun t ht hW => ⟨⟨0, (), rfl, rfl, m_end ht hP⟩, hS.F ht⟩) hS.2.2 dX12_isIn_30
    · have hF_7 := ineg c_5 hF_4
      clear hF_4
      refine lv_aload_n hx hb dX12_isIn_15 rfl (lv_at hl 0 rfl) ?_
      refine va_get (D := (dC, dI)) (ci := 12) (v := .ref (ad 87)) (C := RX12) (T := TX12) (N := 123) hx hb hts ii_X12 hown hK hP 0 rfl rfl 87 (by decide) (hts (.fieldLink RX12 182 "StoryHouseModel" "holder" "[I") wq_1443) (fun _ h9 => h9) rfl dX12_isIn_16 ?_
      refine lv_iload_n hx hb dX12_isIn_19 rfl (lv_at hl 1 rfl) ?_
      obtain ⟨g_8, hF_9⟩ := nif_e hF_7
      clear hF_7
      refine va_iald (f := u_3.2.2 87) hx hb hK hP 52 2 rfl rfl g_8 dX12_isIn_20 ?_
      refine lv_iload_n hx hb dX12_isIn_21 rfl (lv_at hl 2 rfl) ?_
      refine lv_icmp_ne (tgt := 29) hx hb dX12_isIn_22 (by decide) (fun c_10 => ?_) (fun c_10 => ?_)
      · have hF_12 := ineg c_10 hF_9
        clear hF_9
        refine lv_iconst (v := 0) hx hb dX12_isIn_29 (by decide +kernel) ?_
        have h9 := Option.some.inj hF_12
        subst h9
        exact W.iret (v := 0) hx hb hr (fun t ht hW => ⟨⟨0, (), rfl, rfl, m_end ht hP⟩, hS.F ht⟩) hS.2.2 dX12_isIn_30
      · have hF_11 := ipos c_10 hF_9
        clear hF_9
        refine lv_iconst (v := 1) hx hb dX12_isIn_25 (by decide +kernel) ?_
        refine lv_goto (tgt := 30) hx hb dX12_isIn_26 (by decide) ?_
        have h9 := Option.some.inj hF_11
        subst h9
        exact W.iret (v := 1) hx hb hr (fun t ht hW => ⟨⟨1, (), rfl, rfl, m_end ht hP⟩, hS.F ht⟩) hS.2.2 dX12_isIn_30
