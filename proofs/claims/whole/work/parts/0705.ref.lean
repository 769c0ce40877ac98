/-! methods of the reference: what each does is its function -/
theorem dX12_part_0 : decode cX12_part 0 = .ok (.aload_n 0, 1) := by decide +kernel
theorem dX12_part_1 : decode cX12_part 1 = .ok (.getfield 31, 3) := by decide +kernel
theorem dX12_part_4 : decode cX12_part 4 = .ok (.aload_n 0, 1) := by decide +kernel
theorem dX12_part_5 : decode cX12_part 5 = .ok (.getfield 314, 3) := by decide +kernel
theorem dX12_part_8 : decode cX12_part 8 = .ok (.iaload, 1) := by decide +kernel
theorem dX12_part_9 : decode cX12_part 9 = .ok (.istore_n 2, 1) := by decide +kernel
theorem dX12_part_10 : decode cX12_part 10 = .ok (.aload_n 0, 1) := by decide +kernel
theorem dX12_part_11 : decode cX12_part 11 = .ok (.bipush 10, 2) := by decide +kernel
theorem dX12_part_13 : decode cX12_part 13 = .ok (.iload_n 2, 1) := by decide +kernel
theorem dX12_part_14 : decode cX12_part 14 = .ok (.invokevirtual 346, 3) := by decide +kernel
theorem dX12_part_17 : decode cX12_part 17 = .ok (.istore_n 3, 1) := by decide +kernel
theorem dX12_part_18 : decode cX12_part 18 = .ok (.aload_n 0, 1) := by decide +kernel
theorem dX12_part_19 : decode cX12_part 19 = .ok (.bipush 40, 2) := by decide +kernel
theorem dX12_part_21 : decode cX12_part 21 = .ok (.invokevirtual 333, 3) := by decide +kernel
theorem dX12_part_24 : decode cX12_part 24 = .ok (.ifCond .eq 43, 3) := by decide +kernel
theorem dX12_part_27 : decode cX12_part 27 = .ok (.aload_n 0, 1) := by decide +kernel
theorem dX12_part_28 : decode cX12_part 28 = .ok (.getfield 52, 3) := by decide +kernel
theorem dX12_part_31 : decode cX12_part 31 = .ok (.iload_n 3, 1) := by decide +kernel
theorem dX12_part_32 : decode cX12_part 32 = .ok (.aload_n 0, 1) := by decide +kernel
theorem dX12_part_33 : decode cX12_part 33 = .ok (.getfield 304, 3) := by decide +kernel
theorem dX12_part_36 : decode cX12_part 36 = .ok (.ifCond .eq 7, 3) := by decide +kernel
theorem dX12_part_39 : decode cX12_part 39 = .ok (.iconst 0, 1) := by decide +kernel
theorem dX12_part_40 : decode cX12_part 40 = .ok (.goto 12, 3) := by decide +kernel
theorem dX12_part_43 : decode cX12_part 43 = .ok (.aload_n 0, 1) := by decide +kernel
theorem dX12_part_44 : decode cX12_part 44 = .ok (.getfield 31, 3) := by decide +kernel
theorem dX12_part_47 : decode cX12_part 47 = .ok (.aload_n 0, 1) := by decide +kernel
theorem dX12_part_48 : decode cX12_part 48 = .ok (.getfield 314, 3) := by decide +kernel
theorem dX12_part_51 : decode cX12_part 51 = .ok (.iaload, 1) := by decide +kernel
theorem dX12_part_52 : decode cX12_part 52 = .ok (.iastore, 1) := by decide +kernel
theorem dX12_part_53 : decode cX12_part 53 = .ok (.aload_n 0, 1) := by decide +kernel
theorem dX12_part_54 : decode cX12_part 54 = .ok (.getfield 58, 3) := by decide +kernel
theorem dX12_part_57 : decode cX12_part 57 = .ok (.iload_n 3, 1) := by decide +kernel
theorem dX12_part_58 : decode cX12_part 58 = .ok (.aload_n 0, 1) := by decide +kernel
theorem dX12_part_59 : decode cX12_part 59 = .ok (.iconst 4, 1) := by decide +kernel
theorem dX12_part_60 : decode cX12_part 60 = .ok (.invokevirtual 349, 3) := by decide +kernel
theorem dX12_part_63 : decode cX12_part 63 = .ok (.iastore, 1) := by decide +kernel
theorem dX12_part_64 : decode cX12_part 64 = .ok (.goto 241, 3) := by decide +kernel
theorem dX12_part_67 : decode cX12_part 67 = .ok (.iload_n 1, 1) := by decide +kernel
theorem dX12_part_68 : decode cX12_part 68 = .ok (.ifCond .ne 22, 3) := by decide +kernel
theorem dX12_part_71 : decode cX12_part 71 = .ok (.aload_n 0, 1) := by decide +kernel
theorem dX12_part_72 : decode cX12_part 72 = .ok (.iconst 5, 1) := by decide +kernel
theorem dX12_part_73 : decode cX12_part 73 = .ok (.invokevirtual 333, 3) := by decide +kernel
theorem dX12_part_76 : decode cX12_part 76 = .ok (.ifCond .eq 14, 3) := by decide +kernel
theorem dX12_part_79 : decode cX12_part 79 = .ok (.aload_n 0, 1) := by decide +kernel
theorem dX12_part_80 : decode cX12_part 80 = .ok (.getfield 49, 3) := by decide +kernel
theorem dX12_part_83 : decode cX12_part 83 = .ok (.iload_n 3, 1) := by decide +kernel
theorem dX12_part_84 : decode cX12_part 84 = .ok (.bipush 11, 2) := by decide +kernel
theorem dX12_part_86 : decode cX12_part 86 = .ok (.iastore, 1) := by decide +kernel
theorem dX12_part_87 : decode cX12_part 87 = .ok (.goto 218, 3) := by decide +kernel
theorem dX12_part_90 : decode cX12_part 90 = .ok (.iload_n 1, 1) := by decide +kernel
theorem dX12_part_91 : decode cX12_part 91 = .ok (.ifCond .ne 56, 3) := by decide +kernel
theorem dX12_part_94 : decode cX12_part 94 = .ok (.aload_n 0, 1) := by decide +kernel
theorem dX12_part_95 : decode cX12_part 95 = .ok (.bipush 12, 2) := by decide +kernel
theorem dX12_part_97 : decode cX12_part 97 = .ok (.invokevirtual 333, 3) := by decide +kernel
theorem dX12_part_100 : decode cX12_part 100 = .ok (.ifCond .eq 47, 3) := by decide +kernel
theorem dX12_part_103 : decode cX12_part 103 = .ok (.aload_n 0, 1) := by decide +kernel
theorem dX12_part_104 : decode cX12_part 104 = .ok (.getfield 49, 3) := by decide +kernel
theorem dX12_part_107 : decode cX12_part 107 = .ok (.iload_n 3, 1) := by decide +kernel
theorem dX12_part_108 : decode cX12_part 108 = .ok (.bipush 12, 2) := by decide +kernel
theorem dX12_part_110 : decode cX12_part 110 = .ok (.iastore, 1) := by decide +kernel
theorem dX12_part_111 : decode cX12_part 111 = .ok (.aload_n 0, 1) := by decide +kernel
theorem dX12_part_112 : decode cX12_part 112 = .ok (.getfield 58, 3) := by decide +kernel
theorem dX12_part_115 : decode cX12_part 115 = .ok (.iload_n 3, 1) := by decide +kernel
theorem dX12_part_116 : decode cX12_part 116 = .ok (.aload_n 0, 1) := by decide +kernel
theorem dX12_part_117 : decode cX12_part 117 = .ok (.invokevirtual 386, 3) := by decide +kernel
theorem dX12_part_120 : decode cX12_part 120 = .ok (.iastore, 1) := by decide +kernel
theorem dX12_part_121 : decode cX12_part 121 = .ok (.aload_n 0, 1) := by decide +kernel
theorem dX12_part_122 : decode cX12_part 122 = .ok (.getfield 58, 3) := by decide +kernel
theorem dX12_part_125 : decode cX12_part 125 = .ok (.iload_n 3, 1) := by decide +kernel
theorem dX12_part_126 : decode cX12_part 126 = .ok (.iaload, 1) := by decide +kernel
theorem dX12_part_127 : decode cX12_part 127 = .ok (.ifCond .ne 7, 3) := by decide +kernel
theorem dX12_part_130 : decode cX12_part 130 = .ok (.aload_n 0, 1) := by decide +kernel
theorem dX12_part_131 : decode cX12_part 131 = .ok (.invokevirtual 330, 3) := by decide +kernel
theorem dX12_part_134 : decode cX12_part 134 = .ok (.aload_n 0, 1) := by decide +kernel
theorem dX12_part_135 : decode cX12_part 135 = .ok (.getfield 55, 3) := by decide +kernel
theorem dX12_part_138 : decode cX12_part 138 = .ok (.iload_n 3, 1) := by decide +kernel
theorem dX12_part_139 : decode cX12_part 139 = .ok (.aload_n 0, 1) := by decide +kernel
theorem dX12_part_140 : decode cX12_part 140 = .ok (.invokevirtual 365, 3) := by decide +kernel
theorem dX12_part_143 : decode cX12_part 143 = .ok (.iastore, 1) := by decide +kernel
theorem dX12_part_144 : decode cX12_part 144 = .ok (.goto 161, 3) := by decide +kernel
theorem dX12_part_147 : decode cX12_part 147 = .ok (.iload_n 1, 1) := by decide +kernel
theorem dX12_part_148 : decode cX12_part 148 = .ok (.ifCond .eq 52, 3) := by decide +kernel
theorem dX12_part_151 : decode cX12_part 151 = .ok (.aload_n 0, 1) := by decide +kernel
theorem dX12_part_152 : decode cX12_part 152 = .ok (.bipush 18, 2) := by decide +kernel
theorem dX12_part_154 : decode cX12_part 154 = .ok (.invokevirtual 333, 3) := by decide +kernel
theorem dX12_part_157 : decode cX12_part 157 = .ok (.ifCond .eq 43, 3) := by decide +kernel
theorem dX12_part_160 : decode cX12_part 160 = .ok (.aload_n 0, 1) := by decide +kernel
theorem dX12_part_161 : decode cX12_part 161 = .ok (.getfield 49, 3) := by decide +kernel
theorem dX12_part_164 : decode cX12_part 164 = .ok (.iload_n 3, 1) := by decide +kernel
theorem dX12_part_165 : decode cX12_part 165 = .ok (.bipush 13, 2) := by decide +kernel
theorem dX12_part_167 : decode cX12_part 167 = .ok (.iastore, 1) := by decide +kernel
theorem dX12_part_168 : decode cX12_part 168 = .ok (.aload_n 0, 1) := by decide +kernel
theorem dX12_part_169 : decode cX12_part 169 = .ok (.bipush 30, 2) := by decide +kernel
theorem dX12_part_171 : decode cX12_part 171 = .ok (.invokevirtual 333, 3) := by decide +kernel
theorem dX12_part_174 : decode cX12_part 174 = .ok (.ifCond .eq 13, 3) := by decide +kernel
theorem dX12_part_177 : decode cX12_part 177 = .ok (.aload_n 0, 1) := by decide +kernel
theorem dX12_part_178 : decode cX12_part 178 = .ok (.getfield 58, 3) := by decide +kernel
theorem dX12_part_181 : decode cX12_part 181 = .ok (.iload_n 3, 1) := by decide +kernel
theorem dX12_part_182 : decode cX12_part 182 = .ok (.iconst 1, 1) := by decide +kernel
theorem dX12_part_183 : decode cX12_part 183 = .ok (.iastore, 1) := by decide +kernel
theorem dX12_part_184 : decode cX12_part 184 = .ok (.goto 121, 3) := by decide +kernel
theorem dX12_part_187 : decode cX12_part 187 = .ok (.aload_n 0, 1) := by decide +kernel
theorem dX12_part_188 : decode cX12_part 188 = .ok (.getfield 55, 3) := by decide +kernel
theorem dX12_part_191 : decode cX12_part 191 = .ok (.iload_n 3, 1) := by decide +kernel
theorem dX12_part_192 : decode cX12_part 192 = .ok (.aload_n 0, 1) := by decide +kernel
theorem dX12_part_193 : decode cX12_part 193 = .ok (.invokevirtual 365, 3) := by decide +kernel
theorem dX12_part_196 : decode cX12_part 196 = .ok (.iastore, 1) := by decide +kernel
theorem dX12_part_197 : decode cX12_part 197 = .ok (.goto 108, 3) := by decide +kernel
theorem dX12_part_200 : decode cX12_part 200 = .ok (.iload_n 1, 1) := by decide +kernel
theorem dX12_part_201 : decode cX12_part 201 = .ok (.ifCond .eq 33, 3) := by decide +kernel
theorem dX12_part_204 : decode cX12_part 204 = .ok (.aload_n 0, 1) := by decide +kernel
theorem dX12_part_205 : decode cX12_part 205 = .ok (.bipush 50, 2) := by decide +kernel
theorem dX12_part_207 : decode cX12_part 207 = .ok (.invokevirtual 333, 3) := by decide +kernel
theorem dX12_part_210 : decode cX12_part 210 = .ok (.ifCond .eq 24, 3) := by decide +kernel
theorem dX12_part_213 : decode cX12_part 213 = .ok (.aload_n 0, 1) := by decide +kernel
theorem dX12_part_214 : decode cX12_part 214 = .ok (.getfield 49, 3) := by decide +kernel
theorem dX12_part_217 : decode cX12_part 217 = .ok (.iload_n 3, 1) := by decide +kernel
theorem dX12_part_218 : decode cX12_part 218 = .ok (.bipush 14, 2) := by decide +kernel
theorem dX12_part_220 : decode cX12_part 220 = .ok (.iastore, 1) := by decide +kernel
theorem dX12_part_221 : decode cX12_part 221 = .ok (.aload_n 0, 1) := by decide +kernel
theorem dX12_part_222 : decode cX12_part 222 = .ok (.getfield 55, 3) := by decide +kernel
theorem dX12_part_225 : decode cX12_part 225 = .ok (.iload_n 3, 1) := by decide +kernel
theorem dX12_part_226 : decode cX12_part 226 = .ok (.aload_n 0, 1) := by decide +kernel
theorem dX12_part_227 : decode cX12_part 227 = .ok (.invokevirtual 374, 3) := by decide +kernel
theorem dX12_part_230 : decode cX12_part 230 = .ok (.iastore, 1) := by decide +kernel
theorem dX12_part_231 : decode cX12_part 231 = .ok (.goto 74, 3) := by decide +kernel
theorem dX12_part_234 : decode cX12_part 234 = .ok (.iload_n 1, 1) := by decide +kernel
theorem dX12_part_235 : decode cX12_part 235 = .ok (.ifCond .eq 66, 3) := by decide +kernel
theorem dX12_part_238 : decode cX12_part 238 = .ok (.aload_n 0, 1) := by decide +kernel
theorem dX12_part_239 : decode cX12_part 239 = .ok (.getfield 27, 3) := by decide +kernel
theorem dX12_part_242 : decode cX12_part 242 = .ok (.aload_n 0, 1) := by decide +kernel
theorem dX12_part_243 : decode cX12_part 243 = .ok (.getfield 314, 3) := by decide +kernel
theorem dX12_part_246 : decode cX12_part 246 = .ok (.iaload, 1) := by decide +kernel
theorem dX12_part_247 : decode cX12_part 247 = .ok (.iconst 1, 1) := by decide +kernel
theorem dX12_part_248 : decode cX12_part 248 = .ok (.if_icmp .ne 53, 3) := by decide +kernel
theorem dX12_part_251 : decode cX12_part 251 = .ok (.aload_n 0, 1) := by decide +kernel
theorem dX12_part_252 : decode cX12_part 252 = .ok (.getfield 34, 3) := by decide +kernel
theorem dX12_part_255 : decode cX12_part 255 = .ok (.aload_n 0, 1) := by decide +kernel
theorem dX12_part_256 : decode cX12_part 256 = .ok (.getfield 314, 3) := by decide +kernel
theorem dX12_part_259 : decode cX12_part 259 = .ok (.iaload, 1) := by decide +kernel
theorem dX12_part_260 : decode cX12_part 260 = .ok (.bipush 51, 2) := by decide +kernel
theorem dX12_part_262 : decode cX12_part 262 = .ok (.if_icmp .lt 39, 3) := by decide +kernel
theorem dX12_part_265 : decode cX12_part 265 = .ok (.aload_n 0, 1) := by decide +kernel
theorem dX12_part_266 : decode cX12_part 266 = .ok (.getfield 49, 3) := by decide +kernel
theorem dX12_part_269 : decode cX12_part 269 = .ok (.iload_n 3, 1) := by decide +kernel
theorem dX12_part_270 : decode cX12_part 270 = .ok (.bipush 15, 2) := by decide +kernel
theorem dX12_part_272 : decode cX12_part 272 = .ok (.iastore, 1) := by decide +kernel
theorem dX12_part_273 : decode cX12_part 273 = .ok (.aload_n 0, 1) := by decide +kernel
theorem dX12_part_274 : decode cX12_part 274 = .ok (.getfield 58, 3) := by decide +kernel
theorem dX12_part_277 : decode cX12_part 277 = .ok (.iload_n 3, 1) := by decide +kernel
theorem dX12_part_278 : decode cX12_part 278 = .ok (.aload_n 0, 1) := by decide +kernel
theorem dX12_part_279 : decode cX12_part 279 = .ok (.getfield 34, 3) := by decide +kernel
theorem dX12_part_282 : decode cX12_part 282 = .ok (.aload_n 0, 1) := by decide +kernel
theorem dX12_part_283 : decode cX12_part 283 = .ok (.dup, 1) := by decide +kernel
theorem dX12_part_284 : decode cX12_part 284 = .ok (.getfield 314, 3) := by decide +kernel
theorem dX12_part_287 : decode cX12_part 287 = .ok (.dup_x1, 1) := by decide +kernel
theorem dX12_part_288 : decode cX12_part 288 = .ok (.iconst 1, 1) := by decide +kernel
theorem dX12_part_289 : decode cX12_part 289 = .ok (.iadd, 1) := by decide +kernel
theorem dX12_part_290 : decode cX12_part 290 = .ok (.putfield 314, 3) := by decide +kernel
theorem dX12_part_293 : decode cX12_part 293 = .ok (.iaload, 1) := by decide +kernel
theorem dX12_part_294 : decode cX12_part 294 = .ok (.bipush 51, 2) := by decide +kernel
theorem dX12_part_296 : decode cX12_part 296 = .ok (.isub, 1) := by decide +kernel
theorem dX12_part_297 : decode cX12_part 297 = .ok (.iastore, 1) := by decide +kernel
theorem dX12_part_298 : decode cX12_part 298 = .ok (.goto 7, 3) := by decide +kernel
theorem dX12_part_301 : decode cX12_part 301 = .ok (.aload_n 0, 1) := by decide +kernel
theorem dX12_part_302 : decode cX12_part 302 = .ok (.invokevirtual 330, 3) := by decide +kernel
theorem dX12_part_305 : decode cX12_part 305 = .ok (.aload_n 0, 1) := by decide +kernel
theorem dX12_part_306 : decode cX12_part 306 = .ok (.bipush 59, 2) := by decide +kernel
theorem dX12_part_308 : decode cX12_part 308 = .ok (.invokevirtual 342, 3) := by decide +kernel
theorem dX12_part_311 : decode cX12_part 311 = .ok (.iload_n 3, 1) := by decide +kernel
theorem dX12_part_312 : decode cX12_part 312 = .ok (.ireturn, 1) := by decide +kernel
def F_X12_part (p0 : Int32) (σ : MS) : MR :=
  bnd ((σ.1 25)) fun (x_1 : Int32) =>
  if x_1 < 0 ∨ 16010 ≤ x_1.toNatClampNeg then none else
  bnd ((σ.2 8 x_1.toNatClampNeg)) fun (x_5 : Int32) =>
  (F_X12_node 10 x_5 σ).bind fun u_7 =>
  (F_X12_tookKey 40 u_7.2).bind fun u_9 =>
  bnd (fun  (σ_11 : MS) => (
    (F_X12_need 59 σ_11).bind fun u_15 =>
    some (u_7.1, u_15.2)
  ) : MS → MR) fun j_12 =>
  if u_9.1 = 0 then (
    bnd (fun  (σ_19 : MS) => (
      bnd (fun  (σ_23 : MS) => (
        bnd (fun  (σ_27 : MS) => (
          bnd (fun  (σ_31 : MS) => (
            bnd (fun  (σ_35 : MS) => (
              (F_X12_unfit σ_35).bind fun u_39 =>
              j_12  u_39.2
            ) : MS → MR) fun j_36 =>
            if p0 = 0 then (
              j_36  σ_31
            ) else (
              bnd ((σ_31.1 25)) fun (x_44 : Int32) =>
              if x_44 < 0 ∨ 16010 ≤ x_44.toNatClampNeg then none else
              if (σ_31.2 7 x_44.toNatClampNeg) = 1 then (
                bnd ((σ_31.1 25)) fun (x_50 : Int32) =>
                if x_50 < 0 ∨ 16010 ≤ x_50.toNatClampNeg then none else
                if (σ_31.2 9 x_50.toNatClampNeg) < 51 then (
                  j_36  σ_31
                ) else (
                  if u_7.1 < 0 ∨ 40000 ≤ u_7.1.toNatClampNeg then none else
                  bnd (mA σ_31 17 (upd (σ_31.2 17) u_7.1.toNatClampNeg 15)) fun σ_59 =>
                  bnd (mI σ_59 25 ((σ_59.1 25) + 1)) fun σ_61 =>
                  bnd ((σ_59.1 25)) fun (x_63 : Int32) =>
                  if x_63 < 0 ∨ 16010 ≤ x_63.toNatClampNeg then none else
                  bnd (((σ_61.2 9 x_63.toNatClampNeg) - 51)) fun (x_67 : Int32) =>
                  if u_7.1 < 0 ∨ 40000 ≤ u_7.1.toNatClampNeg then none else
                  bnd (mA σ_61 20 (upd (σ_61.2 20) u_7.1.toNatClampNeg x_67)) fun σ_71 =>
                  j_12  σ_71
                )
              ) else (
                j_36  σ_31
              )
            )
          ) : MS → MR) fun j_32 =>
          if p0 = 0 then (
            j_32  σ_27
          ) else (
            (F_X12_tookKey 50 σ_27).bind fun u_77 =>
            if u_77.1 = 0 then (
              j_32  u_77.2
            ) else (
              if u_7.1 < 0 ∨ 40000 ≤ u_7.1.toNatClampNeg then none else
              bnd (mA u_77.2 17 (upd (u_77.2.2 17) u_7.1.toNatClampNeg 14)) fun σ_84 =>
              (F_X12_row σ_84).bind fun u_86 =>
              if u_7.1 < 0 ∨ 40000 ≤ u_7.1.toNatClampNeg then none else
              bnd (mA u_86.2 19 (upd (u_86.2.2 19) u_7.1.toNatClampNeg u_86.1)) fun σ_90 =>
              j_12  σ_90
            )
          )
        ) : MS → MR) fun j_28 =>
        if p0 = 0 then (
          j_28  σ_23
        ) else (
          (F_X12_tookKey 18 σ_23).bind fun u_95 =>
          if u_95.1 = 0 then (
            j_28  u_95.2
          ) else (
            if u_7.1 < 0 ∨ 40000 ≤ u_7.1.toNatClampNeg then none else
            bnd (mA u_95.2 17 (upd (u_95.2.2 17) u_7.1.toNatClampNeg 13)) fun σ_102 =>
            (F_X12_tookKey 30 σ_102).bind fun u_104 =>
            if u_104.1 = 0 then (
              (F_X12_name u_104.2).bind fun u_108 =>
              if u_7.1 < 0 ∨ 40000 ≤ u_7.1.toNatClampNeg then none else
              bnd (mA u_108.2 19 (upd (u_108.2.2 19) u_7.1.toNatClampNeg u_108.1)) fun σ_112 =>
              j_12  σ_112
            ) else (
              if u_7.1 < 0 ∨ 40000 ≤ u_7.1.toNatClampNeg then none else
              bnd (mA u_104.2 20 (upd (u_104.2.2 20) u_7.1.toNatClampNeg 1)) fun σ_117 =>
              j_12  σ_117
            )
          )
        )
      ) : MS → MR) fun j_24 =>
      if p0 = 0 then (
        (F_X12_tookKey 12 σ_19).bind fun u_121 =>
        if u_121.1 = 0 then (
          j_24  u_121.2
        ) else (
          if u_7.1 < 0 ∨ 40000 ≤ u_7.1.toNatClampNeg then none else
          bnd (mA u_121.2 17 (upd (u_121.2.2 17) u_7.1.toNatClampNeg 12)) fun σ_128 =>
          (F_X12_direction σ_128).bind fun u_130 =>
          if u_7.1 < 0 ∨ 40000 ≤ u_7.1.toNatClampNeg then none else
          bnd (mA u_130.2 20 (upd (u_130.2.2 20) u_7.1.toNatClampNeg u_130.1)) fun σ_134 =>
          if u_7.1 < 0 ∨ 40000 ≤ u_7.1.toNatClampNeg then none else
          bnd (fun  (σ_138 : MS) => (
            (F_X12_name σ_138).bind fun u_142 =>
            if u_7.1 < 0 ∨ 40000 ≤ u_7.1.toNatClampNeg then none else
            bnd (mA u_142.2 19 (upd (u_142.2.2 19) u_7.1.toNatClampNeg u_142.1)) fun σ_146 =>
            j_12  σ_146
          ) : MS → MR) fun j_139 =>
          if (σ_134.2 20 u_7.1.toNatClampNeg) = 0 then (
            (F_X12_unfit σ_134).bind fun u_150 =>
            j_139  u_150.2
          ) else (
            j_139  σ_134
          )
        )
      ) else (
        j_24  σ_19
      )
    ) : MS → MR) fun j_20 =>
    if p0 = 0 then (
      (F_X12_tookKey 5 u_9.2).bind fun u_156 =>
      if u_156.1 = 0 then (
        j_20  u_156.2
      ) else (
        if u_7.1 < 0 ∨ 40000 ≤ u_7.1.toNatClampNeg then none else
        bnd (mA u_156.2 17 (upd (u_156.2.2 17) u_7.1.toNatClampNeg 11)) fun σ_163 =>
        j_12  σ_163
      )
    ) else (
      j_20  u_9.2
    )
  ) else (
    bnd (fun (t_167 : Int32) (σ_168 : MS) => (
      if u_7.1 < 0 ∨ 40000 ≤ u_7.1.toNatClampNeg then none else
      bnd (mA σ_168 18 (upd (σ_168.2 18) u_7.1.toNatClampNeg t_167)) fun σ_174 =>
      (F_X12_needKind 4 σ_174).bind fun u_176 =>
      if u_7.1 < 0 ∨ 40000 ≤ u_7.1.toNatClampNeg then none else
      bnd (mA u_176.2 20 (upd (u_176.2.2 20) u_7.1.toNatClampNeg u_176.1)) fun σ_180 =>
      j_12  σ_180
    ) : Int32 → MS → MR) fun j_169 =>
    if (u_9.2.1 27) = 0 then (
      bnd ((u_9.2.1 25)) fun (x_184 : Int32) =>
      if x_184 < 0 ∨ 16010 ≤ x_184.toNatClampNeg then none else
      j_169 (u_9.2.2 8 x_184.toNatClampNeg) u_9.2
    ) else (
      j_169 0 u_9.2
    )
  )
set_option maxHeartbeats 4000000 in
set_option maxRecDepth 100000 in
theorem m_X12_part (l : Launch) (dC : Nat → ClassId) (dI : Nat → Nat → Nat) (cB cC cI cJ cZ cP : ClassId) (h qK qS : Nat) (ad : Nat → Nat) (hDD : mDis cB cI cZ h qK qS ad) (sz : Nat)  (p0 : Int32) (σ : MS) (res : Int32 × MS) (hF : F_X12_part p0 σ = some res) : Met l yX12_part (g_ws yX12_part cX12_part 4 (some .int)) ({ frames := 6, cells := 0, slots := 0, locals := 147 }) (va_Pc [.ref h, .int p0] (m_B (dC, dI) [(cB, .byte), (cC, .char), (cI, .int), (cJ, .long), (cZ, .boolean), (cP, .object "StoryHouse$Play")] sz h ad qK qS (mW cB cI cZ h qK qS ad σ) g_0)) (va_Qi (fun r (_ : Unit) => r = res.1) (fun _ t => va_P (dC, dI) vwCl (mW cB cI cZ h qK qS ad res.2) t.heap) (mCells h ad sz)) 0 0 (mCells h ad sz) := by
  refine Met.ofW (cc := cX12_part) (maxL := 4) (ret := (some .int)) (by decide) rfl ?_
  intro p e s m args below meth c s₁ B hml hv
  obtain ⟨rfl, hsz, hP, hK, hE, hKS, hX⟩ := hv
  have hx := B.exec
  have hb := B.bytes
  have hr := B.returns
  have hts0 := atoms_spec (ws := g_ws yX12_part cX12_part 4 (some .int)) B.pre
  have hts : ∀ w ∈ lw_good, w.before ([.ref h, .int p0] : List Value).toArray s = true := fun w z => hts0 w (List.mem_cons_of_mem _ z)
  have hown : s.vm.findClass RX12 = some m.cls := findClass_of_methodNamed B.named
  have hlocks := B.notSynchronized
  have hS : va_S (mCells h ad sz) s.heap s.heap [] := va_S.rf
  have hl := lv_entry ([.ref h, .int p0]) (n := 4) (Nat.le_of_ble_eq_true rfl)
  rw [lg_entry_eq]
  generalize (lg_sl ([.ref h, .int p0]) ++ List.replicate (4 - (lg_sl ([.ref h, .int p0])).length) Slot.unset).toArray = ls at hl ⊢
  have hl : lv_has ls 4 [(0, .ref h), (1, .int p0)] := hl
  unfold F_X12_part at hF
  refine lv_aload_n hx hb dX12_part_0 rfl (lv_at hl 0 rfl) ?_
  refine va_get (D := (dC, dI)) (ci := 12) (v := .ref (ad 8)) (C := RX12) (T := TX12) (N := 123) hx hb hts ii_X12 hown hK hP 0 rfl rfl 8 (by decide) (hts (.fieldLink RX12 31 "StoryHouseModel" "tokAt" "[I") wq_1364) (fun _ h9 => h9) rfl dX12_part_1 ?_
  refine lv_aload_n hx hb dX12_part_4 rfl (lv_at hl 0 rfl) ?_
  refine va_get (D := (dC, dI)) (ci := 12) (v := .int (σ.1 25)) (C := RX12) (T := TX12) (N := 123) hx hb hts ii_X12 hown hK hP 0 rfl rfl 25 (by decide) (hts (.fieldLink RX12 314 "StoryHouseModel" "at" "I") wq_1381) (fun _ h9 => h9) rfl dX12_part_5 ?_
  obtain ⟨x_1, ex_1, hF_2⟩ := bnd_e hF
  clear hF
  refine m_top ex_1 ?_
  obtain ⟨g_3, hF_4⟩ := nif_e hF_2
  clear hF_2
  refine va_iald (f := σ.2 8) hx hb hK hP 4 2 rfl rfl g_3 dX12_part_8 ?_
  obtain ⟨x_5, ex_5, hF_6⟩ := bnd_e hF_4
  clear hF_4
  refine m_top ex_5 ?_
  refine lv_istore_n (lv' := [(2, .int x_5), (0, .ref h), (1, .int p0)]) hx hb dX12_part_9 rfl hl (by decide) rfl (fun ls hl => ?_)
  refine lv_aload_n hx hb dX12_part_10 rfl (lv_at hl 1 rfl) ?_
  refine lv_bipush (v := 10) hx hb dX12_part_11 (by decide +kernel) ?_
  refine lv_iload_n hx hb dX12_part_13 rfl (lv_at hl 0 rfl) ?_
  obtain ⟨u_7, hu_7, hF_8⟩ := Option.bind_eq_some_iff.mp hF_6
  clear hF_6
  refine m_ci hsz hS (va_runV (As := [.int 10, .int x_5]) (rest := []) ⟨hx, hb, hml, hown, hts⟩ (m_X12_node l dC dI cB cC cI cJ cZ cP h qK qS ad hDD s.heap.size  10 x_5 σ _ hu_7) (cwV 2 hts (g_gV wq_1540 wq_1541 wq_2126 wq_13 wq_1542) rfl rfl rfl (by decide +kernel) ⟨Nat.le_of_ble_eq_true rfl, Nat.le_of_ble_eq_true rfl⟩) (m_preV g_bl0 hsz hK hP hS hE hKS g_to0) rfl rfl hl.1 rfl (lv_room (Nat.le_of_ble_eq_true rfl)) dX12_part_14 ⟨Nat.le_of_ble_eq_true rfl, Nat.le_of_ble_eq_true rfl⟩) (fun H locs hP hS => ?_)
  refine lv_istore_n (lv' := [(3, .int u_7.1), (2, .int x_5), (0, .ref h), (1, .int p0)]) hx hb dX12_part_17 rfl hl (by decide) rfl (fun ls hl => ?_)
  refine lv_aload_n hx hb dX12_part_18 rfl (lv_at hl 2 rfl) ?_
  refine lv_bipush (v := 40) hx hb dX12_part_19 (by decide +kernel) ?_
  obtain ⟨u_9, hu_9, hF_10⟩ := Option.bind_eq_some_iff.mp hF_8
  clear hF_8
  refine m_ci hsz hS (va_runV (As := [.int 40]) (rest := []) ⟨hx, hb, hml, hown, hts⟩ (m_X12_tookKey l dC dI cB cC cI cJ cZ cP h qK qS ad hDD H.size  40 u_7.2 _ hu_9) (cwV 1 hts (g_gV wq_1573 wq_1574 wq_2137 wq_13 wq_1575) rfl rfl rfl (by decide +kernel) ⟨Nat.le_of_ble_eq_true rfl, Nat.le_of_ble_eq_true rfl⟩) (m_preV g_bl0 hsz hK hP hS hE hKS g_to0) rfl rfl hl.1 rfl (lv_room (Nat.le_of_ble_eq_true rfl)) dX12_part_21 ⟨Nat.le_of_ble_eq_true rfl, Nat.le_of_ble_eq_true rfl⟩) (fun H locs hP hS => ?_)
  obtain ⟨j_12, ej_12, hF_13⟩ := bnd_e hF_10
  clear hF_10
  have Jj_12 : ∀  (σ_11 : MS), j_12  σ_11 = some res → ∀ (H : Heap) (locs : List Loc), va_P (dC, dI) vwCl (mW cB cI cZ h qK qS ad σ_11) H → va_S (mCells h ad sz) s.heap H locs → ∀ ls : Array Slot, lv_has ls 4 [(0, .ref h), (3, .int u_7.1)] → W p l e (headSpec (g_ws yX12_part cX12_part 4 (some .int)) { frames := 6, cells := 0, slots := 0, locals := 147 }).room s m ([.ref h, .int p0] : List Value).toArray below meth c H locs 0 0 (MQ below (va_Qi (fun r (_ : Unit) => r = res.1) (fun _ t => va_P (dC, dI) vwCl (mW cB cI cZ h qK qS ad res.2) t.heap) (mCells h ad sz)) ([.ref h, .int p0] : List Value).toArray s 0 0 (mCells h ad sz)) (F0 m 305 ls []) := by
    intro  σ_11 hF0 H locs hP hS ls hl
    subst ej_12
    have hF_14 := hF0
    clear hF0
    refine lv_aload_n hx hb dX12_part_305 rfl (lv_at hl 0 rfl) ?_
    refine lv_bipush (v := 59) hx hb dX12_part_306 (by decide +kernel) ?_
    obtain ⟨u_15, hu_15, hF_16⟩ := Option.bind_eq_some_iff.mp hF_14
    clear hF_14
    refine m_cv hsz hS (va_runV (As := [.int 59]) (rest := []) ⟨hx, hb, hml, hown, hts⟩ (m_X12_need l dC dI cB cC cI cJ cZ cP h qK qS ad hDD H.size  59 σ_11 _ hu_15) (cwV 1 hts (g_gV wq_1564 wq_1565 wq_2134 wq_13 wq_1566) rfl rfl rfl (by decide +kernel) ⟨Nat.le_of_ble_eq_true rfl, Nat.le_of_ble_eq_true rfl⟩) (m_preV g_bl0 hsz hK hP hS hE hKS g_to0) rfl rfl hl.1 rfl (lv_room (Nat.le_of_ble_eq_true rfl)) dX12_part_308 ⟨Nat.le_of_ble_eq_true rfl, Nat.le_of_ble_eq_true rfl⟩) (fun H locs hP hS => ?_)
    refine lv_iload_n hx hb dX12_part_311 rfl (lv_at hl 1 rfl) ?_
    have h9 := Option.some.inj hF_16
    subst h9
    exact W.iret (v := u_7.1) hx hb hr (fun t ht hW => ⟨⟨u_7.1, (), rfl, rfl, m_end ht hP⟩, hS.F ht⟩) hS.2.2 dX12_part_312
  refine lv_if_eq (tgt := 67) hx hb dX12_part_24 (by decide) (fun c_17 => ?_) (fun c_17 => ?_)
  · have hF_18 := ipos c_17 hF_13
    clear hF_13
    refine lv_iload_n hx hb dX12_part_67 rfl (lv_at hl 3 rfl) ?_
    obtain ⟨j_20, ej_20, hF_21⟩ := bnd_e hF_18
    clear hF_18
    have Jj_20 : ∀  (σ_19 : MS), j_20  σ_19 = some res → ∀ (H : Heap) (locs : List Loc), va_P (dC, dI) vwCl (mW cB cI cZ h qK qS ad σ_19) H → va_S (mCells h ad sz) s.heap H locs → ∀ ls : Array Slot, lv_has ls 4 [(0, .ref h), (1, .int p0), (3, .int u_7.1)] → W p l e (headSpec (g_ws yX12_part cX12_part 4 (some .int)) { frames := 6, cells := 0, slots := 0, locals := 147 }).room s m ([.ref h, .int p0] : List Value).toArray below meth c H locs 0 0 (MQ below (va_Qi (fun r (_ : Unit) => r = res.1) (fun _ t => va_P (dC, dI) vwCl (mW cB cI cZ h qK qS ad res.2) t.heap) (mCells h ad sz)) ([.ref h, .int p0] : List Value).toArray s 0 0 (mCells h ad sz)) (F0 m 90 ls []) := by
      intro  σ_19 hF0 H locs hP hS ls hl
      subst ej_20
      have hF_22 := hF0
      clear hF0
      refine lv_iload_n hx hb dX12_part_90 rfl (lv_at hl 1 rfl) ?_
      obtain ⟨j_24, ej_24, hF_25⟩ := bnd_e hF_22
      clear hF_22
      have Jj_24 : ∀  (σ_23 : MS), j_24  σ_23 = some res → ∀ (H : Heap) (locs : List Loc), va_P (dC, dI) vwCl (mW cB cI cZ h qK qS ad σ_23) H → va_S (mCells h ad sz) s.heap H locs → ∀ ls : Array Slot, lv_has ls 4 [(0, .ref h), (1, .int p0), (3, .int u_7.1)] → W p l e (headSpec (g_ws yX12_part cX12_part 4 (some .int)) { frames := 6, cells := 0, slots := 0, locals := 147 }).room s m ([.ref h, .int p0] : List Value).toArray below meth c H locs 0 0 (MQ below (va_Qi (fun r (_ : Unit) => r = res.1) (fun _ t => va_P (dC, dI) vwCl (mW cB cI cZ h qK qS ad res.2) t.heap) (mCells h ad sz)) ([.ref h, .int p0] : List Value).toArray s 0 0 (mCells h ad sz)) (F0 m 147 ls []) := by
        intro  σ_23 hF0 H locs hP hS ls hl
        subst ej_24
        have hF_26 := hF0
        clear hF0
        refine lv_iload_n hx hb dX12_part_147 rfl (lv_at hl 1 rfl) ?_
        obtain ⟨j_28, ej_28, hF_29⟩ := bnd_e hF_26
        clear hF_26
        have Jj_28 : ∀  (σ_27 : MS), j_28  σ_27 = some res → ∀ (H : Heap) (locs : List Loc), va_P (dC, dI) vwCl (mW cB cI cZ h qK qS ad σ_27) H → va_S (mCells h ad sz) s.heap H locs → ∀ ls : Array Slot, lv_has ls 4 [(0, .ref h), (1, .int p0), (3, .int u_7.1)] → W p l e (headSpec (g_ws yX12_part cX12_part 4 (some .int)) { frames := 6, cells := 0, slots := 0, locals := 147 }).room s m ([.ref h, .int p0] : List Value).toArray below meth c H locs 0 0 (MQ below (va_Qi (fun r (_ : Unit) => r = res.1) (fun _ t => va_P (dC, dI) vwCl (mW cB cI cZ h qK qS ad res.2) t.heap) (mCells h ad sz)) ([.ref h, .int p0] : List Value).toArray s 0 0 (mCells h ad sz)) (F0 m 200 ls []) := by
          intro  σ_27 hF0 H locs hP hS ls hl
          subst ej_28
          have hF_30 := hF0
          clear hF0
          refine lv_iload_n hx hb dX12_part_200 rfl (lv_at hl 1 rfl) ?_
          obtain ⟨j_32, ej_32, hF_33⟩ := bnd_e hF_30
          clear hF_30
          have Jj_32 : ∀  (σ_31 : MS), j_32  σ_31 = some res → ∀ (H : Heap) (locs : List Loc), va_P (dC, dI) vwCl (mW cB cI cZ h qK qS ad σ_31) H → va_S (mCells h ad sz) s.heap H locs → ∀ ls : Array Slot, lv_has ls 4 [(0, .ref h), (1, .int p0), (3, .int u_7.1)] → W p l e (headSpec (g_ws yX12_part cX12_part 4 (some .int)) { frames := 6, cells := 0, slots := 0, locals := 147 }).room s m ([.ref h, .int p0] : List Value).toArray below meth c H locs 0 0 (MQ below (va_Qi (fun r (_ : Unit) => r = res.1) (fun _ t => va_P (dC, dI) vwCl (mW cB cI cZ h qK qS ad res.2) t.heap) (mCells h ad sz)) ([.ref h, .int p0] : List Value).toArray s 0 0 (mCells h ad sz)) (F0 m 234 ls []) := by
            intro  σ_31 hF0 H locs hP hS ls hl
            subst ej_32
            have hF_34 := hF0
            clear hF0
            refine lv_iload_n hx hb dX12_part_234 rfl (lv_at hl 1 rfl) ?_
            obtain ⟨j_36, ej_36, hF_37⟩ := bnd_e hF_34
            clear hF_34
            have Jj_36 : ∀  (σ_35 : MS), j_36  σ_35 = some res → ∀ (H : Heap) (locs : List Loc), va_P (dC, dI) vwCl (mW cB cI cZ h qK qS ad σ_35) H → va_S (mCells h ad sz) s.heap H locs → ∀ ls : Array Slot, lv_has ls 4 [(0, .ref h), (3, .int u_7.1)] → W p l e (headSpec (g_ws yX12_part cX12_part 4 (some .int)) { frames := 6, cells := 0, slots := 0, locals := 147 }).room s m ([.ref h, .int p0] : List Value).toArray below meth c H locs 0 0 (MQ below (va_Qi (fun r (_ : Unit) => r = res.1) (fun _ t => va_P (dC, dI) vwCl (mW cB cI cZ h qK qS ad res.2) t.heap) (mCells h ad sz)) ([.ref h, .int p0] : List Value).toArray s 0 0 (mCells h ad sz)) (F0 m 301 ls []) := by
              intro  σ_35 hF0 H locs hP hS ls hl
              subst ej_36
              have hF_38 := hF0
              clear hF0
              refine lv_aload_n hx hb dX12_part_301 rfl (lv_at hl 0 rfl) ?_
              obtain ⟨u_39, hu_39, hF_40⟩ := Option.bind_eq_some_iff.mp hF_38
              clear hF_38
              refine m_cv hsz hS (va_runV (As := []) (rest := []) ⟨hx, hb, hml, hown, hts⟩ (m_X12_unfit l dC dI cB cC cI cJ cZ cP h qK qS ad hDD H.size  σ_35 _ hu_39) (cwV 0 hts (g_gV wq_1549 wq_1550 wq_2129 wq_13 wq_1551) rfl rfl rfl (by decide +kernel) ⟨Nat.le_of_ble_eq_true rfl, Nat.le_of_ble_eq_true rfl⟩) (m_preV g_bl0 hsz hK hP hS hE hKS g_to0) rfl rfl hl.1 rfl (lv_room (Nat.le_of_ble_eq_true rfl)) dX12_part_302 ⟨Nat.le_of_ble_eq_true rfl, Nat.le_of_ble_eq_true rfl⟩) (fun H locs hP hS => ?_)
              exact Jj_12  u_39.2 hF_40 _ _ hP hS ls (lv_sub hl [0, 1] rfl)
            refine lv_if_eq (tgt := 301) hx hb dX12_part_235 (by decide) (fun c_41 => ?_) (fun c_41 => ?_)
            · have hF_42 := ipos c_41 hF_37
              clear hF_37
              exact Jj_36  σ_31 hF_42 _ _ hP hS ls (lv_sub hl [0, 2] rfl)
            · have hF_43 := ineg c_41 hF_37
              clear hF_37
              refine lv_aload_n hx hb dX12_part_238 rfl (lv_at hl 0 rfl) ?_
              refine va_get (D := (dC, dI)) (ci := 12) (v := .ref (ad 7)) (C := RX12) (T := TX12) (N := 123) hx hb hts ii_X12 hown hK hP 0 rfl rfl 7 (by decide) (hts (.fieldLink RX12 27 "StoryHouseModel" "tokKind" "[I") wq_1363) (fun _ h9 => h9) rfl dX12_part_239 ?_
              refine lv_aload_n hx hb dX12_part_242 rfl (lv_at hl 0 rfl) ?_
              refine va_get (D := (dC, dI)) (ci := 12) (v := .int (σ_31.1 25)) (C := RX12) (T := TX12) (N := 123) hx hb hts ii_X12 hown hK hP 0 rfl rfl 25 (by decide) (hts (.fieldLink RX12 314 "StoryHouseModel" "at" "I") wq_1381) (fun _ h9 => h9) rfl dX12_part_243 ?_
              obtain ⟨x_44, ex_44, hF_45⟩ := bnd_e hF_43
              clear hF_43
              refine m_top ex_44 ?_
              obtain ⟨g_46, hF_47⟩ := nif_e hF_45
              clear hF_45
              refine va_iald (f := σ_31.2 7) hx hb hK hP 3 2 rfl rfl g_46 dX12_part_246 ?_
              refine lv_iconst (v := 1) hx hb dX12_part_247 (by decide +kernel) ?_
              refine lv_icmp_ne (tgt := 301) hx hb dX12_part_248 (by decide) (fun c_48 => ?_) (fun c_48 => ?_)
              · have hF_73 := ineg c_48 hF_47
                clear hF_47
                exact Jj_36  σ_31 hF_73 _ _ hP hS ls (lv_sub hl [0, 2] rfl)
              · have hF_49 := ipos c_48 hF_47
                clear hF_47
                refine lv_aload_n hx hb dX12_part_251 rfl (lv_at hl 0 rfl) ?_
                refine va_get (D := (dC, dI)) (ci := 12) (v := .ref (ad 9)) (C := RX12) (T := TX12) (N := 123) hx hb hts ii_X12 hown hK hP 0 rfl rfl 9 (by decide) (hts (.fieldLink RX12 34 "StoryHouseModel" "tokValue" "[I") wq_1365) (fun _ h9 => h9) rfl dX12_part_252 ?_
                refine lv_aload_n hx hb dX12_part_255 rfl (lv_at hl 0 rfl) ?_
                refine va_get (D := (dC, dI)) (ci := 12) (v := .int (σ_31.1 25)) (C := RX12) (T := TX12) (N := 123) hx hb hts ii_X12 hown hK hP 0 rfl rfl 25 (by decide) (hts (.fieldLink RX12 314 "StoryHouseModel" "at" "I") wq_1381) (fun _ h9 => h9) rfl dX12_part_256 ?_
                obtain ⟨x_50, ex_50, hF_51⟩ := bnd_e hF_49
                clear hF_49
                refine m_top ex_50 ?_
                obtain ⟨g_52, hF_53⟩ := nif_e hF_51
                clear hF_51
                refine va_iald (f := σ_31.2 9) hx hb hK hP 5 2 rfl rfl g_52 dX12_part_259 ?_
                refine lv_bipush (v := 51) hx hb dX12_part_260 (by decide +kernel) ?_
                refine lv_icmp_lt (tgt := 301) hx hb dX12_part_262 (by decide) (fun c_54 => ?_) (fun c_54 => ?_)
                · have hF_55 := ipos c_54 hF_53
                  clear hF_53
                  exact Jj_36  σ_31 hF_55 _ _ hP hS ls (lv_sub hl [0, 2] rfl)
                · have hF_56 := ineg c_54 hF_53
                  clear hF_53
                  refine lv_aload_n hx hb dX12_part_265 rfl (lv_at hl 0 rfl) ?_
                  refine va_get (D := (dC, dI)) (ci := 12) (v := .ref (ad 17)) (C := RX12) (T := TX12) (N := 123) hx hb hts ii_X12 hown hK hP 0 rfl rfl 17 (by decide) (hts (.fieldLink RX12 49 "StoryHouseModel" "what" "[I") wq_1373) (fun _ h9 => h9) rfl dX12_part_266 ?_
                  refine lv_iload_n hx hb dX12_part_269 rfl (lv_at hl 2 rfl) ?_
                  refine lv_bipush (v := 15) hx hb dX12_part_270 (by decide +kernel) ?_
                  obtain ⟨g_57, hF_58⟩ := nif_e hF_56
                  clear hF_56
                  obtain ⟨σ_59, eσ_59, hF_60⟩ := bnd_e hF_58
                  clear hF_58
                  refine m_iast (σ' := σ_59) hx hb hK hP (hDD _ _) hS (q0 := 8) (t0 := 2) (f := σ_31.2 17) rfl rfl (by rw [eσ_59]; exact mwA_17) g_57 dX12_part_272 (fun H locs hP hS => ?_)
                  refine lv_aload_n hx hb dX12_part_273 rfl (lv_at hl 0 rfl) ?_
                  refine va_get (D := (dC, dI)) (ci := 12) (v := .ref (ad 20)) (C := RX12) (T := TX12) (N := 123) hx hb hts ii_X12 hown hK hP 0 rfl rfl 20 (by decide) (hts (.fieldLink RX12 58 "StoryHouseModel" "b" "[I") wq_1376) (fun _ h9 => h9) rfl dX12_part_274 ?_
                  refine lv_iload_n hx hb dX12_part_277 rfl (lv_at hl 2 rfl) ?_
                  refine lv_aload_n hx hb dX12_part_278 rfl (lv_at hl 0 rfl) ?_
                  refine va_get (D := (dC, dI)) (ci := 12) (v := .ref (ad 9)) (C := RX12) (T := TX12) (N := 123) hx hb hts ii_X12 hown hK hP 0 rfl rfl 9 (by decide) (hts (.fieldLink RX12 34 "StoryHouseModel" "tokValue" "[I") wq_1365) (fun _ h9 => h9) rfl dX12_part_279 ?_
                  refine lv_aload_n hx hb dX12_part_282 rfl (lv_at hl 0 rfl) ?_
                  refine lv_dup hx hb dX12_part_283 rfl ?_
                  refine va_get (D := (dC, dI)) (ci := 12) (v := .int (σ_59.1 25)) (C := RX12) (T := TX12) (N := 123) hx hb hts ii_X12 hown hK hP 0 rfl rfl 25 (by decide) (hts (.fieldLink RX12 314 "StoryHouseModel" "at" "I") wq_1381) (fun _ h9 => h9) rfl dX12_part_284 ?_
                  refine lv_dup_x1 hx hb dX12_part_287 rfl rfl ?_
                  refine lv_iconst (v := 1) hx hb dX12_part_288 (by decide +kernel) ?_
                  refine lv_iadd hx hb dX12_part_289 ?_
                  obtain ⟨σ_61, eσ_61, hF_62⟩ := bnd_e hF_60
                  clear hF_60
                  refine m_put (σ' := σ_61) (v := .int ((σ_59.1 25) + 1)) (ty := .int) hx hb hts hown hK hP (hDD _ _) hS (by rw [eσ_61]; exact mwI_25) (k := 25) (by decide) (hts (.fieldLink RX12 314 "StoryHouseModel" "at" "I") wq_1381) (fun _ h9 => h9) rfl (by decide +kernel) rfl rfl dX12_part_290 (fun H locs hP hS => ?_)
                  obtain ⟨x_63, ex_63, hF_64⟩ := bnd_e hF_62
                  clear hF_62
                  refine m_top ex_63 ?_
                  obtain ⟨g_65, hF_66⟩ := nif_e hF_64
                  clear hF_64
                  refine va_iald (f := σ_61.2 9) hx hb hK hP 5 2 rfl rfl g_65 dX12_part_293 ?_
                  refine lv_bipush (v := 51) hx hb dX12_part_294 (by decide +kernel) ?_
                  refine lv_isub hx hb dX12_part_296 ?_
                  obtain ⟨x_67, ex_67, hF_68⟩ := bnd_e hF_66
                  clear hF_66
                  refine m_top ex_67 ?_
                  obtain ⟨g_69, hF_70⟩ := nif_e hF_68
                  clear hF_68
                  obtain ⟨σ_71, eσ_71, hF_72⟩ := bnd_e hF_70
                  clear hF_70
                  refine m_iast (σ' := σ_71) hx hb hK hP (hDD _ _) hS (q0 := 11) (t0 := 2) (f := σ_61.2 20) rfl rfl (by rw [eσ_71]; exact mwA_20) g_69 dX12_part_297 (fun H locs hP hS => ?_)
                  refine lv_goto (tgt := 305) hx hb dX12_part_298 (by decide) ?_
                  exact Jj_12  σ_71 hF_72 _ _ hP hS ls (lv_sub hl [0, 2] rfl)
          refine lv_if_eq (tgt := 234) hx hb dX12_part_201 (by decide) (fun c_74 => ?_) (fun c_74 => ?_)
          · have hF_75 := ipos c_74 hF_33
            clear hF_33
            exact Jj_32  σ_27 hF_75 _ _ hP hS ls (lv_sub hl [0, 1, 2] rfl)
          · have hF_76 := ineg c_74 hF_33
            clear hF_33
            refine lv_aload_n hx hb dX12_part_204 rfl (lv_at hl 0 rfl) ?_
            refine lv_bipush (v := 50) hx hb dX12_part_205 (by decide +kernel) ?_
            obtain ⟨u_77, hu_77, hF_78⟩ := Option.bind_eq_some_iff.mp hF_76
            clear hF_76
            refine m_ci hsz hS (va_runV (As := [.int 50]) (rest := []) ⟨hx, hb, hml, hown, hts⟩ (m_X12_tookKey l dC dI cB cC cI cJ cZ cP h qK qS ad hDD H.size  50 σ_27 _ hu_77) (cwV 1 hts (g_gV wq_1573 wq_1574 wq_2137 wq_13 wq_1575) rfl rfl rfl (by decide +kernel) ⟨Nat.le_of_ble_eq_true rfl, Nat.le_of_ble_eq_true rfl⟩) (m_preV g_bl0 hsz hK hP hS hE hKS g_to0) rfl rfl hl.1 rfl (lv_room (Nat.le_of_ble_eq_true rfl)) dX12_part_207 ⟨Nat.le_of_ble_eq_true rfl, Nat.le_of_ble_eq_true rfl⟩) (fun H locs hP hS => ?_)
            refine lv_if_eq (tgt := 234) hx hb dX12_part_210 (by decide) (fun c_79 => ?_) (fun c_79 => ?_)
            · have hF_80 := ipos c_79 hF_78
              clear hF_78
              exact Jj_32  u_77.2 hF_80 _ _ hP hS ls (lv_sub hl [0, 1, 2] rfl)
            · have hF_81 := ineg c_79 hF_78
              clear hF_78
              refine lv_aload_n hx hb dX12_part_213 rfl (lv_at hl 0 rfl) ?_
              refine va_get (D := (dC, dI)) (ci := 12) (v := .ref (ad 17)) (C := RX12) (T := TX12) (N := 123) hx hb hts ii_X12 hown hK hP 0 rfl rfl 17 (by decide) (hts (.fieldLink RX12 49 "StoryHouseModel" "what" "[I") wq_1373) (fun _ h9 => h9) rfl dX12_part_214 ?_
              refine lv_iload_n hx hb dX12_part_217 rfl (lv_at hl 2 rfl) ?_
              refine lv_bipush (v := 14) hx hb dX12_part_218 (by decide +kernel) ?_
              obtain ⟨g_82, hF_83⟩ := nif_e hF_81
              clear hF_81
              obtain ⟨σ_84, eσ_84, hF_85⟩ := bnd_e hF_83
              clear hF_83
              refine m_iast (σ' := σ_84) hx hb hK hP (hDD _ _) hS (q0 := 8) (t0 := 2) (f := u_77.2.2 17) rfl rfl (by rw [eσ_84]; exact mwA_17) g_82 dX12_part_220 (fun H locs hP hS => ?_)
              refine lv_aload_n hx hb dX12_part_221 rfl (lv_at hl 0 rfl) ?_
              refine va_get (D := (dC, dI)) (ci := 12) (v := .ref (ad 19)) (C := RX12) (T := TX12) (N := 123) hx hb hts ii_X12 hown hK hP 0 rfl rfl 19 (by decide) (hts (.fieldLink RX12 55 "StoryHouseModel" "a" "[I") wq_1375) (fun _ h9 => h9) rfl dX12_part_222 ?_
              refine lv_iload_n hx hb dX12_part_225 rfl (lv_at hl 2 rfl) ?_
              refine lv_aload_n hx hb dX12_part_226 rfl (lv_at hl 0 rfl) ?_
              obtain ⟨u_86, hu_86, hF_87⟩ := Option.bind_eq_some_iff.mp hF_85
              clear hF_85
              refine m_ci hsz hS (va_runV (As := []) (rest := [.int u_7.1, .ref (ad 19)]) ⟨hx, hb, hml, hown, hts⟩ (m_X12_row l dC dI cB cC cI cJ cZ cP h qK qS ad hDD H.size  σ_84 _ hu_86) (cwV 0 hts (g_gV wq_1579 wq_1580 wq_2139 wq_13 wq_1581) rfl rfl rfl (by decide +kernel) ⟨Nat.le_of_ble_eq_true rfl, Nat.le_of_ble_eq_true rfl⟩) (m_preV g_bl0 hsz hK hP hS hE hKS g_to0) rfl rfl hl.1 rfl (lv_room (Nat.le_of_ble_eq_true rfl)) dX12_part_227 ⟨Nat.le_of_ble_eq_true rfl, Nat.le_of_ble_eq_true rfl⟩) (fun H locs hP hS => ?_)
              obtain ⟨g_88, hF_89⟩ := nif_e hF_87
              clear hF_87
              obtain ⟨σ_90, eσ_90, hF_91⟩ := bnd_e hF_89
              clear hF_89
              refine m_iast (σ' := σ_90) hx hb hK hP (hDD _ _) hS (q0 := 10) (t0 := 2) (f := u_86.2.2 19) rfl rfl (by rw [eσ_90]; exact mwA_19) g_88 dX12_part_230 (fun H locs hP hS => ?_)
              refine lv_goto (tgt := 305) hx hb dX12_part_231 (by decide) ?_
              exact Jj_12  σ_90 hF_91 _ _ hP hS ls (lv_sub hl [0, 2] rfl)
        refine lv_if_eq (tgt := 200) hx hb dX12_part_148 (by decide) (fun c_92 => ?_) (fun c_92 => ?_)
        · have hF_93 := ipos c_92 hF_29
          clear hF_29
          exact Jj_28  σ_23 hF_93 _ _ hP hS ls (lv_sub hl [0, 1, 2] rfl)
        · have hF_94 := ineg c_92 hF_29
          clear hF_29
          refine lv_aload_n hx hb dX12_part_151 rfl (lv_at hl 0 rfl) ?_
          refine lv_bipush (v := 18) hx hb dX12_part_152 (by decide +kernel) ?_
          obtain ⟨u_95, hu_95, hF_96⟩ := Option.bind_eq_some_iff.mp hF_94
          clear hF_94
          refine m_ci hsz hS (va_runV (As := [.int 18]) (rest := []) ⟨hx, hb, hml, hown, hts⟩ (m_X12_tookKey l dC dI cB cC cI cJ cZ cP h qK qS ad hDD H.size  18 σ_23 _ hu_95) (cwV 1 hts (g_gV wq_1573 wq_1574 wq_2137 wq_13 wq_1575) rfl rfl rfl (by decide +kernel) ⟨Nat.le_of_ble_eq_true rfl, Nat.le_of_ble_eq_true rfl⟩) (m_preV g_bl0 hsz hK hP hS hE hKS g_to0) rfl rfl hl.1 rfl (lv_room (Nat.le_of_ble_eq_true rfl)) dX12_part_154 ⟨Nat.le_of_ble_eq_true rfl, Nat.le_of_ble_eq_true rfl⟩) (fun H locs hP hS => ?_)
          refine lv_if_eq (tgt := 200) hx hb dX12_part_157 (by decide) (fun c_97 => ?_) (fun c_97 => ?_)
          · have hF_98 := ipos c_97 hF_96
            clear hF_96
            exact Jj_28  u_95.2 hF_98 _ _ hP hS ls (lv_sub hl [0, 1, 2] rfl)
          · have hF_99 := ineg c_97 hF_96
            clear hF_96
            refine lv_aload_n hx hb dX12_part_160 rfl (lv_at hl 0 rfl) ?_
            refine va_get (D := (dC, dI)) (ci := 12) (v := .ref (ad 17)) (C := RX12) (T := TX12) (N := 123) hx hb hts ii_X12 hown hK hP 0 rfl rfl 17 (by decide) (hts (.fieldLink RX12 49 "StoryHouseModel" "what" "[I") wq_1373) (fun _ h9 => h9) rfl dX12_part_161 ?_
            refine lv_iload_n hx hb dX12_part_164 rfl (lv_at hl 2 rfl) ?_
            refine lv_bipush (v := 13) hx hb dX12_part_165 (by decide +kernel) ?_
            obtain ⟨g_100, hF_101⟩ := nif_e hF_99
            clear hF_99
            obtain ⟨σ_102, eσ_102, hF_103⟩ := bnd_e hF_101
            clear hF_101
            refine m_iast (σ' := σ_102) hx hb hK hP (hDD _ _) hS (q0 := 8) (t0 := 2) (f := u_95.2.2 17) rfl rfl (by rw [eσ_102]; exact mwA_17) g_100 dX12_part_167 (fun H locs hP hS => ?_)
            refine lv_aload_n hx hb dX12_part_168 rfl (lv_at hl 0 rfl) ?_
            refine lv_bipush (v := 30) hx hb dX12_part_169 (by decide +kernel) ?_
            obtain ⟨u_104, hu_104, hF_105⟩ := Option.bind_eq_some_iff.mp hF_103
            clear hF_103
            refine m_ci hsz hS (va_runV (As := [.int 30]) (rest := []) ⟨hx, hb, hml, hown, hts⟩ (m_X12_tookKey l dC dI cB cC cI cJ cZ cP h qK qS ad hDD H.size  30 σ_102 _ hu_104) (cwV 1 hts (g_gV wq_1573 wq_1574 wq_2137 wq_13 wq_1575) rfl rfl rfl (by decide +kernel) ⟨Nat.le_of_ble_eq_true rfl, Nat.le_of_ble_eq_true rfl⟩) (m_preV g_bl0 hsz hK hP hS hE hKS g_to0) rfl rfl hl.1 rfl (lv_room (Nat.le_of_ble_eq_true rfl)) dX12_part_171 ⟨Nat.le_of_ble_eq_true rfl, Nat.le_of_ble_eq_true rfl⟩) (fun H locs hP hS => ?_)
            refine lv_if_eq (tgt := 187) hx hb dX12_part_174 (by decide) (fun c_106 => ?_) (fun c_106 => ?_)
            · have hF_107 := ipos c_106 hF_105
              clear hF_105
              refine lv_aload_n hx hb dX12_part_187 rfl (lv_at hl 0 rfl) ?_
              refine va_get (D := (dC, dI)) (ci := 12) (v := .ref (ad 19)) (C := RX12) (T := TX12) (N := 123) hx hb hts ii_X12 hown hK hP 0 rfl rfl 19 (by decide) (hts (.fieldLink RX12 55 "StoryHouseModel" "a" "[I") wq_1375) (fun _ h9 => h9) rfl dX12_part_188 ?_
              refine lv_iload_n hx hb dX12_part_191 rfl (lv_at hl 2 rfl) ?_
              refine lv_aload_n hx hb dX12_part_192 rfl (lv_at hl 0 rfl) ?_
              obtain ⟨u_108, hu_108, hF_109⟩ := Option.bind_eq_some_iff.mp hF_107
              clear hF_107
              refine m_ci hsz hS (va_runV (As := []) (rest := [.int u_7.1, .ref (ad 19)]) ⟨hx, hb, hml, hown, hts⟩ (m_X12_name l dC dI cB cC cI cJ cZ cP h qK qS ad hDD H.size  u_104.2 _ hu_108) (cwV 0 hts (g_gV wq_1543 wq_1544 wq_2127 wq_13 wq_1545) rfl rfl rfl (by decide +kernel) ⟨Nat.le_of_ble_eq_true rfl, Nat.le_of_ble_eq_true rfl⟩) (m_preV g_bl0 hsz hK hP hS hE hKS g_to0) rfl rfl hl.1 rfl (lv_room (Nat.le_of_ble_eq_true rfl)) dX12_part_193 ⟨Nat.le_of_ble_eq_true rfl, Nat.le_of_ble_eq_true rfl⟩) (fun H locs hP hS => ?_)
              obtain ⟨g_110, hF_111⟩ := nif_e hF_109
              clear hF_109
              obtain ⟨σ_112, eσ_112, hF_113⟩ := bnd_e hF_111
              clear hF_111
              refine m_iast (σ' := σ_112) hx hb hK hP (hDD _ _) hS (q0 := 10) (t0 := 2) (f := u_108.2.2 19) rfl rfl (by rw [eσ_112]; exact mwA_19) g_110 dX12_part_196 (fun H locs hP hS => ?_)
              refine lv_goto (tgt := 305) hx hb dX12_part_197 (by decide) ?_
              exact Jj_12  σ_112 hF_113 _ _ hP hS ls (lv_sub hl [0, 2] rfl)
            · have hF_114 := ineg c_106 hF_105
              clear hF_105
              refine lv_aload_n hx hb dX12_part_177 rfl (lv_at hl 0 rfl) ?_
              refine va_get (D := (dC, dI)) (ci := 12) (v := .ref (ad 20)) (C := RX12) (T := TX12) (N := 123) hx hb hts ii_X12 hown hK hP 0 rfl rfl 20 (by decide) (hts (.fieldLink RX12 58 "StoryHouseModel" "b" "[I") wq_1376) (fun _ h9 => h9) rfl dX12_part_178 ?_
              refine lv_iload_n hx hb dX12_part_181 rfl (lv_at hl 2 rfl) ?_
              refine lv_iconst (v := 1) hx hb dX12_part_182 (by decide +kernel) ?_
              obtain ⟨g_115, hF_116⟩ := nif_e hF_114
              clear hF_114
              obtain ⟨σ_117, eσ_117, hF_118⟩ := bnd_e hF_116
              clear hF_116
              refine m_iast (σ' := σ_117) hx hb hK hP (hDD _ _) hS (q0 := 11) (t0 := 2) (f := u_104.2.2 20) rfl rfl (by rw [eσ_117]; exact mwA_20) g_115 dX12_part_183 (fun H locs hP hS => ?_)
              refine lv_goto (tgt := 305) hx hb dX12_part_184 (by decide) ?_
              exact Jj_12  σ_117 hF_118 _ _ hP hS ls (lv_sub hl [0, 2] rfl)
      refine lv_if_ne (tgt := 147) hx hb dX12_part_91 (by decide) (fun c_119 => ?_) (fun c_119 => ?_)
      · have hF_153 := ineg c_119 hF_25
        clear hF_25
        exact Jj_24  σ_19 hF_153 _ _ hP hS ls (lv_sub hl [0, 1, 2] rfl)
      · have hF_120 := ipos c_119 hF_25
        clear hF_25
        refine lv_aload_n hx hb dX12_part_94 rfl (lv_at hl 0 rfl) ?_
        refine lv_bipush (v := 12) hx hb dX12_part_95 (by decide +kernel) ?_
        obtain ⟨u_121, hu_121, hF_122⟩ := Option.bind_eq_some_iff.mp hF_120
        clear hF_120
        refine m_ci hsz hS (va_runV (As := [.int 12]) (rest := []) ⟨hx, hb, hml, hown, hts⟩ (m_X12_tookKey l dC dI cB cC cI cJ cZ cP h qK qS ad hDD H.size  12 σ_19 _ hu_121) (cwV 1 hts (g_gV wq_1573 wq_1574 wq_2137 wq_13 wq_1575) rfl rfl rfl (by decide +kernel) ⟨Nat.le_of_ble_eq_true rfl, Nat.le_of_ble_eq_true rfl⟩) (m_preV g_bl0 hsz hK hP hS hE hKS g_to0) rfl rfl hl.1 rfl (lv_room (Nat.le_of_ble_eq_true rfl)) dX12_part_97 ⟨Nat.le_of_ble_eq_true rfl, Nat.le_of_ble_eq_true rfl⟩) (fun H locs hP hS => ?_)
        refine lv_if_eq (tgt := 147) hx hb dX12_part_100 (by decide) (fun c_123 => ?_) (fun c_123 => ?_)
        · have hF_124 := ipos c_123 hF_122
          clear hF_122
          exact Jj_24  u_121.2 hF_124 _ _ hP hS ls (lv_sub hl [0, 1, 2] rfl)
        · have hF_125 := ineg c_123 hF_122
          clear hF_122
          refine lv_aload_n hx hb dX12_part_103 rfl (lv_at hl 0 rfl) ?_
          refine va_get (D := (dC, dI)) (ci := 12) (v := .ref (ad 17)) (C := RX12) (T := TX12) (N := 123) hx hb hts ii_X12 hown hK hP 0 rfl rfl 17 (by decide) (hts (.fieldLink RX12 49 "StoryHouseModel" "what" "[I") wq_1373) (fun _ h9 => h9) rfl dX12_part_104 ?_
          refine lv_iload_n hx hb dX12_part_107 rfl (lv_at hl 2 rfl) ?_
          refine lv_bipush (v := 12) hx hb dX12_part_108 (by decide +kernel) ?_
          obtain ⟨g_126, hF_127⟩ := nif_e hF_125
          clear hF_125
          obtain ⟨σ_128, eσ_128, hF_129⟩ := bnd_e hF_127
          clear hF_127
          refine m_iast (σ' := σ_128) hx hb hK hP (hDD _ _) hS (q0 := 8) (t0 := 2) (f := u_121.2.2 17) rfl rfl (by rw [eσ_128]; exact mwA_17) g_126 dX12_part_110 (fun H locs hP hS => ?_)
          refine lv_aload_n hx hb dX12_part_111 rfl (lv_at hl 0 rfl) ?_
          refine va_get (D := (dC, dI)) (ci := 12) (v := .ref (ad 20)) (C := RX12) (T := TX12) (N := 123) hx hb hts ii_X12 hown hK hP 0 rfl rfl 20 (by decide) (hts (.fieldLink RX12 58 "StoryHouseModel" "b" "[I") wq_1376) (fun _ h9 => h9) rfl dX12_part_112 ?_
          refine lv_iload_n hx hb dX12_part_115 rfl (lv_at hl 2 rfl) ?_
          refine lv_aload_n hx hb dX12_part_116 rfl (lv_at hl 0 rfl) ?_
          obtain ⟨u_130, hu_130, hF_131⟩ := Option.bind_eq_some_iff.mp hF_129
          clear hF_129
          refine m_ci hsz hS (va_runV (As := []) (rest := [.int u_7.1, .ref (ad 20)]) ⟨hx, hb, hml, hown, hts⟩ (m_X12_direction l dC dI cB cC cI cJ cZ cP h qK qS ad hDD H.size  σ_128 _ hu_130) (cwV 0 hts (g_gV wq_1576 wq_1577 wq_2138 wq_13 wq_1578) rfl rfl rfl (by decide +kernel) ⟨Nat.le_of_ble_eq_true rfl, Nat.le_of_ble_eq_true rfl⟩) (m_preV g_bl0 hsz hK hP hS hE hKS g_to0) rfl rfl hl.1 rfl (lv_room (Nat.le_of_ble_eq_true rfl)) dX12_part_117 ⟨Nat.le_of_ble_eq_true rfl, Nat.le_of_ble_eq_true rfl⟩) (fun H locs hP hS => ?_)
          obtain ⟨g_132, hF_133⟩ := nif_e hF_131
          clear hF_131
          obtain ⟨σ_134, eσ_134, hF_135⟩ := bnd_e hF_133
          clear hF_133
          refine m_iast (σ' := σ_134) hx hb hK hP (hDD _ _) hS (q0 := 11) (t0 := 2) (f := u_130.2.2 20) rfl rfl (by rw [eσ_134]; exact mwA_20) g_132 dX12_part_120 (fun H locs hP hS => ?_)
          refine lv_aload_n hx hb dX12_part_121 rfl (lv_at hl 0 rfl) ?_
          refine va_get (D := (dC, dI)) (ci := 12) (v := .ref (ad 20)) (C := RX12) (T := TX12) (N := 123) hx hb hts ii_X12 hown hK hP 0 rfl rfl 20 (by decide) (hts (.fieldLink RX12 58 "StoryHouseModel" "b" "[I") wq_1376) (fun _ h9 => h9) rfl dX12_part_122 ?_
          refine lv_iload_n hx hb dX12_part_125 rfl (lv_at hl 2 rfl) ?_
          obtain ⟨g_136, hF_137⟩ := nif_e hF_135
          clear hF_135
          refine va_iald (f := σ_134.2 20) hx hb hK hP 11 2 rfl rfl g_136 dX12_part_126 ?_
          obtain ⟨j_139, ej_139, hF_140⟩ := bnd_e hF_137
          clear hF_137
          have Jj_139 : ∀  (σ_138 : MS), j_139  σ_138 = some res → ∀ (H : Heap) (locs : List Loc), va_P (dC, dI) vwCl (mW cB cI cZ h qK qS ad σ_138) H → va_S (mCells h ad sz) s.heap H locs → ∀ ls : Array Slot, lv_has ls 4 [(0, .ref h), (3, .int u_7.1)] → W p l e (headSpec (g_ws yX12_part cX12_part 4 (some .int)) { frames := 6, cells := 0, slots := 0, locals := 147 }).room s m ([.ref h, .int p0] : List Value).toArray below meth c H locs 0 0 (MQ below (va_Qi (fun r (_ : Unit) => r = res.1) (fun _ t => va_P (dC, dI) vwCl (mW cB cI cZ h qK qS ad res.2) t.heap) (mCells h ad sz)) ([.ref h, .int p0] : List Value).toArray s 0 0 (mCells h ad sz)) (F0 m 134 ls []) := by
            intro  σ_138 hF0 H locs hP hS ls hl
            subst ej_139
            have hF_141 := hF0
            clear hF0
            refine lv_aload_n hx hb dX12_part_134 rfl (lv_at hl 0 rfl) ?_
            refine va_get (D := (dC, dI)) (ci := 12) (v := .ref (ad 19)) (C := RX12) (T := TX12) (N := 123) hx hb hts ii_X12 hown hK hP 0 rfl rfl 19 (by decide) (hts (.fieldLink RX12 55 "StoryHouseModel" "a" "[I") wq_1375) (fun _ h9 => h9) rfl dX12_part_135 ?_
            refine lv_iload_n hx hb dX12_part_138 rfl (lv_at hl 1 rfl) ?_
            refine lv_aload_n hx hb dX12_part_139 rfl (lv_at hl 0 rfl) ?_
            obtain ⟨u_142, hu_142, hF_143⟩ := Option.bind_eq_some_iff.mp hF_141
            clear hF_141
            refine m_ci hsz hS (va_runV (As := []) (rest := [.int u_7.1, .ref (ad 19)]) ⟨hx, hb, hml, hown, hts⟩ (m_X12_name l dC dI cB cC cI cJ cZ cP h qK qS ad hDD H.size  σ_138 _ hu_142) (cwV 0 hts (g_gV wq_1543 wq_1544 wq_2127 wq_13 wq_1545) rfl rfl rfl (by decide +kernel) ⟨Nat.le_of_ble_eq_true rfl, Nat.le_of_ble_eq_true rfl⟩) (m_preV g_bl0 hsz hK hP hS hE hKS g_to0) rfl rfl hl.1 rfl (lv_room (Nat.le_of_ble_eq_true rfl)) dX12_part_140 ⟨Nat.le_of_ble_eq_true rfl, Nat.le_of_ble_eq_true rfl⟩) (fun H locs hP hS => ?_)
            obtain ⟨g_144, hF_145⟩ := nif_e hF_143
            clear hF_143
            obtain ⟨σ_146, eσ_146, hF_147⟩ := bnd_e hF_145
            clear hF_145
            refine m_iast (σ' := σ_146) hx hb hK hP (hDD _ _) hS (q0 := 10) (t0 := 2) (f := u_142.2.2 19) rfl rfl (by rw [eσ_146]; exact mwA_19) g_144 dX12_part_143 (fun H locs hP hS => ?_)
            refine lv_goto (tgt := 305) hx hb dX12_part_144 (by decide) ?_
            exact Jj_12  σ_146 hF_147 _ _ hP hS ls (lv_sub hl [0, 1] rfl)
          refine lv_if_ne (tgt := 134) hx hb dX12_part_127 (by decide) (fun c_148 => ?_) (fun c_148 => ?_)
          · have hF_152 := ineg c_148 hF_140
            clear hF_140
            exact Jj_139  σ_134 hF_152 _ _ hP hS ls (lv_sub hl [0, 2] rfl)
          · have hF_149 := ipos c_148 hF_140
            clear hF_140
            refine lv_aload_n hx hb dX12_part_130 rfl (lv_at hl 0 rfl) ?_
            obtain ⟨u_150, hu_150, hF_151⟩ := Option.bind_eq_some_iff.mp hF_149
            clear hF_149
            refine m_cv hsz hS (va_runV (As := []) (rest := []) ⟨hx, hb, hml, hown, hts⟩ (m_X12_unfit l dC dI cB cC cI cJ cZ cP h qK qS ad hDD H.size  σ_134 _ hu_150) (cwV 0 hts (g_gV wq_1549 wq_1550 wq_2129 wq_13 wq_1551) rfl rfl rfl (by decide +kernel) ⟨Nat.le_of_ble_eq_true rfl, Nat.le_of_ble_eq_true rfl⟩) (m_preV g_bl0 hsz hK hP hS hE hKS g_to0) rfl rfl hl.1 rfl (lv_room (Nat.le_of_ble_eq_true rfl)) dX12_part_131 ⟨Nat.le_of_ble_eq_true rfl, Nat.le_of_ble_eq_true rfl⟩) (fun H locs hP hS => ?_)
            exact Jj_139  u_150.2 hF_151 _ _ hP hS ls (lv_sub hl [0, 2] rfl)
    refine lv_if_ne (tgt := 90) hx hb dX12_part_68 (by decide) (fun c_154 => ?_) (fun c_154 => ?_)
    · have hF_165 := ineg c_154 hF_21
      clear hF_21
      exact Jj_20  u_9.2 hF_165 _ _ hP hS ls (lv_sub hl [2, 3, 0] rfl)
    · have hF_155 := ipos c_154 hF_21
      clear hF_21
      refine lv_aload_n hx hb dX12_part_71 rfl (lv_at hl 2 rfl) ?_
      refine lv_iconst (v := 5) hx hb dX12_part_72 (by decide +kernel) ?_
      obtain ⟨u_156, hu_156, hF_157⟩ := Option.bind_eq_some_iff.mp hF_155
      clear hF_155
      refine m_ci hsz hS (va_runV (As := [.int 5]) (rest := []) ⟨hx, hb, hml, hown, hts⟩ (m_X12_tookKey l dC dI cB cC cI cJ cZ cP h qK qS ad hDD H.size  5 u_9.2 _ hu_156) (cwV 1 hts (g_gV wq_1573 wq_1574 wq_2137 wq_13 wq_1575) rfl rfl rfl (by decide +kernel) ⟨Nat.le_of_ble_eq_true rfl, Nat.le_of_ble_eq_true rfl⟩) (m_preV g_bl0 hsz hK hP hS hE hKS g_to0) rfl rfl hl.1 rfl (lv_room (Nat.le_of_ble_eq_true rfl)) dX12_part_73 ⟨Nat.le_of_ble_eq_true rfl, Nat.le_of_ble_eq_true rfl⟩) (fun H locs hP hS => ?_)
      refine lv_if_eq (tgt := 90) hx hb dX12_part_76 (by decide) (fun c_158 => ?_) (fun c_158 => ?_)
      · have hF_159 := ipos c_158 hF_157
        clear hF_157
        exact Jj_20  u_156.2 hF_159 _ _ hP hS ls (lv_sub hl [2, 3, 0] rfl)
      · have hF_160 := ineg c_158 hF_157
        clear hF_157
        refine lv_aload_n hx hb dX12_part_79 rfl (lv_at hl 2 rfl) ?_
        refine va_get (D := (dC, dI)) (ci := 12) (v := .ref (ad 17)) (C := RX12) (T := TX12) (N := 123) hx hb hts ii_X12 hown hK hP 0 rfl rfl 17 (by decide) (hts (.fieldLink RX12 49 "StoryHouseModel" "what" "[I") wq_1373) (fun _ h9 => h9) rfl dX12_part_80 ?_
        refine lv_iload_n hx hb dX12_part_83 rfl (lv_at hl 0 rfl) ?_
        refine lv_bipush (v := 11) hx hb dX12_part_84 (by decide +kernel) ?_
        obtain ⟨g_161, hF_162⟩ := nif_e hF_160
        clear hF_160
        obtain ⟨σ_163, eσ_163, hF_164⟩ := bnd_e hF_162
        clear hF_162
        refine m_iast (σ' := σ_163) hx hb hK hP (hDD _ _) hS (q0 := 8) (t0 := 2) (f := u_156.2.2 17) rfl rfl (by rw [eσ_163]; exact mwA_17) g_161 dX12_part_86 (fun H locs hP hS => ?_)
        refine lv_goto (tgt := 305) hx hb dX12_part_87 (by decide) ?_
        exact Jj_12  σ_163 hF_164 _ _ hP hS ls (lv_sub hl [2, 0] rfl)
  · have hF_166 := ineg c_17 hF_13
    clear hF_13
    refine lv_aload_n hx hb dX12_part_27 rfl (lv_at hl 2 rfl) ?_
    refine va_get (D := (dC, dI)) (ci := 12) (v := .ref (ad 18)) (C := RX12) (T := TX12) (N := 123) hx hb hts ii_X12 hown hK hP 0 rfl rfl 18 (by decide) (hts (.fieldLink RX12 52 "StoryHouseModel" "where" "[I") wq_1374) (fun _ h9 => h9) rfl dX12_part_28 ?_
    refine lv_iload_n hx hb dX12_part_31 rfl (lv_at hl 0 rfl) ?_
    refine lv_aload_n hx hb dX12_part_32 rfl (lv_at hl 2 rfl) ?_
    refine va_get (D := (dC, dI)) (ci := 12) (v := .int (u_9.2.1 27)) (C := RX12) (T := TX12) (N := 123) hx hb hts ii_X12 hown hK hP 0 rfl rfl 27 (by decide) (hts (.fieldLink RX12 304 "StoryHouseModel" "stopped" "Z") wq_1383) (fun _ h9 => h9) rfl dX12_part_33 ?_
    obtain ⟨j_169, ej_169, hF_170⟩ := bnd_e hF_166
    clear hF_166
    have Jj_169 : ∀ (t_167 : Int32) (σ_168 : MS), j_169 t_167 σ_168 = some res → ∀ (H : Heap) (locs : List Loc), va_P (dC, dI) vwCl (mW cB cI cZ h qK qS ad σ_168) H → va_S (mCells h ad sz) s.heap H locs → ∀ ls : Array Slot, lv_has ls 4 [(0, .ref h), (3, .int u_7.1)] → W p l e (headSpec (g_ws yX12_part cX12_part 4 (some .int)) { frames := 6, cells := 0, slots := 0, locals := 147 }).room s m ([.ref h, .int p0] : List Value).toArray below meth c H locs 0 0 (MQ below (va_Qi (fun r (_ : Unit) => r = res.1) (fun _ t => va_P (dC, dI) vwCl (mW cB cI cZ h qK qS ad res.2) t.heap) (mCells h ad sz)) ([.ref h, .int p0] : List Value).toArray s 0 0 (mCells h ad sz)) (F0 m 52 ls [.int t_167, .int u_7.1, .ref (ad 18)]) := by
      intro t_167 σ_168 hF0 H locs hP hS ls hl
      subst ej_169
      have hF_171 := hF0
      clear hF0
      obtain ⟨g_172, hF_173⟩ := nif_e hF_171
      clear hF_171
      obtain ⟨σ_174, eσ_174, hF_175⟩ := bnd_e hF_173
      clear hF_173
      refine m_iast (σ' := σ_174) hx hb hK hP (hDD _ _) hS (q0 := 9) (t0 := 2) (f := σ_168.2 18) rfl rfl (by rw [eσ_174]; exact mwA_18) g_172 dX12_part_52 (fun H locs hP hS => ?_)
      refine lv_aload_n hx hb dX12_part_53 rfl (lv_at hl 0 rfl) ?_
      refine va_get (D := (dC, dI)) (ci := 12) (v := .ref (ad 20)) (C := RX12) (T := TX12) (N := 123) hx hb hts ii_X12 hown hK hP 0 rfl rfl 20 (by decide) (hts (.fieldLink RX12 58 "StoryHouseModel" "b" "[I") wq_1376) (fun _ h9 => h9) rfl dX12_part_54 ?_
      refine lv_iload_n hx hb dX12_part_57 rfl (lv_at hl 1 rfl) ?_
      refine lv_aload_n hx hb dX12_part_58 rfl (lv_at hl 0 rfl) ?_
      refine lv_iconst (v := 4) hx hb dX12_part_59 (by decide +kernel) ?_
      obtain ⟨u_176, hu_176, hF_177⟩ := Option.bind_eq_some_iff.mp hF_175
      clear hF_175
      refine m_ci hsz hS (va_runV (As := [.int 4]) (rest := [.int u_7.1, .ref (ad 20)]) ⟨hx, hb, hml, hown, hts⟩ (m_X12_needKind l dC dI cB cC cI cJ cZ cP h qK qS ad hDD H.size  4 σ_174 _ hu_176) (cwV 1 hts (g_gV wq_1546 wq_1547 wq_2128 wq_13 wq_1548) rfl rfl rfl (by decide +kernel) ⟨Nat.le_of_ble_eq_true rfl, Nat.le_of_ble_eq_true rfl⟩) (m_preV g_bl0 hsz hK hP hS hE hKS g_to0) rfl rfl hl.1 rfl (lv_room (Nat.le_of_ble_eq_true rfl)) dX12_part_60 ⟨Nat.le_of_ble_eq_true rfl, Nat.le_of_ble_eq_true rfl⟩) (fun H locs hP hS => ?_)
      obtain ⟨g_178, hF_179⟩ := nif_e hF_177
      clear hF_177
      obtain ⟨σ_180, eσ_180, hF_181⟩ := bnd_e hF_179
      clear hF_179
      refine m_iast (σ' := σ_180) hx hb hK hP (hDD _ _) hS (q0 := 11) (t0 := 2) (f := u_176.2.2 20) rfl rfl (by rw [eσ_180]; exact mwA_20) g_178 dX12_part_63 (fun H locs hP hS => ?_)
      refine lv_goto (tgt := 305) hx hb dX12_part_64 (by decide) ?_
      exact Jj_12  σ_180 hF_181 _ _ hP hS ls (lv_sub hl [0, 1] rfl)
    refine lv_if_eq (tgt := 43) hx hb dX12_part_36 (by decide) (fun c_182 => ?_) (fun c_182 => ?_)
    · have hF_183 := ipos c_182 hF_170
      clear hF_170
      refine lv_aload_n hx hb dX12_part_43 rfl (lv_at hl 2 rfl) ?_
      refine va_get (D := (dC, dI)) (ci := 12) (v := .ref (ad 8)) (C := RX12) (T := TX12) (N := 123) hx hb hts ii_X12 hown hK hP 0 rfl rfl 8 (by decide) (hts (.fieldLink RX12 31 "StoryHouseModel" "tokAt" "[I") wq_1364) (fun _ h9 => h9) rfl dX12_part_44 ?_
      refine lv_aload_n hx hb dX12_part_47 rfl (lv_at hl 2 rfl) ?_
      refine va_get (D := (dC, dI)) (ci := 12) (v := .int (u_9.2.1 25)) (C := RX12) (T := TX12) (N := 123) hx hb hts ii_X12 hown hK hP 0 rfl rfl 25 (by decide) (hts (.fieldLink RX12 314 "StoryHouseModel" "at" "I") wq_1381) (fun _ h9 => h9) rfl dX12_part_48 ?_
      obtain ⟨x_184, ex_184, hF_185⟩ := bnd_e hF_183
      clear hF_183
      refine m_top ex_184 ?_
      obtain ⟨g_186, hF_187⟩ := nif_e hF_185
      clear hF_185
      refine va_iald (f := u_9.2.2 8) hx hb hK hP 4 2 rfl rfl g_186 dX12_part_51 ?_
      exact Jj_169 (u_9.2.2 8 x_184.toNatClampNeg) u_9.2 hF_187 _ _ hP hS ls (lv_sub hl [2, 0] rfl)
    · have hF_188 := ineg c_182 hF_170
      clear hF_170
      refine lv_iconst (v := 0) hx hb dX12_part_39 (by decide +kernel) ?_
      refine lv_goto (tgt := 52) hx hb dX12_part_40 (by decide) ?_
      exact Jj_169 0 u_9.2 hF_188 _ _ hP hS ls (lv_sub hl [2, 0] rfl)
theorem dX12_place_0 : decode cX12_place 0 = .ok (.aload_n 0, 1) := by decide +kernel
theorem dX12_place_1 : decode cX12_place 1 = .ok (.iload_n 1, 1) := by decide +kernel
theorem dX12_place_2 : decode cX12_place 2 = .ok (.ifCond .eq 7, 3) := by decide +kernel
theorem dX12_place_5 : decode cX12_place 5 = .ok (.iconst 2, 1) := by decide +kernel
theorem dX12_place_6 : decode cX12_place 6 = .ok (.goto 4, 3) := by decide +kernel
theorem dX12_place_9 : decode cX12_place 9 = .ok (.iconst 1, 1) := by decide +kernel
theorem dX12_place_10 : decode cX12_place 10 = .ok (.iload_n 2, 1) := by decide +kernel
theorem dX12_place_11 : decode cX12_place 11 = .ok (.invokevirtual 346, 3) := by decide +kernel
theorem dX12_place_14 : decode cX12_place 14 = .ok (.istore_n 3, 1) := by decide +kernel
theorem dX12_place_15 : decode cX12_place 15 = .ok (.aload_n 0, 1) := by decide +kernel
theorem dX12_place_16 : decode cX12_place 16 = .ok (.getfield 55, 3) := by decide +kernel
theorem dX12_place_19 : decode cX12_place 19 = .ok (.iload_n 3, 1) := by decide +kernel
theorem dX12_place_20 : decode cX12_place 20 = .ok (.aload_n 0, 1) := by decide +kernel
theorem dX12_place_21 : decode cX12_place 21 = .ok (.invokevirtual 365, 3) := by decide +kernel
theorem dX12_place_24 : decode cX12_place 24 = .ok (.iastore, 1) := by decide +kernel
theorem dX12_place_25 : decode cX12_place 25 = .ok (.aload_n 0, 1) := by decide +kernel
theorem dX12_place_26 : decode cX12_place 26 = .ok (.getfield 61, 3) := by decide +kernel
theorem dX12_place_29 : decode cX12_place 29 = .ok (.iload_n 3, 1) := by decide +kernel
theorem dX12_place_30 : decode cX12_place 30 = .ok (.aload_n 0, 1) := by decide +kernel
theorem dX12_place_31 : decode cX12_place 31 = .ok (.bipush 35, 2) := by decide +kernel
theorem dX12_place_33 : decode cX12_place 33 = .ok (.aload_n 0, 1) := by decide +kernel
theorem dX12_place_34 : decode cX12_place 34 = .ok (.getfield 304, 3) := by decide +kernel
theorem dX12_place_37 : decode cX12_place 37 = .ok (.ifCond .eq 7, 3) := by decide +kernel
theorem dX12_place_40 : decode cX12_place 40 = .ok (.iconst 0, 1) := by decide +kernel
theorem dX12_place_41 : decode cX12_place 41 = .ok (.goto 12, 3) := by decide +kernel
theorem dX12_place_44 : decode cX12_place 44 = .ok (.aload_n 0, 1) := by decide +kernel
theorem dX12_place_45 : decode cX12_place 45 = .ok (.getfield 31, 3) := by decide +kernel
theorem dX12_place_48 : decode cX12_place 48 = .ok (.aload_n 0, 1) := by decide +kernel
theorem dX12_place_49 : decode cX12_place 49 = .ok (.getfield 314, 3) := by decide +kernel
theorem dX12_place_52 : decode cX12_place 52 = .ok (.iaload, 1) := by decide +kernel
theorem dX12_place_53 : decode cX12_place 53 = .ok (.invokevirtual 346, 3) := by decide +kernel
theorem dX12_place_56 : decode cX12_place 56 = .ok (.iastore, 1) := by decide +kernel
theorem dX12_place_57 : decode cX12_place 57 = .ok (.aload_n 0, 1) := by decide +kernel
theorem dX12_place_58 : decode cX12_place 58 = .ok (.getfield 58, 3) := by decide +kernel
theorem dX12_place_61 : decode cX12_place 61 = .ok (.aload_n 0, 1) := by decide +kernel
theorem dX12_place_62 : decode cX12_place 62 = .ok (.getfield 61, 3) := by decide +kernel
theorem dX12_place_65 : decode cX12_place 65 = .ok (.iload_n 3, 1) := by decide +kernel
theorem dX12_place_66 : decode cX12_place 66 = .ok (.iaload, 1) := by decide +kernel
theorem dX12_place_67 : decode cX12_place 67 = .ok (.aload_n 0, 1) := by decide +kernel
theorem dX12_place_68 : decode cX12_place 68 = .ok (.iconst 4, 1) := by decide +kernel
theorem dX12_place_69 : decode cX12_place 69 = .ok (.invokevirtual 349, 3) := by decide +kernel
theorem dX12_place_72 : decode cX12_place 72 = .ok (.iastore, 1) := by decide +kernel
theorem dX12_place_73 : decode cX12_place 73 = .ok (.aload_n 0, 1) := by decide +kernel
theorem dX12_place_74 : decode cX12_place 74 = .ok (.bipush 123, 2) := by decide +kernel
theorem dX12_place_76 : decode cX12_place 76 = .ok (.invokevirtual 368, 3) := by decide +kernel
theorem dX12_place_79 : decode cX12_place 79 = .ok (.iconst (-1), 1) := by decide +kernel
theorem dX12_place_80 : decode cX12_place 80 = .ok (.istore 4, 2) := by decide +kernel
theorem dX12_place_82 : decode cX12_place 82 = .ok (.aload_n 0, 1) := by decide +kernel
theorem dX12_place_83 : decode cX12_place 83 = .ok (.getfield 304, 3) := by decide +kernel
theorem dX12_place_86 : decode cX12_place 86 = .ok (.ifCond .ne 51, 3) := by decide +kernel
theorem dX12_place_89 : decode cX12_place 89 = .ok (.aload_n 0, 1) := by decide +kernel
theorem dX12_place_90 : decode cX12_place 90 = .ok (.bipush 125, 2) := by decide +kernel
theorem dX12_place_92 : decode cX12_place 92 = .ok (.invokevirtual 321, 3) := by decide +kernel
theorem dX12_place_95 : decode cX12_place 95 = .ok (.ifCond .ne 42, 3) := by decide +kernel
theorem dX12_place_98 : decode cX12_place 98 = .ok (.aload_n 0, 1) := by decide +kernel
theorem dX12_place_99 : decode cX12_place 99 = .ok (.iload_n 1, 1) := by decide +kernel
theorem dX12_place_100 : decode cX12_place 100 = .ok (.invokevirtual 389, 3) := by decide +kernel
theorem dX12_place_103 : decode cX12_place 103 = .ok (.istore 5, 2) := by decide +kernel
theorem dX12_place_105 : decode cX12_place 105 = .ok (.iload 4, 2) := by decide +kernel
theorem dX12_place_107 : decode cX12_place 107 = .ok (.ifCond .ge 14, 3) := by decide +kernel
theorem dX12_place_110 : decode cX12_place 110 = .ok (.aload_n 0, 1) := by decide +kernel
theorem dX12_place_111 : decode cX12_place 111 = .ok (.getfield 58, 3) := by decide +kernel
theorem dX12_place_114 : decode cX12_place 114 = .ok (.iload_n 3, 1) := by decide +kernel
theorem dX12_place_115 : decode cX12_place 115 = .ok (.iload 5, 2) := by decide +kernel
theorem dX12_place_117 : decode cX12_place 117 = .ok (.iastore, 1) := by decide +kernel
theorem dX12_place_118 : decode cX12_place 118 = .ok (.goto 12, 3) := by decide +kernel
theorem dX12_place_121 : decode cX12_place 121 = .ok (.aload_n 0, 1) := by decide +kernel
theorem dX12_place_122 : decode cX12_place 122 = .ok (.getfield 64, 3) := by decide +kernel
theorem dX12_place_125 : decode cX12_place 125 = .ok (.iload 4, 2) := by decide +kernel
theorem dX12_place_127 : decode cX12_place 127 = .ok (.iload 5, 2) := by decide +kernel
theorem dX12_place_129 : decode cX12_place 129 = .ok (.iastore, 1) := by decide +kernel
theorem dX12_place_130 : decode cX12_place 130 = .ok (.iload 5, 2) := by decide +kernel
theorem dX12_place_132 : decode cX12_place 132 = .ok (.istore 4, 2) := by decide +kernel
theorem dX12_place_134 : decode cX12_place 134 = .ok (.goto (-52), 3) := by decide +kernel
theorem dX12_place_137 : decode cX12_place 137 = .ok (.aload_n 0, 1) := by decide +kernel
theorem dX12_place_138 : decode cX12_place 138 = .ok (.bipush 125, 2) := by decide +kernel
theorem dX12_place_140 : decode cX12_place 140 = .ok (.invokevirtual 371, 3) := by decide +kernel
theorem dX12_place_143 : decode cX12_place 143 = .ok (.iload_n 3, 1) := by decide +kernel
theorem dX12_place_144 : decode cX12_place 144 = .ok (.ireturn, 1) := by decide +kernel
def F_X12_place (p0 : Int32) (p1 : Int32) (σ : MS) : MR :=
  bnd (fun (t_1 : Int32) (σ_2 : MS) => (
    (F_X12_node t_1 p1 σ_2).bind fun u_6 =>
    (F_X12_name u_6.2).bind fun u_8 =>
    if u_6.1 < 0 ∨ 40000 ≤ u_6.1.toNatClampNeg then none else
    bnd (mA u_8.2 19 (upd (u_8.2.2 19) u_6.1.toNatClampNeg u_8.1)) fun σ_12 =>
    bnd (fun (t_14 : Int32) (σ_15 : MS) => (
      (F_X12_node 35 t_14 σ_15).bind fun u_19 =>
      if u_6.1 < 0 ∨ 40000 ≤ u_6.1.toNatClampNeg then none else
      bnd (mA u_19.2 21 (upd (u_19.2.2 21) u_6.1.toNatClampNeg u_19.1)) fun σ_23 =>
      if u_6.1 < 0 ∨ 40000 ≤ u_6.1.toNatClampNeg then none else
      (F_X12_needKind 4 σ_23).bind fun u_27 =>
      if (σ_23.2 21 u_6.1.toNatClampNeg) < 0 ∨ 40000 ≤ (σ_23.2 21 u_6.1.toNatClampNeg).toNatClampNeg then none else
      bnd (mA u_27.2 20 (upd (u_27.2.2 20) (σ_23.2 21 u_6.1.toNatClampNeg).toNatClampNeg u_27.1)) fun σ_31 =>
      (F_X12_open 123 σ_31).bind fun u_33 =>
      loopF (fun (again_36 : (Int32 × MS) → MR) (s_35 : Int32 × MS) => (
        bnd (fun  (σ_39 : MS) => (
          (F_X12_shut 125 σ_39).bind fun u_43 =>
          some (u_6.1, u_43.2)
        ) : MS → MR) fun j_40 =>
        if (s_35.2.1 27) = 0 then (
          (F_X12_isSign 125 s_35.2).bind fun u_47 =>
          if u_47.1 = 0 then (
            (F_X12_part p0 u_47.2).bind fun u_51 =>
            bnd (fun  (σ_53 : MS) => (
              again_36 (u_51.1, σ_53)
            ) : MS → MR) fun j_54 =>
            if 0 ≤ s_35.1 then (
              if s_35.1 < 0 ∨ 40000 ≤ s_35.1.toNatClampNeg then none else
              bnd (mA u_51.2 22 (upd (u_51.2.2 22) s_35.1.toNatClampNeg u_51.1)) fun σ_61 =>
              j_54  σ_61
            ) else (
              if u_6.1 < 0 ∨ 40000 ≤ u_6.1.toNatClampNeg then none else
              bnd (mA u_51.2 20 (upd (u_51.2.2 20) u_6.1.toNatClampNeg u_51.1)) fun σ_66 =>
              j_54  σ_66
            )
          ) else (
            j_40  u_47.2
          )
        ) else (
          j_40  s_35.2
        )
      )) FU ((-1), u_33.2)
    ) : Int32 → MS → MR) fun j_16 =>
    if (σ_12.1 27) = 0 then (
      bnd ((σ_12.1 25)) fun (x_72 : Int32) =>
      if x_72 < 0 ∨ 16010 ≤ x_72.toNatClampNeg then none else
      j_16 (σ_12.2 8 x_72.toNatClampNeg) σ_12
    ) else (
      j_16 0 σ_12
    )
  ) : Int32 → MS → MR) fun j_3 =>
  if p0 = 0 then (
    j_3 1 σ
  ) else (
    j_3 2 σ
  )
set_option maxHeartbeats 4000000 in
set_option maxRecDepth 100000 in
theorem m_X12_place (l : Launch) (dC : Nat → ClassId) (dI : Nat → Nat → Nat) (cB cC cI cJ cZ cP : ClassId) (h qK qS : Nat) (ad : Nat → Nat) (hDD : mDis cB cI cZ h qK qS ad) (sz : Nat)  (p0 : Int32) (p1 : Int32) (σ : MS) (res : Int32 × MS) (hF : F_X12_place p0 p1 σ = some res) : Met l yX12_place (g_ws yX12_place cX12_place 6 (some .int)) ({ frames := 7, cells := 0, slots := 0, locals := 170 }) (va_Pc [.ref h, .int p0, .int p1] (m_B (dC, dI) [(cB, .byte), (cC, .char), (cI, .int), (cJ, .long), (cZ, .boolean), (cP, .object "StoryHouse$Play")] sz h ad qK qS (mW cB cI cZ h qK qS ad σ) g_0)) (va_Qi (fun r (_ : Unit) => r = res.1) (fun _ t => va_P (dC, dI) vwCl (mW cB cI cZ h qK qS ad res.2) t.heap) (mCells h ad sz)) 0 0 (mCells h ad sz) := by
  refine Met.ofW (cc := cX12_place) (maxL := 6) (ret := (some .int)) (by decide) rfl ?_
  intro p e s m args below meth c s₁ B hml hv
  obtain ⟨rfl, hsz, hP, hK, hE, hKS, hX⟩ := hv
  have hx := B.exec
  have hb := B.bytes
  have hr := B.returns
  have hts0 := atoms_spec (ws := g_ws yX12_place cX12_place 6 (some .int)) B.pre
  have hts : ∀ w ∈ lw_good, w.before ([.ref h, .int p0, .int p1] : List Value).toArray s = true := fun w z => hts0 w (List.mem_cons_of_mem _ z)
  have hown : s.vm.findClass RX12 = some m.cls := findClass_of_methodNamed B.named
  have hlocks := B.notSynchronized
  have hS : va_S (mCells h ad sz) s.heap s.heap [] := va_S.rf
  have hl := lv_entry ([.ref h, .int p0, .int p1]) (n := 6) (Nat.le_of_ble_eq_true rfl)
  rw [lg_entry_eq]
  generalize (lg_sl ([.ref h, .int p0, .int p1]) ++ List.replicate (6 - (lg_sl ([.ref h, .int p0, .int p1])).length) Slot.unset).toArray = ls at hl ⊢
  have hl : lv_has ls 6 [(0, .ref h), (1, .int p0), (2, .int p1)] := hl
  unfold F_X12_place at hF
  refine lv_aload_n hx hb dX12_place_0 rfl (lv_at hl 0 rfl) ?_
  refine lv_iload_n hx hb dX12_place_1 rfl (lv_at hl 1 rfl) ?_
  obtain ⟨j_3, ej_3, hF_4⟩ := bnd_e hF
  clear hF
  have Jj_3 : ∀ (t_1 : Int32) (σ_2 : MS), j_3 t_1 σ_2 = some res → ∀ (H : Heap) (locs : List Loc), va_P (dC, dI) vwCl (mW cB cI cZ h qK qS ad σ_2) H → va_S (mCells h ad sz) s.heap H locs → ∀ ls : Array Slot, lv_has ls 6 [(0, .ref h), (1, .int p0), (2, .int p1)] → W p l e (headSpec (g_ws yX12_place cX12_place 6 (some .int)) { frames := 7, cells := 0, slots := 0, locals := 170 }).room s m ([.ref h, .int p0, .int p1] : List Value).toArray below meth c H locs 0 0 (MQ below (va_Qi (fun r (_ : Unit) => r = res.1) (fun _ t => va_P (dC, dI) vwCl (mW cB cI cZ h qK qS ad res.2) t.heap) (mCells h ad sz)) ([.ref h, .int p0, .int p1] : List Value).toArray s 0 0 (mCells h ad sz)) (F0 m 10 ls [.int t_1, .ref h]) := by
    intro t_1 σ_2 hF0 H locs hP hS ls hl
    subst ej_3
    have hF_5 := hF0
    clear hF0
    refine lv_iload_n hx hb dX12_place_10 rfl (lv_at hl 2 rfl) ?_
    obtain ⟨u_6, hu_6, hF_7⟩ := Option.bind_eq_some_iff.mp hF_5
    clear hF_5
    refine m_ci hsz hS (va_runV (As := [.int t_1, .int p1]) (rest := []) ⟨hx, hb, hml, hown, hts⟩ (m_X12_node l dC dI cB cC cI cJ cZ cP h qK qS ad hDD H.size  t_1 p1 σ_2 _ hu_6) (cwV 2 hts (g_gV wq_1540 wq_1541 wq_2126 wq_13 wq_1542) rfl rfl rfl (by decide +kernel) ⟨Nat.le_of_ble_eq_true rfl, Nat.le_of_ble_eq_true rfl⟩) (m_preV g_bl0 hsz hK hP hS hE hKS g_to0) rfl rfl hl.1 rfl (lv_room (Nat.le_of_ble_eq_true rfl)) dX12_place_11 ⟨Nat.le_of_ble_eq_true rfl, Nat.le_of_ble_eq_true rfl⟩) (fun H locs hP hS => ?_)
    refine lv_istore_n (lv' := [(3, .int u_6.1), (0, .ref h), (1, .int p0), (2, .int p1)]) hx hb dX12_place_14 rfl hl (by decide) rfl (fun ls hl => ?_)
    refine lv_aload_n hx hb dX12_place_15 rfl (lv_at hl 1 rfl) ?_
    refine va_get (D := (dC, dI)) (ci := 12) (v := .ref (ad 19)) (C := RX12) (T := TX12) (N := 123) hx hb hts ii_X12 hown hK hP 0 rfl rfl 19 (by decide) (hts (.fieldLink RX12 55 "StoryHouseModel" "a" "[I") wq_1375) (fun _ h9 => h9) rfl dX12_place_16 ?_
    refine lv_iload_n hx hb dX12_place_19 rfl (lv_at hl 0 rfl) ?_
    refine lv_aload_n hx hb dX12_place_20 rfl (lv_at hl 1 rfl) ?_
    obtain ⟨u_8, hu_8, hF_9⟩ := Option.bind_eq_some_iff.mp hF_7
    clear hF_7
    refine m_ci hsz hS (va_runV (As := []) (rest := [.int u_6.1, .ref (ad 19)]) ⟨hx, hb, hml, hown, hts⟩ (m_X12_name l dC dI cB cC cI cJ cZ cP h qK qS ad hDD H.size  u_6.2 _ hu_8) (cwV 0 hts (g_gV wq_1543 wq_1544 wq_2127 wq_13 wq_1545) rfl rfl rfl (by decide +kernel) ⟨Nat.le_of_ble_eq_true rfl, Nat.le_of_ble_eq_true rfl⟩) (m_preV g_bl0 hsz hK hP hS hE hKS g_to0) rfl rfl hl.1 rfl (lv_room (Nat.le_of_ble_eq_true rfl)) dX12_place_21 ⟨Nat.le_of_ble_eq_true rfl, Nat.le_of_ble_eq_true rfl⟩) (fun H locs hP hS => ?_)
    obtain ⟨g_10, hF_11⟩ := nif_e hF_9
    clear hF_9
    obtain ⟨σ_12, eσ_12, hF_13⟩ := bnd_e hF_11
    clear hF_11
    refine m_iast (σ' := σ_12) hx hb hK hP (hDD _ _) hS (q0 := 10) (t0 := 2) (f := u_8.2.2 19) rfl rfl (by rw [eσ_12]; exact mwA_19) g_10 dX12_place_24 (fun H locs hP hS => ?_)
    refine lv_aload_n hx hb dX12_place_25 rfl (lv_at hl 1 rfl) ?_
    refine va_get (D := (dC, dI)) (ci := 12) (v := .ref (ad 21)) (C := RX12) (T := TX12) (N := 123) hx hb hts ii_X12 hown hK hP 0 rfl rfl 21 (by decide) (hts (.fieldLink RX12 61 "StoryHouseModel" "d" "[I") wq_1377) (fun _ h9 => h9) rfl dX12_place_26 ?_
    refine lv_iload_n hx hb dX12_place_29 rfl (lv_at hl 0 rfl) ?_
    refine lv_aload_n hx hb dX12_place_30 rfl (lv_at hl 1 rfl) ?_
    refine lv_bipush (v := 35) hx hb dX12_place_31 (by decide +kernel) ?_
    refine lv_aload_n hx hb dX12_place_33 rfl (lv_at hl 1 rfl) ?_
    refine va_get (D := (dC, dI)) (ci := 12) (v := .int (σ_12.1 27)) (C := RX12) (T := TX12) (N := 123) hx hb hts ii_X12 hown hK hP 0 rfl rfl 27 (by decide) (hts (.fieldLink RX12 304 "StoryHouseModel" "stopped" "Z") wq_1383) (fun _ h9 => h9) rfl dX12_place_34 ?_
    obtain ⟨j_16, ej_16, hF_17⟩ := bnd_e hF_13
    clear hF_13
    have Jj_16 : ∀ (t_14 : Int32) (σ_15 : MS), j_16 t_14 σ_15 = some res → ∀ (H : Heap) (locs : List Loc), va_P (dC, dI) vwCl (mW cB cI cZ h qK qS ad σ_15) H → va_S (mCells h ad sz) s.heap H locs → ∀ ls : Array Slot, lv_has ls 6 [(0, .ref h), (1, .int p0), (3, .int u_6.1)] → W p l e (headSpec (g_ws yX12_place cX12_place 6 (some .int)) { frames := 7, cells := 0, slots := 0, locals := 170 }).room s m ([.ref h, .int p0, .int p1] : List Value).toArray below meth c H locs 0 0 (MQ below (va_Qi (fun r (_ : Unit) => r = res.1) (fun _ t => va_P (dC, dI) vwCl (mW cB cI cZ h qK qS ad res.2) t.heap) (mCells h ad sz)) ([.ref h, .int p0, .int p1] : List Value).toArray s 0 0 (mCells h ad sz)) (F0 m 53 ls [.int t_14, .int 35, .ref h, .int u_6.1, .ref (ad 21)]) := by
      intro t_14 σ_15 hF0 H locs hP hS ls hl
      subst ej_16
      have hF_18 := hF0
      clear hF0
      obtain ⟨u_19, hu_19, hF_20⟩ := Option.bind_eq_some_iff.mp hF_18
      clear hF_18
      refine m_ci hsz hS (va_runV (As := [.int 35, .int t_14]) (rest := [.int u_6.1, .ref (ad 21)]) ⟨hx, hb, hml, hown, hts⟩ (m_X12_node l dC dI cB cC cI cJ cZ cP h qK qS ad hDD H.size  35 t_14 σ_15 _ hu_19) (cwV 2 hts (g_gV wq_1540 wq_1541 wq_2126 wq_13 wq_1542) rfl rfl rfl (by decide +kernel) ⟨Nat.le_of_ble_eq_true rfl, Nat.le_of_ble_eq_true rfl⟩) (m_preV g_bl0 hsz hK hP hS hE hKS g_to0) rfl rfl hl.1 rfl (lv_room (Nat.le_of_ble_eq_true rfl)) dX12_place_53 ⟨Nat.le_of_ble_eq_true rfl, Nat.le_of_ble_eq_true rfl⟩) (fun H locs hP hS => ?_)
      obtain ⟨g_21, hF_22⟩ := nif_e hF_20
      clear hF_20
      obtain ⟨σ_23, eσ_23, hF_24⟩ := bnd_e hF_22
      clear hF_22
      refine m_iast (σ' := σ_23) hx hb hK hP (hDD _ _) hS (q0 := 12) (t0 := 2) (f := u_19.2.2 21) rfl rfl (by rw [eσ_23]; exact mwA_21) g_21 dX12_place_56 (fun H locs hP hS => ?_)
      refine lv_aload_n hx hb dX12_place_57 rfl (lv_at hl 0 rfl) ?_
      refine va_get (D := (dC, dI)) (ci := 12) (v := .ref (ad 20)) (C := RX12) (T := TX12) (N := 123) hx hb hts ii_X12 hown hK hP 0 rfl rfl 20 (by decide) (hts (.fieldLink RX12 58 "StoryHouseModel" "b" "[I") wq_1376) (fun _ h9 => h9) rfl dX12_place_58 ?_
      refine lv_aload_n hx hb dX12_place_61 rfl (lv_at hl 0 rfl) ?_
      refine va_get (D := (dC, dI)) (ci := 12) (v := .ref (ad 21)) (C := RX12) (T := TX12) (N := 123) hx hb hts ii_X12 hown hK hP 0 rfl rfl 21 (by decide) (hts (.fieldLink RX12 61 "StoryHouseModel" "d" "[I") wq_1377) (fun _ h9 => h9) rfl dX12_place_62 ?_
      refine lv_iload_n hx hb dX12_place_65 rfl (lv_at hl 2 rfl) ?_
      obtain ⟨g_25, hF_26⟩ := nif_e hF_24
      clear hF_24
      refine va_iald (f := σ_23.2 21) hx hb hK hP 12 2 rfl rfl g_25 dX12_place_66 ?_
      refine lv_aload_n hx hb dX12_place_67 rfl (lv_at hl 0 rfl) ?_
      refine lv_iconst (v := 4) hx hb dX12_place_68 (by decide +kernel) ?_
      obtain ⟨u_27, hu_27, hF_28⟩ := Option.bind_eq_some_iff.mp hF_26
      clear hF_26
      refine m_ci hsz hS (va_runV (As := [.int 4]) (rest := [.int (σ_23.2 21 u_6.1.toNatClampNeg), .ref (ad 20)]) ⟨hx, hb, hml, hown, hts⟩ (m_X12_needKind l dC dI cB cC cI cJ cZ cP h qK qS ad hDD H.size  4 σ_23 _ hu_27) (cwV 1 hts (g_gV wq_1546 wq_1547 wq_2128 wq_13 wq_1548) rfl rfl rfl (by decide +kernel) ⟨Nat.le_of_ble_eq_true rfl, Nat.le_of_ble_eq_true rfl⟩) (m_preV g_bl0 hsz hK hP hS hE hKS g_to0) rfl rfl hl.1 rfl (lv_room (Nat.le_of_ble_eq_true rfl)) dX12_place_69 ⟨Nat.le_of_ble_eq_true rfl, Nat.le_of_ble_eq_true rfl⟩) (fun H locs hP hS => ?_)
      obtain ⟨g_29, hF_30⟩ := nif_e hF_28
      clear hF_28
      obtain ⟨σ_31, eσ_31, hF_32⟩ := bnd_e hF_30
      clear hF_30
      refine m_iast (σ' := σ_31) hx hb hK hP (hDD _ _) hS (q0 := 11) (t0 := 2) (f := u_27.2.2 20) rfl rfl (by rw [eσ_31]; exact mwA_20) g_29 dX12_place_72 (fun H locs hP hS => ?_)
      refine lv_aload_n hx hb dX12_place_73 rfl (lv_at hl 0 rfl) ?_
      refine lv_bipush (v := 123) hx hb dX12_place_74 (by decide +kernel) ?_
      obtain ⟨u_33, hu_33, hF_34⟩ := Option.bind_eq_some_iff.mp hF_32
      clear hF_32
      refine m_cv hsz hS (va_runV (As := [.int 123]) (rest := []) ⟨hx, hb, hml, hown, hts⟩ (m_X12_open l dC dI cB cC cI cJ cZ cP h qK qS ad hDD H.size  123 σ_31 _ hu_33) (cwV 1 hts (g_gV wq_1555 wq_1556 wq_2131 wq_13 wq_1557) rfl rfl rfl (by decide +kernel) ⟨Nat.le_of_ble_eq_true rfl, Nat.le_of_ble_eq_true rfl⟩) (m_preV g_bl0 hsz hK hP hS hE hKS g_to0) rfl rfl hl.1 rfl (lv_room (Nat.le_of_ble_eq_true rfl)) dX12_place_76 ⟨Nat.le_of_ble_eq_true rfl, Nat.le_of_ble_eq_true rfl⟩) (fun H locs hP hS => ?_)
      refine lv_iconst (v := (-1)) hx hb dX12_place_79 (by decide +kernel) ?_
      refine lv_istore (lv' := [(4, .int (-1)), (0, .ref h), (1, .int p0), (3, .int u_6.1)]) hx hb dX12_place_80 hl (by decide) rfl (fun ls hl => ?_)
      refine loopF_ind (P := fun (s_35 : Int32 × MS) => ∀ (H : Heap) (locs : List Loc), va_P (dC, dI) vwCl (mW cB cI cZ h qK qS ad s_35.2) H → va_S (mCells h ad sz) s.heap H locs → ∀ ls : Array Slot, lv_has ls 6 [(0, .ref h), (1, .int p0), (3, .int u_6.1), (4, .int s_35.1)] → W p l e (headSpec (g_ws yX12_place cX12_place 6 (some .int)) { frames := 7, cells := 0, slots := 0, locals := 170 }).room s m ([.ref h, .int p0, .int p1] : List Value).toArray below meth c H locs 0 0 (MQ below (va_Qi (fun r (_ : Unit) => r = res.1) (fun _ t => va_P (dC, dI) vwCl (mW cB cI cZ h qK qS ad res.2) t.heap) (mCells h ad sz)) ([.ref h, .int p0, .int p1] : List Value).toArray s 0 0 (mCells h ad sz)) (F0 m 82 ls [])) ?_ _ _ hF_34 _ _ hP hS ls (lv_sub hl [1, 2, 3, 0] rfl)
      intro again_36 s_35 ih_37 hF_38
      intro H locs hP hS ls hl
      refine lv_aload_n hx hb dX12_place_82 rfl (lv_at hl 0 rfl) ?_
      refine va_get (D := (dC, dI)) (ci := 12) (v := .int (s_35.2.1 27)) (C := RX12) (T := TX12) (N := 123) hx hb hts ii_X12 hown hK hP 0 rfl rfl 27 (by decide) (hts (.fieldLink RX12 304 "StoryHouseModel" "stopped" "Z") wq_1383) (fun _ h9 => h9) rfl dX12_place_83 ?_
      obtain ⟨j_40, ej_40, hF_41⟩ := bnd_e hF_38
      clear hF_38
      have Jj_40 : ∀  (σ_39 : MS), j_40  σ_39 = some res → ∀ (H : Heap) (locs : List Loc), va_P (dC, dI) vwCl (mW cB cI cZ h qK qS ad σ_39) H → va_S (mCells h ad sz) s.heap H locs → ∀ ls : Array Slot, lv_has ls 6 [(0, .ref h), (3, .int u_6.1)] → W p l e (headSpec (g_ws yX12_place cX12_place 6 (some .int)) { frames := 7, cells := 0, slots := 0, locals := 170 }).room s m ([.ref h, .int p0, .int p1] : List Value).toArray below meth c H locs 0 0 (MQ below (va_Qi (fun r (_ : Unit) => r = res.1) (fun _ t => va_P (dC, dI) vwCl (mW cB cI cZ h qK qS ad res.2) t.heap) (mCells h ad sz)) ([.ref h, .int p0, .int p1] : List Value).toArray s 0 0 (mCells h ad sz)) (F0 m 137 ls []) := by
        intro  σ_39 hF0 H locs hP hS ls hl
        subst ej_40
        have hF_42 := hF0
        clear hF0
        refine lv_aload_n hx hb dX12_place_137 rfl (lv_at hl 0 rfl) ?_
        refine lv_bipush (v := 125) hx hb dX12_place_138 (by decide +kernel) ?_
        obtain ⟨u_43, hu_43, hF_44⟩ := Option.bind_eq_some_iff.mp hF_42
        clear hF_42
        refine m_cv hsz hS (va_runV (As := [.int 125]) (rest := []) ⟨hx, hb, hml, hown, hts⟩ (m_X12_shut l dC dI cB cC cI cJ cZ cP h qK qS ad hDD H.size  125 σ_39 _ hu_43) (cwV 1 hts (g_gV wq_1582 wq_1583 wq_2140 wq_13 wq_1584) rfl rfl rfl (by decide +kernel) ⟨Nat.le_of_ble_eq_true rfl, Nat.le_of_ble_eq_true rfl⟩) (m_preV g_bl0 hsz hK hP hS hE hKS g_to0) rfl rfl hl.1 rfl (lv_room (Nat.le_of_ble_eq_true rfl)) dX12_place_140 ⟨Nat.le_of_ble_eq_true rfl, Nat.le_of_ble_eq_true rfl⟩) (fun H locs hP hS => ?_)
        refine lv_iload_n hx hb dX12_place_143 rfl (lv_at hl 1 rfl) ?_
        have h9 := Option.some.inj hF_44
        subst h9
        exact W.iret (v := u_6.1) hx hb hr (fun t ht hW => ⟨⟨u_6.1, (), rfl, rfl, m_end ht hP⟩, hS.F ht⟩) hS.2.2 dX12_place_144
      refine lv_if_ne (tgt := 137) hx hb dX12_place_86 (by decide) (fun c_45 => ?_) (fun c_45 => ?_)
      · have hF_69 := ineg c_45 hF_41
        clear hF_41
        exact Jj_40  s_35.2 hF_69 _ _ hP hS ls (lv_sub hl [0, 2] rfl)
      · have hF_46 := ipos c_45 hF_41
        clear hF_41
        refine lv_aload_n hx hb dX12_place_89 rfl (lv_at hl 0 rfl) ?_
        refine lv_bipush (v := 125) hx hb dX12_place_90 (by decide +kernel) ?_
        obtain ⟨u_47, hu_47, hF_48⟩ := Option.bind_eq_some_iff.mp hF_46
        clear hF_46
        refine m_ci hsz hS (va_runV (As := [.int 125]) (rest := []) ⟨hx, hb, hml, hown, hts⟩ (m_X12_isSign l dC dI cB cC cI cJ cZ cP h qK qS ad hDD H.size  125 s_35.2 _ hu_47) (cwV 1 hts (g_gV wq_1558 wq_1559 wq_2132 wq_13 wq_1560) rfl rfl rfl (by decide +kernel) ⟨Nat.le_of_ble_eq_true rfl, Nat.le_of_ble_eq_true rfl⟩) (m_preV g_bl0 hsz hK hP hS hE hKS g_to0) rfl rfl hl.1 rfl (lv_room (Nat.le_of_ble_eq_true rfl)) dX12_place_92 ⟨Nat.le_of_ble_eq_true rfl, Nat.le_of_ble_eq_true rfl⟩) (fun H locs hP hS => ?_)
        refine lv_if_ne (tgt := 137) hx hb dX12_place_95 (by decide) (fun c_49 => ?_) (fun c_49 => ?_)
        · have hF_68 := ineg c_49 hF_48
          clear hF_48
          exact Jj_40  u_47.2 hF_68 _ _ hP hS ls (lv_sub hl [0, 2] rfl)
        · have hF_50 := ipos c_49 hF_48
          clear hF_48
          refine lv_aload_n hx hb dX12_place_98 rfl (lv_at hl 0 rfl) ?_
          refine lv_iload_n hx hb dX12_place_99 rfl (lv_at hl 1 rfl) ?_
          obtain ⟨u_51, hu_51, hF_52⟩ := Option.bind_eq_some_iff.mp hF_50
          clear hF_50
          refine m_ci hsz hS (va_runV (As := [.int p0]) (rest := []) ⟨hx, hb, hml, hown, hts⟩ (m_X12_part l dC dI cB cC cI cJ cZ cP h qK qS ad hDD H.size  p0 u_47.2 _ hu_51) (cwV 1 hts (g_gV wq_1570 wq_1571 wq_2136 wq_13 wq_1572) rfl rfl rfl (by decide +kernel) ⟨Nat.le_of_ble_eq_true rfl, Nat.le_of_ble_eq_true rfl⟩) (m_preV g_bl0 hsz hK hP hS hE hKS g_to0) rfl rfl hl.1 rfl (lv_room (Nat.le_of_ble_eq_true rfl)) dX12_place_100 ⟨Nat.le_of_ble_eq_true rfl, Nat.le_of_ble_eq_true rfl⟩) (fun H locs hP hS => ?_)
          refine lv_istore (lv' := [(5, .int u_51.1), (0, .ref h), (1, .int p0), (3, .int u_6.1), (4, .int s_35.1)]) hx hb dX12_place_103 hl (by decide) rfl (fun ls hl => ?_)
          refine lv_iload hx hb dX12_place_105 (lv_at hl 4 rfl) ?_
          obtain ⟨j_54, ej_54, hF_55⟩ := bnd_e hF_52
          clear hF_52
          have Jj_54 : ∀  (σ_53 : MS), j_54  σ_53 = some res → ∀ (H : Heap) (locs : List Loc), va_P (dC, dI) vwCl (mW cB cI cZ h qK qS ad σ_53) H → va_S (mCells h ad sz) s.heap H locs → ∀ ls : Array Slot, lv_has ls 6 [(0, .ref h), (1, .int p0), (3, .int u_6.1), (5, .int u_51.1)] → W p l e (headSpec (g_ws yX12_place cX12_place 6 (some .int)) { frames := 7, cells := 0, slots := 0, locals := 170 }).room s m ([.ref h, .int p0, .int p1] : List Value).toArray below meth c H locs 0 0 (MQ below (va_Qi (fun r (_ : Unit) => r = res.1) (fun _ t => va_P (dC, dI) vwCl (mW cB cI cZ h qK qS ad res.2) t.heap) (mCells h ad sz)) ([.ref h, .int p0, .int p1] : List Value).toArray s 0 0 (mCells h ad sz)) (F0 m 130 ls []) := by
            intro  σ_53 hF0 H locs hP hS ls hl
            subst ej_54
            have hF_56 := hF0
            clear hF0
            refine lv_iload hx hb dX12_place_130 (lv_at hl 3 rfl) ?_
            refine lv_istore (lv' := [(4, .int u_51.1), (0, .ref h), (1, .int p0), (3, .int u_6.1), (5, .int u_51.1)]) hx hb dX12_place_132 hl (by decide) rfl (fun ls hl => ?_)
            refine lv_goto (tgt := 82) hx hb dX12_place_134 (by decide) ?_
            exact ih_37 (u_51.1, σ_53) hF_56 _ _ hP hS ls (lv_sub hl [1, 2, 3, 0] rfl)
          refine lv_if_ge (tgt := 121) hx hb dX12_place_107 (by decide) (fun c_57 => ?_) (fun c_57 => ?_)
          · have hF_58 := ipos c_57 hF_55
            clear hF_55
            refine lv_aload_n hx hb dX12_place_121 rfl (lv_at hl 1 rfl) ?_
            refine va_get (D := (dC, dI)) (ci := 12) (v := .ref (ad 22)) (C := RX12) (T := TX12) (N := 123) hx hb hts ii_X12 hown hK hP 0 rfl rfl 22 (by decide) (hts (.fieldLink RX12 64 "StoryHouseModel" "then" "[I") wq_1378) (fun _ h9 => h9) rfl dX12_place_122 ?_
            refine lv_iload hx hb dX12_place_125 (lv_at hl 4 rfl) ?_
            refine lv_iload hx hb dX12_place_127 (lv_at hl 0 rfl) ?_
            obtain ⟨g_59, hF_60⟩ := nif_e hF_58
            clear hF_58
            obtain ⟨σ_61, eσ_61, hF_62⟩ := bnd_e hF_60
            clear hF_60
            refine m_iast (σ' := σ_61) hx hb hK hP (hDD _ _) hS (q0 := 13) (t0 := 2) (f := u_51.2.2 22) rfl rfl (by rw [eσ_61]; exact mwA_22) g_59 dX12_place_129 (fun H locs hP hS => ?_)
            exact Jj_54  σ_61 hF_62 _ _ hP hS ls (lv_sub hl [1, 2, 3, 0] rfl)
          · have hF_63 := ineg c_57 hF_55
            clear hF_55
            refine lv_aload_n hx hb dX12_place_110 rfl (lv_at hl 1 rfl) ?_
            refine va_get (D := (dC, dI)) (ci := 12) (v := .ref (ad 20)) (C := RX12) (T := TX12) (N := 123) hx hb hts ii_X12 hown hK hP 0 rfl rfl 20 (by decide) (hts (.fieldLink RX12 58 "StoryHouseModel" "b" "[I") wq_1376) (fun _ h9 => h9) rfl dX12_place_111 ?_
            refine lv_iload_n hx hb dX12_place_114 rfl (lv_at hl 3 rfl) ?_
            refine lv_iload hx hb dX12_place_115 (lv_at hl 0 rfl) ?_
            obtain ⟨g_64, hF_65⟩ := nif_e hF_63
            clear hF_63
            obtain ⟨σ_66, eσ_66, hF_67⟩ := bnd_e hF_65
            clear hF_65
            refine m_iast (σ' := σ_66) hx hb hK hP (hDD _ _) hS (q0 := 11) (t0 := 2) (f := u_51.2.2 20) rfl rfl (by rw [eσ_66]; exact mwA_20) g_64 dX12_place_117 (fun H locs hP hS => ?_)
            refine lv_goto (tgt := 130) hx hb dX12_place_118 (by decide) ?_
            exact Jj_54  σ_66 hF_67 _ _ hP hS ls (lv_sub hl [1, 2, 3, 0] rfl)
    refine lv_if_eq (tgt := 44) hx hb dX12_place_37 (by decide) (fun c_70 => ?_) (fun c_70 => ?_)
    · have hF_71 := ipos c_70 hF_17
      clear hF_17
      refine lv_aload_n hx hb dX12_place_44 rfl (lv_at hl 1 rfl) ?_
      refine va_get (D := (dC, dI)) (ci := 12) (v := .ref (ad 8)) (C := RX12) (T := TX12) (N := 123) hx hb hts ii_X12 hown hK hP 0 rfl rfl 8 (by decide) (hts (.fieldLink RX12 31 "StoryHouseModel" "tokAt" "[I") wq_1364) (fun _ h9 => h9) rfl dX12_place_45 ?_
      refine lv_aload_n hx hb dX12_place_48 rfl (lv_at hl 1 rfl) ?_
      refine va_get (D := (dC, dI)) (ci := 12) (v := .int (σ_12.1 25)) (C := RX12) (T := TX12) (N := 123) hx hb hts ii_X12 hown hK hP 0 rfl rfl 25 (by decide) (hts (.fieldLink RX12 314 "StoryHouseModel" "at" "I") wq_1381) (fun _ h9 => h9) rfl dX12_place_49 ?_
      obtain ⟨x_72, ex_72, hF_73⟩ := bnd_e hF_71
      clear hF_71
      refine m_top ex_72 ?_
      obtain ⟨g_74, hF_75⟩ := nif_e hF_73
      clear hF_73
      refine va_iald (f := σ_12.2 8) hx hb hK hP 4 2 rfl rfl g_74 dX12_place_52 ?_
      exact Jj_16 (σ_12.2 8 x_72.toNatClampNeg) σ_12 hF_75 _ _ hP hS ls (lv_sub hl [1, 2, 0] rfl)
    · have hF_76 := ineg c_70 hF_17
      clear hF_17
      refine lv_iconst (v := 0) hx hb dX12_place_40 (by decide +kernel) ?_
      refine lv_goto (tgt := 53) hx hb dX12_place_41 (by decide) ?_
      exact Jj_16 0 σ_12 hF_76 _ _ hP hS ls (lv_sub hl [1, 2, 0] rfl)
  refine lv_if_eq (tgt := 9) hx hb dX12_place_2 (by decide) (fun c_77 => ?_) (fun c_77 => ?_)
  · have hF_78 := ipos c_77 hF_4
    clear hF_4
    refine lv_iconst (v := 1) hx hb dX12_place_9 (by decide +kernel) ?_
    exact Jj_3 1 σ hF_78 _ _ hP hS ls (lv_sub hl [0, 1, 2] rfl)
  · have hF_79 := ineg c_77 hF_4
    clear hF_4
    refine lv_iconst (v := 2) hx hb dX12_place_5 (by decide +kernel) ?_
    refine lv_goto (tgt := 10) hx hb dX12_place_6 (by decide) ?_
    exact Jj_3 2 σ hF_79 _ _ hP hS ls (lv_sub hl [0, 1, 2] rfl)
theorem dX12_verb_0 : decode cX12_verb 0 = .ok (.aload_n 0, 1) := by decide +kernel
theorem dX12_verb_1 : decode cX12_verb 1 = .ok (.iconst 3, 1) := by decide +kernel
theorem dX12_verb_2 : decode cX12_verb 2 = .ok (.iload_n 1, 1) := by decide +kernel
theorem dX12_verb_3 : decode cX12_verb 3 = .ok (.invokevirtual 346, 3) := by decide +kernel
theorem dX12_verb_6 : decode cX12_verb 6 = .ok (.istore_n 2, 1) := by decide +kernel
theorem dX12_verb_7 : decode cX12_verb 7 = .ok (.aload_n 0, 1) := by decide +kernel
theorem dX12_verb_8 : decode cX12_verb 8 = .ok (.getfield 55, 3) := by decide +kernel
theorem dX12_verb_11 : decode cX12_verb 11 = .ok (.iload_n 2, 1) := by decide +kernel
theorem dX12_verb_12 : decode cX12_verb 12 = .ok (.aload_n 0, 1) := by decide +kernel
theorem dX12_verb_13 : decode cX12_verb 13 = .ok (.invokevirtual 365, 3) := by decide +kernel
theorem dX12_verb_16 : decode cX12_verb 16 = .ok (.iastore, 1) := by decide +kernel
theorem dX12_verb_17 : decode cX12_verb 17 = .ok (.aload_n 0, 1) := by decide +kernel
theorem dX12_verb_18 : decode cX12_verb 18 = .ok (.getfield 58, 3) := by decide +kernel
theorem dX12_verb_21 : decode cX12_verb 21 = .ok (.iload_n 2, 1) := by decide +kernel
theorem dX12_verb_22 : decode cX12_verb 22 = .ok (.aload_n 0, 1) := by decide +kernel
theorem dX12_verb_23 : decode cX12_verb 23 = .ok (.invokevirtual 374, 3) := by decide +kernel
theorem dX12_verb_26 : decode cX12_verb 26 = .ok (.iastore, 1) := by decide +kernel
theorem dX12_verb_27 : decode cX12_verb 27 = .ok (.aload_n 0, 1) := by decide +kernel
theorem dX12_verb_28 : decode cX12_verb 28 = .ok (.getfield 61, 3) := by decide +kernel
theorem dX12_verb_31 : decode cX12_verb 31 = .ok (.iload_n 2, 1) := by decide +kernel
theorem dX12_verb_32 : decode cX12_verb 32 = .ok (.aload_n 0, 1) := by decide +kernel
theorem dX12_verb_33 : decode cX12_verb 33 = .ok (.bipush 14, 2) := by decide +kernel
theorem dX12_verb_35 : decode cX12_verb 35 = .ok (.iload_n 1, 1) := by decide +kernel
theorem dX12_verb_36 : decode cX12_verb 36 = .ok (.invokevirtual 346, 3) := by decide +kernel
theorem dX12_verb_39 : decode cX12_verb 39 = .ok (.iastore, 1) := by decide +kernel
theorem dX12_verb_40 : decode cX12_verb 40 = .ok (.aload_n 0, 1) := by decide +kernel
theorem dX12_verb_41 : decode cX12_verb 41 = .ok (.iconst 0, 1) := by decide +kernel
theorem dX12_verb_42 : decode cX12_verb 42 = .ok (.invokevirtual 333, 3) := by decide +kernel
theorem dX12_verb_45 : decode cX12_verb 45 = .ok (.ifCond .eq 18, 3) := by decide +kernel
theorem dX12_verb_48 : decode cX12_verb 48 = .ok (.aload_n 0, 1) := by decide +kernel
theorem dX12_verb_49 : decode cX12_verb 49 = .ok (.getfield 55, 3) := by decide +kernel
theorem dX12_verb_52 : decode cX12_verb 52 = .ok (.aload_n 0, 1) := by decide +kernel
theorem dX12_verb_53 : decode cX12_verb 53 = .ok (.getfield 61, 3) := by decide +kernel
theorem dX12_verb_56 : decode cX12_verb 56 = .ok (.iload_n 2, 1) := by decide +kernel
theorem dX12_verb_57 : decode cX12_verb 57 = .ok (.iaload, 1) := by decide +kernel
theorem dX12_verb_58 : decode cX12_verb 58 = .ok (.iconst 0, 1) := by decide +kernel
theorem dX12_verb_59 : decode cX12_verb 59 = .ok (.iastore, 1) := by decide +kernel
theorem dX12_verb_60 : decode cX12_verb 60 = .ok (.goto 60, 3) := by decide +kernel
theorem dX12_verb_63 : decode cX12_verb 63 = .ok (.aload_n 0, 1) := by decide +kernel
theorem dX12_verb_64 : decode cX12_verb 64 = .ok (.bipush 28, 2) := by decide +kernel
theorem dX12_verb_66 : decode cX12_verb 66 = .ok (.invokevirtual 333, 3) := by decide +kernel
theorem dX12_verb_69 : decode cX12_verb 69 = .ok (.ifCond .eq 18, 3) := by decide +kernel
theorem dX12_verb_72 : decode cX12_verb 72 = .ok (.aload_n 0, 1) := by decide +kernel
theorem dX12_verb_73 : decode cX12_verb 73 = .ok (.getfield 55, 3) := by decide +kernel
theorem dX12_verb_76 : decode cX12_verb 76 = .ok (.aload_n 0, 1) := by decide +kernel
theorem dX12_verb_77 : decode cX12_verb 77 = .ok (.getfield 61, 3) := by decide +kernel
theorem dX12_verb_80 : decode cX12_verb 80 = .ok (.iload_n 2, 1) := by decide +kernel
theorem dX12_verb_81 : decode cX12_verb 81 = .ok (.iaload, 1) := by decide +kernel
theorem dX12_verb_82 : decode cX12_verb 82 = .ok (.iconst 1, 1) := by decide +kernel
theorem dX12_verb_83 : decode cX12_verb 83 = .ok (.iastore, 1) := by decide +kernel
theorem dX12_verb_84 : decode cX12_verb 84 = .ok (.goto 36, 3) := by decide +kernel
theorem dX12_verb_87 : decode cX12_verb 87 = .ok (.aload_n 0, 1) := by decide +kernel
theorem dX12_verb_88 : decode cX12_verb 88 = .ok (.bipush 43, 2) := by decide +kernel
theorem dX12_verb_90 : decode cX12_verb 90 = .ok (.invokevirtual 393, 3) := by decide +kernel
theorem dX12_verb_93 : decode cX12_verb 93 = .ok (.aload_n 0, 1) := by decide +kernel
theorem dX12_verb_94 : decode cX12_verb 94 = .ok (.getfield 55, 3) := by decide +kernel
theorem dX12_verb_97 : decode cX12_verb 97 = .ok (.aload_n 0, 1) := by decide +kernel
theorem dX12_verb_98 : decode cX12_verb 98 = .ok (.getfield 61, 3) := by decide +kernel
theorem dX12_verb_101 : decode cX12_verb 101 = .ok (.iload_n 2, 1) := by decide +kernel
theorem dX12_verb_102 : decode cX12_verb 102 = .ok (.iaload, 1) := by decide +kernel
theorem dX12_verb_103 : decode cX12_verb 103 = .ok (.iconst 2, 1) := by decide +kernel
theorem dX12_verb_104 : decode cX12_verb 104 = .ok (.iastore, 1) := by decide +kernel
theorem dX12_verb_105 : decode cX12_verb 105 = .ok (.aload_n 0, 1) := by decide +kernel
theorem dX12_verb_106 : decode cX12_verb 106 = .ok (.getfield 58, 3) := by decide +kernel
theorem dX12_verb_109 : decode cX12_verb 109 = .ok (.aload_n 0, 1) := by decide +kernel
theorem dX12_verb_110 : decode cX12_verb 110 = .ok (.getfield 61, 3) := by decide +kernel
theorem dX12_verb_113 : decode cX12_verb 113 = .ok (.iload_n 2, 1) := by decide +kernel
theorem dX12_verb_114 : decode cX12_verb 114 = .ok (.iaload, 1) := by decide +kernel
theorem dX12_verb_115 : decode cX12_verb 115 = .ok (.aload_n 0, 1) := by decide +kernel
theorem dX12_verb_116 : decode cX12_verb 116 = .ok (.invokevirtual 365, 3) := by decide +kernel
theorem dX12_verb_119 : decode cX12_verb 119 = .ok (.iastore, 1) := by decide +kernel
theorem dX12_verb_120 : decode cX12_verb 120 = .ok (.aload_n 0, 1) := by decide +kernel
theorem dX12_verb_121 : decode cX12_verb 121 = .ok (.bipush 59, 2) := by decide +kernel
theorem dX12_verb_123 : decode cX12_verb 123 = .ok (.invokevirtual 342, 3) := by decide +kernel
theorem dX12_verb_126 : decode cX12_verb 126 = .ok (.iload_n 2, 1) := by decide +kernel
theorem dX12_verb_127 : decode cX12_verb 127 = .ok (.ireturn, 1) := by decide +kernel
def F_X12_verb (p0 : Int32) (σ : MS) : MR :=
  (F_X12_node 3 p0 σ).bind fun u_1 =>
  (F_X12_name u_1.2).bind fun u_3 =>
  if u_1.1 < 0 ∨ 40000 ≤ u_1.1.toNatClampNeg then none else
  bnd (mA u_3.2 19 (upd (u_3.2.2 19) u_1.1.toNatClampNeg u_3.1)) fun σ_7 =>
  (F_X12_row σ_7).bind fun u_9 =>
  if u_1.1 < 0 ∨ 40000 ≤ u_1.1.toNatClampNeg then none else
  bnd (mA u_9.2 20 (upd (u_9.2.2 20) u_1.1.toNatClampNeg u_9.1)) fun σ_13 =>
  (F_X12_node 14 p0 σ_13).bind fun u_15 =>
  if u_1.1 < 0 ∨ 40000 ≤ u_1.1.toNatClampNeg then none else
  bnd (mA u_15.2 21 (upd (u_15.2.2 21) u_1.1.toNatClampNeg u_15.1)) fun σ_19 =>
  (F_X12_tookKey 0 σ_19).bind fun u_21 =>
  bnd (fun  (σ_23 : MS) => (
    (F_X12_need 59 σ_23).bind fun u_27 =>
    some (u_1.1, u_27.2)
  ) : MS → MR) fun j_24 =>
  if u_21.1 = 0 then (
    (F_X12_tookKey 28 u_21.2).bind fun u_31 =>
    if u_31.1 = 0 then (
      (F_X12_needKey 43 u_31.2).bind fun u_35 =>
      if u_1.1 < 0 ∨ 40000 ≤ u_1.1.toNatClampNeg then none else
      if (u_35.2.2 21 u_1.1.toNatClampNeg) < 0 ∨ 40000 ≤ (u_35.2.2 21 u_1.1.toNatClampNeg).toNatClampNeg then none else
      bnd (mA u_35.2 19 (upd (u_35.2.2 19) (u_35.2.2 21 u_1.1.toNatClampNeg).toNatClampNeg 2)) fun σ_41 =>
      if u_1.1 < 0 ∨ 40000 ≤ u_1.1.toNatClampNeg then none else
      (F_X12_name σ_41).bind fun u_45 =>
      if (σ_41.2 21 u_1.1.toNatClampNeg) < 0 ∨ 40000 ≤ (σ_41.2 21 u_1.1.toNatClampNeg).toNatClampNeg then none else
      bnd (mA u_45.2 20 (upd (u_45.2.2 20) (σ_41.2 21 u_1.1.toNatClampNeg).toNatClampNeg u_45.1)) fun σ_49 =>
      j_24  σ_49
    ) else (
      if u_1.1 < 0 ∨ 40000 ≤ u_1.1.toNatClampNeg then none else
      if (u_31.2.2 21 u_1.1.toNatClampNeg) < 0 ∨ 40000 ≤ (u_31.2.2 21 u_1.1.toNatClampNeg).toNatClampNeg then none else
      bnd (mA u_31.2 19 (upd (u_31.2.2 19) (u_31.2.2 21 u_1.1.toNatClampNeg).toNatClampNeg 1)) fun σ_56 =>
      j_24  σ_56
    )
  ) else (
    if u_1.1 < 0 ∨ 40000 ≤ u_1.1.toNatClampNeg then none else
    if (u_21.2.2 21 u_1.1.toNatClampNeg) < 0 ∨ 40000 ≤ (u_21.2.2 21 u_1.1.toNatClampNeg).toNatClampNeg then none else
    bnd (mA u_21.2 19 (upd (u_21.2.2 19) (u_21.2.2 21 u_1.1.toNatClampNeg).toNatClampNeg 0)) fun σ_63 =>
    j_24  σ_63
  )
set_option maxHeartbeats 4000000 in
set_option maxRecDepth 100000 in
theorem m_X12_verb (l : Launch) (dC : Nat → ClassId) (dI : Nat → Nat → Nat) (cB cC cI cJ cZ cP : ClassId) (h qK qS : Nat) (ad : Nat → Nat) (hDD : mDis cB cI cZ h qK qS ad) (sz : Nat)  (p0 : Int32) (σ : MS) (res : Int32 × MS) (hF : F_X12_verb p0 σ = some res) : Met l yX12_verb (g_ws yX12_verb cX12_verb 3 (some .int)) ({ frames := 6, cells := 0, slots := 0, locals := 147 }) (va_Pc [.ref h, .int p0] (m_B (dC, dI) [(cB, .byte), (cC, .char), (cI, .int), (cJ, .long), (cZ, .boolean), (cP, .object "StoryHouse$Play")] sz h ad qK qS (mW cB cI cZ h qK qS ad σ) g_0)) (va_Qi (fun r (_ : Unit) => r = res.1) (fun _ t => va_P (dC, dI) vwCl (mW cB cI cZ h qK qS ad res.2) t.heap) (mCells h ad sz)) 0 0 (mCells h ad sz) := by
  refine Met.ofW (cc := cX12_verb) (maxL := 3) (ret := (some .int)) (by decide) rfl ?_
  intro p e s m args below meth c s₁ B hml hv
  obtain ⟨rfl, hsz, hP, hK, hE, hKS, hX⟩ := hv
  have hx := B.exec
  have hb := B.bytes
  have hr := B.returns
  have hts0 := atoms_spec (ws := g_ws yX12_verb cX12_verb 3 (some .int)) B.pre
  have hts : ∀ w ∈ lw_good, w.before ([.ref h, .int p0] : List Value).toArray s = true := fun w z => hts0 w (List.mem_cons_of_mem _ z)
  have hown : s.vm.findClass RX12 = some m.cls := findClass_of_methodNamed B.named
  have hlocks := B.notSynchronized
  have hS : va_S (mCells h ad sz) s.heap s.heap [] := va_S.rf
  have hl := lv_entry ([.ref h, .int p0]) (n := 3) (Nat.le_of_ble_eq_true rfl)
  rw [lg_entry_eq]
  generalize (lg_sl ([.ref h, .int p0]) ++ List.replicate (3 - (lg_sl ([.ref h, .int p0])).length) Slot.unset).toArray = ls at hl ⊢
  have hl : lv_has ls 3 [(0, .ref h), (1, .int p0)] := hl
  unfold F_X12_verb at hF
  refine lv_aload_n hx hb dX12_verb_0 rfl (lv_at hl 0 rfl) ?_
  refine lv_iconst (v := 3) hx hb dX12_verb_1 (by decide +kernel) ?_
  refine lv_iload_n hx hb dX12_verb_2 rfl (lv_at hl 1 rfl) ?_
  obtain ⟨u_1, hu_1, hF_2⟩ := Option.bind_eq_some_iff.mp hF
  clear hF
  refine m_ci hsz hS (va_runV (As := [.int 3, .int p0]) (rest := []) ⟨hx, hb, hml, hown, hts⟩ (m_X12_node l dC dI cB cC cI cJ cZ cP h qK qS ad hDD s.heap.size  3 p0 σ _ hu_1) (cwV 2 hts (g_gV wq_1540 wq_1541 wq_2126 wq_13 wq_1542) rfl rfl rfl (by decide +kernel) ⟨Nat.le_of_ble_eq_true rfl, Nat.le_of_ble_eq_true rfl⟩) (m_preV g_bl0 hsz hK hP hS hE hKS g_to0) rfl rfl hl.1 rfl (lv_room (Nat.le_of_ble_eq_true rfl)) dX12_verb_3 ⟨Nat.le_of_ble_eq_true rfl, Nat.le_of_ble_eq_true rfl⟩) (fun H locs hP hS => ?_)
  refine lv_istore_n (lv' := [(2, .int u_1.1), (0, .ref h), (1, .int p0)]) hx hb dX12_verb_6 rfl hl (by decide) rfl (fun ls hl => ?_)
  refine lv_aload_n hx hb dX12_verb_7 rfl (lv_at hl 1 rfl) ?_
  refine va_get (D := (dC, dI)) (ci := 12) (v := .ref (ad 19)) (C := RX12) (T := TX12) (N := 123) hx hb hts ii_X12 hown hK hP 0 rfl rfl 19 (by decide) (hts (.fieldLink RX12 55 "StoryHouseModel" "a" "[I") wq_1375) (fun _ h9 => h9) rfl dX12_verb_8 ?_
  refine lv_iload_n hx hb dX12_verb_11 rfl (lv_at hl 0 rfl) ?_
  refine lv_aload_n hx hb dX12_verb_12 rfl (lv_at hl 1 rfl) ?_
  obtain ⟨u_3, hu_3, hF_4⟩ := Option.bind_eq_some_iff.mp hF_2
  clear hF_2
  refine m_ci hsz hS (va_runV (As := []) (rest := [.int u_1.1, .ref (ad 19)]) ⟨hx, hb, hml, hown, hts⟩ (m_X12_name l dC dI cB cC cI cJ cZ cP h qK qS ad hDD H.size  u_1.2 _ hu_3) (cwV 0 hts (g_gV wq_1543 wq_1544 wq_2127 wq_13 wq_1545) rfl rfl rfl (by decide +kernel) ⟨Nat.le_of_ble_eq_true rfl, Nat.le_of_ble_eq_true rfl⟩) (m_preV g_bl0 hsz hK hP hS hE hKS g_to0) rfl rfl hl.1 rfl (lv_room (Nat.le_of_ble_eq_true rfl)) dX12_verb_13 ⟨Nat.le_of_ble_eq_true rfl, Nat.le_of_ble_eq_true rfl⟩) (fun H locs hP hS => ?_)
  obtain ⟨g_5, hF_6⟩ := nif_e hF_4
  clear hF_4
  obtain ⟨σ_7, eσ_7, hF_8⟩ := bnd_e hF_6
  clear hF_6
  refine m_iast (σ' := σ_7) hx hb hK hP (hDD _ _) hS (q0 := 10) (t0 := 2) (f := u_3.2.2 19) rfl rfl (by rw [eσ_7]; exact mwA_19) g_5 dX12_verb_16 (fun H locs hP hS => ?_)
  refine lv_aload_n hx hb dX12_verb_17 rfl (lv_at hl 1 rfl) ?_
  refine va_get (D := (dC, dI)) (ci := 12) (v := .ref (ad 20)) (C := RX12) (T := TX12) (N := 123) hx hb hts ii_X12 hown hK hP 0 rfl rfl 20 (by decide) (hts (.fieldLink RX12 58 "StoryHouseModel" "b" "[I") wq_1376) (fun _ h9 => h9) rfl dX12_verb_18 ?_
  refine lv_iload_n hx hb dX12_verb_21 rfl (lv_at hl 0 rfl) ?_
  refine lv_aload_n hx hb dX12_verb_22 rfl (lv_at hl 1 rfl) ?_
  obtain ⟨u_9, hu_9, hF_10⟩ := Option.bind_eq_some_iff.mp hF_8
  clear hF_8
  refine m_ci hsz hS (va_runV (As := []) (rest := [.int u_1.1, .ref (ad 20)]) ⟨hx, hb, hml, hown, hts⟩ (m_X12_row l dC dI cB cC cI cJ cZ cP h qK qS ad hDD H.size  σ_7 _ hu_9) (cwV 0 hts (g_gV wq_1579 wq_1580 wq_2139 wq_13 wq_1581) rfl rfl rfl (by decide +kernel) ⟨Nat.le_of_ble_eq_true rfl, Nat.le_of_ble_eq_true rfl⟩) (m_preV g_bl0 hsz hK hP hS hE hKS g_to0) rfl rfl hl.1 rfl (lv_room (Nat.le_of_ble_eq_true rfl)) dX12_verb_23 ⟨Nat.le_of_ble_eq_true rfl, Nat.le_of_ble_eq_true rfl⟩) (fun H locs hP hS => ?_)
  obtain ⟨g_11, hF_12⟩ := nif_e hF_10
  clear hF_10
  obtain ⟨σ_13, eσ_13, hF_14⟩ := bnd_e hF_12
  clear hF_12
  refine m_iast (σ' := σ_13) hx hb hK hP (hDD _ _) hS (q0 := 11) (t0 := 2) (f := u_9.2.2 20) rfl rfl (by rw [eσ_13]; exact mwA_20) g_11 dX12_verb_26 (fun H locs hP hS => ?_)
  refine lv_aload_n hx hb dX12_verb_27 rfl (lv_at hl 1 rfl) ?_
  refine va_get (D := (dC, dI)) (ci := 12) (v := .ref (ad 21)) (C := RX12) (T := TX12) (N := 123) hx hb hts ii_X12 hown hK hP 0 rfl rfl 21 (by decide) (hts (.fieldLink RX12 61 "StoryHouseModel" "d" "[I") wq_1377) (fun _ h9 => h9) rfl dX12_verb_28 ?_
  refine lv_iload_n hx hb dX12_verb_31 rfl (lv_at hl 0 rfl) ?_
  refine lv_aload_n hx hb dX12_verb_32 rfl (lv_at hl 1 rfl) ?_
  refine lv_bipush (v := 14) hx hb dX12_verb_33 (by decide +kernel) ?_
  refine lv_iload_n hx hb dX12_verb_35 rfl (lv_at hl 2 rfl) ?_
  obtain ⟨u_15, hu_15, hF_16⟩ := Option.bind_eq_some_iff.mp hF_14
  clear hF_14
  refine m_ci hsz hS (va_runV (As := [.int 14, .int p0]) (rest := [.int u_1.1, .ref (ad 21)]) ⟨hx, hb, hml, hown, hts⟩ (m_X12_node l dC dI cB cC cI cJ cZ cP h qK qS ad hDD H.size  14 p0 σ_13 _ hu_15) (cwV 2 hts (g_gV wq_1540 wq_1541 wq_2126 wq_13 wq_1542) rfl rfl rfl (by decide +kernel) ⟨Nat.le_of_ble_eq_true rfl, Nat.le_of_ble_eq_true rfl⟩) (m_preV g_bl0 hsz hK hP hS hE hKS g_to0) rfl rfl hl.1 rfl (lv_room (Nat.le_of_ble_eq_true rfl)) dX12_verb_36 ⟨Nat.le_of_ble_eq_true rfl, Nat.le_of_ble_eq_true rfl⟩) (fun H locs hP hS => ?_)
  obtain ⟨g_17, hF_18⟩ := nif_e hF_16
  clear hF_16
  obtain ⟨σ_19, eσ_19, hF_20⟩ := bnd_e hF_18
  clear hF_18
  refine m_iast (σ' := σ_19) hx hb hK hP (hDD _ _) hS (q0 := 12) (t0 := 2) (f := u_15.2.2 21) rfl rfl (by rw [eσ_19]; exact mwA_21) g_17 dX12_verb_39 (fun H locs hP hS => ?_)
  refine lv_aload_n hx hb dX12_verb_40 rfl (lv_at hl 1 rfl) ?_
  refine lv_iconst (v := 0) hx hb dX12_verb_41 (by decide +kernel) ?_
  obtain ⟨u_21, hu_21, hF_22⟩ := Option.bind_eq_some_iff.mp hF_20
  clear hF_20
  refine m_ci hsz hS (va_runV (As := [.int 0]) (rest := []) ⟨hx, hb, hml, hown, hts⟩ (m_X12_tookKey l dC dI cB cC cI cJ cZ cP h qK qS ad hDD H.size  0 σ_19 _ hu_21) (cwV 1 hts (g_gV wq_1573 wq_1574 wq_2137 wq_13 wq_1575) rfl rfl rfl (by decide +kernel) ⟨Nat.le_of_ble_eq_true rfl, Nat.le_of_ble_eq_true rfl⟩) (m_preV g_bl0 hsz hK hP hS hE hKS g_to0) rfl rfl hl.1 rfl (lv_room (Nat.le_of_ble_eq_true rfl)) dX12_verb_42 ⟨Nat.le_of_ble_eq_true rfl, Nat.le_of_ble_eq_true rfl⟩) (fun H locs hP hS => ?_)
  obtain ⟨j_24, ej_24, hF_25⟩ := bnd_e hF_22
  clear hF_22
  have Jj_24 : ∀  (σ_23 : MS), j_24  σ_23 = some res → ∀ (H : Heap) (locs : List Loc), va_P (dC, dI) vwCl (mW cB cI cZ h qK qS ad σ_23) H → va_S (mCells h ad sz) s.heap H locs → ∀ ls : Array Slot, lv_has ls 3 [(0, .ref h), (2, .int u_1.1)] → W p l e (headSpec (g_ws yX12_verb cX12_verb 3 (some .int)) { frames := 6, cells := 0, slots := 0, locals := 147 }).room s m ([.ref h, .int p0] : List Value).toArray below meth c H locs 0 0 (MQ below (va_Qi (fun r (_ : Unit) => r = res.1) (fun _ t => va_P (dC, dI) vwCl (mW cB cI cZ h qK qS ad res.2) t.heap) (mCells h ad sz)) ([.ref h, .int p0] : List Value).toArray s 0 0 (mCells h ad sz)) (F0 m 120 ls []) := by
    intro  σ_23 hF0 H locs hP hS ls hl
    subst ej_24
    have hF_26 := hF0
    clear hF0
    refine lv_aload_n hx hb dX12_verb_120 rfl (lv_at hl 0 rfl) ?_
    refine lv_bipush (v := 59) hx hb dX12_verb_121 (by decide +kernel) ?_
    obtain ⟨u_27, hu_27, hF_28⟩ := Option.bind_eq_some_iff.mp hF_26
    clear hF_26
    refine m_cv hsz hS (va_runV (As := [.int 59]) (rest := []) ⟨hx, hb, hml, hown, hts⟩ (m_X12_need l dC dI cB cC cI cJ cZ cP h qK qS ad hDD H.size  59 σ_23 _ hu_27) (cwV 1 hts (g_gV wq_1564 wq_1565 wq_2134 wq_13 wq_1566) rfl rfl rfl (by decide +kernel) ⟨Nat.le_of_ble_eq_true rfl, Nat.le_of_ble_eq_true rfl⟩) (m_preV g_bl0 hsz hK hP hS hE hKS g_to0) rfl rfl hl.1 rfl (lv_room (Nat.le_of_ble_eq_true rfl)) dX12_verb_123 ⟨Nat.le_of_ble_eq_true rfl, Nat.le_of_ble_eq_true rfl⟩) (fun H locs hP hS => ?_)
    refine lv_iload_n hx hb dX12_verb_126 rfl (lv_at hl 1 rfl) ?_
    have h9 := Option.some.inj hF_28
    subst h9
    exact W.iret (v := u_1.1) hx hb hr (fun t ht hW => ⟨⟨u_1.1, (), rfl, rfl, m_end ht hP⟩, hS.F ht⟩) hS.2.2 dX12_verb_127
  refine lv_if_eq (tgt := 63) hx hb dX12_verb_45 (by decide) (fun c_29 => ?_) (fun c_29 => ?_)
  · have hF_30 := ipos c_29 hF_25
    clear hF_25
    refine lv_aload_n hx hb dX12_verb_63 rfl (lv_at hl 1 rfl) ?_
    refine lv_bipush (v := 28) hx hb dX12_verb_64 (by decide +kernel) ?_
    obtain ⟨u_31, hu_31, hF_32⟩ := Option.bind_eq_some_iff.mp hF_30
    clear hF_30
    refine m_ci hsz hS (va_runV (As := [.int 28]) (rest := []) ⟨hx, hb, hml, hown, hts⟩ (m_X12_tookKey l dC dI cB cC cI cJ cZ cP h qK qS ad hDD H.size  28 u_21.2 _ hu_31) (cwV 1 hts (g_gV wq_1573 wq_1574 wq_2137 wq_13 wq_1575) rfl rfl rfl (by decide +kernel) ⟨Nat.le_of_ble_eq_true rfl, Nat.le_of_ble_eq_true rfl⟩) (m_preV g_bl0 hsz hK hP hS hE hKS g_to0) rfl rfl hl.1 rfl (lv_room (Nat.le_of_ble_eq_true rfl)) dX12_verb_66 ⟨Nat.le_of_ble_eq_true rfl, Nat.le_of_ble_eq_true rfl⟩) (fun H locs hP hS => ?_)
    refine lv_if_eq (tgt := 87) hx hb dX12_verb_69 (by decide) (fun c_33 => ?_) (fun c_33 => ?_)
    · have hF_34 := ipos c_33 hF_32
      clear hF_32
      refine lv_aload_n hx hb dX12_verb_87 rfl (lv_at hl 1 rfl) ?_
      refine lv_bipush (v := 43) hx hb dX12_verb_88 (by decide +kernel) ?_
      obtain ⟨u_35, hu_35, hF_36⟩ := Option.bind_eq_some_iff.mp hF_34
      clear hF_34
      refine m_cv hsz hS (va_runV (As := [.int 43]) (rest := []) ⟨hx, hb, hml, hown, hts⟩ (m_X12_needKey l dC dI cB cC cI cJ cZ cP h qK qS ad hDD H.size  43 u_31.2 _ hu_35) (cwV 1 hts (g_gV wq_1588 wq_1589 wq_2142 wq_13 wq_1590) rfl rfl rfl (by decide +kernel) ⟨Nat.le_of_ble_eq_true rfl, Nat.le_of_ble_eq_true rfl⟩) (m_preV g_bl0 hsz hK hP hS hE hKS g_to0) rfl rfl hl.1 rfl (lv_room (Nat.le_of_ble_eq_true rfl)) dX12_verb_90 ⟨Nat.le_of_ble_eq_true rfl, Nat.le_of_ble_eq_true rfl⟩) (fun H locs hP hS => ?_)
      refine lv_aload_n hx hb dX12_verb_93 rfl (lv_at hl 1 rfl) ?_
      refine va_get (D := (dC, dI)) (ci := 12) (v := .ref (ad 19)) (C := RX12) (T := TX12) (N := 123) hx hb hts ii_X12 hown hK hP 0 rfl rfl 19 (by decide) (hts (.fieldLink RX12 55 "StoryHouseModel" "a" "[I") wq_1375) (fun _ h9 => h9) rfl dX12_verb_94 ?_
      refine lv_aload_n hx hb dX12_verb_97 rfl (lv_at hl 1 rfl) ?_
      refine va_get (D := (dC, dI)) (ci := 12) (v := .ref (ad 21)) (C := RX12) (T := TX12) (N := 123) hx hb hts ii_X12 hown hK hP 0 rfl rfl 21 (by decide) (hts (.fieldLink RX12 61 "StoryHouseModel" "d" "[I") wq_1377) (fun _ h9 => h9) rfl dX12_verb_98 ?_
      refine lv_iload_n hx hb dX12_verb_101 rfl (lv_at hl 0 rfl) ?_
      obtain ⟨g_37, hF_38⟩ := nif_e hF_36
      clear hF_36
      refine va_iald (f := u_35.2.2 21) hx hb hK hP 12 2 rfl rfl g_37 dX12_verb_102 ?_
      refine lv_iconst (v := 2) hx hb dX12_verb_103 (by decide +kernel) ?_
      obtain ⟨g_39, hF_40⟩ := nif_e hF_38
      clear hF_38
      obtain ⟨σ_41, eσ_41, hF_42⟩ := bnd_e hF_40
      clear hF_40
      refine m_iast (σ' := σ_41) hx hb hK hP (hDD _ _) hS (q0 := 10) (t0 := 2) (f := u_35.2.2 19) rfl rfl (by rw [eσ_41]; exact mwA_19) g_39 dX12_verb_104 (fun H locs hP hS => ?_)
      refine lv_aload_n hx hb dX12_verb_105 rfl (lv_at hl 1 rfl) ?_
      refine va_get (D := (dC, dI)) (ci := 12) (v := .ref (ad 20)) (C := RX12) (T := TX12) (N := 123) hx hb hts ii_X12 hown hK hP 0 rfl rfl 20 (by decide) (hts (.fieldLink RX12 58 "StoryHouseModel" "b" "[I") wq_1376) (fun _ h9 => h9) rfl dX12_verb_106 ?_
      refine lv_aload_n hx hb dX12_verb_109 rfl (lv_at hl 1 rfl) ?_
      refine va_get (D := (dC, dI)) (ci := 12) (v := .ref (ad 21)) (C := RX12) (T := TX12) (N := 123) hx hb hts ii_X12 hown hK hP 0 rfl rfl 21 (by decide) (hts (.fieldLink RX12 61 "StoryHouseModel" "d" "[I") wq_1377) (fun _ h9 => h9) rfl dX12_verb_110 ?_
      refine lv_iload_n hx hb dX12_verb_113 rfl (lv_at hl 0 rfl) ?_
      obtain ⟨g_43, hF_44⟩ := nif_e hF_42
      clear hF_42
      refine va_iald (f := σ_41.2 21) hx hb hK hP 12 2 rfl rfl g_43 dX12_verb_114 ?_
      refine lv_aload_n hx hb dX12_verb_115 rfl (lv_at hl 1 rfl) ?_
      obtain ⟨u_45, hu_45, hF_46⟩ := Option.bind_eq_some_iff.mp hF_44
      clear hF_44
      refine m_ci hsz hS (va_runV (As := []) (rest := [.int (σ_41.2 21 u_1.1.toNatClampNeg), .ref (ad 20)]) ⟨hx, hb, hml, hown, hts⟩ (m_X12_name l dC dI cB cC cI cJ cZ cP h qK qS ad hDD H.size  σ_41 _ hu_45) (cwV 0 hts (g_gV wq_1543 wq_1544 wq_2127 wq_13 wq_1545) rfl rfl rfl (by decide +kernel) ⟨Nat.le_of_ble_eq_true rfl, Nat.le_of_ble_eq_true rfl⟩) (m_preV g_bl0 hsz hK hP hS hE hKS g_to0) rfl rfl hl.1 rfl (lv_room (Nat.le_of_ble_eq_true rfl)) dX12_verb_116 ⟨Nat.le_of_ble_eq_true rfl, Nat.le_of_ble_eq_true rfl⟩) (fun H locs hP hS => ?_)
      obtain ⟨g_47, hF_48⟩ := nif_e hF_46
      clear hF_46
      obtain ⟨σ_49, eσ_49, hF_50⟩ := bnd_e hF_48
      clear hF_48
      refine m_iast (σ' := σ_49) hx hb hK hP (hDD _ _) hS (q0 := 11) (t0 := 2) (f := u_45.2.2 20) rfl rfl (by rw [eσ_49]; exact mwA_20) g_47 dX12_verb_119 (fun H locs hP hS => ?_)
      exact Jj_24  σ_49 hF_50 _ _ hP hS ls (lv_sub hl [1, 0] rfl)
    · have hF_51 := ineg c_33 hF_32
      clear hF_32
      refine lv_aload_n hx hb dX12_verb_72 rfl (lv_at hl 1 rfl) ?_
      refine va_get (D := (dC, dI)) (ci := 12) (v := .ref (ad 19)) (C := RX12) (T := TX12) (N := 123) hx hb hts ii_X12 hown hK hP 0 rfl rfl 19 (by decide) (hts (.fieldLink RX12 55 "StoryHouseModel" "a" "[I") wq_1375) (fun _ h9 => h9) rfl dX12_verb_73 ?_
      refine lv_aload_n hx hb dX12_verb_76 rfl (lv_at hl 1 rfl) ?_
      refine va_get (D := (dC, dI)) (ci := 12) (v := .ref (ad 21)) (C := RX12) (T := TX12) (N := 123) hx hb hts ii_X12 hown hK hP 0 rfl rfl 21 (by decide) (hts (.fieldLink RX12 61 "StoryHouseModel" "d" "[I") wq_1377) (fun _ h9 => h9) rfl dX12_verb_77 ?_
      refine lv_iload_n hx hb dX12_verb_80 rfl (lv_at hl 0 rfl) ?_
      obtain ⟨g_52, hF_53⟩ := nif_e hF_51
      clear hF_51
      refine va_iald (f := u_31.2.2 21) hx hb hK hP 12 2 rfl rfl g_52 dX12_verb_81 ?_
      refine lv_iconst (v := 1) hx hb dX12_verb_82 (by decide +kernel) ?_
      obtain ⟨g_54, hF_55⟩ := nif_e hF_53
      clear hF_53
      obtain ⟨σ_56, eσ_56, hF_57⟩ := bnd_e hF_55
      clear hF_55
      refine m_iast (σ' := σ_56) hx hb hK hP (hDD _ _) hS (q0 := 10) (t0 := 2) (f := u_31.2.2 19) rfl rfl (by rw [eσ_56]; exact mwA_19) g_54 dX12_verb_83 (fun H locs hP hS => ?_)
      refine lv_goto (tgt := 120) hx hb dX12_verb_84 (by decide) ?_
      exact Jj_24  σ_56 hF_57 _ _ hP hS ls (lv_sub hl [1, 0] rfl)
  · have hF_58 := ineg c_29 hF_25
    clear hF_25
    refine lv_aload_n hx hb dX12_verb_48 rfl (lv_at hl 1 rfl) ?_
    refine va_get (D := (dC, dI)) (ci := 12) (v := .ref (ad 19)) (C := RX12) (T := TX12) (N := 123) hx hb hts ii_X12 hown hK hP 0 rfl rfl 19 (by decide) (hts (.fieldLink RX12 55 "StoryHouseModel" "a" "[I") wq_1375) (fun _ h9 => h9) rfl dX12_verb_49 ?_
    refine lv_aload_n hx hb dX12_verb_52 rfl (lv_at hl 1 rfl) ?_
    refine va_get (D := (dC, dI)) (ci := 12) (v := .ref (ad 21)) (C := RX12) (T := TX12) (N := 123) hx hb hts ii_X12 hown hK hP 0 rfl rfl 21 (by decide) (hts (.fieldLink RX12 61 "StoryHouseModel" "d" "[I") wq_1377) (fun _ h9 => h9) rfl dX12_verb_53 ?_
    refine lv_iload_n hx hb dX12_verb_56 rfl (lv_at hl 0 rfl) ?_
    obtain ⟨g_59, hF_60⟩ := nif_e hF_58
    clear hF_58
    refine va_iald (f := u_21.2.2 21) hx hb hK hP 12 2 rfl rfl g_59 dX12_verb_57 ?_
    refine lv_iconst (v := 0) hx hb dX12_verb_58 (by decide +kernel) ?_
    obtain ⟨g_61, hF_62⟩ := nif_e hF_60
    clear hF_60
    obtain ⟨σ_63, eσ_63, hF_64⟩ := bnd_e hF_62
    clear hF_62
    refine m_iast (σ' := σ_63) hx hb hK hP (hDD _ _) hS (q0 := 10) (t0 := 2) (f := u_21.2.2 19) rfl rfl (by rw [eσ_63]; exact mwA_19) g_61 dX12_verb_59 (fun H locs hP hS => ?_)
    refine lv_goto (tgt := 120) hx hb dX12_verb_60 (by decide) ?_
    exact Jj_24  σ_63 hF_64 _ _ hP hS ls (lv_sub hl [1, 0] rfl)
theorem dX12_whatOf_0 : decode cX12_whatOf 0 = .ok (.aload_n 0, 1) := by decide +kernel
theorem dX12_whatOf_1 : decode cX12_whatOf 1 = .ok (.bipush 16, 2) := by decide +kernel
theorem dX12_whatOf_3 : decode cX12_whatOf 3 = .ok (.aload_n 0, 1) := by decide +kernel
theorem dX12_whatOf_4 : decode cX12_whatOf 4 = .ok (.getfield 31, 3) := by decide +kernel
theorem dX12_whatOf_7 : decode cX12_whatOf 7 = .ok (.aload_n 0, 1) := by decide +kernel
theorem dX12_whatOf_8 : decode cX12_whatOf 8 = .ok (.getfield 314, 3) := by decide +kernel
theorem dX12_whatOf_11 : decode cX12_whatOf 11 = .ok (.iaload, 1) := by decide +kernel
theorem dX12_whatOf_12 : decode cX12_whatOf 12 = .ok (.invokevirtual 346, 3) := by decide +kernel
theorem dX12_whatOf_15 : decode cX12_whatOf 15 = .ok (.istore_n 1, 1) := by decide +kernel
theorem dX12_whatOf_16 : decode cX12_whatOf 16 = .ok (.aload_n 0, 1) := by decide +kernel
theorem dX12_whatOf_17 : decode cX12_whatOf 17 = .ok (.invokevirtual 386, 3) := by decide +kernel
theorem dX12_whatOf_20 : decode cX12_whatOf 20 = .ok (.istore_n 2, 1) := by decide +kernel
theorem dX12_whatOf_21 : decode cX12_whatOf 21 = .ok (.iload_n 2, 1) := by decide +kernel
theorem dX12_whatOf_22 : decode cX12_whatOf 22 = .ok (.ifCond .le 20, 3) := by decide +kernel
theorem dX12_whatOf_25 : decode cX12_whatOf 25 = .ok (.aload_n 0, 1) := by decide +kernel
theorem dX12_whatOf_26 : decode cX12_whatOf 26 = .ok (.getfield 55, 3) := by decide +kernel
theorem dX12_whatOf_29 : decode cX12_whatOf 29 = .ok (.iload_n 1, 1) := by decide +kernel
theorem dX12_whatOf_30 : decode cX12_whatOf 30 = .ok (.iconst 3, 1) := by decide +kernel
theorem dX12_whatOf_31 : decode cX12_whatOf 31 = .ok (.iastore, 1) := by decide +kernel
theorem dX12_whatOf_32 : decode cX12_whatOf 32 = .ok (.aload_n 0, 1) := by decide +kernel
theorem dX12_whatOf_33 : decode cX12_whatOf 33 = .ok (.getfield 58, 3) := by decide +kernel
theorem dX12_whatOf_36 : decode cX12_whatOf 36 = .ok (.iload_n 1, 1) := by decide +kernel
theorem dX12_whatOf_37 : decode cX12_whatOf 37 = .ok (.iload_n 2, 1) := by decide +kernel
theorem dX12_whatOf_38 : decode cX12_whatOf 38 = .ok (.iastore, 1) := by decide +kernel
theorem dX12_whatOf_39 : decode cX12_whatOf 39 = .ok (.goto 58, 3) := by decide +kernel
theorem dX12_whatOf_42 : decode cX12_whatOf 42 = .ok (.aload_n 0, 1) := by decide +kernel
theorem dX12_whatOf_43 : decode cX12_whatOf 43 = .ok (.iconst 3, 1) := by decide +kernel
theorem dX12_whatOf_44 : decode cX12_whatOf 44 = .ok (.invokevirtual 333, 3) := by decide +kernel
theorem dX12_whatOf_47 : decode cX12_whatOf 47 = .ok (.ifCond .eq 13, 3) := by decide +kernel
theorem dX12_whatOf_50 : decode cX12_whatOf 50 = .ok (.aload_n 0, 1) := by decide +kernel
theorem dX12_whatOf_51 : decode cX12_whatOf 51 = .ok (.getfield 55, 3) := by decide +kernel
theorem dX12_whatOf_54 : decode cX12_whatOf 54 = .ok (.iload_n 1, 1) := by decide +kernel
theorem dX12_whatOf_55 : decode cX12_whatOf 55 = .ok (.iconst 0, 1) := by decide +kernel
theorem dX12_whatOf_56 : decode cX12_whatOf 56 = .ok (.iastore, 1) := by decide +kernel
theorem dX12_whatOf_57 : decode cX12_whatOf 57 = .ok (.goto 40, 3) := by decide +kernel
theorem dX12_whatOf_60 : decode cX12_whatOf 60 = .ok (.aload_n 0, 1) := by decide +kernel
theorem dX12_whatOf_61 : decode cX12_whatOf 61 = .ok (.bipush 30, 2) := by decide +kernel
theorem dX12_whatOf_63 : decode cX12_whatOf 63 = .ok (.invokevirtual 333, 3) := by decide +kernel
theorem dX12_whatOf_66 : decode cX12_whatOf 66 = .ok (.ifCond .eq 13, 3) := by decide +kernel
theorem dX12_whatOf_69 : decode cX12_whatOf 69 = .ok (.aload_n 0, 1) := by decide +kernel
theorem dX12_whatOf_70 : decode cX12_whatOf 70 = .ok (.getfield 55, 3) := by decide +kernel
theorem dX12_whatOf_73 : decode cX12_whatOf 73 = .ok (.iload_n 1, 1) := by decide +kernel
theorem dX12_whatOf_74 : decode cX12_whatOf 74 = .ok (.iconst 2, 1) := by decide +kernel
theorem dX12_whatOf_75 : decode cX12_whatOf 75 = .ok (.iastore, 1) := by decide +kernel
theorem dX12_whatOf_76 : decode cX12_whatOf 76 = .ok (.goto 21, 3) := by decide +kernel
theorem dX12_whatOf_79 : decode cX12_whatOf 79 = .ok (.aload_n 0, 1) := by decide +kernel
theorem dX12_whatOf_80 : decode cX12_whatOf 80 = .ok (.getfield 55, 3) := by decide +kernel
theorem dX12_whatOf_83 : decode cX12_whatOf 83 = .ok (.iload_n 1, 1) := by decide +kernel
theorem dX12_whatOf_84 : decode cX12_whatOf 84 = .ok (.iconst 1, 1) := by decide +kernel
theorem dX12_whatOf_85 : decode cX12_whatOf 85 = .ok (.iastore, 1) := by decide +kernel
theorem dX12_whatOf_86 : decode cX12_whatOf 86 = .ok (.aload_n 0, 1) := by decide +kernel
theorem dX12_whatOf_87 : decode cX12_whatOf 87 = .ok (.getfield 58, 3) := by decide +kernel
theorem dX12_whatOf_90 : decode cX12_whatOf 90 = .ok (.iload_n 1, 1) := by decide +kernel
theorem dX12_whatOf_91 : decode cX12_whatOf 91 = .ok (.aload_n 0, 1) := by decide +kernel
theorem dX12_whatOf_92 : decode cX12_whatOf 92 = .ok (.iconst 2, 1) := by decide +kernel
theorem dX12_whatOf_93 : decode cX12_whatOf 93 = .ok (.invokevirtual 349, 3) := by decide +kernel
theorem dX12_whatOf_96 : decode cX12_whatOf 96 = .ok (.iastore, 1) := by decide +kernel
theorem dX12_whatOf_97 : decode cX12_whatOf 97 = .ok (.iload_n 1, 1) := by decide +kernel
theorem dX12_whatOf_98 : decode cX12_whatOf 98 = .ok (.ireturn, 1) := by decide +kernel
def F_X12_whatOf  (σ : MS) : MR :=
  bnd ((σ.1 25)) fun (x_1 : Int32) =>
  if x_1 < 0 ∨ 16010 ≤ x_1.toNatClampNeg then none else
  (F_X12_node 16 (σ.2 8 x_1.toNatClampNeg) σ).bind fun u_5 =>
  (F_X12_direction u_5.2).bind fun u_7 =>
  if u_7.1 ≤ 0 then (
    (F_X12_tookKey 3 u_7.2).bind fun u_11 =>
    if u_11.1 = 0 then (
      (F_X12_tookKey 30 u_11.2).bind fun u_15 =>
      if u_15.1 = 0 then (
        if u_5.1 < 0 ∨ 40000 ≤ u_5.1.toNatClampNeg then none else
        bnd (mA u_15.2 19 (upd (u_15.2.2 19) u_5.1.toNatClampNeg 1)) fun σ_21 =>
        (F_X12_needKind 2 σ_21).bind fun u_23 =>
        if u_5.1 < 0 ∨ 40000 ≤ u_5.1.toNatClampNeg then none else
        bnd (mA u_23.2 20 (upd (u_23.2.2 20) u_5.1.toNatClampNeg u_23.1)) fun σ_27 =>
        some (u_5.1, σ_27)
      ) else (
        if u_5.1 < 0 ∨ 40000 ≤ u_5.1.toNatClampNeg then none else
        bnd (mA u_15.2 19 (upd (u_15.2.2 19) u_5.1.toNatClampNeg 2)) fun σ_32 =>
        some (u_5.1, σ_32)
      )
    ) else (
      if u_5.1 < 0 ∨ 40000 ≤ u_5.1.toNatClampNeg then none else
      bnd (mA u_11.2 19 (upd (u_11.2.2 19) u_5.1.toNatClampNeg 0)) fun σ_37 =>
      some (u_5.1, σ_37)
    )
  ) else (
    if u_5.1 < 0 ∨ 40000 ≤ u_5.1.toNatClampNeg then none else
    bnd (mA u_7.2 19 (upd (u_7.2.2 19) u_5.1.toNatClampNeg 3)) fun σ_42 =>
    if u_5.1 < 0 ∨ 40000 ≤ u_5.1.toNatClampNeg then none else
    bnd (mA σ_42 20 (upd (σ_42.2 20) u_5.1.toNatClampNeg u_7.1)) fun σ_46 =>
    some (u_5.1, σ_46)
  )
set_option maxHeartbeats 4000000 in
set_option maxRecDepth 100000 in
theorem m_X12_whatOf (l : Launch) (dC : Nat → ClassId) (dI : Nat → Nat → Nat) (cB cC cI cJ cZ cP : ClassId) (h qK qS : Nat) (ad : Nat → Nat) (hDD : mDis cB cI cZ h qK qS ad) (sz : Nat)   (σ : MS) (res : Int32 × MS) (hF : F_X12_whatOf  σ = some res) : Met l yX12_whatOf (g_ws yX12_whatOf cX12_whatOf 3 (some .int)) ({ frames := 4, cells := 0, slots := 0, locals := 103 }) (va_Pc [.ref h] (m_B (dC, dI) [(cB, .byte), (cC, .char), (cI, .int), (cJ, .long), (cZ, .boolean), (cP, .object "StoryHouse$Play")] sz h ad qK qS (mW cB cI cZ h qK qS ad σ) g_0)) (va_Qi (fun r (_ : Unit) => r = res.1) (fun _ t => va_P (dC, dI) vwCl (mW cB cI cZ h qK qS ad res.2) t.heap) (mCells h ad sz)) 0 0 (mCells h ad sz) := by
  refine Met.ofW (cc := cX12_whatOf) (maxL := 3) (ret := (some .int)) (by decide) rfl ?_
  intro p e s m args below meth c s₁ B hml hv
  obtain ⟨rfl, hsz, hP, hK, hE, hKS, hX⟩ := hv
  have hx := B.exec
  have hb := B.bytes
  have hr := B.returns
  have hts0 := atoms_spec (ws := g_ws yX12_whatOf cX12_whatOf 3 (some .int)) B.pre
  have hts : ∀ w ∈ lw_good, w.before ([.ref h] : List Value).toArray s = true := fun w z => hts0 w (List.mem_cons_of_mem _ z)
  have hown : s.vm.findClass RX12 = some m.cls := findClass_of_methodNamed B.named
  have hlocks := B.notSynchronized
  have hS : va_S (mCells h ad sz) s.heap s.heap [] := va_S.rf
  have hl := lv_entry ([.ref h]) (n := 3) (Nat.le_of_ble_eq_true rfl)
  rw [lg_entry_eq]
  generalize (lg_sl ([.ref h]) ++ List.replicate (3 - (lg_sl ([.ref h])).length) Slot.unset).toArray = ls at hl ⊢
  have hl : lv_has ls 3 [(0, .ref h)] := hl
  unfold F_X12_whatOf at hF
  refine lv_aload_n hx hb dX12_whatOf_0 rfl (lv_at hl 0 rfl) ?_
  refine lv_bipush (v := 16) hx hb dX12_whatOf_1 (by decide +kernel) ?_
  refine lv_aload_n hx hb dX12_whatOf_3 rfl (lv_at hl 0 rfl) ?_
  refine va_get (D := (dC, dI)) (ci := 12) (v := .ref (ad 8)) (C := RX12) (T := TX12) (N := 123) hx hb hts ii_X12 hown hK hP 0 rfl rfl 8 (by decide) (hts (.fieldLink RX12 31 "StoryHouseModel" "tokAt" "[I") wq_1364) (fun _ h9 => h9) rfl dX12_whatOf_4 ?_
  refine lv_aload_n hx hb dX12_whatOf_7 rfl (lv_at hl 0 rfl) ?_
  refine va_get (D := (dC, dI)) (ci := 12) (v := .int (σ.1 25)) (C := RX12) (T := TX12) (N := 123) hx hb hts ii_X12 hown hK hP 0 rfl rfl 25 (by decide) (hts (.fieldLink RX12 314 "StoryHouseModel" "at" "I") wq_1381) (fun _ h9 => h9) rfl dX12_whatOf_8 ?_
  obtain ⟨x_1, ex_1, hF_2⟩ := bnd_e hF
  clear hF
  refine m_top ex_1 ?_
  obtain ⟨g_3, hF_4⟩ := nif_e hF_2
  clear hF_2
  refine va_iald (f := σ.2 8) hx hb hK hP 4 2 rfl rfl g_3 dX12_whatOf_11 ?_
  obtain ⟨u_5, hu_5, hF_6⟩ := Option.bind_eq_some_iff.mp hF_4
  clear hF_4
  refine m_ci hsz hS (va_runV (As := [.int 16, .int (σ.2 8 x_1.toNatClampNeg)]) (rest := []) ⟨hx, hb, hml, hown, hts⟩ (m_X12_node l dC dI cB cC cI cJ cZ cP h qK qS ad hDD s.heap.size  16 (σ.2 8 x_1.toNatClampNeg) σ _ hu_5) (cwV 2 hts (g_gV wq_1540 wq_1541 wq_2126 wq_13 wq_1542) rfl rfl rfl (by decide +kernel) ⟨Nat.le_of_ble_eq_true rfl, Nat.le_of_ble_eq_true rfl⟩) (m_preV g_bl0 hsz hK hP hS hE hKS g_to0) rfl rfl hl.1 rfl (lv_room (Nat.le_of_ble_eq_true rfl)) dX12_whatOf_12 ⟨Nat.le_of_ble_eq_true rfl, Nat.le_of_ble_eq_true rfl⟩) (fun H locs hP hS => ?_)
  refine lv_istore_n (lv' := [(1, .int u_5.1), (0, .ref h)]) hx hb dX12_whatOf_15 rfl hl (by decide) rfl (fun ls hl => ?_)
  refine lv_aload_n hx hb dX12_whatOf_16 rfl (lv_at hl 1 rfl) ?_
  obtain ⟨u_7, hu_7, hF_8⟩ := Option.bind_eq_some_iff.mp hF_6
  clear hF_6
  refine m_ci hsz hS (va_runV (As := []) (rest := []) ⟨hx, hb, hml, hown, hts⟩ (m_X12_direction l dC dI cB cC cI cJ cZ cP h qK qS ad hDD H.size  u_5.2 _ hu_7) (cwV 0 hts (g_gV wq_1576 wq_1577 wq_2138 wq_13 wq_1578) rfl rfl rfl (by decide +kernel) ⟨Nat.le_of_ble_eq_true rfl, Nat.le_of_ble_eq_true rfl⟩) (m_preV g_bl0 hsz hK hP hS hE hKS g_to0) rfl rfl hl.1 rfl (lv_room (Nat.le_of_ble_eq_true rfl)) dX12_whatOf_17 ⟨Nat.le_of_ble_eq_true rfl, Nat.le_of_ble_eq_true rfl⟩) (fun H locs hP hS => ?_)
  refine lv_istore_n (lv' := [(2, .int u_7.1), (1, .int u_5.1), (0, .ref h)]) hx hb dX12_whatOf_20 rfl hl (by decide) rfl (fun ls hl => ?_)
  refine lv_iload_n hx hb dX12_whatOf_21 rfl (lv_at hl 0 rfl) ?_
  refine lv_if_le (tgt := 42) hx hb dX12_whatOf_22 (by decide) (fun c_9 => ?_) (fun c_9 => ?_)
  · have hF_10 := ipos c_9 hF_8
    clear hF_8
    refine lv_aload_n hx hb dX12_whatOf_42 rfl (lv_at hl 2 rfl) ?_
    refine lv_iconst (v := 3) hx hb dX12_whatOf_43 (by decide +kernel) ?_
    obtain ⟨u_11, hu_11, hF_12⟩ := Option.bind_eq_some_iff.mp hF_10
    clear hF_10
    refine m_ci hsz hS (va_runV (As := [.int 3]) (rest := []) ⟨hx, hb, hml, hown, hts⟩ (m_X12_tookKey l dC dI cB cC cI cJ cZ cP h qK qS ad hDD H.size  3 u_7.2 _ hu_11) (cwV 1 hts (g_gV wq_1573 wq_1574 wq_2137 wq_13 wq_1575) rfl rfl rfl (by decide +kernel) ⟨Nat.le_of_ble_eq_true rfl, Nat.le_of_ble_eq_true rfl⟩) (m_preV g_bl0 hsz hK hP hS hE hKS g_to0) rfl rfl hl.1 rfl (lv_room (Nat.le_of_ble_eq_true rfl)) dX12_whatOf_44 ⟨Nat.le_of_ble_eq_true rfl, Nat.le_of_ble_eq_true rfl⟩) (fun H locs hP hS => ?_)
    refine lv_if_eq (tgt := 60) hx hb dX12_whatOf_47 (by decide) (fun c_13 => ?_) (fun c_13 => ?_)
    · have hF_14 := ipos c_13 hF_12
      clear hF_12
      refine lv_aload_n hx hb dX12_whatOf_60 rfl (lv_at hl 2 rfl) ?_
      refine lv_bipush (v := 30) hx hb dX12_whatOf_61 (by decide +kernel) ?_
      obtain ⟨u_15, hu_15, hF_16⟩ := Option.bind_eq_some_iff.mp hF_14
      clear hF_14
      refine m_ci hsz hS (va_runV (As := [.int 30]) (rest := []) ⟨hx, hb, hml, hown, hts⟩ (m_X12_tookKey l dC dI cB cC cI cJ cZ cP h qK qS ad hDD H.size  30 u_11.2 _ hu_15) (cwV 1 hts (g_gV wq_1573 wq_1574 wq_2137 wq_13 wq_1575) rfl rfl rfl (by decide +kernel) ⟨Nat.le_of_ble_eq_true rfl, Nat.le_of_ble_eq_true rfl⟩) (m_preV g_bl0 hsz hK hP hS hE hKS g_to0) rfl rfl hl.1 rfl (lv_room (Nat.le_of_ble_eq_true rfl)) dX12_whatOf_63 ⟨Nat.le_of_ble_eq_true rfl, Nat.le_of_ble_eq_true rfl⟩) (fun H locs hP hS => ?_)
      refine lv_if_eq (tgt := 79) hx hb dX12_whatOf_66 (by decide) (fun c_17 => ?_) (fun c_17 => ?_)
      · have hF_18 := ipos c_17 hF_16
        clear hF_16
        refine lv_aload_n hx hb dX12_whatOf_79 rfl (lv_at hl 2 rfl) ?_
        refine va_get (D := (dC, dI)) (ci := 12) (v := .ref (ad 19)) (C := RX12) (T := TX12) (N := 123) hx hb hts ii_X12 hown hK hP 0 rfl rfl 19 (by decide) (hts (.fieldLink RX12 55 "StoryHouseModel" "a" "[I") wq_1375) (fun _ h9 => h9) rfl dX12_whatOf_80 ?_
        refine lv_iload_n hx hb dX12_whatOf_83 rfl (lv_at hl 1 rfl) ?_
        refine lv_iconst (v := 1) hx hb dX12_whatOf_84 (by decide +kernel) ?_
        obtain ⟨g_19, hF_20⟩ := nif_e hF_18
        clear hF_18
        obtain ⟨σ_21, eσ_21, hF_22⟩ := bnd_e hF_20
        clear hF_20
        refine m_iast (σ' := σ_21) hx hb hK hP (hDD _ _) hS (q0 := 10) (t0 := 2) (f := u_15.2.2 19) rfl rfl (by rw [eσ_21]; exact mwA_19) g_19 dX12_whatOf_85 (fun H locs hP hS => ?_)
        refine lv_aload_n hx hb dX12_whatOf_86 rfl (lv_at hl 2 rfl) ?_
        refine va_get (D := (dC, dI)) (ci := 12) (v := .ref (ad 20)) (C := RX12) (T := TX12) (N := 123) hx hb hts ii_X12 hown hK hP 0 rfl rfl 20 (by decide) (hts (.fieldLink RX12 58 "StoryHouseModel" "b" "[I") wq_1376) (fun _ h9 => h9) rfl dX12_whatOf_87 ?_
        refine lv_iload_n hx hb dX12_whatOf_90 rfl (lv_at hl 1 rfl) ?_
        refine lv_aload_n hx hb dX12_whatOf_91 rfl (lv_at hl 2 rfl) ?_
        refine lv_iconst (v := 2) hx hb dX12_whatOf_92 (by decide +kernel) ?_
        obtain ⟨u_23, hu_23, hF_24⟩ := Option.bind_eq_some_iff.mp hF_22
        clear hF_22
        refine m_ci hsz hS (va_runV (As := [.int 2]) (rest := [.int u_5.1, .ref (ad 20)]) ⟨hx, hb, hml, hown, hts⟩ (m_X12_needKind l dC dI cB cC cI cJ cZ cP h qK qS ad hDD H.size  2 σ_21 _ hu_23) (cwV 1 hts (g_gV wq_1546 wq_1547 wq_2128 wq_13 wq_1548) rfl rfl rfl (by decide +kernel) ⟨Nat.le_of_ble_eq_true rfl, Nat.le_of_ble_eq_true rfl⟩) (m_preV g_bl0 hsz hK hP hS hE hKS g_to0) rfl rfl hl.1 rfl (lv_room (Nat.le_of_ble_eq_true rfl)) dX12_whatOf_93 ⟨Nat.le_of_ble_eq_true rfl, Nat.le_of_ble_eq_true rfl⟩) (fun H locs hP hS => ?_)
        obtain ⟨g_25, hF_26⟩ := nif_e hF_24
        clear hF_24
        obtain ⟨σ_27, eσ_27, hF_28⟩ := bnd_e hF_26
        clear hF_26
        refine m_iast (σ' := σ_27) hx hb hK hP (hDD _ _) hS (q0 := 11) (t0 := 2) (f := u_23.2.2 20) rfl rfl (by rw [eσ_27]; exact mwA_20) g_25 dX12_whatOf_96 (fun H locs hP hS => ?_)
        refine lv_iload_n hx hb dX12_whatOf_97 rfl (lv_at hl 1 rfl) ?_
        have h9 := Option.some.inj hF_28
        subst h9
        exact W.iret (v := u_5.1) hx hb hr (fun t ht hW => ⟨⟨u_5.1, (), rfl, rfl, m_end ht hP⟩, hS.F ht⟩) hS.2.2 dX12_whatOf_98
      · have hF_29 := ineg c_17 hF_16
        clear hF_16
        refine lv_aload_n hx hb dX12_whatOf_69 rfl (lv_at hl 2 rfl) ?_
        refine va_get (D := (dC, dI)) (ci := 12) (v := .ref (ad 19)) (C := RX12) (T := TX12) (N := 123) hx hb hts ii_X12 hown hK hP 0 rfl rfl 19 (by decide) (hts (.fieldLink RX12 55 "StoryHouseModel" "a" "[I") wq_1375) (fun _ h9 => h9) rfl dX12_whatOf_70 ?_
        refine lv_iload_n hx hb dX12_whatOf_73 rfl (lv_at hl 1 rfl) ?_
        refine lv_iconst (v := 2) hx hb dX12_whatOf_74 (by decide +kernel) ?_
        obtain ⟨g_30, hF_31⟩ := nif_e hF_29
        clear hF_29
        obtain ⟨σ_32, eσ_32, hF_33⟩ := bnd_e hF_31
        clear hF_31
        refine m_iast (σ' := σ_32) hx hb hK hP (hDD _ _) hS (q0 := 10) (t0 := 2) (f := u_15.2.2 19) rfl rfl (by rw [eσ_32]; exact mwA_19) g_30 dX12_whatOf_75 (fun H locs hP hS => ?_)
        refine lv_goto (tgt := 97) hx hb dX12_whatOf_76 (by decide) ?_
        refine lv_iload_n hx hb dX12_whatOf_97 rfl (lv_at hl 1 rfl) ?_
        have h9 := Option.some.inj hF_33
        subst h9
        exact W.iret (v := u_5.1) hx hb hr (fun t ht hW => ⟨⟨u_5.1, (), rfl, rfl, m_end ht hP⟩, hS.F ht⟩) hS.2.2 dX12_whatOf_98
    · have hF_34 := ineg c_13 hF_12
      clear hF_12
      refine lv_aload_n hx hb dX12_whatOf_50 rfl (lv_at hl 2 rfl) ?_
      refine va_get (D := (dC, dI)) (ci := 12) (v := .ref (ad 19)) (C := RX12) (T := TX12) (N := 123) hx hb hts ii_X12 hown hK hP 0 rfl rfl 19 (by decide) (hts (.fieldLink RX12 55 "StoryHouseModel" "a" "[I") wq_1375) (fun _ h9 => h9) rfl dX12_whatOf_51 ?_
      refine lv_iload_n hx hb dX12_whatOf_54 rfl (lv_at hl 1 rfl) ?_
      refine lv_iconst (v := 0) hx hb dX12_whatOf_55 (by decide +kernel) ?_
      obtain ⟨g_35, hF_36⟩ := nif_e hF_34
      clear hF_34
      obtain ⟨σ_37, eσ_37, hF_38⟩ := bnd_e hF_36
      clear hF_36
      refine m_iast (σ' := σ_37) hx hb hK hP (hDD _ _) hS (q0 := 10) (t0 := 2) (f := u_11.2.2 19) rfl rfl (by rw [eσ_37]; exact mwA_19) g_35 dX12_whatOf_56 (fun H locs hP hS => ?_)
      refine lv_goto (tgt := 97) hx hb dX12_whatOf_57 (by decide) ?_
      refine lv_iload_n hx hb dX12_whatOf_97 rfl (lv_at hl 1 rfl) ?_
      have h9 := Option.some.inj hF_38
      subst h9
      exact W.iret (v := u_5.1) hx hb hr (fun t ht hW => ⟨⟨u_5.1, (), rfl, rfl, m_end ht hP⟩, hS.F ht⟩) hS.2.2 dX12_whatOf_98
  · have hF_39 := ineg c_9 hF_8
    clear hF_8
    refine lv_aload_n hx hb dX12_whatOf_25 rfl (lv_at hl 2 rfl) ?_
    refine va_get (D := (dC, dI)) (ci := 12) (v := .ref (ad 19)) (C := RX12) (T := TX12) (N := 123) hx hb hts ii_X12 hown hK hP 0 rfl rfl 19 (by decide) (hts (.fieldLink RX12 55 "StoryHouseModel" "a" "[I") wq_1375) (fun _ h9 => h9) rfl dX12_whatOf_26 ?_
    refine lv_iload_n hx hb dX12_whatOf_29 rfl (lv_at hl 1 rfl) ?_
    refine lv_iconst (v := 3) hx hb dX12_whatOf_30 (by decide +kernel) ?_
    obtain ⟨g_40, hF_41⟩ := nif_e hF_39
    clear hF_39
    obtain ⟨σ_42, eσ_42, hF_43⟩ := bnd_e hF_41
    clear hF_41
    refine m_iast (σ' := σ_42) hx hb hK hP (hDD _ _) hS (q0 := 10) (t0 := 2) (f := u_7.2.2 19) rfl rfl (by rw [eσ_42]; exact mwA_19) g_40 dX12_whatOf_31 (fun H locs hP hS => ?_)
    refine lv_aload_n hx hb dX12_whatOf_32 rfl (lv_at hl 2 rfl) ?_
    refine va_get (D := (dC, dI)) (ci := 12) (v := .ref (ad 20)) (C := RX12) (T := TX12) (N := 123) hx hb hts ii_X12 hown hK hP 0 rfl rfl 20 (by decide) (hts (.fieldLink RX12 58 "StoryHouseModel" "b" "[I") wq_1376) (fun _ h9 => h9) rfl dX12_whatOf_33 ?_
    refine lv_iload_n hx hb dX12_whatOf_36 rfl (lv_at hl 1 rfl) ?_
    refine lv_iload_n hx hb dX12_whatOf_37 rfl (lv_at hl 0 rfl) ?_
    obtain ⟨g_44, hF_45⟩ := nif_e hF_43
    clear hF_43
    obtain ⟨σ_46, eσ_46, hF_47⟩ := bnd_e hF_45
    clear hF_45
    refine m_iast (σ' := σ_46) hx hb hK hP (hDD _ _) hS (q0 := 11) (t0 := 2) (f := σ_42.2 20) rfl rfl (by rw [eσ_46]; exact mwA_20) g_44 dX12_whatOf_38 (fun H locs hP hS => ?_)
    refine lv_goto (tgt := 97) hx hb dX12_whatOf_39 (by decide) ?_
    refine lv_iload_n hx hb dX12_whatOf_97 rfl (lv_at hl 1 rfl) ?_
    have h9 := Option.some.inj hF_47
    subst h9
    exact W.iret (v := u_5.1) hx hb hr (fun t ht hW => ⟨⟨u_5.1, (), rfl, rfl, m_end ht hP⟩, hS.F ht⟩) hS.2.2 dX12_whatOf_98
theorem dX12_item_0 : decode cX12_item 0 = .ok (.aload_n 0, 1) := by decide +kernel
theorem dX12_item_1 : decode cX12_item 1 = .ok (.getfield 31, 3) := by decide +kernel
theorem dX12_item_4 : decode cX12_item 4 = .ok (.aload_n 0, 1) := by decide +kernel
theorem dX12_item_5 : decode cX12_item 5 = .ok (.getfield 314, 3) := by decide +kernel
theorem dX12_item_8 : decode cX12_item 8 = .ok (.iaload, 1) := by decide +kernel
theorem dX12_item_9 : decode cX12_item 9 = .ok (.istore_n 1, 1) := by decide +kernel
theorem dX12_item_10 : decode cX12_item 10 = .ok (.aload_n 0, 1) := by decide +kernel
theorem dX12_item_11 : decode cX12_item 11 = .ok (.bipush 34, 2) := by decide +kernel
theorem dX12_item_13 : decode cX12_item 13 = .ok (.invokevirtual 324, 3) := by decide +kernel
theorem dX12_item_16 : decode cX12_item 16 = .ok (.ifCond .ne 12, 3) := by decide +kernel
theorem dX12_item_19 : decode cX12_item 19 = .ok (.aload_n 0, 1) := by decide +kernel
theorem dX12_item_20 : decode cX12_item 20 = .ok (.bipush 41, 2) := by decide +kernel
theorem dX12_item_22 : decode cX12_item 22 = .ok (.invokevirtual 324, 3) := by decide +kernel
theorem dX12_item_25 : decode cX12_item 25 = .ok (.ifCond .eq 27, 3) := by decide +kernel
theorem dX12_item_28 : decode cX12_item 28 = .ok (.aload_n 0, 1) := by decide +kernel
theorem dX12_item_29 : decode cX12_item 29 = .ok (.bipush 41, 2) := by decide +kernel
theorem dX12_item_31 : decode cX12_item 31 = .ok (.invokevirtual 324, 3) := by decide +kernel
theorem dX12_item_34 : decode cX12_item 34 = .ok (.istore_n 2, 1) := by decide +kernel
theorem dX12_item_35 : decode cX12_item 35 = .ok (.aload_n 0, 1) := by decide +kernel
theorem dX12_item_36 : decode cX12_item 36 = .ok (.dup, 1) := by decide +kernel
theorem dX12_item_37 : decode cX12_item 37 = .ok (.getfield 314, 3) := by decide +kernel
theorem dX12_item_40 : decode cX12_item 40 = .ok (.iconst 1, 1) := by decide +kernel
theorem dX12_item_41 : decode cX12_item 41 = .ok (.iadd, 1) := by decide +kernel
theorem dX12_item_42 : decode cX12_item 42 = .ok (.putfield 314, 3) := by decide +kernel
theorem dX12_item_45 : decode cX12_item 45 = .ok (.aload_n 0, 1) := by decide +kernel
theorem dX12_item_46 : decode cX12_item 46 = .ok (.iload_n 2, 1) := by decide +kernel
theorem dX12_item_47 : decode cX12_item 47 = .ok (.iload_n 1, 1) := by decide +kernel
theorem dX12_item_48 : decode cX12_item 48 = .ok (.invokevirtual 358, 3) := by decide +kernel
theorem dX12_item_51 : decode cX12_item 51 = .ok (.ireturn, 1) := by decide +kernel
theorem dX12_item_52 : decode cX12_item 52 = .ok (.aload_n 0, 1) := by decide +kernel
theorem dX12_item_53 : decode cX12_item 53 = .ok (.bipush 46, 2) := by decide +kernel
theorem dX12_item_55 : decode cX12_item 55 = .ok (.invokevirtual 333, 3) := by decide +kernel
theorem dX12_item_58 : decode cX12_item 58 = .ok (.ifCond .eq 9, 3) := by decide +kernel
theorem dX12_item_61 : decode cX12_item 61 = .ok (.aload_n 0, 1) := by decide +kernel
theorem dX12_item_62 : decode cX12_item 62 = .ok (.iload_n 1, 1) := by decide +kernel
theorem dX12_item_63 : decode cX12_item 63 = .ok (.invokevirtual 362, 3) := by decide +kernel
theorem dX12_item_66 : decode cX12_item 66 = .ok (.ireturn, 1) := by decide +kernel
theorem dX12_item_67 : decode cX12_item 67 = .ok (.aload_n 0, 1) := by decide +kernel
theorem dX12_item_68 : decode cX12_item 68 = .ok (.bipush 45, 2) := by decide +kernel
theorem dX12_item_70 : decode cX12_item 70 = .ok (.invokevirtual 333, 3) := by decide +kernel
theorem dX12_item_73 : decode cX12_item 73 = .ok (.ifCond .eq 66, 3) := by decide +kernel
theorem dX12_item_76 : decode cX12_item 76 = .ok (.aload_n 0, 1) := by decide +kernel
theorem dX12_item_77 : decode cX12_item 77 = .ok (.iconst 4, 1) := by decide +kernel
theorem dX12_item_78 : decode cX12_item 78 = .ok (.iload_n 1, 1) := by decide +kernel
theorem dX12_item_79 : decode cX12_item 79 = .ok (.invokevirtual 346, 3) := by decide +kernel
theorem dX12_item_82 : decode cX12_item 82 = .ok (.istore_n 2, 1) := by decide +kernel
theorem dX12_item_83 : decode cX12_item 83 = .ok (.aload_n 0, 1) := by decide +kernel
theorem dX12_item_84 : decode cX12_item 84 = .ok (.getfield 55, 3) := by decide +kernel
theorem dX12_item_87 : decode cX12_item 87 = .ok (.iload_n 2, 1) := by decide +kernel
theorem dX12_item_88 : decode cX12_item 88 = .ok (.aload_n 0, 1) := by decide +kernel
theorem dX12_item_89 : decode cX12_item 89 = .ok (.invokevirtual 365, 3) := by decide +kernel
theorem dX12_item_92 : decode cX12_item 92 = .ok (.iastore, 1) := by decide +kernel
theorem dX12_item_93 : decode cX12_item 93 = .ok (.aload_n 0, 1) := by decide +kernel
theorem dX12_item_94 : decode cX12_item 94 = .ok (.bipush 61, 2) := by decide +kernel
theorem dX12_item_96 : decode cX12_item 96 = .ok (.invokevirtual 342, 3) := by decide +kernel
theorem dX12_item_99 : decode cX12_item 99 = .ok (.aload_n 0, 1) := by decide +kernel
theorem dX12_item_100 : decode cX12_item 100 = .ok (.bipush 45, 2) := by decide +kernel
theorem dX12_item_102 : decode cX12_item 102 = .ok (.invokevirtual 327, 3) := by decide +kernel
theorem dX12_item_105 : decode cX12_item 105 = .ok (.istore_n 3, 1) := by decide +kernel
theorem dX12_item_106 : decode cX12_item 106 = .ok (.aload_n 0, 1) := by decide +kernel
theorem dX12_item_107 : decode cX12_item 107 = .ok (.iconst 3, 1) := by decide +kernel
theorem dX12_item_108 : decode cX12_item 108 = .ok (.invokevirtual 349, 3) := by decide +kernel
theorem dX12_item_111 : decode cX12_item 111 = .ok (.istore 4, 2) := by decide +kernel
theorem dX12_item_113 : decode cX12_item 113 = .ok (.aload_n 0, 1) := by decide +kernel
theorem dX12_item_114 : decode cX12_item 114 = .ok (.getfield 58, 3) := by decide +kernel
theorem dX12_item_117 : decode cX12_item 117 = .ok (.iload_n 2, 1) := by decide +kernel
theorem dX12_item_118 : decode cX12_item 118 = .ok (.iload_n 3, 1) := by decide +kernel
theorem dX12_item_119 : decode cX12_item 119 = .ok (.ifCond .eq 9, 3) := by decide +kernel
theorem dX12_item_122 : decode cX12_item 122 = .ok (.iload 4, 2) := by decide +kernel
theorem dX12_item_124 : decode cX12_item 124 = .ok (.ineg, 1) := by decide +kernel
theorem dX12_item_125 : decode cX12_item 125 = .ok (.goto 5, 3) := by decide +kernel
theorem dX12_item_128 : decode cX12_item 128 = .ok (.iload 4, 2) := by decide +kernel
theorem dX12_item_130 : decode cX12_item 130 = .ok (.iastore, 1) := by decide +kernel
theorem dX12_item_131 : decode cX12_item 131 = .ok (.aload_n 0, 1) := by decide +kernel
theorem dX12_item_132 : decode cX12_item 132 = .ok (.bipush 59, 2) := by decide +kernel
theorem dX12_item_134 : decode cX12_item 134 = .ok (.invokevirtual 342, 3) := by decide +kernel
theorem dX12_item_137 : decode cX12_item 137 = .ok (.iload_n 2, 1) := by decide +kernel
theorem dX12_item_138 : decode cX12_item 138 = .ok (.ireturn, 1) := by decide +kernel
theorem dX12_item_139 : decode cX12_item 139 = .ok (.aload_n 0, 1) := by decide +kernel
theorem dX12_item_140 : decode cX12_item 140 = .ok (.iconst 4, 1) := by decide +kernel
theorem dX12_item_141 : decode cX12_item 141 = .ok (.invokevirtual 333, 3) := by decide +kernel
theorem dX12_item_144 : decode cX12_item 144 = .ok (.ifCond .eq 77, 3) := by decide +kernel
theorem dX12_item_147 : decode cX12_item 147 = .ok (.aload_n 0, 1) := by decide +kernel
theorem dX12_item_148 : decode cX12_item 148 = .ok (.iconst 5, 1) := by decide +kernel
theorem dX12_item_149 : decode cX12_item 149 = .ok (.iload_n 1, 1) := by decide +kernel
theorem dX12_item_150 : decode cX12_item 150 = .ok (.invokevirtual 346, 3) := by decide +kernel
theorem dX12_item_153 : decode cX12_item 153 = .ok (.istore_n 2, 1) := by decide +kernel
theorem dX12_item_154 : decode cX12_item 154 = .ok (.aload_n 0, 1) := by decide +kernel
theorem dX12_item_155 : decode cX12_item 155 = .ok (.getfield 55, 3) := by decide +kernel
theorem dX12_item_158 : decode cX12_item 158 = .ok (.iload_n 2, 1) := by decide +kernel
theorem dX12_item_159 : decode cX12_item 159 = .ok (.aload_n 0, 1) := by decide +kernel
theorem dX12_item_160 : decode cX12_item 160 = .ok (.invokevirtual 365, 3) := by decide +kernel
theorem dX12_item_163 : decode cX12_item 163 = .ok (.iastore, 1) := by decide +kernel
theorem dX12_item_164 : decode cX12_item 164 = .ok (.aload_n 0, 1) := by decide +kernel
theorem dX12_item_165 : decode cX12_item 165 = .ok (.bipush 91, 2) := by decide +kernel
theorem dX12_item_167 : decode cX12_item 167 = .ok (.invokevirtual 368, 3) := by decide +kernel
theorem dX12_item_170 : decode cX12_item 170 = .ok (.aload_n 0, 1) := by decide +kernel
theorem dX12_item_171 : decode cX12_item 171 = .ok (.getfield 61, 3) := by decide +kernel
theorem dX12_item_174 : decode cX12_item 174 = .ok (.iload_n 2, 1) := by decide +kernel
theorem dX12_item_175 : decode cX12_item 175 = .ok (.aload_n 0, 1) := by decide +kernel
theorem dX12_item_176 : decode cX12_item 176 = .ok (.getfield 304, 3) := by decide +kernel
theorem dX12_item_179 : decode cX12_item 179 = .ok (.ifCond .eq 7, 3) := by decide +kernel
theorem dX12_item_182 : decode cX12_item 182 = .ok (.iconst 0, 1) := by decide +kernel
theorem dX12_item_183 : decode cX12_item 183 = .ok (.goto 12, 3) := by decide +kernel
theorem dX12_item_186 : decode cX12_item 186 = .ok (.aload_n 0, 1) := by decide +kernel
theorem dX12_item_187 : decode cX12_item 187 = .ok (.getfield 31, 3) := by decide +kernel
theorem dX12_item_190 : decode cX12_item 190 = .ok (.aload_n 0, 1) := by decide +kernel
theorem dX12_item_191 : decode cX12_item 191 = .ok (.getfield 314, 3) := by decide +kernel
theorem dX12_item_194 : decode cX12_item 194 = .ok (.iaload, 1) := by decide +kernel
theorem dX12_item_195 : decode cX12_item 195 = .ok (.iastore, 1) := by decide +kernel
theorem dX12_item_196 : decode cX12_item 196 = .ok (.aload_n 0, 1) := by decide +kernel
theorem dX12_item_197 : decode cX12_item 197 = .ok (.getfield 58, 3) := by decide +kernel
theorem dX12_item_200 : decode cX12_item 200 = .ok (.iload_n 2, 1) := by decide +kernel
theorem dX12_item_201 : decode cX12_item 201 = .ok (.aload_n 0, 1) := by decide +kernel
theorem dX12_item_202 : decode cX12_item 202 = .ok (.iconst 3, 1) := by decide +kernel
theorem dX12_item_203 : decode cX12_item 203 = .ok (.invokevirtual 349, 3) := by decide +kernel
theorem dX12_item_206 : decode cX12_item 206 = .ok (.iastore, 1) := by decide +kernel
theorem dX12_item_207 : decode cX12_item 207 = .ok (.aload_n 0, 1) := by decide +kernel
theorem dX12_item_208 : decode cX12_item 208 = .ok (.bipush 93, 2) := by decide +kernel
theorem dX12_item_210 : decode cX12_item 210 = .ok (.invokevirtual 371, 3) := by decide +kernel
theorem dX12_item_213 : decode cX12_item 213 = .ok (.aload_n 0, 1) := by decide +kernel
theorem dX12_item_214 : decode cX12_item 214 = .ok (.bipush 59, 2) := by decide +kernel
theorem dX12_item_216 : decode cX12_item 216 = .ok (.invokevirtual 342, 3) := by decide +kernel
theorem dX12_item_219 : decode cX12_item 219 = .ok (.iload_n 2, 1) := by decide +kernel
theorem dX12_item_220 : decode cX12_item 220 = .ok (.ireturn, 1) := by decide +kernel
theorem dX12_item_221 : decode cX12_item 221 = .ok (.aload_n 0, 1) := by decide +kernel
theorem dX12_item_222 : decode cX12_item 222 = .ok (.bipush 6, 2) := by decide +kernel
theorem dX12_item_224 : decode cX12_item 224 = .ok (.invokevirtual 333, 3) := by decide +kernel
theorem dX12_item_227 : decode cX12_item 227 = .ok (.ifCond .eq 72, 3) := by decide +kernel
theorem dX12_item_230 : decode cX12_item 230 = .ok (.aload_n 0, 1) := by decide +kernel
theorem dX12_item_231 : decode cX12_item 231 = .ok (.bipush 6, 2) := by decide +kernel
theorem dX12_item_233 : decode cX12_item 233 = .ok (.iload_n 1, 1) := by decide +kernel
theorem dX12_item_234 : decode cX12_item 234 = .ok (.invokevirtual 346, 3) := by decide +kernel
theorem dX12_item_237 : decode cX12_item 237 = .ok (.istore_n 2, 1) := by decide +kernel
theorem dX12_item_238 : decode cX12_item 238 = .ok (.aload_n 0, 1) := by decide +kernel
theorem dX12_item_239 : decode cX12_item 239 = .ok (.getfield 55, 3) := by decide +kernel
theorem dX12_item_242 : decode cX12_item 242 = .ok (.iload_n 2, 1) := by decide +kernel
theorem dX12_item_243 : decode cX12_item 243 = .ok (.aload_n 0, 1) := by decide +kernel
theorem dX12_item_244 : decode cX12_item 244 = .ok (.invokevirtual 365, 3) := by decide +kernel
theorem dX12_item_247 : decode cX12_item 247 = .ok (.iastore, 1) := by decide +kernel
theorem dX12_item_248 : decode cX12_item 248 = .ok (.aload_n 0, 1) := by decide +kernel
theorem dX12_item_249 : decode cX12_item 249 = .ok (.bipush 40, 2) := by decide +kernel
theorem dX12_item_251 : decode cX12_item 251 = .ok (.invokevirtual 368, 3) := by decide +kernel
theorem dX12_item_254 : decode cX12_item 254 = .ok (.aload_n 0, 1) := by decide +kernel
theorem dX12_item_255 : decode cX12_item 255 = .ok (.getfield 58, 3) := by decide +kernel
theorem dX12_item_258 : decode cX12_item 258 = .ok (.iload_n 2, 1) := by decide +kernel
theorem dX12_item_259 : decode cX12_item 259 = .ok (.aload_n 0, 1) := by decide +kernel
theorem dX12_item_260 : decode cX12_item 260 = .ok (.bipush 41, 2) := by decide +kernel
theorem dX12_item_262 : decode cX12_item 262 = .ok (.invokevirtual 321, 3) := by decide +kernel
theorem dX12_item_265 : decode cX12_item 265 = .ok (.ifCond .eq 7, 3) := by decide +kernel
theorem dX12_item_268 : decode cX12_item 268 = .ok (.iconst (-1), 1) := by decide +kernel
theorem dX12_item_269 : decode cX12_item 269 = .ok (.goto 7, 3) := by decide +kernel
theorem dX12_item_272 : decode cX12_item 272 = .ok (.aload_n 0, 1) := by decide +kernel
theorem dX12_item_273 : decode cX12_item 273 = .ok (.invokevirtual 374, 3) := by decide +kernel
theorem dX12_item_276 : decode cX12_item 276 = .ok (.iastore, 1) := by decide +kernel
theorem dX12_item_277 : decode cX12_item 277 = .ok (.aload_n 0, 1) := by decide +kernel
theorem dX12_item_278 : decode cX12_item 278 = .ok (.bipush 41, 2) := by decide +kernel
theorem dX12_item_280 : decode cX12_item 280 = .ok (.invokevirtual 371, 3) := by decide +kernel
theorem dX12_item_283 : decode cX12_item 283 = .ok (.aload_n 0, 1) := by decide +kernel
theorem dX12_item_284 : decode cX12_item 284 = .ok (.getfield 61, 3) := by decide +kernel
theorem dX12_item_287 : decode cX12_item 287 = .ok (.iload_n 2, 1) := by decide +kernel
theorem dX12_item_288 : decode cX12_item 288 = .ok (.aload_n 0, 1) := by decide +kernel
theorem dX12_item_289 : decode cX12_item 289 = .ok (.invokevirtual 377, 3) := by decide +kernel
theorem dX12_item_292 : decode cX12_item 292 = .ok (.iastore, 1) := by decide +kernel
theorem dX12_item_293 : decode cX12_item 293 = .ok (.aload_n 0, 1) := by decide +kernel
theorem dX12_item_294 : decode cX12_item 294 = .ok (.iload_n 2, 1) := by decide +kernel
theorem dX12_item_295 : decode cX12_item 295 = .ok (.invokevirtual 380, 3) := by decide +kernel
theorem dX12_item_298 : decode cX12_item 298 = .ok (.ireturn, 1) := by decide +kernel
theorem dX12_item_299 : decode cX12_item 299 = .ok (.aload_n 0, 1) := by decide +kernel
theorem dX12_item_300 : decode cX12_item 300 = .ok (.bipush 27, 2) := by decide +kernel
theorem dX12_item_302 : decode cX12_item 302 = .ok (.invokevirtual 333, 3) := by decide +kernel
theorem dX12_item_305 : decode cX12_item 305 = .ok (.ifCond .eq 103, 3) := by decide +kernel
theorem dX12_item_308 : decode cX12_item 308 = .ok (.aload_n 0, 1) := by decide +kernel
theorem dX12_item_309 : decode cX12_item 309 = .ok (.bipush 7, 2) := by decide +kernel
theorem dX12_item_311 : decode cX12_item 311 = .ok (.iload_n 1, 1) := by decide +kernel
theorem dX12_item_312 : decode cX12_item 312 = .ok (.invokevirtual 346, 3) := by decide +kernel
theorem dX12_item_315 : decode cX12_item 315 = .ok (.istore_n 2, 1) := by decide +kernel
theorem dX12_item_316 : decode cX12_item 316 = .ok (.aload_n 0, 1) := by decide +kernel
theorem dX12_item_317 : decode cX12_item 317 = .ok (.getfield 55, 3) := by decide +kernel
theorem dX12_item_320 : decode cX12_item 320 = .ok (.iload_n 2, 1) := by decide +kernel
theorem dX12_item_321 : decode cX12_item 321 = .ok (.aload_n 0, 1) := by decide +kernel
theorem dX12_item_322 : decode cX12_item 322 = .ok (.invokevirtual 365, 3) := by decide +kernel
theorem dX12_item_325 : decode cX12_item 325 = .ok (.iastore, 1) := by decide +kernel
theorem dX12_item_326 : decode cX12_item 326 = .ok (.iconst (-1), 1) := by decide +kernel
theorem dX12_item_327 : decode cX12_item 327 = .ok (.istore_n 3, 1) := by decide +kernel
theorem dX12_item_328 : decode cX12_item 328 = .ok (.iconst 0, 1) := by decide +kernel
theorem dX12_item_329 : decode cX12_item 329 = .ok (.istore 4, 2) := by decide +kernel
theorem dX12_item_331 : decode cX12_item 331 = .ok (.iload 4, 2) := by decide +kernel
theorem dX12_item_333 : decode cX12_item 333 = .ok (.iconst 2, 1) := by decide +kernel
theorem dX12_item_334 : decode cX12_item 334 = .ok (.if_icmp .ge 58, 3) := by decide +kernel
theorem dX12_item_337 : decode cX12_item 337 = .ok (.aload_n 0, 1) := by decide +kernel
theorem dX12_item_338 : decode cX12_item 338 = .ok (.getfield 304, 3) := by decide +kernel
theorem dX12_item_341 : decode cX12_item 341 = .ok (.ifCond .ne 51, 3) := by decide +kernel
theorem dX12_item_344 : decode cX12_item 344 = .ok (.aload_n 0, 1) := by decide +kernel
theorem dX12_item_345 : decode cX12_item 345 = .ok (.bipush 123, 2) := by decide +kernel
theorem dX12_item_347 : decode cX12_item 347 = .ok (.invokevirtual 321, 3) := by decide +kernel
theorem dX12_item_350 : decode cX12_item 350 = .ok (.ifCond .ne 42, 3) := by decide +kernel
theorem dX12_item_353 : decode cX12_item 353 = .ok (.aload_n 0, 1) := by decide +kernel
theorem dX12_item_354 : decode cX12_item 354 = .ok (.invokevirtual 383, 3) := by decide +kernel
theorem dX12_item_357 : decode cX12_item 357 = .ok (.istore 5, 2) := by decide +kernel
theorem dX12_item_359 : decode cX12_item 359 = .ok (.iload 4, 2) := by decide +kernel
theorem dX12_item_361 : decode cX12_item 361 = .ok (.ifCond .ne 14, 3) := by decide +kernel
theorem dX12_item_364 : decode cX12_item 364 = .ok (.aload_n 0, 1) := by decide +kernel
theorem dX12_item_365 : decode cX12_item 365 = .ok (.getfield 58, 3) := by decide +kernel
theorem dX12_item_368 : decode cX12_item 368 = .ok (.iload_n 2, 1) := by decide +kernel
theorem dX12_item_369 : decode cX12_item 369 = .ok (.iload 5, 2) := by decide +kernel
theorem dX12_item_371 : decode cX12_item 371 = .ok (.iastore, 1) := by decide +kernel
theorem dX12_item_372 : decode cX12_item 372 = .ok (.goto 11, 3) := by decide +kernel
theorem dX12_item_375 : decode cX12_item 375 = .ok (.aload_n 0, 1) := by decide +kernel
theorem dX12_item_376 : decode cX12_item 376 = .ok (.getfield 64, 3) := by decide +kernel
theorem dX12_item_379 : decode cX12_item 379 = .ok (.iload_n 3, 1) := by decide +kernel
theorem dX12_item_380 : decode cX12_item 380 = .ok (.iload 5, 2) := by decide +kernel
theorem dX12_item_382 : decode cX12_item 382 = .ok (.iastore, 1) := by decide +kernel
theorem dX12_item_383 : decode cX12_item 383 = .ok (.iload 5, 2) := by decide +kernel
theorem dX12_item_385 : decode cX12_item 385 = .ok (.istore_n 3, 1) := by decide +kernel
theorem dX12_item_386 : decode cX12_item 386 = .ok (.iinc 4 1, 3) := by decide +kernel
theorem dX12_item_389 : decode cX12_item 389 = .ok (.goto (-58), 3) := by decide +kernel
theorem dX12_item_392 : decode cX12_item 392 = .ok (.aload_n 0, 1) := by decide +kernel
theorem dX12_item_393 : decode cX12_item 393 = .ok (.getfield 61, 3) := by decide +kernel
theorem dX12_item_396 : decode cX12_item 396 = .ok (.iload_n 2, 1) := by decide +kernel
theorem dX12_item_397 : decode cX12_item 397 = .ok (.aload_n 0, 1) := by decide +kernel
theorem dX12_item_398 : decode cX12_item 398 = .ok (.invokevirtual 377, 3) := by decide +kernel
theorem dX12_item_401 : decode cX12_item 401 = .ok (.iastore, 1) := by decide +kernel
theorem dX12_item_402 : decode cX12_item 402 = .ok (.aload_n 0, 1) := by decide +kernel
theorem dX12_item_403 : decode cX12_item 403 = .ok (.iload_n 2, 1) := by decide +kernel
theorem dX12_item_404 : decode cX12_item 404 = .ok (.invokevirtual 380, 3) := by decide +kernel
theorem dX12_item_407 : decode cX12_item 407 = .ok (.ireturn, 1) := by decide +kernel
theorem dX12_item_408 : decode cX12_item 408 = .ok (.aload_n 0, 1) := by decide +kernel
theorem dX12_item_409 : decode cX12_item 409 = .ok (.bipush 9, 2) := by decide +kernel
theorem dX12_item_411 : decode cX12_item 411 = .ok (.invokevirtual 333, 3) := by decide +kernel
theorem dX12_item_414 : decode cX12_item 414 = .ok (.ifCond .eq 27, 3) := by decide +kernel
theorem dX12_item_417 : decode cX12_item 417 = .ok (.aload_n 0, 1) := by decide +kernel
theorem dX12_item_418 : decode cX12_item 418 = .ok (.bipush 8, 2) := by decide +kernel
theorem dX12_item_420 : decode cX12_item 420 = .ok (.iload_n 1, 1) := by decide +kernel
theorem dX12_item_421 : decode cX12_item 421 = .ok (.invokevirtual 346, 3) := by decide +kernel
theorem dX12_item_424 : decode cX12_item 424 = .ok (.istore_n 2, 1) := by decide +kernel
theorem dX12_item_425 : decode cX12_item 425 = .ok (.aload_n 0, 1) := by decide +kernel
theorem dX12_item_426 : decode cX12_item 426 = .ok (.getfield 61, 3) := by decide +kernel
theorem dX12_item_429 : decode cX12_item 429 = .ok (.iload_n 2, 1) := by decide +kernel
theorem dX12_item_430 : decode cX12_item 430 = .ok (.aload_n 0, 1) := by decide +kernel
theorem dX12_item_431 : decode cX12_item 431 = .ok (.invokevirtual 377, 3) := by decide +kernel
theorem dX12_item_434 : decode cX12_item 434 = .ok (.iastore, 1) := by decide +kernel
theorem dX12_item_435 : decode cX12_item 435 = .ok (.aload_n 0, 1) := by decide +kernel
theorem dX12_item_436 : decode cX12_item 436 = .ok (.iload_n 2, 1) := by decide +kernel
theorem dX12_item_437 : decode cX12_item 437 = .ok (.invokevirtual 380, 3) := by decide +kernel
theorem dX12_item_440 : decode cX12_item 440 = .ok (.ireturn, 1) := by decide +kernel
theorem dX12_item_441 : decode cX12_item 441 = .ok (.aload_n 0, 1) := by decide +kernel
theorem dX12_item_442 : decode cX12_item 442 = .ok (.invokevirtual 330, 3) := by decide +kernel
theorem dX12_item_445 : decode cX12_item 445 = .ok (.aload_n 0, 1) := by decide +kernel
theorem dX12_item_446 : decode cX12_item 446 = .ok (.bipush 8, 2) := by decide +kernel
theorem dX12_item_448 : decode cX12_item 448 = .ok (.iload_n 1, 1) := by decide +kernel
theorem dX12_item_449 : decode cX12_item 449 = .ok (.invokevirtual 346, 3) := by decide +kernel
theorem dX12_item_452 : decode cX12_item 452 = .ok (.ireturn, 1) := by decide +kernel
def F_X12_item  (σ : MS) : MR :=
  bnd ((σ.1 25)) fun (x_1 : Int32) =>
  if x_1 < 0 ∨ 16010 ≤ x_1.toNatClampNeg then none else
  bnd ((σ.2 8 x_1.toNatClampNeg)) fun (x_5 : Int32) =>
  (F_X12_isKey 34 σ).bind fun u_7 =>
  bnd (fun  (σ_9 : MS) => (
    (F_X12_isKey 41 σ_9).bind fun u_13 =>
    bnd (mI u_13.2 25 ((u_13.2.1 25) + 1)) fun σ_15 =>
    (F_X12_place u_13.1 x_5 σ_15).bind fun u_17 =>
    some (u_17.1, u_17.2)
  ) : MS → MR) fun j_10 =>
  if u_7.1 = 0 then (
    (F_X12_isKey 41 u_7.2).bind fun u_21 =>
    if u_21.1 = 0 then (
      (F_X12_tookKey 46 u_21.2).bind fun u_25 =>
      if u_25.1 = 0 then (
        (F_X12_tookKey 45 u_25.2).bind fun u_29 =>
        if u_29.1 = 0 then (
          (F_X12_tookKey 4 u_29.2).bind fun u_33 =>
          if u_33.1 = 0 then (
            (F_X12_tookKey 6 u_33.2).bind fun u_37 =>
            if u_37.1 = 0 then (
              (F_X12_tookKey 27 u_37.2).bind fun u_41 =>
              if u_41.1 = 0 then (
                (F_X12_tookKey 9 u_41.2).bind fun u_45 =>
                if u_45.1 = 0 then (
                  (F_X12_unfit u_45.2).bind fun u_49 =>
                  (F_X12_node 8 x_5 u_49.2).bind fun u_51 =>
                  some (u_51.1, u_51.2)
                ) else (
                  (F_X12_node 8 x_5 u_45.2).bind fun u_54 =>
                  (G_X12_block u_54.2).bind fun u_56 =>
                  if u_54.1 < 0 ∨ 40000 ≤ u_54.1.toNatClampNeg then none else
                  bnd (mA u_56.2 21 (upd (u_56.2.2 21) u_54.1.toNatClampNeg u_56.1)) fun σ_60 =>
                  (F_X12_ended u_54.1 σ_60).bind fun u_62 =>
                  some (u_62.1, u_62.2)
                )
              ) else (
                (F_X12_node 7 x_5 u_41.2).bind fun u_65 =>
                (F_X12_name u_65.2).bind fun u_67 =>
                if u_65.1 < 0 ∨ 40000 ≤ u_65.1.toNatClampNeg then none else
                bnd (mA u_67.2 19 (upd (u_67.2.2 19) u_65.1.toNatClampNeg u_67.1)) fun σ_71 =>
                loopF (fun (again_74 : (Int32 × Int32 × MS) → MR) (s_73 : Int32 × Int32 × MS) => (
                  bnd (fun  (σ_77 : MS) => (
                    (G_X12_block σ_77).bind fun u_81 =>
                    if u_65.1 < 0 ∨ 40000 ≤ u_65.1.toNatClampNeg then none else
                    bnd (mA u_81.2 21 (upd (u_81.2.2 21) u_65.1.toNatClampNeg u_81.1)) fun σ_85 =>
                    (F_X12_ended u_65.1 σ_85).bind fun u_87 =>
                    some (u_87.1, u_87.2)
                  ) : MS → MR) fun j_78 =>
                  if 2 ≤ s_73.2.1 then (
                    j_78  s_73.2.2
                  ) else (
                    if (s_73.2.2.1 27) = 0 then (
                      (F_X12_isSign 123 s_73.2.2).bind fun u_94 =>
                      if u_94.1 = 0 then (
                        (F_X12_whatOf u_94.2).bind fun u_98 =>
                        bnd (fun  (σ_100 : MS) => (
                          bnd (s_73.2.1 + 1) fun (x_104 : Int32) =>
                          again_74 (u_98.1, x_104, σ_100)
                        ) : MS → MR) fun j_101 =>
                        if s_73.2.1 = 0 then (
                          if u_65.1 < 0 ∨ 40000 ≤ u_65.1.toNatClampNeg then none else
                          bnd (mA u_98.2 20 (upd (u_98.2.2 20) u_65.1.toNatClampNeg u_98.1)) fun σ_110 =>
                          j_101  σ_110
                        ) else (
                          if s_73.1 < 0 ∨ 40000 ≤ s_73.1.toNatClampNeg then none else
                          bnd (mA u_98.2 22 (upd (u_98.2.2 22) s_73.1.toNatClampNeg u_98.1)) fun σ_115 =>
                          j_101  σ_115
                        )
                      ) else (
                        j_78  u_94.2
                      )
                    ) else (
                      j_78  s_73.2.2
                    )
                  )
                )) FU ((-1), 0, σ_71)
              )
            ) else (
              (F_X12_node 6 x_5 u_37.2).bind fun u_120 =>
              (F_X12_name u_120.2).bind fun u_122 =>
              if u_120.1 < 0 ∨ 40000 ≤ u_120.1.toNatClampNeg then none else
              bnd (mA u_122.2 19 (upd (u_122.2.2 19) u_120.1.toNatClampNeg u_122.1)) fun σ_126 =>
              (F_X12_open 40 σ_126).bind fun u_128 =>
              (F_X12_isSign 41 u_128.2).bind fun u_130 =>
              bnd (fun (t_132 : Int32) (σ_133 : MS) => (
                if u_120.1 < 0 ∨ 40000 ≤ u_120.1.toNatClampNeg then none else
                bnd (mA σ_133 20 (upd (σ_133.2 20) u_120.1.toNatClampNeg t_132)) fun σ_139 =>
                (F_X12_shut 41 σ_139).bind fun u_141 =>
                (G_X12_block u_141.2).bind fun u_143 =>
                if u_120.1 < 0 ∨ 40000 ≤ u_120.1.toNatClampNeg then none else
                bnd (mA u_143.2 21 (upd (u_143.2.2 21) u_120.1.toNatClampNeg u_143.1)) fun σ_147 =>
                (F_X12_ended u_120.1 σ_147).bind fun u_149 =>
                some (u_149.1, u_149.2)
              ) : Int32 → MS → MR) fun j_134 =>
              if u_130.1 = 0 then (
                (F_X12_row u_130.2).bind fun u_153 =>
                j_134 u_153.1 u_153.2
              ) else (
                j_134 (-1) u_130.2
              )
            )
          ) else (
            (F_X12_node 5 x_5 u_33.2).bind fun u_157 =>
            (F_X12_name u_157.2).bind fun u_159 =>
            if u_157.1 < 0 ∨ 40000 ≤ u_157.1.toNatClampNeg then none else
            bnd (mA u_159.2 19 (upd (u_159.2.2 19) u_157.1.toNatClampNeg u_159.1)) fun σ_163 =>
            (F_X12_open 91 σ_163).bind fun u_165 =>
            bnd (fun (t_167 : Int32) (σ_168 : MS) => (
              if u_157.1 < 0 ∨ 40000 ≤ u_157.1.toNatClampNeg then none else
              bnd (mA σ_168 21 (upd (σ_168.2 21) u_157.1.toNatClampNeg t_167)) fun σ_174 =>
              (F_X12_needKind 3 σ_174).bind fun u_176 =>
              if u_157.1 < 0 ∨ 40000 ≤ u_157.1.toNatClampNeg then none else
              bnd (mA u_176.2 20 (upd (u_176.2.2 20) u_157.1.toNatClampNeg u_176.1)) fun σ_180 =>
              (F_X12_shut 93 σ_180).bind fun u_182 =>
              (F_X12_need 59 u_182.2).bind fun u_184 =>
              some (u_157.1, u_184.2)
            ) : Int32 → MS → MR) fun j_169 =>
            if (u_165.2.1 27) = 0 then (
              bnd ((u_165.2.1 25)) fun (x_188 : Int32) =>
              if x_188 < 0 ∨ 16010 ≤ x_188.toNatClampNeg then none else
              j_169 (u_165.2.2 8 x_188.toNatClampNeg) u_165.2
            ) else (
              j_169 0 u_165.2
            )
          )
        ) else (
          (F_X12_node 4 x_5 u_29.2).bind fun u_194 =>
          (F_X12_name u_194.2).bind fun u_196 =>
          if u_194.1 < 0 ∨ 40000 ≤ u_194.1.toNatClampNeg then none else
          bnd (mA u_196.2 19 (upd (u_196.2.2 19) u_194.1.toNatClampNeg u_196.1)) fun σ_200 =>
          (F_X12_need 61 σ_200).bind fun u_202 =>
          (F_X12_took 45 u_202.2).bind fun u_204 =>
          (F_X12_needKind 3 u_204.2).bind fun u_206 =>
          bnd (fun (t_208 : Int32) (σ_209 : MS) => (
            if u_194.1 < 0 ∨ 40000 ≤ u_194.1.toNatClampNeg then none else
            bnd (mA σ_209 20 (upd (σ_209.2 20) u_194.1.toNatClampNeg t_208)) fun σ_215 =>
            (F_X12_need 59 σ_215).bind fun u_217 =>
            some (u_194.1, u_217.2)
          ) : Int32 → MS → MR) fun j_210 =>
          if u_204.1 = 0 then (
            j_210 u_206.1 u_206.2
          ) else (
            j_210 (-u_206.1) u_206.2
          )
        )
      ) else (
        (F_X12_verb x_5 u_25.2).bind fun u_223 =>
        some (u_223.1, u_223.2)
      )
    ) else (
      j_10  u_21.2
    )
  ) else (
    j_10  u_7.2
  )
set_option maxHeartbeats 4000000 in
set_option maxRecDepth 100000 in
theorem m_X12_item (l : Launch) (dC : Nat → ClassId) (dI : Nat → Nat → Nat) (cB cC cI cJ cZ cP : ClassId) (h qK qS : Nat) (ad : Nat → Nat) (hDD : mDis cB cI cZ h qK qS ad) (sz : Nat)   (σ : MS) (res : Int32 × MS) (hF : F_X12_item  σ = some res) : Met l yX12_item (g_ws yX12_item cX12_item 6 (some .int)) ({ frames := 408, cells := 0, slots := 0, locals := 9493 }) (va_Pc [.ref h] (m_B (dC, dI) [(cB, .byte), (cC, .char), (cI, .int), (cJ, .long), (cZ, .boolean), (cP, .object "StoryHouse$Play")] sz h ad qK qS (mW cB cI cZ h qK qS ad σ) g_0)) (va_Qi (fun r (_ : Unit) => r = res.1) (fun _ t => va_P (dC, dI) vwCl (mW cB cI cZ h qK qS ad res.2) t.heap) (mCells h ad sz)) 0 0 (mCells h ad sz) := by
  refine Met.ofW (cc := cX12_item) (maxL := 6) (ret := (some .int)) (by decide) rfl ?_
  intro p e s m args below meth c s₁ B hml hv
  obtain ⟨rfl, hsz, hP, hK, hE, hKS, hX⟩ := hv
  have hx := B.exec
  have hb := B.bytes
  have hr := B.returns
  have hts0 := atoms_spec (ws := g_ws yX12_item cX12_item 6 (some .int)) B.pre
  have hts : ∀ w ∈ lw_good, w.before ([.ref h] : List Value).toArray s = true := fun w z => hts0 w (List.mem_cons_of_mem _ z)
  have hown : s.vm.findClass RX12 = some m.cls := findClass_of_methodNamed B.named
  have hlocks := B.notSynchronized
  have hS : va_S (mCells h ad sz) s.heap s.heap [] := va_S.rf
  have hl := lv_entry ([.ref h]) (n := 6) (Nat.le_of_ble_eq_true rfl)
  rw [lg_entry_eq]
  generalize (lg_sl ([.ref h]) ++ List.replicate (6 - (lg_sl ([.ref h])).length) Slot.unset).toArray = ls at hl ⊢
  have hl : lv_has ls 6 [(0, .ref h)] := hl
  unfold F_X12_item at hF
  refine lv_aload_n hx hb dX12_item_0 rfl (lv_at hl 0 rfl) ?_
  refine va_get (D := (dC, dI)) (ci := 12) (v := .ref (ad 8)) (C := RX12) (T := TX12) (N := 123) hx hb hts ii_X12 hown hK hP 0 rfl rfl 8 (by decide) (hts (.fieldLink RX12 31 "StoryHouseModel" "tokAt" "[I") wq_1364) (fun _ h9 => h9) rfl dX12_item_1 ?_
  refine lv_aload_n hx hb dX12_item_4 rfl (lv_at hl 0 rfl) ?_
  refine va_get (D := (dC, dI)) (ci := 12) (v := .int (σ.1 25)) (C := RX12) (T := TX12) (N := 123) hx hb hts ii_X12 hown hK hP 0 rfl rfl 25 (by decide) (hts (.fieldLink RX12 314 "StoryHouseModel" "at" "I") wq_1381) (fun _ h9 => h9) rfl dX12_item_5 ?_
  obtain ⟨x_1, ex_1, hF_2⟩ := bnd_e hF
  clear hF
  refine m_top ex_1 ?_
  obtain ⟨g_3, hF_4⟩ := nif_e hF_2
  clear hF_2
  refine va_iald (f := σ.2 8) hx hb hK hP 4 2 rfl rfl g_3 dX12_item_8 ?_
  obtain ⟨x_5, ex_5, hF_6⟩ := bnd_e hF_4
  clear hF_4
  refine m_top ex_5 ?_
  refine lv_istore_n (lv' := [(1, .int x_5), (0, .ref h)]) hx hb dX12_item_9 rfl hl (by decide) rfl (fun ls hl => ?_)
  refine lv_aload_n hx hb dX12_item_10 rfl (lv_at hl 1 rfl) ?_
  refine lv_bipush (v := 34) hx hb dX12_item_11 (by decide +kernel) ?_
  obtain ⟨u_7, hu_7, hF_8⟩ := Option.bind_eq_some_iff.mp hF_6
  clear hF_6
  refine m_ci hsz hS (va_runV (As := [.int 34]) (rest := []) ⟨hx, hb, hml, hown, hts⟩ (m_X12_isKey l dC dI cB cC cI cJ cZ cP h qK qS ad hDD s.heap.size  34 σ _ hu_7) (cwV 1 hts (g_gV wq_1534 wq_1535 wq_2124 wq_13 wq_1536) rfl rfl rfl (by decide +kernel) ⟨Nat.le_of_ble_eq_true rfl, Nat.le_of_ble_eq_true rfl⟩) (m_preV g_bl0 hsz hK hP hS hE hKS g_to0) rfl rfl hl.1 rfl (lv_room (Nat.le_of_ble_eq_true rfl)) dX12_item_13 ⟨Nat.le_of_ble_eq_true rfl, Nat.le_of_ble_eq_true rfl⟩) (fun H locs hP hS => ?_)
  obtain ⟨j_10, ej_10, hF_11⟩ := bnd_e hF_8
  clear hF_8
  have Jj_10 : ∀  (σ_9 : MS), j_10  σ_9 = some res → ∀ (H : Heap) (locs : List Loc), va_P (dC, dI) vwCl (mW cB cI cZ h qK qS ad σ_9) H → va_S (mCells h ad sz) s.heap H locs → ∀ ls : Array Slot, lv_has ls 6 [(0, .ref h), (1, .int x_5)] → W p l e (headSpec (g_ws yX12_item cX12_item 6 (some .int)) { frames := 408, cells := 0, slots := 0, locals := 9493 }).room s m ([.ref h] : List Value).toArray below meth c H locs 0 0 (MQ below (va_Qi (fun r (_ : Unit) => r = res.1) (fun _ t => va_P (dC, dI) vwCl (mW cB cI cZ h qK qS ad res.2) t.heap) (mCells h ad sz)) ([.ref h] : List Value).toArray s 0 0 (mCells h ad sz)) (F0 m 28 ls []) := by
    intro  σ_9 hF0 H locs hP hS ls hl
    subst ej_10
    have hF_12 := hF0
    clear hF0
    refine lv_aload_n hx hb dX12_item_28 rfl (lv_at hl 0 rfl) ?_
    refine lv_bipush (v := 41) hx hb dX12_item_29 (by decide +kernel) ?_
    obtain ⟨u_13, hu_13, hF_14⟩ := Option.bind_eq_some_iff.mp hF_12
    clear hF_12
    refine m_ci hsz hS (va_runV (As := [.int 41]) (rest := []) ⟨hx, hb, hml, hown, hts⟩ (m_X12_isKey l dC dI cB cC cI cJ cZ cP h qK qS ad hDD H.size  41 σ_9 _ hu_13) (cwV 1 hts (g_gV wq_1534 wq_1535 wq_2124 wq_13 wq_1536) rfl rfl rfl (by decide +kernel) ⟨Nat.le_of_ble_eq_true rfl, Nat.le_of_ble_eq_true rfl⟩) (m_preV g_bl0 hsz hK hP hS hE hKS g_to0) rfl rfl hl.1 rfl (lv_room (Nat.le_of_ble_eq_true rfl)) dX12_item_31 ⟨Nat.le_of_ble_eq_true rfl, Nat.le_of_ble_eq_true rfl⟩) (fun H locs hP hS => ?_)
    refine lv_istore_n (lv' := [(2, .int u_13.1), (0, .ref h), (1, .int x_5)]) hx hb dX12_item_34 rfl hl (by decide) rfl (fun ls hl => ?_)
    refine lv_aload_n hx hb dX12_item_35 rfl (lv_at hl 1 rfl) ?_
    refine lv_dup hx hb dX12_item_36 rfl ?_
    refine va_get (D := (dC, dI)) (ci := 12) (v := .int (u_13.2.1 25)) (C := RX12) (T := TX12) (N := 123) hx hb hts ii_X12 hown hK hP 0 rfl rfl 25 (by decide) (hts (.fieldLink RX12 314 "StoryHouseModel" "at" "I") wq_1381) (fun _ h9 => h9) rfl dX12_item_37 ?_
    refine lv_iconst (v := 1) hx hb dX12_item_40 (by decide +kernel) ?_
    refine lv_iadd hx hb dX12_item_41 ?_
    obtain ⟨σ_15, eσ_15, hF_16⟩ := bnd_e hF_14
    clear hF_14
    refine m_put (σ' := σ_15) (v := .int ((u_13.2.1 25) + 1)) (ty := .int) hx hb hts hown hK hP (hDD _ _) hS (by rw [eσ_15]; exact mwI_25) (k := 25) (by decide) (hts (.fieldLink RX12 314 "StoryHouseModel" "at" "I") wq_1381) (fun _ h9 => h9) rfl (by decide +kernel) rfl rfl dX12_item_42 (fun H locs hP hS => ?_)
    refine lv_aload_n hx hb dX12_item_45 rfl (lv_at hl 1 rfl) ?_
    refine lv_iload_n hx hb dX12_item_46 rfl (lv_at hl 0 rfl) ?_
    refine lv_iload_n hx hb dX12_item_47 rfl (lv_at hl 2 rfl) ?_
    obtain ⟨u_17, hu_17, hF_18⟩ := Option.bind_eq_some_iff.mp hF_16
    clear hF_16
    refine m_ci hsz hS (va_runV (As := [.int u_13.1, .int x_5]) (rest := []) ⟨hx, hb, hml, hown, hts⟩ (m_X12_place l dC dI cB cC cI cJ cZ cP h qK qS ad hDD H.size  u_13.1 x_5 σ_15 _ hu_17) (cwV 2 hts (g_gV wq_1537 wq_1538 wq_2125 wq_13 wq_1539) rfl rfl rfl (by decide +kernel) ⟨Nat.le_of_ble_eq_true rfl, Nat.le_of_ble_eq_true rfl⟩) (m_preV g_bl0 hsz hK hP hS hE hKS g_to0) rfl rfl hl.1 rfl (lv_room (Nat.le_of_ble_eq_true rfl)) dX12_item_48 ⟨Nat.le_of_ble_eq_true rfl, Nat.le_of_ble_eq_true rfl⟩) (fun H locs hP hS => ?_)
    have h9 := Option.some.inj hF_18
    subst h9
    exact W.iret (v := u_17.1) hx hb hr (fun t ht hW => ⟨⟨u_17.1, (), rfl, rfl, m_end ht hP⟩, hS.F ht⟩) hS.2.2 dX12_item_51
  refine lv_if_ne (tgt := 28) hx hb dX12_item_16 (by decide) (fun c_19 => ?_) (fun c_19 => ?_)
  · have hF_226 := ineg c_19 hF_11
    clear hF_11
    exact Jj_10  u_7.2 hF_226 _ _ hP hS ls (lv_sub hl [1, 0] rfl)
  · have hF_20 := ipos c_19 hF_11
    clear hF_11
    refine lv_aload_n hx hb dX12_item_19 rfl (lv_at hl 1 rfl) ?_
    refine lv_bipush (v := 41) hx hb dX12_item_20 (by decide +kernel) ?_
    obtain ⟨u_21, hu_21, hF_22⟩ := Option.bind_eq_some_iff.mp hF_20
    clear hF_20
    refine m_ci hsz hS (va_runV (As := [.int 41]) (rest := []) ⟨hx, hb, hml, hown, hts⟩ (m_X12_isKey l dC dI cB cC cI cJ cZ cP h qK qS ad hDD H.size  41 u_7.2 _ hu_21) (cwV 1 hts (g_gV wq_1534 wq_1535 wq_2124 wq_13 wq_1536) rfl rfl rfl (by decide +kernel) ⟨Nat.le_of_ble_eq_true rfl, Nat.le_of_ble_eq_true rfl⟩) (m_preV g_bl0 hsz hK hP hS hE hKS g_to0) rfl rfl hl.1 rfl (lv_room (Nat.le_of_ble_eq_true rfl)) dX12_item_22 ⟨Nat.le_of_ble_eq_true rfl, Nat.le_of_ble_eq_true rfl⟩) (fun H locs hP hS => ?_)
    refine lv_if_eq (tgt := 52) hx hb dX12_item_25 (by decide) (fun c_23 => ?_) (fun c_23 => ?_)
    · have hF_24 := ipos c_23 hF_22
      clear hF_22
      refine lv_aload_n hx hb dX12_item_52 rfl (lv_at hl 1 rfl) ?_
      refine lv_bipush (v := 46) hx hb dX12_item_53 (by decide +kernel) ?_
      obtain ⟨u_25, hu_25, hF_26⟩ := Option.bind_eq_some_iff.mp hF_24
      clear hF_24
      refine m_ci hsz hS (va_runV (As := [.int 46]) (rest := []) ⟨hx, hb, hml, hown, hts⟩ (m_X12_tookKey l dC dI cB cC cI cJ cZ cP h qK qS ad hDD H.size  46 u_21.2 _ hu_25) (cwV 1 hts (g_gV wq_1573 wq_1574 wq_2137 wq_13 wq_1575) rfl rfl rfl (by decide +kernel) ⟨Nat.le_of_ble_eq_true rfl, Nat.le_of_ble_eq_true rfl⟩) (m_preV g_bl0 hsz hK hP hS hE hKS g_to0) rfl rfl hl.1 rfl (lv_room (Nat.le_of_ble_eq_true rfl)) dX12_item_55 ⟨Nat.le_of_ble_eq_true rfl, Nat.le_of_ble_eq_true rfl⟩) (fun H locs hP hS => ?_)
      refine lv_if_eq (tgt := 67) hx hb dX12_item_58 (by decide) (fun c_27 => ?_) (fun c_27 => ?_)
      · have hF_28 := ipos c_27 hF_26
        clear hF_26
        refine lv_aload_n hx hb dX12_item_67 rfl (lv_at hl 1 rfl) ?_
        refine lv_bipush (v := 45) hx hb dX12_item_68 (by decide +kernel) ?_
        obtain ⟨u_29, hu_29, hF_30⟩ := Option.bind_eq_some_iff.mp hF_28
        clear hF_28
        refine m_ci hsz hS (va_runV (As := [.int 45]) (rest := []) ⟨hx, hb, hml, hown, hts⟩ (m_X12_tookKey l dC dI cB cC cI cJ cZ cP h qK qS ad hDD H.size  45 u_25.2 _ hu_29) (cwV 1 hts (g_gV wq_1573 wq_1574 wq_2137 wq_13 wq_1575) rfl rfl rfl (by decide +kernel) ⟨Nat.le_of_ble_eq_true rfl, Nat.le_of_ble_eq_true rfl⟩) (m_preV g_bl0 hsz hK hP hS hE hKS g_to0) rfl rfl hl.1 rfl (lv_room (Nat.le_of_ble_eq_true rfl)) dX12_item_70 ⟨Nat.le_of_ble_eq_true rfl, Nat.le_of_ble_eq_true rfl⟩) (fun H locs hP hS => ?_)
        refine lv_if_eq (tgt := 139) hx hb dX12_item_73 (by decide) (fun c_31 => ?_) (fun c_31 => ?_)
        · have hF_32 := ipos c_31 hF_30
          clear hF_30
          refine lv_aload_n hx hb dX12_item_139 rfl (lv_at hl 1 rfl) ?_
          refine lv_iconst (v := 4) hx hb dX12_item_140 (by decide +kernel) ?_
          obtain ⟨u_33, hu_33, hF_34⟩ := Option.bind_eq_some_iff.mp hF_32
          clear hF_32
          refine m_ci hsz hS (va_runV (As := [.int 4]) (rest := []) ⟨hx, hb, hml, hown, hts⟩ (m_X12_tookKey l dC dI cB cC cI cJ cZ cP h qK qS ad hDD H.size  4 u_29.2 _ hu_33) (cwV 1 hts (g_gV wq_1573 wq_1574 wq_2137 wq_13 wq_1575) rfl rfl rfl (by decide +kernel) ⟨Nat.le_of_ble_eq_true rfl, Nat.le_of_ble_eq_true rfl⟩) (m_preV g_bl0 hsz hK hP hS hE hKS g_to0) rfl rfl hl.1 rfl (lv_room (Nat.le_of_ble_eq_true rfl)) dX12_item_141 ⟨Nat.le_of_ble_eq_true rfl, Nat.le_of_ble_eq_true rfl⟩) (fun H locs hP hS => ?_)
          refine lv_if_eq (tgt := 221) hx hb dX12_item_144 (by decide) (fun c_35 => ?_) (fun c_35 => ?_)
          · have hF_36 := ipos c_35 hF_34
            clear hF_34
            refine lv_aload_n hx hb dX12_item_221 rfl (lv_at hl 1 rfl) ?_
            refine lv_bipush (v := 6) hx hb dX12_item_222 (by decide +kernel) ?_
            obtain ⟨u_37, hu_37, hF_38⟩ := Option.bind_eq_some_iff.mp hF_36
            clear hF_36
            refine m_ci hsz hS (va_runV (As := [.int 6]) (rest := []) ⟨hx, hb, hml, hown, hts⟩ (m_X12_tookKey l dC dI cB cC cI cJ cZ cP h qK qS ad hDD H.size  6 u_33.2 _ hu_37) (cwV 1 hts (g_gV wq_1573 wq_1574 wq_2137 wq_13 wq_1575) rfl rfl rfl (by decide +kernel) ⟨Nat.le_of_ble_eq_true rfl, Nat.le_of_ble_eq_true rfl⟩) (m_preV g_bl0 hsz hK hP hS hE hKS g_to0) rfl rfl hl.1 rfl (lv_room (Nat.le_of_ble_eq_true rfl)) dX12_item_224 ⟨Nat.le_of_ble_eq_true rfl, Nat.le_of_ble_eq_true rfl⟩) (fun H locs hP hS => ?_)
            refine lv_if_eq (tgt := 299) hx hb dX12_item_227 (by decide) (fun c_39 => ?_) (fun c_39 => ?_)
            · have hF_40 := ipos c_39 hF_38
              clear hF_38
              refine lv_aload_n hx hb dX12_item_299 rfl (lv_at hl 1 rfl) ?_
              refine lv_bipush (v := 27) hx hb dX12_item_300 (by decide +kernel) ?_
              obtain ⟨u_41, hu_41, hF_42⟩ := Option.bind_eq_some_iff.mp hF_40
              clear hF_40
              refine m_ci hsz hS (va_runV (As := [.int 27]) (rest := []) ⟨hx, hb, hml, hown, hts⟩ (m_X12_tookKey l dC dI cB cC cI cJ cZ cP h qK qS ad hDD H.size  27 u_37.2 _ hu_41) (cwV 1 hts (g_gV wq_1573 wq_1574 wq_2137 wq_13 wq_1575) rfl rfl rfl (by decide +kernel) ⟨Nat.le_of_ble_eq_true rfl, Nat.le_of_ble_eq_true rfl⟩) (m_preV g_bl0 hsz hK hP hS hE hKS g_to0) rfl rfl hl.1 rfl (lv_room (Nat.le_of_ble_eq_true rfl)) dX12_item_302 ⟨Nat.le_of_ble_eq_true rfl, Nat.le_of_ble_eq_true rfl⟩) (fun H locs hP hS => ?_)
              refine lv_if_eq (tgt := 408) hx hb dX12_item_305 (by decide) (fun c_43 => ?_) (fun c_43 => ?_)
              · have hF_44 := ipos c_43 hF_42
                clear hF_42
                refine lv_aload_n hx hb dX12_item_408 rfl (lv_at hl 1 rfl) ?_
                refine lv_bipush (v := 9) hx hb dX12_item_409 (by decide +kernel) ?_
                obtain ⟨u_45, hu_45, hF_46⟩ := Option.bind_eq_some_iff.mp hF_44
                clear hF_44
                refine m_ci hsz hS (va_runV (As := [.int 9]) (rest := []) ⟨hx, hb, hml, hown, hts⟩ (m_X12_tookKey l dC dI cB cC cI cJ cZ cP h qK qS ad hDD H.size  9 u_41.2 _ hu_45) (cwV 1 hts (g_gV wq_1573 wq_1574 wq_2137 wq_13 wq_1575) rfl rfl rfl (by decide +kernel) ⟨Nat.le_of_ble_eq_true rfl, Nat.le_of_ble_eq_true rfl⟩) (m_preV g_bl0 hsz hK hP hS hE hKS g_to0) rfl rfl hl.1 rfl (lv_room (Nat.le_of_ble_eq_true rfl)) dX12_item_411 ⟨Nat.le_of_ble_eq_true rfl, Nat.le_of_ble_eq_true rfl⟩) (fun H locs hP hS => ?_)
                refine lv_if_eq (tgt := 441) hx hb dX12_item_414 (by decide) (fun c_47 => ?_) (fun c_47 => ?_)
                · have hF_48 := ipos c_47 hF_46
                  clear hF_46
                  refine lv_aload_n hx hb dX12_item_441 rfl (lv_at hl 1 rfl) ?_
                  obtain ⟨u_49, hu_49, hF_50⟩ := Option.bind_eq_some_iff.mp hF_48
                  clear hF_48
                  refine m_cv hsz hS (va_runV (As := []) (rest := []) ⟨hx, hb, hml, hown, hts⟩ (m_X12_unfit l dC dI cB cC cI cJ cZ cP h qK qS ad hDD H.size  u_45.2 _ hu_49) (cwV 0 hts (g_gV wq_1549 wq_1550 wq_2129 wq_13 wq_1551) rfl rfl rfl (by decide +kernel) ⟨Nat.le_of_ble_eq_true rfl, Nat.le_of_ble_eq_true rfl⟩) (m_preV g_bl0 hsz hK hP hS hE hKS g_to0) rfl rfl hl.1 rfl (lv_room (Nat.le_of_ble_eq_true rfl)) dX12_item_442 ⟨Nat.le_of_ble_eq_true rfl, Nat.le_of_ble_eq_true rfl⟩) (fun H locs hP hS => ?_)
                  refine lv_aload_n hx hb dX12_item_445 rfl (lv_at hl 1 rfl) ?_
                  refine lv_bipush (v := 8) hx hb dX12_item_446 (by decide +kernel) ?_
                  refine lv_iload_n hx hb dX12_item_448 rfl (lv_at hl 0 rfl) ?_
                  obtain ⟨u_51, hu_51, hF_52⟩ := Option.bind_eq_some_iff.mp hF_50
                  clear hF_50
                  refine m_ci hsz hS (va_runV (As := [.int 8, .int x_5]) (rest := []) ⟨hx, hb, hml, hown, hts⟩ (m_X12_node l dC dI cB cC cI cJ cZ cP h qK qS ad hDD H.size  8 x_5 u_49.2 _ hu_51) (cwV 2 hts (g_gV wq_1540 wq_1541 wq_2126 wq_13 wq_1542) rfl rfl rfl (by decide +kernel) ⟨Nat.le_of_ble_eq_true rfl, Nat.le_of_ble_eq_true rfl⟩) (m_preV g_bl0 hsz hK hP hS hE hKS g_to0) rfl rfl hl.1 rfl (lv_room (Nat.le_of_ble_eq_true rfl)) dX12_item_449 ⟨Nat.le_of_ble_eq_true rfl, Nat.le_of_ble_eq_true rfl⟩) (fun H locs hP hS => ?_)
                  have h9 := Option.some.inj hF_52
                  subst h9
                  exact W.iret (v := u_51.1) hx hb hr (fun t ht hW => ⟨⟨u_51.1, (), rfl, rfl, m_end ht hP⟩, hS.F ht⟩) hS.2.2 dX12_item_452
                · have hF_53 := ineg c_47 hF_46
                  clear hF_46
                  refine lv_aload_n hx hb dX12_item_417 rfl (lv_at hl 1 rfl) ?_
                  refine lv_bipush (v := 8) hx hb dX12_item_418 (by decide +kernel) ?_
                  refine lv_iload_n hx hb dX12_item_420 rfl (lv_at hl 0 rfl) ?_
                  obtain ⟨u_54, hu_54, hF_55⟩ := Option.bind_eq_some_iff.mp hF_53
                  clear hF_53
                  refine m_ci hsz hS (va_runV (As := [.int 8, .int x_5]) (rest := []) ⟨hx, hb, hml, hown, hts⟩ (m_X12_node l dC dI cB cC cI cJ cZ cP h qK qS ad hDD H.size  8 x_5 u_45.2 _ hu_54) (cwV 2 hts (g_gV wq_1540 wq_1541 wq_2126 wq_13 wq_1542) rfl rfl rfl (by decide +kernel) ⟨Nat.le_of_ble_eq_true rfl, Nat.le_of_ble_eq_true rfl⟩) (m_preV g_bl0 hsz hK hP hS hE hKS g_to0) rfl rfl hl.1 rfl (lv_room (Nat.le_of_ble_eq_true rfl)) dX12_item_421 ⟨Nat.le_of_ble_eq_true rfl, Nat.le_of_ble_eq_true rfl⟩) (fun H locs hP hS => ?_)
                  refine lv_istore_n (lv' := [(2, .int u_54.1), (1, .int x_5), (0, .ref h)]) hx hb dX12_item_424 rfl hl (by decide) rfl (fun ls hl => ?_)
                  refine lv_aload_n hx hb dX12_item_425 rfl (lv_at hl 2 rfl) ?_
                  refine va_get (D := (dC, dI)) (ci := 12) (v := .ref (ad 21)) (C := RX12) (T := TX12) (N := 123) hx hb hts ii_X12 hown hK hP 0 rfl rfl 21 (by decide) (hts (.fieldLink RX12 61 "StoryHouseModel" "d" "[I") wq_1377) (fun _ h9 => h9) rfl dX12_item_426 ?_
                  refine lv_iload_n hx hb dX12_item_429 rfl (lv_at hl 0 rfl) ?_
                  refine lv_aload_n hx hb dX12_item_430 rfl (lv_at hl 2 rfl) ?_
                  obtain ⟨u_56, hu_56, hF_57⟩ := Option.bind_eq_some_iff.mp hF_55
                  clear hF_55
                  refine m_ci hsz hS (va_runV (As := []) (rest := [.int u_54.1, .ref (ad 21)]) ⟨hx, hb, hml, hown, hts⟩ (m_X12_block l dC dI cB cC cI cJ cZ cP h qK qS ad hDD H.size  u_54.2 _ hu_56) (cwV 0 hts (g_gV wq_1591 wq_1592 wq_2143 wq_13 wq_1593) rfl rfl rfl (by decide +kernel) ⟨Nat.le_of_ble_eq_true rfl, Nat.le_of_ble_eq_true rfl⟩) (m_preV g_bl0 hsz hK hP hS hE hKS g_to0) rfl rfl hl.1 rfl (lv_room (Nat.le_of_ble_eq_true rfl)) dX12_item_431 ⟨Nat.le_of_ble_eq_true rfl, Nat.le_of_ble_eq_true rfl⟩) (fun H locs hP hS => ?_)
                  obtain ⟨g_58, hF_59⟩ := nif_e hF_57
                  clear hF_57
                  obtain ⟨σ_60, eσ_60, hF_61⟩ := bnd_e hF_59
                  clear hF_59
                  refine m_iast (σ' := σ_60) hx hb hK hP (hDD _ _) hS (q0 := 12) (t0 := 2) (f := u_56.2.2 21) rfl rfl (by rw [eσ_60]; exact mwA_21) g_58 dX12_item_434 (fun H locs hP hS => ?_)
                  refine lv_aload_n hx hb dX12_item_435 rfl (lv_at hl 2 rfl) ?_
                  refine lv_iload_n hx hb dX12_item_436 rfl (lv_at hl 0 rfl) ?_
                  obtain ⟨u_62, hu_62, hF_63⟩ := Option.bind_eq_some_iff.mp hF_61
                  clear hF_61
                  refine m_ci hsz hS (va_runV (As := [.int u_54.1]) (rest := []) ⟨hx, hb, hml, hown, hts⟩ (m_X12_ended l dC dI cB cC cI cJ cZ cP h qK qS ad hDD H.size  u_54.1 σ_60 _ hu_62) (cwV 1 hts (g_gV wq_1639 wq_1640 wq_2159 wq_13 wq_1641) rfl rfl rfl (by decide +kernel) ⟨Nat.le_of_ble_eq_true rfl, Nat.le_of_ble_eq_true rfl⟩) (m_preV g_bl0 hsz hK hP hS hE hKS g_to0) rfl rfl hl.1 rfl (lv_room (Nat.le_of_ble_eq_true rfl)) dX12_item_437 ⟨Nat.le_of_ble_eq_true rfl, Nat.le_of_ble_eq_true rfl⟩) (fun H locs hP hS => ?_)
                  have h9 := Option.some.inj hF_63
                  subst h9
                  exact W.iret (v := u_62.1) hx hb hr (fun t ht hW => ⟨⟨u_62.1, (), rfl, rfl, m_end ht hP⟩, hS.F ht⟩) hS.2.2 dX12_item_440
              · have hF_64 := ineg c_43 hF_42
                clear hF_42
                refine lv_aload_n hx hb dX12_item_308 rfl (lv_at hl 1 rfl) ?_
                refine lv_bipush (v := 7) hx hb dX12_item_309 (by decide +kernel) ?_
                refine lv_iload_n hx hb dX12_item_311 rfl (lv_at hl 0 rfl) ?_
                obtain ⟨u_65, hu_65, hF_66⟩ := Option.bind_eq_some_iff.mp hF_64
                clear hF_64
                refine m_ci hsz hS (va_runV (As := [.int 7, .int x_5]) (rest := []) ⟨hx, hb, hml, hown, hts⟩ (m_X12_node l dC dI cB cC cI cJ cZ cP h qK qS ad hDD H.size  7 x_5 u_41.2 _ hu_65) (cwV 2 hts (g_gV wq_1540 wq_1541 wq_2126 wq_13 wq_1542) rfl rfl rfl (by decide +kernel) ⟨Nat.le_of_ble_eq_true rfl, Nat.le_of_ble_eq_true rfl⟩) (m_preV g_bl0 hsz hK hP hS hE hKS g_to0) rfl rfl hl.1 rfl (lv_room (Nat.le_of_ble_eq_true rfl)) dX12_item_312 ⟨Nat.le_of_ble_eq_true rfl, Nat.le_of_ble_eq_true rfl⟩) (fun H locs hP hS => ?_)
                refine lv_istore_n (lv' := [(2, .int u_65.1), (1, .int x_5), (0, .ref h)]) hx hb dX12_item_315 rfl hl (by decide) rfl (fun ls hl => ?_)
                refine lv_aload_n hx hb dX12_item_316 rfl (lv_at hl 2 rfl) ?_
                refine va_get (D := (dC, dI)) (ci := 12) (v := .ref (ad 19)) (C := RX12) (T := TX12) (N := 123) hx hb hts ii_X12 hown hK hP 0 rfl rfl 19 (by decide) (hts (.fieldLink RX12 55 "StoryHouseModel" "a" "[I") wq_1375) (fun _ h9 => h9) rfl dX12_item_317 ?_
                refine lv_iload_n hx hb dX12_item_320 rfl (lv_at hl 0 rfl) ?_
                refine lv_aload_n hx hb dX12_item_321 rfl (lv_at hl 2 rfl) ?_
                obtain ⟨u_67, hu_67, hF_68⟩ := Option.bind_eq_some_iff.mp hF_66
                clear hF_66
                refine m_ci hsz hS (va_runV (As := []) (rest := [.int u_65.1, .ref (ad 19)]) ⟨hx, hb, hml, hown, hts⟩ (m_X12_name l dC dI cB cC cI cJ cZ cP h qK qS ad hDD H.size  u_65.2 _ hu_67) (cwV 0 hts (g_gV wq_1543 wq_1544 wq_2127 wq_13 wq_1545) rfl rfl rfl (by decide +kernel) ⟨Nat.le_of_ble_eq_true rfl, Nat.le_of_ble_eq_true rfl⟩) (m_preV g_bl0 hsz hK hP hS hE hKS g_to0) rfl rfl hl.1 rfl (lv_room (Nat.le_of_ble_eq_true rfl)) dX12_item_322 ⟨Nat.le_of_ble_eq_true rfl, Nat.le_of_ble_eq_true rfl⟩) (fun H locs hP hS => ?_)
                obtain ⟨g_69, hF_70⟩ := nif_e hF_68
                clear hF_68
                obtain ⟨σ_71, eσ_71, hF_72⟩ := bnd_e hF_70
                clear hF_70
                refine m_iast (σ' := σ_71) hx hb hK hP (hDD _ _) hS (q0 := 10) (t0 := 2) (f := u_67.2.2 19) rfl rfl (by rw [eσ_71]; exact mwA_19) g_69 dX12_item_325 (fun H locs hP hS => ?_)
                refine lv_iconst (v := (-1)) hx hb dX12_item_326 (by decide +kernel) ?_
                refine lv_istore_n (lv' := [(3, .int (-1)), (2, .int u_65.1), (1, .int x_5), (0, .ref h)]) hx hb dX12_item_327 rfl hl (by decide) rfl (fun ls hl => ?_)
                refine lv_iconst (v := 0) hx hb dX12_item_328 (by decide +kernel) ?_
                refine lv_istore (lv' := [(4, .int 0), (3, .int (-1)), (2, .int u_65.1), (1, .int x_5), (0, .ref h)]) hx hb dX12_item_329 hl (by decide) rfl (fun ls hl => ?_)
                refine loopF_ind (P := fun (s_73 : Int32 × Int32 × MS) => ∀ (H : Heap) (locs : List Loc), va_P (dC, dI) vwCl (mW cB cI cZ h qK qS ad s_73.2.2) H → va_S (mCells h ad sz) s.heap H locs → ∀ ls : Array Slot, lv_has ls 6 [(0, .ref h), (2, .int u_65.1), (3, .int s_73.1), (4, .int s_73.2.1)] → W p l e (headSpec (g_ws yX12_item cX12_item 6 (some .int)) { frames := 408, cells := 0, slots := 0, locals := 9493 }).room s m ([.ref h] : List Value).toArray below meth c H locs 0 0 (MQ below (va_Qi (fun r (_ : Unit) => r = res.1) (fun _ t => va_P (dC, dI) vwCl (mW cB cI cZ h qK qS ad res.2) t.heap) (mCells h ad sz)) ([.ref h] : List Value).toArray s 0 0 (mCells h ad sz)) (F0 m 331 ls [])) ?_ _ _ hF_72 _ _ hP hS ls (lv_sub hl [4, 2, 1, 0] rfl)
                intro again_74 s_73 ih_75 hF_76
                intro H locs hP hS ls hl
                refine lv_iload hx hb dX12_item_331 (lv_at hl 3 rfl) ?_
                refine lv_iconst (v := 2) hx hb dX12_item_333 (by decide +kernel) ?_
                obtain ⟨j_78, ej_78, hF_79⟩ := bnd_e hF_76
                clear hF_76
                have Jj_78 : ∀  (σ_77 : MS), j_78  σ_77 = some res → ∀ (H : Heap) (locs : List Loc), va_P (dC, dI) vwCl (mW cB cI cZ h qK qS ad σ_77) H → va_S (mCells h ad sz) s.heap H locs → ∀ ls : Array Slot, lv_has ls 6 [(0, .ref h), (2, .int u_65.1)] → W p l e (headSpec (g_ws yX12_item cX12_item 6 (some .int)) { frames := 408, cells := 0, slots := 0, locals := 9493 }).room s m ([.ref h] : List Value).toArray below meth c H locs 0 0 (MQ below (va_Qi (fun r (_ : Unit) => r = res.1) (fun _ t => va_P (dC, dI) vwCl (mW cB cI cZ h qK qS ad res.2) t.heap) (mCells h ad sz)) ([.ref h] : List Value).toArray s 0 0 (mCells h ad sz)) (F0 m 392 ls []) := by
                  intro  σ_77 hF0 H locs hP hS ls hl
                  subst ej_78
                  have hF_80 := hF0
                  clear hF0
                  refine lv_aload_n hx hb dX12_item_392 rfl (lv_at hl 0 rfl) ?_
                  refine va_get (D := (dC, dI)) (ci := 12) (v := .ref (ad 21)) (C := RX12) (T := TX12) (N := 123) hx hb hts ii_X12 hown hK hP 0 rfl rfl 21 (by decide) (hts (.fieldLink RX12 61 "StoryHouseModel" "d" "[I") wq_1377) (fun _ h9 => h9) rfl dX12_item_393 ?_
                  refine lv_iload_n hx hb dX12_item_396 rfl (lv_at hl 1 rfl) ?_
                  refine lv_aload_n hx hb dX12_item_397 rfl (lv_at hl 0 rfl) ?_
                  obtain ⟨u_81, hu_81, hF_82⟩ := Option.bind_eq_some_iff.mp hF_80
                  clear hF_80
                  refine m_ci hsz hS (va_runV (As := []) (rest := [.int u_65.1, .ref (ad 21)]) ⟨hx, hb, hml, hown, hts⟩ (m_X12_block l dC dI cB cC cI cJ cZ cP h qK qS ad hDD H.size  σ_77 _ hu_81) (cwV 0 hts (g_gV wq_1591 wq_1592 wq_2143 wq_13 wq_1593) rfl rfl rfl (by decide +kernel) ⟨Nat.le_of_ble_eq_true rfl, Nat.le_of_ble_eq_true rfl⟩) (m_preV g_bl0 hsz hK hP hS hE hKS g_to0) rfl rfl hl.1 rfl (lv_room (Nat.le_of_ble_eq_true rfl)) dX12_item_398 ⟨Nat.le_of_ble_eq_true rfl, Nat.le_of_ble_eq_true rfl⟩) (fun H locs hP hS => ?_)
                  obtain ⟨g_83, hF_84⟩ := nif_e hF_82
                  clear hF_82
                  obtain ⟨σ_85, eσ_85, hF_86⟩ := bnd_e hF_84
                  clear hF_84
                  refine m_iast (σ' := σ_85) hx hb hK hP (hDD _ _) hS (q0 := 12) (t0 := 2) (f := u_81.2.2 21) rfl rfl (by rw [eσ_85]; exact mwA_21) g_83 dX12_item_401 (fun H locs hP hS => ?_)
                  refine lv_aload_n hx hb dX12_item_402 rfl (lv_at hl 0 rfl) ?_
                  refine lv_iload_n hx hb dX12_item_403 rfl (lv_at hl 1 rfl) ?_
                  obtain ⟨u_87, hu_87, hF_88⟩ := Option.bind_eq_some_iff.mp hF_86
                  clear hF_86
                  refine m_ci hsz hS (va_runV (As := [.int u_65.1]) (rest := []) ⟨hx, hb, hml, hown, hts⟩ (m_X12_ended l dC dI cB cC cI cJ cZ cP h qK qS ad hDD H.size  u_65.1 σ_85 _ hu_87) (cwV 1 hts (g_gV wq_1639 wq_1640 wq_2159 wq_13 wq_1641) rfl rfl rfl (by decide +kernel) ⟨Nat.le_of_ble_eq_true rfl, Nat.le_of_ble_eq_true rfl⟩) (m_preV g_bl0 hsz hK hP hS hE hKS g_to0) rfl rfl hl.1 rfl (lv_room (Nat.le_of_ble_eq_true rfl)) dX12_item_404 ⟨Nat.le_of_ble_eq_true rfl, Nat.le_of_ble_eq_true rfl⟩) (fun H locs hP hS => ?_)
                  have h9 := Option.some.inj hF_88
                  subst h9
                  exact W.iret (v := u_87.1) hx hb hr (fun t ht hW => ⟨⟨u_87.1, (), rfl, rfl, m_end ht hP⟩, hS.F ht⟩) hS.2.2 dX12_item_407
                refine lv_icmp_ge (tgt := 392) hx hb dX12_item_334 (by decide) (fun c_89 => ?_) (fun c_89 => ?_)
                · have hF_90 := ipos c_89 hF_79
                  clear hF_79
                  exact Jj_78  s_73.2.2 hF_90 _ _ hP hS ls (lv_sub hl [0, 1] rfl)
                · have hF_91 := ineg c_89 hF_79
                  clear hF_79
                  refine lv_aload_n hx hb dX12_item_337 rfl (lv_at hl 0 rfl) ?_
                  refine va_get (D := (dC, dI)) (ci := 12) (v := .int (s_73.2.2.1 27)) (C := RX12) (T := TX12) (N := 123) hx hb hts ii_X12 hown hK hP 0 rfl rfl 27 (by decide) (hts (.fieldLink RX12 304 "StoryHouseModel" "stopped" "Z") wq_1383) (fun _ h9 => h9) rfl dX12_item_338 ?_
                  refine lv_if_ne (tgt := 392) hx hb dX12_item_341 (by decide) (fun c_92 => ?_) (fun c_92 => ?_)
                  · have hF_118 := ineg c_92 hF_91
                    clear hF_91
                    exact Jj_78  s_73.2.2 hF_118 _ _ hP hS ls (lv_sub hl [0, 1] rfl)
                  · have hF_93 := ipos c_92 hF_91
                    clear hF_91
                    refine lv_aload_n hx hb dX12_item_344 rfl (lv_at hl 0 rfl) ?_
                    refine lv_bipush (v := 123) hx hb dX12_item_345 (by decide +kernel) ?_
                    obtain ⟨u_94, hu_94, hF_95⟩ := Option.bind_eq_some_iff.mp hF_93
                    clear hF_93
                    refine m_ci hsz hS (va_runV (As := [.int 123]) (rest := []) ⟨hx, hb, hml, hown, hts⟩ (m_X12_isSign l dC dI cB cC cI cJ cZ cP h qK qS ad hDD H.size  123 s_73.2.2 _ hu_94) (cwV 1 hts (g_gV wq_1558 wq_1559 wq_2132 wq_13 wq_1560) rfl rfl rfl (by decide +kernel) ⟨Nat.le_of_ble_eq_true rfl, Nat.le_of_ble_eq_true rfl⟩) (m_preV g_bl0 hsz hK hP hS hE hKS g_to0) rfl rfl hl.1 rfl (lv_room (Nat.le_of_ble_eq_true rfl)) dX12_item_347 ⟨Nat.le_of_ble_eq_true rfl, Nat.le_of_ble_eq_true rfl⟩) (fun H locs hP hS => ?_)
                    refine lv_if_ne (tgt := 392) hx hb dX12_item_350 (by decide) (fun c_96 => ?_) (fun c_96 => ?_)
                    · have hF_117 := ineg c_96 hF_95
                      clear hF_95
                      exact Jj_78  u_94.2 hF_117 _ _ hP hS ls (lv_sub hl [0, 1] rfl)
                    · have hF_97 := ipos c_96 hF_95
                      clear hF_95
                      refine lv_aload_n hx hb dX12_item_353 rfl (lv_at hl 0 rfl) ?_
                      obtain ⟨u_98, hu_98, hF_99⟩ := Option.bind_eq_some_iff.mp hF_97
                      clear hF_97
                      refine m_ci hsz hS (va_runV (As := []) (rest := []) ⟨hx, hb, hml, hown, hts⟩ (m_X12_whatOf l dC dI cB cC cI cJ cZ cP h qK qS ad hDD H.size  u_94.2 _ hu_98) (cwV 0 hts (g_gV wq_1642 wq_1643 wq_2160 wq_13 wq_1644) rfl rfl rfl (by decide +kernel) ⟨Nat.le_of_ble_eq_true rfl, Nat.le_of_ble_eq_true rfl⟩) (m_preV g_bl0 hsz hK hP hS hE hKS g_to0) rfl rfl hl.1 rfl (lv_room (Nat.le_of_ble_eq_true rfl)) dX12_item_354 ⟨Nat.le_of_ble_eq_true rfl, Nat.le_of_ble_eq_true rfl⟩) (fun H locs hP hS => ?_)
                      refine lv_istore (lv' := [(5, .int u_98.1), (0, .ref h), (2, .int u_65.1), (3, .int s_73.1), (4, .int s_73.2.1)]) hx hb dX12_item_357 hl (by decide) rfl (fun ls hl => ?_)
                      refine lv_iload hx hb dX12_item_359 (lv_at hl 4 rfl) ?_
                      obtain ⟨j_101, ej_101, hF_102⟩ := bnd_e hF_99
                      clear hF_99
                      have Jj_101 : ∀  (σ_100 : MS), j_101  σ_100 = some res → ∀ (H : Heap) (locs : List Loc), va_P (dC, dI) vwCl (mW cB cI cZ h qK qS ad σ_100) H → va_S (mCells h ad sz) s.heap H locs → ∀ ls : Array Slot, lv_has ls 6 [(0, .ref h), (2, .int u_65.1), (4, .int s_73.2.1), (5, .int u_98.1)] → W p l e (headSpec (g_ws yX12_item cX12_item 6 (some .int)) { frames := 408, cells := 0, slots := 0, locals := 9493 }).room s m ([.ref h] : List Value).toArray below meth c H locs 0 0 (MQ below (va_Qi (fun r (_ : Unit) => r = res.1) (fun _ t => va_P (dC, dI) vwCl (mW cB cI cZ h qK qS ad res.2) t.heap) (mCells h ad sz)) ([.ref h] : List Value).toArray s 0 0 (mCells h ad sz)) (F0 m 383 ls []) := by
                        intro  σ_100 hF0 H locs hP hS ls hl
                        subst ej_101
                        have hF_103 := hF0
                        clear hF0
                        refine lv_iload hx hb dX12_item_383 (lv_at hl 3 rfl) ?_
                        refine lv_istore_n (lv' := [(3, .int u_98.1), (0, .ref h), (2, .int u_65.1), (4, .int s_73.2.1), (5, .int u_98.1)]) hx hb dX12_item_385 rfl hl (by decide) rfl (fun ls hl => ?_)
                        obtain ⟨x_104, ex_104, hF_105⟩ := bnd_e hF_103
                        clear hF_103
                        refine lv_iinc (v := x_104) (lv' := [(4, .int x_104), (3, .int u_98.1), (0, .ref h), (2, .int u_65.1), (5, .int u_98.1)]) hx hb dX12_item_386 hl (k := 3) rfl (by rw [ex_104]; rfl) (by decide) rfl (fun ls hl => ?_)
                        refine lv_goto (tgt := 331) hx hb dX12_item_389 (by decide) ?_
                        exact ih_75 (u_98.1, x_104, σ_100) hF_105 _ _ hP hS ls (lv_sub hl [2, 3, 1, 0] rfl)
                      refine lv_if_ne (tgt := 375) hx hb dX12_item_361 (by decide) (fun c_106 => ?_) (fun c_106 => ?_)
                      · have hF_112 := ineg c_106 hF_102
                        clear hF_102
                        refine lv_aload_n hx hb dX12_item_375 rfl (lv_at hl 1 rfl) ?_
                        refine va_get (D := (dC, dI)) (ci := 12) (v := .ref (ad 22)) (C := RX12) (T := TX12) (N := 123) hx hb hts ii_X12 hown hK hP 0 rfl rfl 22 (by decide) (hts (.fieldLink RX12 64 "StoryHouseModel" "then" "[I") wq_1378) (fun _ h9 => h9) rfl dX12_item_376 ?_
                        refine lv_iload_n hx hb dX12_item_379 rfl (lv_at hl 3 rfl) ?_
                        refine lv_iload hx hb dX12_item_380 (lv_at hl 0 rfl) ?_
                        obtain ⟨g_113, hF_114⟩ := nif_e hF_112
                        clear hF_112
                        obtain ⟨σ_115, eσ_115, hF_116⟩ := bnd_e hF_114
                        clear hF_114
                        refine m_iast (σ' := σ_115) hx hb hK hP (hDD _ _) hS (q0 := 13) (t0 := 2) (f := u_98.2.2 22) rfl rfl (by rw [eσ_115]; exact mwA_22) g_113 dX12_item_382 (fun H locs hP hS => ?_)
                        exact Jj_101  σ_115 hF_116 _ _ hP hS ls (lv_sub hl [1, 2, 4, 0] rfl)
                      · have hF_107 := ipos c_106 hF_102
                        clear hF_102
                        refine lv_aload_n hx hb dX12_item_364 rfl (lv_at hl 1 rfl) ?_
                        refine va_get (D := (dC, dI)) (ci := 12) (v := .ref (ad 20)) (C := RX12) (T := TX12) (N := 123) hx hb hts ii_X12 hown hK hP 0 rfl rfl 20 (by decide) (hts (.fieldLink RX12 58 "StoryHouseModel" "b" "[I") wq_1376) (fun _ h9 => h9) rfl dX12_item_365 ?_
                        refine lv_iload_n hx hb dX12_item_368 rfl (lv_at hl 2 rfl) ?_
                        refine lv_iload hx hb dX12_item_369 (lv_at hl 0 rfl) ?_
                        obtain ⟨g_108, hF_109⟩ := nif_e hF_107
                        clear hF_107
                        obtain ⟨σ_110, eσ_110, hF_111⟩ := bnd_e hF_109
                        clear hF_109
                        refine m_iast (σ' := σ_110) hx hb hK hP (hDD _ _) hS (q0 := 11) (t0 := 2) (f := u_98.2.2 20) rfl rfl (by rw [eσ_110]; exact mwA_20) g_108 dX12_item_371 (fun H locs hP hS => ?_)
                        refine lv_goto (tgt := 383) hx hb dX12_item_372 (by decide) ?_
                        exact Jj_101  σ_110 hF_111 _ _ hP hS ls (lv_sub hl [1, 2, 4, 0] rfl)
            · have hF_119 := ineg c_39 hF_38
              clear hF_38
              refine lv_aload_n hx hb dX12_item_230 rfl (lv_at hl 1 rfl) ?_
              refine lv_bipush (v := 6) hx hb dX12_item_231 (by decide +kernel) ?_
              refine lv_iload_n hx hb dX12_item_233 rfl (lv_at hl 0 rfl) ?_
              obtain ⟨u_120, hu_120, hF_121⟩ := Option.bind_eq_some_iff.mp hF_119
              clear hF_119
              refine m_ci hsz hS (va_runV (As := [.int 6, .int x_5]) (rest := []) ⟨hx, hb, hml, hown, hts⟩ (m_X12_node l dC dI cB cC cI cJ cZ cP h qK qS ad hDD H.size  6 x_5 u_37.2 _ hu_120) (cwV 2 hts (g_gV wq_1540 wq_1541 wq_2126 wq_13 wq_1542) rfl rfl rfl (by decide +kernel) ⟨Nat.le_of_ble_eq_true rfl, Nat.le_of_ble_eq_true rfl⟩) (m_preV g_bl0 hsz hK hP hS hE hKS g_to0) rfl rfl hl.1 rfl (lv_room (Nat.le_of_ble_eq_true rfl)) dX12_item_234 ⟨Nat.le_of_ble_eq_true rfl, Nat.le_of_ble_eq_true rfl⟩) (fun H locs hP hS => ?_)
              refine lv_istore_n (lv' := [(2, .int u_120.1), (1, .int x_5), (0, .ref h)]) hx hb dX12_item_237 rfl hl (by decide) rfl (fun ls hl => ?_)
              refine lv_aload_n hx hb dX12_item_238 rfl (lv_at hl 2 rfl) ?_
              refine va_get (D := (dC, dI)) (ci := 12) (v := .ref (ad 19)) (C := RX12) (T := TX12) (N := 123) hx hb hts ii_X12 hown hK hP 0 rfl rfl 19 (by decide) (hts (.fieldLink RX12 55 "StoryHouseModel" "a" "[I") wq_1375) (fun _ h9 => h9) rfl dX12_item_239 ?_
              refine lv_iload_n hx hb dX12_item_242 rfl (lv_at hl 0 rfl) ?_
              refine lv_aload_n hx hb dX12_item_243 rfl (lv_at hl 2 rfl) ?_
              obtain ⟨u_122, hu_122, hF_123⟩ := Option.bind_eq_some_iff.mp hF_121
              clear hF_121
              refine m_ci hsz hS (va_runV (As := []) (rest := [.int u_120.1, .ref (ad 19)]) ⟨hx, hb, hml, hown, hts⟩ (m_X12_name l dC dI cB cC cI cJ cZ cP h qK qS ad hDD H.size  u_120.2 _ hu_122) (cwV 0 hts (g_gV wq_1543 wq_1544 wq_2127 wq_13 wq_1545) rfl rfl rfl (by decide +kernel) ⟨Nat.le_of_ble_eq_true rfl, Nat.le_of_ble_eq_true rfl⟩) (m_preV g_bl0 hsz hK hP hS hE hKS g_to0) rfl rfl hl.1 rfl (lv_room (Nat.le_of_ble_eq_true rfl)) dX12_item_244 ⟨Nat.le_of_ble_eq_true rfl, Nat.le_of_ble_eq_true rfl⟩) (fun H locs hP hS => ?_)
              obtain ⟨g_124, hF_125⟩ := nif_e hF_123
              clear hF_123
              obtain ⟨σ_126, eσ_126, hF_127⟩ := bnd_e hF_125
              clear hF_125
              refine m_iast (σ' := σ_126) hx hb hK hP (hDD _ _) hS (q0 := 10) (t0 := 2) (f := u_122.2.2 19) rfl rfl (by rw [eσ_126]; exact mwA_19) g_124 dX12_item_247 (fun H locs hP hS => ?_)
              refine lv_aload_n hx hb dX12_item_248 rfl (lv_at hl 2 rfl) ?_
              refine lv_bipush (v := 40) hx hb dX12_item_249 (by decide +kernel) ?_
              obtain ⟨u_128, hu_128, hF_129⟩ := Option.bind_eq_some_iff.mp hF_127
              clear hF_127
              refine m_cv hsz hS (va_runV (As := [.int 40]) (rest := []) ⟨hx, hb, hml, hown, hts⟩ (m_X12_open l dC dI cB cC cI cJ cZ cP h qK qS ad hDD H.size  40 σ_126 _ hu_128) (cwV 1 hts (g_gV wq_1555 wq_1556 wq_2131 wq_13 wq_1557) rfl rfl rfl (by decide +kernel) ⟨Nat.le_of_ble_eq_true rfl, Nat.le_of_ble_eq_true rfl⟩) (m_preV g_bl0 hsz hK hP hS hE hKS g_to0) rfl rfl hl.1 rfl (lv_room (Nat.le_of_ble_eq_true rfl)) dX12_item_251 ⟨Nat.le_of_ble_eq_true rfl, Nat.le_of_ble_eq_true rfl⟩) (fun H locs hP hS => ?_)
              refine lv_aload_n hx hb dX12_item_254 rfl (lv_at hl 2 rfl) ?_
              refine va_get (D := (dC, dI)) (ci := 12) (v := .ref (ad 20)) (C := RX12) (T := TX12) (N := 123) hx hb hts ii_X12 hown hK hP 0 rfl rfl 20 (by decide) (hts (.fieldLink RX12 58 "StoryHouseModel" "b" "[I") wq_1376) (fun _ h9 => h9) rfl dX12_item_255 ?_
              refine lv_iload_n hx hb dX12_item_258 rfl (lv_at hl 0 rfl) ?_
              refine lv_aload_n hx hb dX12_item_259 rfl (lv_at hl 2 rfl) ?_
              refine lv_bipush (v := 41) hx hb dX12_item_260 (by decide +kernel) ?_
              obtain ⟨u_130, hu_130, hF_131⟩ := Option.bind_eq_some_iff.mp hF_129
              clear hF_129
              refine m_ci hsz hS (va_runV (As := [.int 41]) (rest := [.int u_120.1, .ref (ad 20)]) ⟨hx, hb, hml, hown, hts⟩ (m_X12_isSign l dC dI cB cC cI cJ cZ cP h qK qS ad hDD H.size  41 u_128.2 _ hu_130) (cwV 1 hts (g_gV wq_1558 wq_1559 wq_2132 wq_13 wq_1560) rfl rfl rfl (by decide +kernel) ⟨Nat.le_of_ble_eq_true rfl, Nat.le_of_ble_eq_true rfl⟩) (m_preV g_bl0 hsz hK hP hS hE hKS g_to0) rfl rfl hl.1 rfl (lv_room (Nat.le_of_ble_eq_true rfl)) dX12_item_262 ⟨Nat.le_of_ble_eq_true rfl, Nat.le_of_ble_eq_true rfl⟩) (fun H locs hP hS => ?_)
              obtain ⟨j_134, ej_134, hF_135⟩ := bnd_e hF_131
              clear hF_131
              have Jj_134 : ∀ (t_132 : Int32) (σ_133 : MS), j_134 t_132 σ_133 = some res → ∀ (H : Heap) (locs : List Loc), va_P (dC, dI) vwCl (mW cB cI cZ h qK qS ad σ_133) H → va_S (mCells h ad sz) s.heap H locs → ∀ ls : Array Slot, lv_has ls 6 [(0, .ref h), (2, .int u_120.1)] → W p l e (headSpec (g_ws yX12_item cX12_item 6 (some .int)) { frames := 408, cells := 0, slots := 0, locals := 9493 }).room s m ([.ref h] : List Value).toArray below meth c H locs 0 0 (MQ below (va_Qi (fun r (_ : Unit) => r = res.1) (fun _ t => va_P (dC, dI) vwCl (mW cB cI cZ h qK qS ad res.2) t.heap) (mCells h ad sz)) ([.ref h] : List Value).toArray s 0 0 (mCells h ad sz)) (F0 m 276 ls [.int t_132, .int u_120.1, .ref (ad 20)]) := by
                intro t_132 σ_133 hF0 H locs hP hS ls hl
                subst ej_134
                have hF_136 := hF0
                clear hF0
                obtain ⟨g_137, hF_138⟩ := nif_e hF_136
                clear hF_136
                obtain ⟨σ_139, eσ_139, hF_140⟩ := bnd_e hF_138
                clear hF_138
                refine m_iast (σ' := σ_139) hx hb hK hP (hDD _ _) hS (q0 := 11) (t0 := 2) (f := σ_133.2 20) rfl rfl (by rw [eσ_139]; exact mwA_20) g_137 dX12_item_276 (fun H locs hP hS => ?_)
                refine lv_aload_n hx hb dX12_item_277 rfl (lv_at hl 0 rfl) ?_
                refine lv_bipush (v := 41) hx hb dX12_item_278 (by decide +kernel) ?_
                obtain ⟨u_141, hu_141, hF_142⟩ := Option.bind_eq_some_iff.mp hF_140
                clear hF_140
                refine m_cv hsz hS (va_runV (As := [.int 41]) (rest := []) ⟨hx, hb, hml, hown, hts⟩ (m_X12_shut l dC dI cB cC cI cJ cZ cP h qK qS ad hDD H.size  41 σ_139 _ hu_141) (cwV 1 hts (g_gV wq_1582 wq_1583 wq_2140 wq_13 wq_1584) rfl rfl rfl (by decide +kernel) ⟨Nat.le_of_ble_eq_true rfl, Nat.le_of_ble_eq_true rfl⟩) (m_preV g_bl0 hsz hK hP hS hE hKS g_to0) rfl rfl hl.1 rfl (lv_room (Nat.le_of_ble_eq_true rfl)) dX12_item_280 ⟨Nat.le_of_ble_eq_true rfl, Nat.le_of_ble_eq_true rfl⟩) (fun H locs hP hS => ?_)
                refine lv_aload_n hx hb dX12_item_283 rfl (lv_at hl 0 rfl) ?_
                refine va_get (D := (dC, dI)) (ci := 12) (v := .ref (ad 21)) (C := RX12) (T := TX12) (N := 123) hx hb hts ii_X12 hown hK hP 0 rfl rfl 21 (by decide) (hts (.fieldLink RX12 61 "StoryHouseModel" "d" "[I") wq_1377) (fun _ h9 => h9) rfl dX12_item_284 ?_
                refine lv_iload_n hx hb dX12_item_287 rfl (lv_at hl 1 rfl) ?_
                refine lv_aload_n hx hb dX12_item_288 rfl (lv_at hl 0 rfl) ?_
                obtain ⟨u_143, hu_143, hF_144⟩ := Option.bind_eq_some_iff.mp hF_142
                clear hF_142
                refine m_ci hsz hS (va_runV (As := []) (rest := [.int u_120.1, .ref (ad 21)]) ⟨hx, hb, hml, hown, hts⟩ (m_X12_block l dC dI cB cC cI cJ cZ cP h qK qS ad hDD H.size  u_141.2 _ hu_143) (cwV 0 hts (g_gV wq_1591 wq_1592 wq_2143 wq_13 wq_1593) rfl rfl rfl (by decide +kernel) ⟨Nat.le_of_ble_eq_true rfl, Nat.le_of_ble_eq_true rfl⟩) (m_preV g_bl0 hsz hK hP hS hE hKS g_to0) rfl rfl hl.1 rfl (lv_room (Nat.le_of_ble_eq_true rfl)) dX12_item_289 ⟨Nat.le_of_ble_eq_true rfl, Nat.le_of_ble_eq_true rfl⟩) (fun H locs hP hS => ?_)
                obtain ⟨g_145, hF_146⟩ := nif_e hF_144
                clear hF_144
                obtain ⟨σ_147, eσ_147, hF_148⟩ := bnd_e hF_146
                clear hF_146
                refine m_iast (σ' := σ_147) hx hb hK hP (hDD _ _) hS (q0 := 12) (t0 := 2) (f := u_143.2.2 21) rfl rfl (by rw [eσ_147]; exact mwA_21) g_145 dX12_item_292 (fun H locs hP hS => ?_)
                refine lv_aload_n hx hb dX12_item_293 rfl (lv_at hl 0 rfl) ?_
                refine lv_iload_n hx hb dX12_item_294 rfl (lv_at hl 1 rfl) ?_
                obtain ⟨u_149, hu_149, hF_150⟩ := Option.bind_eq_some_iff.mp hF_148
                clear hF_148
                refine m_ci hsz hS (va_runV (As := [.int u_120.1]) (rest := []) ⟨hx, hb, hml, hown, hts⟩ (m_X12_ended l dC dI cB cC cI cJ cZ cP h qK qS ad hDD H.size  u_120.1 σ_147 _ hu_149) (cwV 1 hts (g_gV wq_1639 wq_1640 wq_2159 wq_13 wq_1641) rfl rfl rfl (by decide +kernel) ⟨Nat.le_of_ble_eq_true rfl, Nat.le_of_ble_eq_true rfl⟩) (m_preV g_bl0 hsz hK hP hS hE hKS g_to0) rfl rfl hl.1 rfl (lv_room (Nat.le_of_ble_eq_true rfl)) dX12_item_295 ⟨Nat.le_of_ble_eq_true rfl, Nat.le_of_ble_eq_true rfl⟩) (fun H locs hP hS => ?_)
                have h9 := Option.some.inj hF_150
                subst h9
                exact W.iret (v := u_149.1) hx hb hr (fun t ht hW => ⟨⟨u_149.1, (), rfl, rfl, m_end ht hP⟩, hS.F ht⟩) hS.2.2 dX12_item_298
              refine lv_if_eq (tgt := 272) hx hb dX12_item_265 (by decide) (fun c_151 => ?_) (fun c_151 => ?_)
              · have hF_152 := ipos c_151 hF_135
                clear hF_135
                refine lv_aload_n hx hb dX12_item_272 rfl (lv_at hl 2 rfl) ?_
                obtain ⟨u_153, hu_153, hF_154⟩ := Option.bind_eq_some_iff.mp hF_152
                clear hF_152
                refine m_ci hsz hS (va_runV (As := []) (rest := [.int u_120.1, .ref (ad 20)]) ⟨hx, hb, hml, hown, hts⟩ (m_X12_row l dC dI cB cC cI cJ cZ cP h qK qS ad hDD H.size  u_130.2 _ hu_153) (cwV 0 hts (g_gV wq_1579 wq_1580 wq_2139 wq_13 wq_1581) rfl rfl rfl (by decide +kernel) ⟨Nat.le_of_ble_eq_true rfl, Nat.le_of_ble_eq_true rfl⟩) (m_preV g_bl0 hsz hK hP hS hE hKS g_to0) rfl rfl hl.1 rfl (lv_room (Nat.le_of_ble_eq_true rfl)) dX12_item_273 ⟨Nat.le_of_ble_eq_true rfl, Nat.le_of_ble_eq_true rfl⟩) (fun H locs hP hS => ?_)
                exact Jj_134 u_153.1 u_153.2 hF_154 _ _ hP hS ls (lv_sub hl [2, 0] rfl)
              · have hF_155 := ineg c_151 hF_135
                clear hF_135
                refine lv_iconst (v := (-1)) hx hb dX12_item_268 (by decide +kernel) ?_
                refine lv_goto (tgt := 276) hx hb dX12_item_269 (by decide) ?_
                exact Jj_134 (-1) u_130.2 hF_155 _ _ hP hS ls (lv_sub hl [2, 0] rfl)
          · have hF_156 := ineg c_35 hF_34
            clear hF_34
            refine lv_aload_n hx hb dX12_item_147 rfl (lv_at hl 1 rfl) ?_
            refine lv_iconst (v := 5) hx hb dX12_item_148 (by decide +kernel) ?_
            refine lv_iload_n hx hb dX12_item_149 rfl (lv_at hl 0 rfl) ?_
            obtain ⟨u_157, hu_157, hF_158⟩ := Option.bind_eq_some_iff.mp hF_156
            clear hF_156
            refine m_ci hsz hS (va_runV (As := [.int 5, .int x_5]) (rest := []) ⟨hx, hb, hml, hown, hts⟩ (m_X12_node l dC dI cB cC cI cJ cZ cP h qK qS ad hDD H.size  5 x_5 u_33.2 _ hu_157) (cwV 2 hts (g_gV wq_1540 wq_1541 wq_2126 wq_13 wq_1542) rfl rfl rfl (by decide +kernel) ⟨Nat.le_of_ble_eq_true rfl, Nat.le_of_ble_eq_true rfl⟩) (m_preV g_bl0 hsz hK hP hS hE hKS g_to0) rfl rfl hl.1 rfl (lv_room (Nat.le_of_ble_eq_true rfl)) dX12_item_150 ⟨Nat.le_of_ble_eq_true rfl, Nat.le_of_ble_eq_true rfl⟩) (fun H locs hP hS => ?_)
            refine lv_istore_n (lv' := [(2, .int u_157.1), (1, .int x_5), (0, .ref h)]) hx hb dX12_item_153 rfl hl (by decide) rfl (fun ls hl => ?_)
            refine lv_aload_n hx hb dX12_item_154 rfl (lv_at hl 2 rfl) ?_
            refine va_get (D := (dC, dI)) (ci := 12) (v := .ref (ad 19)) (C := RX12) (T := TX12) (N := 123) hx hb hts ii_X12 hown hK hP 0 rfl rfl 19 (by decide) (hts (.fieldLink RX12 55 "StoryHouseModel" "a" "[I") wq_1375) (fun _ h9 => h9) rfl dX12_item_155 ?_
            refine lv_iload_n hx hb dX12_item_158 rfl (lv_at hl 0 rfl) ?_
            refine lv_aload_n hx hb dX12_item_159 rfl (lv_at hl 2 rfl) ?_
            obtain ⟨u_159, hu_159, hF_160⟩ := Option.bind_eq_some_iff.mp hF_158
            clear hF_158
            refine m_ci hsz hS (va_runV (As := []) (rest := [.int u_157.1, .ref (ad 19)]) ⟨hx, hb, hml, hown, hts⟩ (m_X12_name l dC dI cB cC cI cJ cZ cP h qK qS ad hDD H.size  u_157.2 _ hu_159) (cwV 0 hts (g_gV wq_1543 wq_1544 wq_2127 wq_13 wq_1545) rfl rfl rfl (by decide +kernel) ⟨Nat.le_of_ble_eq_true rfl, Nat.le_of_ble_eq_true rfl⟩) (m_preV g_bl0 hsz hK hP hS hE hKS g_to0) rfl rfl hl.1 rfl (lv_room (Nat.le_of_ble_eq_true rfl)) dX12_item_160 ⟨Nat.le_of_ble_eq_true rfl, Nat.le_of_ble_eq_true rfl⟩) (fun H locs hP hS => ?_)
            obtain ⟨g_161, hF_162⟩ := nif_e hF_160
            clear hF_160
            obtain ⟨σ_163, eσ_163, hF_164⟩ := bnd_e hF_162
            clear hF_162
            refine m_iast (σ' := σ_163) hx hb hK hP (hDD _ _) hS (q0 := 10) (t0 := 2) (f := u_159.2.2 19) rfl rfl (by rw [eσ_163]; exact mwA_19) g_161 dX12_item_163 (fun H locs hP hS => ?_)
            refine lv_aload_n hx hb dX12_item_164 rfl (lv_at hl 2 rfl) ?_
            refine lv_bipush (v := 91) hx hb dX12_item_165 (by decide +kernel) ?_
            obtain ⟨u_165, hu_165, hF_166⟩ := Option.bind_eq_some_iff.mp hF_164
            clear hF_164
            refine m_cv hsz hS (va_runV (As := [.int 91]) (rest := []) ⟨hx, hb, hml, hown, hts⟩ (m_X12_open l dC dI cB cC cI cJ cZ cP h qK qS ad hDD H.size  91 σ_163 _ hu_165) (cwV 1 hts (g_gV wq_1555 wq_1556 wq_2131 wq_13 wq_1557) rfl rfl rfl (by decide +kernel) ⟨Nat.le_of_ble_eq_true rfl, Nat.le_of_ble_eq_true rfl⟩) (m_preV g_bl0 hsz hK hP hS hE hKS g_to0) rfl rfl hl.1 rfl (lv_room (Nat.le_of_ble_eq_true rfl)) dX12_item_167 ⟨Nat.le_of_ble_eq_true rfl, Nat.le_of_ble_eq_true rfl⟩) (fun H locs hP hS => ?_)
            refine lv_aload_n hx hb dX12_item_170 rfl (lv_at hl 2 rfl) ?_
            refine va_get (D := (dC, dI)) (ci := 12) (v := .ref (ad 21)) (C := RX12) (T := TX12) (N := 123) hx hb hts ii_X12 hown hK hP 0 rfl rfl 21 (by decide) (hts (.fieldLink RX12 61 "StoryHouseModel" "d" "[I") wq_1377) (fun _ h9 => h9) rfl dX12_item_171 ?_
            refine lv_iload_n hx hb dX12_item_174 rfl (lv_at hl 0 rfl) ?_
            refine lv_aload_n hx hb dX12_item_175 rfl (lv_at hl 2 rfl) ?_
            refine va_get (D := (dC, dI)) (ci := 12) (v := .int (u_165.2.1 27)) (C := RX12) (T := TX12) (N := 123) hx hb hts ii_X12 hown hK hP 0 rfl rfl 27 (by decide) (hts (.fieldLink RX12 304 "StoryHouseModel" "stopped" "Z") wq_1383) (fun _ h9 => h9) rfl dX12_item_176 ?_
            obtain ⟨j_169, ej_169, hF_170⟩ := bnd_e hF_166
            clear hF_166
            have Jj_169 : ∀ (t_167 : Int32) (σ_168 : MS), j_169 t_167 σ_168 = some res → ∀ (H : Heap) (locs : List Loc), va_P (dC, dI) vwCl (mW cB cI cZ h qK qS ad σ_168) H → va_S (mCells h ad sz) s.heap H locs → ∀ ls : Array Slot, lv_has ls 6 [(0, .ref h), (2, .int u_157.1)] → W p l e (headSpec (g_ws yX12_item cX12_item 6 (some .int)) { frames := 408, cells := 0, slots := 0, locals := 9493 }).room s m ([.ref h] : List Value).toArray below meth c H locs 0 0 (MQ below (va_Qi (fun r (_ : Unit) => r = res.1) (fun _ t => va_P (dC, dI) vwCl (mW cB cI cZ h qK qS ad res.2) t.heap) (mCells h ad sz)) ([.ref h] : List Value).toArray s 0 0 (mCells h ad sz)) (F0 m 195 ls [.int t_167, .int u_157.1, .ref (ad 21)]) := by
              intro t_167 σ_168 hF0 H locs hP hS ls hl
              subst ej_169
              have hF_171 := hF0
              clear hF0
              obtain ⟨g_172, hF_173⟩ := nif_e hF_171
              clear hF_171
              obtain ⟨σ_174, eσ_174, hF_175⟩ := bnd_e hF_173
              clear hF_173
              refine m_iast (σ' := σ_174) hx hb hK hP (hDD _ _) hS (q0 := 12) (t0 := 2) (f := σ_168.2 21) rfl rfl (by rw [eσ_174]; exact mwA_21) g_172 dX12_item_195 (fun H locs hP hS => ?_)
              refine lv_aload_n hx hb dX12_item_196 rfl (lv_at hl 0 rfl) ?_
              refine va_get (D := (dC, dI)) (ci := 12) (v := .ref (ad 20)) (C := RX12) (T := TX12) (N := 123) hx hb hts ii_X12 hown hK hP 0 rfl rfl 20 (by decide) (hts (.fieldLink RX12 58 "StoryHouseModel" "b" "[I") wq_1376) (fun _ h9 => h9) rfl dX12_item_197 ?_
              refine lv_iload_n hx hb dX12_item_200 rfl (lv_at hl 1 rfl) ?_
              refine lv_aload_n hx hb dX12_item_201 rfl (lv_at hl 0 rfl) ?_
              refine lv_iconst (v := 3) hx hb dX12_item_202 (by decide +kernel) ?_
              obtain ⟨u_176, hu_176, hF_177⟩ := Option.bind_eq_some_iff.mp hF_175
              clear hF_175
              refine m_ci hsz hS (va_runV (As := [.int 3]) (rest := [.int u_157.1, .ref (ad 20)]) ⟨hx, hb, hml, hown, hts⟩ (m_X12_needKind l dC dI cB cC cI cJ cZ cP h qK qS ad hDD H.size  3 σ_174 _ hu_176) (cwV 1 hts (g_gV wq_1546 wq_1547 wq_2128 wq_13 wq_1548) rfl rfl rfl (by decide +kernel) ⟨Nat.le_of_ble_eq_true rfl, Nat.le_of_ble_eq_true rfl⟩) (m_preV g_bl0 hsz hK hP hS hE hKS g_to0) rfl rfl hl.1 rfl (lv_room (Nat.le_of_ble_eq_true rfl)) dX12_item_203 ⟨Nat.le_of_ble_eq_true rfl, Nat.le_of_ble_eq_true rfl⟩) (fun H locs hP hS => ?_)
              obtain ⟨g_178, hF_179⟩ := nif_e hF_177
              clear hF_177
              obtain ⟨σ_180, eσ_180, hF_181⟩ := bnd_e hF_179
              clear hF_179
              refine m_iast (σ' := σ_180) hx hb hK hP (hDD _ _) hS (q0 := 11) (t0 := 2) (f := u_176.2.2 20) rfl rfl (by rw [eσ_180]; exact mwA_20) g_178 dX12_item_206 (fun H locs hP hS => ?_)
              refine lv_aload_n hx hb dX12_item_207 rfl (lv_at hl 0 rfl) ?_
              refine lv_bipush (v := 93) hx hb dX12_item_208 (by decide +kernel) ?_
              obtain ⟨u_182, hu_182, hF_183⟩ := Option.bind_eq_some_iff.mp hF_181
              clear hF_181
              refine m_cv hsz hS (va_runV (As := [.int 93]) (rest := []) ⟨hx, hb, hml, hown, hts⟩ (m_X12_shut l dC dI cB cC cI cJ cZ cP h qK qS ad hDD H.size  93 σ_180 _ hu_182) (cwV 1 hts (g_gV wq_1582 wq_1583 wq_2140 wq_13 wq_1584) rfl rfl rfl (by decide +kernel) ⟨Nat.le_of_ble_eq_true rfl, Nat.le_of_ble_eq_true rfl⟩) (m_preV g_bl0 hsz hK hP hS hE hKS g_to0) rfl rfl hl.1 rfl (lv_room (Nat.le_of_ble_eq_true rfl)) dX12_item_210 ⟨Nat.le_of_ble_eq_true rfl, Nat.le_of_ble_eq_true rfl⟩) (fun H locs hP hS => ?_)
              refine lv_aload_n hx hb dX12_item_213 rfl (lv_at hl 0 rfl) ?_
              refine lv_bipush (v := 59) hx hb dX12_item_214 (by decide +kernel) ?_
              obtain ⟨u_184, hu_184, hF_185⟩ := Option.bind_eq_some_iff.mp hF_183
              clear hF_183
              refine m_cv hsz hS (va_runV (As := [.int 59]) (rest := []) ⟨hx, hb, hml, hown, hts⟩ (m_X12_need l dC dI cB cC cI cJ cZ cP h qK qS ad hDD H.size  59 u_182.2 _ hu_184) (cwV 1 hts (g_gV wq_1564 wq_1565 wq_2134 wq_13 wq_1566) rfl rfl rfl (by decide +kernel) ⟨Nat.le_of_ble_eq_true rfl, Nat.le_of_ble_eq_true rfl⟩) (m_preV g_bl0 hsz hK hP hS hE hKS g_to0) rfl rfl hl.1 rfl (lv_room (Nat.le_of_ble_eq_true rfl)) dX12_item_216 ⟨Nat.le_of_ble_eq_true rfl, Nat.le_of_ble_eq_true rfl⟩) (fun H locs hP hS => ?_)
              refine lv_iload_n hx hb dX12_item_219 rfl (lv_at hl 1 rfl) ?_
              have h9 := Option.some.inj hF_185
              subst h9
              exact W.iret (v := u_157.1) hx hb hr (fun t ht hW => ⟨⟨u_157.1, (), rfl, rfl, m_end ht hP⟩, hS.F ht⟩) hS.2.2 dX12_item_220
            refine lv_if_eq (tgt := 186) hx hb dX12_item_179 (by decide) (fun c_186 => ?_) (fun c_186 => ?_)
            · have hF_187 := ipos c_186 hF_170
              clear hF_170
              refine lv_aload_n hx hb dX12_item_186 rfl (lv_at hl 2 rfl) ?_
              refine va_get (D := (dC, dI)) (ci := 12) (v := .ref (ad 8)) (C := RX12) (T := TX12) (N := 123) hx hb hts ii_X12 hown hK hP 0 rfl rfl 8 (by decide) (hts (.fieldLink RX12 31 "StoryHouseModel" "tokAt" "[I") wq_1364) (fun _ h9 => h9) rfl dX12_item_187 ?_
              refine lv_aload_n hx hb dX12_item_190 rfl (lv_at hl 2 rfl) ?_
              refine va_get (D := (dC, dI)) (ci := 12) (v := .int (u_165.2.1 25)) (C := RX12) (T := TX12) (N := 123) hx hb hts ii_X12 hown hK hP 0 rfl rfl 25 (by decide) (hts (.fieldLink RX12 314 "StoryHouseModel" "at" "I") wq_1381) (fun _ h9 => h9) rfl dX12_item_191 ?_
              obtain ⟨x_188, ex_188, hF_189⟩ := bnd_e hF_187
              clear hF_187
              refine m_top ex_188 ?_
              obtain ⟨g_190, hF_191⟩ := nif_e hF_189
              clear hF_189
              refine va_iald (f := u_165.2.2 8) hx hb hK hP 4 2 rfl rfl g_190 dX12_item_194 ?_
              exact Jj_169 (u_165.2.2 8 x_188.toNatClampNeg) u_165.2 hF_191 _ _ hP hS ls (lv_sub hl [2, 0] rfl)
            · have hF_192 := ineg c_186 hF_170
              clear hF_170
              refine lv_iconst (v := 0) hx hb dX12_item_182 (by decide +kernel) ?_
              refine lv_goto (tgt := 195) hx hb dX12_item_183 (by decide) ?_
              exact Jj_169 0 u_165.2 hF_192 _ _ hP hS ls (lv_sub hl [2, 0] rfl)
        · have hF_193 := ineg c_31 hF_30
          clear hF_30
          refine lv_aload_n hx hb dX12_item_76 rfl (lv_at hl 1 rfl) ?_
          refine lv_iconst (v := 4) hx hb dX12_item_77 (by decide +kernel) ?_
          refine lv_iload_n hx hb dX12_item_78 rfl (lv_at hl 0 rfl) ?_
          obtain ⟨u_194, hu_194, hF_195⟩ := Option.bind_eq_some_iff.mp hF_193
          clear hF_193
          refine m_ci hsz hS (va_runV (As := [.int 4, .int x_5]) (rest := []) ⟨hx, hb, hml, hown, hts⟩ (m_X12_node l dC dI cB cC cI cJ cZ cP h qK qS ad hDD H.size  4 x_5 u_29.2 _ hu_194) (cwV 2 hts (g_gV wq_1540 wq_1541 wq_2126 wq_13 wq_1542) rfl rfl rfl (by decide +kernel) ⟨Nat.le_of_ble_eq_true rfl, Nat.le_of_ble_eq_true rfl⟩) (m_preV g_bl0 hsz hK hP hS hE hKS g_to0) rfl rfl hl.1 rfl (lv_room (Nat.le_of_ble_eq_true rfl)) dX12_item_79 ⟨Nat.le_of_ble_eq_true rfl, Nat.le_of_ble_eq_true rfl⟩) (fun H locs hP hS => ?_)
          refine lv_istore_n (lv' := [(2, .int u_194.1), (1, .int x_5), (0, .ref h)]) hx hb dX12_item_82 rfl hl (by decide) rfl (fun ls hl => ?_)
          refine lv_aload_n hx hb dX12_item_83 rfl (lv_at hl 2 rfl) ?_
          refine va_get (D := (dC, dI)) (ci := 12) (v := .ref (ad 19)) (C := RX12) (T := TX12) (N := 123) hx hb hts ii_X12 hown hK hP 0 rfl rfl 19 (by decide) (hts (.fieldLink RX12 55 "StoryHouseModel" "a" "[I") wq_1375) (fun _ h9 => h9) rfl dX12_item_84 ?_
          refine lv_iload_n hx hb dX12_item_87 rfl (lv_at hl 0 rfl) ?_
          refine lv_aload_n hx hb dX12_item_88 rfl (lv_at hl 2 rfl) ?_
          obtain ⟨u_196, hu_196, hF_197⟩ := Option.bind_eq_some_iff.mp hF_195
          clear hF_195
          refine m_ci hsz hS (va_runV (As := []) (rest := [.int u_194.1, .ref (ad 19)]) ⟨hx, hb, hml, hown, hts⟩ (m_X12_name l dC dI cB cC cI cJ cZ cP h qK qS ad hDD H.size  u_194.2 _ hu_196) (cwV 0 hts (g_gV wq_1543 wq_1544 wq_2127 wq_13 wq_1545) rfl rfl rfl (by decide +kernel) ⟨Nat.le_of_ble_eq_true rfl, Nat.le_of_ble_eq_true rfl⟩) (m_preV g_bl0 hsz hK hP hS hE hKS g_to0) rfl rfl hl.1 rfl (lv_room (Nat.le_of_ble_eq_true rfl)) dX12_item_89 ⟨Nat.le_of_ble_eq_true rfl, Nat.le_of_ble_eq_true rfl⟩) (fun H locs hP hS => ?_)
          obtain ⟨g_198, hF_199⟩ := nif_e hF_197
          clear hF_197
          obtain ⟨σ_200, eσ_200, hF_201⟩ := bnd_e hF_199
          clear hF_199
          refine m_iast (σ' := σ_200) hx hb hK hP (hDD _ _) hS (q0 := 10) (t0 := 2) (f := u_196.2.2 19) rfl rfl (by rw [eσ_200]; exact mwA_19) g_198 dX12_item_92 (fun H locs hP hS => ?_)
          refine lv_aload_n hx hb dX12_item_93 rfl (lv_at hl 2 rfl) ?_
          refine lv_bipush (v := 61) hx hb dX12_item_94 (by decide +kernel) ?_
          obtain ⟨u_202, hu_202, hF_203⟩ := Option.bind_eq_some_iff.mp hF_201
          clear hF_201
          refine m_cv hsz hS (va_runV (As := [.int 61]) (rest := []) ⟨hx, hb, hml, hown, hts⟩ (m_X12_need l dC dI cB cC cI cJ cZ cP h qK qS ad hDD H.size  61 σ_200 _ hu_202) (cwV 1 hts (g_gV wq_1564 wq_1565 wq_2134 wq_13 wq_1566) rfl rfl rfl (by decide +kernel) ⟨Nat.le_of_ble_eq_true rfl, Nat.le_of_ble_eq_true rfl⟩) (m_preV g_bl0 hsz hK hP hS hE hKS g_to0) rfl rfl hl.1 rfl (lv_room (Nat.le_of_ble_eq_true rfl)) dX12_item_96 ⟨Nat.le_of_ble_eq_true rfl, Nat.le_of_ble_eq_true rfl⟩) (fun H locs hP hS => ?_)
          refine lv_aload_n hx hb dX12_item_99 rfl (lv_at hl 2 rfl) ?_
          refine lv_bipush (v := 45) hx hb dX12_item_100 (by decide +kernel) ?_
          obtain ⟨u_204, hu_204, hF_205⟩ := Option.bind_eq_some_iff.mp hF_203
          clear hF_203
          refine m_ci hsz hS (va_runV (As := [.int 45]) (rest := []) ⟨hx, hb, hml, hown, hts⟩ (m_X12_took l dC dI cB cC cI cJ cZ cP h qK qS ad hDD H.size  45 u_202.2 _ hu_204) (cwV 1 hts (g_gV wq_1567 wq_1568 wq_2135 wq_13 wq_1569) rfl rfl rfl (by decide +kernel) ⟨Nat.le_of_ble_eq_true rfl, Nat.le_of_ble_eq_true rfl⟩) (m_preV g_bl0 hsz hK hP hS hE hKS g_to0) rfl rfl hl.1 rfl (lv_room (Nat.le_of_ble_eq_true rfl)) dX12_item_102 ⟨Nat.le_of_ble_eq_true rfl, Nat.le_of_ble_eq_true rfl⟩) (fun H locs hP hS => ?_)
          refine lv_istore_n (lv' := [(3, .int u_204.1), (2, .int u_194.1), (1, .int x_5), (0, .ref h)]) hx hb dX12_item_105 rfl hl (by decide) rfl (fun ls hl => ?_)
          refine lv_aload_n hx hb dX12_item_106 rfl (lv_at hl 3 rfl) ?_
          refine lv_iconst (v := 3) hx hb dX12_item_107 (by decide +kernel) ?_
          obtain ⟨u_206, hu_206, hF_207⟩ := Option.bind_eq_some_iff.mp hF_205
          clear hF_205
          refine m_ci hsz hS (va_runV (As := [.int 3]) (rest := []) ⟨hx, hb, hml, hown, hts⟩ (m_X12_needKind l dC dI cB cC cI cJ cZ cP h qK qS ad hDD H.size  3 u_204.2 _ hu_206) (cwV 1 hts (g_gV wq_1546 wq_1547 wq_2128 wq_13 wq_1548) rfl rfl rfl (by decide +kernel) ⟨Nat.le_of_ble_eq_true rfl, Nat.le_of_ble_eq_true rfl⟩) (m_preV g_bl0 hsz hK hP hS hE hKS g_to0) rfl rfl hl.1 rfl (lv_room (Nat.le_of_ble_eq_true rfl)) dX12_item_108 ⟨Nat.le_of_ble_eq_true rfl, Nat.le_of_ble_eq_true rfl⟩) (fun H locs hP hS => ?_)
          refine lv_istore (lv' := [(4, .int u_206.1), (3, .int u_204.1), (2, .int u_194.1), (1, .int x_5), (0, .ref h)]) hx hb dX12_item_111 hl (by decide) rfl (fun ls hl => ?_)
          refine lv_aload_n hx hb dX12_item_113 rfl (lv_at hl 4 rfl) ?_
          refine va_get (D := (dC, dI)) (ci := 12) (v := .ref (ad 20)) (C := RX12) (T := TX12) (N := 123) hx hb hts ii_X12 hown hK hP 0 rfl rfl 20 (by decide) (hts (.fieldLink RX12 58 "StoryHouseModel" "b" "[I") wq_1376) (fun _ h9 => h9) rfl dX12_item_114 ?_
          refine lv_iload_n hx hb dX12_item_117 rfl (lv_at hl 2 rfl) ?_
          refine lv_iload_n hx hb dX12_item_118 rfl (lv_at hl 1 rfl) ?_
          obtain ⟨j_210, ej_210, hF_211⟩ := bnd_e hF_207
          clear hF_207
          have Jj_210 : ∀ (t_208 : Int32) (σ_209 : MS), j_210 t_208 σ_209 = some res → ∀ (H : Heap) (locs : List Loc), va_P (dC, dI) vwCl (mW cB cI cZ h qK qS ad σ_209) H → va_S (mCells h ad sz) s.heap H locs → ∀ ls : Array Slot, lv_has ls 6 [(0, .ref h), (2, .int u_194.1)] → W p l e (headSpec (g_ws yX12_item cX12_item 6 (some .int)) { frames := 408, cells := 0, slots := 0, locals := 9493 }).room s m ([.ref h] : List Value).toArray below meth c H locs 0 0 (MQ below (va_Qi (fun r (_ : Unit) => r = res.1) (fun _ t => va_P (dC, dI) vwCl (mW cB cI cZ h qK qS ad res.2) t.heap) (mCells h ad sz)) ([.ref h] : List Value).toArray s 0 0 (mCells h ad sz)) (F0 m 130 ls [.int t_208, .int u_194.1, .ref (ad 20)]) := by
            intro t_208 σ_209 hF0 H locs hP hS ls hl
            subst ej_210
            have hF_212 := hF0
            clear hF0
            obtain ⟨g_213, hF_214⟩ := nif_e hF_212
            clear hF_212
            obtain ⟨σ_215, eσ_215, hF_216⟩ := bnd_e hF_214
            clear hF_214
            refine m_iast (σ' := σ_215) hx hb hK hP (hDD _ _) hS (q0 := 11) (t0 := 2) (f := σ_209.2 20) rfl rfl (by rw [eσ_215]; exact mwA_20) g_213 dX12_item_130 (fun H locs hP hS => ?_)
            refine lv_aload_n hx hb dX12_item_131 rfl (lv_at hl 0 rfl) ?_
            refine lv_bipush (v := 59) hx hb dX12_item_132 (by decide +kernel) ?_
            obtain ⟨u_217, hu_217, hF_218⟩ := Option.bind_eq_some_iff.mp hF_216
            clear hF_216
            refine m_cv hsz hS (va_runV (As := [.int 59]) (rest := []) ⟨hx, hb, hml, hown, hts⟩ (m_X12_need l dC dI cB cC cI cJ cZ cP h qK qS ad hDD H.size  59 σ_215 _ hu_217) (cwV 1 hts (g_gV wq_1564 wq_1565 wq_2134 wq_13 wq_1566) rfl rfl rfl (by decide +kernel) ⟨Nat.le_of_ble_eq_true rfl, Nat.le_of_ble_eq_true rfl⟩) (m_preV g_bl0 hsz hK hP hS hE hKS g_to0) rfl rfl hl.1 rfl (lv_room (Nat.le_of_ble_eq_true rfl)) dX12_item_134 ⟨Nat.le_of_ble_eq_true rfl, Nat.le_of_ble_eq_true rfl⟩) (fun H locs hP hS => ?_)
            refine lv_iload_n hx hb dX12_item_137 rfl (lv_at hl 1 rfl) ?_
            have h9 := Option.some.inj hF_218
            subst h9
            exact W.iret (v := u_194.1) hx hb hr (fun t ht hW => ⟨⟨u_194.1, (), rfl, rfl, m_end ht hP⟩, hS.F ht⟩) hS.2.2 dX12_item_138
          refine lv_if_eq (tgt := 128) hx hb dX12_item_119 (by decide) (fun c_219 => ?_) (fun c_219 => ?_)
          · have hF_220 := ipos c_219 hF_211
            clear hF_211
            refine lv_iload hx hb dX12_item_128 (lv_at hl 0 rfl) ?_
            exact Jj_210 u_206.1 u_206.2 hF_220 _ _ hP hS ls (lv_sub hl [4, 2] rfl)
          · have hF_221 := ineg c_219 hF_211
            clear hF_211
            refine lv_iload hx hb dX12_item_122 (lv_at hl 0 rfl) ?_
            refine lv_ineg hx hb dX12_item_124 ?_
            refine lv_goto (tgt := 130) hx hb dX12_item_125 (by decide) ?_
            exact Jj_210 (-u_206.1) u_206.2 hF_221 _ _ hP hS ls (lv_sub hl [4, 2] rfl)
      · have hF_222 := ineg c_27 hF_26
        clear hF_26
        refine lv_aload_n hx hb dX12_item_61 rfl (lv_at hl 1 rfl) ?_
        refine lv_iload_n hx hb dX12_item_62 rfl (lv_at hl 0 rfl) ?_
        obtain ⟨u_223, hu_223, hF_224⟩ := Option.bind_eq_some_iff.mp hF_222
        clear hF_222
        refine m_ci hsz hS (va_runV (As := [.int x_5]) (rest := []) ⟨hx, hb, hml, hown, hts⟩ (m_X12_verb l dC dI cB cC cI cJ cZ cP h qK qS ad hDD H.size  x_5 u_25.2 _ hu_223) (cwV 1 hts (g_gV wq_1585 wq_1586 wq_2141 wq_13 wq_1587) rfl rfl rfl (by decide +kernel) ⟨Nat.le_of_ble_eq_true rfl, Nat.le_of_ble_eq_true rfl⟩) (m_preV g_bl0 hsz hK hP hS hE hKS g_to0) rfl rfl hl.1 rfl (lv_room (Nat.le_of_ble_eq_true rfl)) dX12_item_63 ⟨Nat.le_of_ble_eq_true rfl, Nat.le_of_ble_eq_true rfl⟩) (fun H locs hP hS => ?_)
        have h9 := Option.some.inj hF_224
        subst h9
        exact W.iret (v := u_223.1) hx hb hr (fun t ht hW => ⟨⟨u_223.1, (), rfl, rfl, m_end ht hP⟩, hS.F ht⟩) hS.2.2 dX12_item_66
    · have hF_225 := ineg c_23 hF_22
      clear hF_22
      exact Jj_10  u_21.2 hF_225 _ _ hP hS ls (lv_sub hl [1, 0] rfl)
theorem dX12_parse_0 : decode cX12_parse 0 = .ok (.aload_n 0, 1) := by decide +kernel
theorem dX12_parse_1 : decode cX12_parse 1 = .ok (.iconst 0, 1) := by decide +kernel
theorem dX12_parse_2 : decode cX12_parse 2 = .ok (.putfield 314, 3) := by decide +kernel
theorem dX12_parse_5 : decode cX12_parse 5 = .ok (.aload_n 0, 1) := by decide +kernel
theorem dX12_parse_6 : decode cX12_parse 6 = .ok (.iconst 0, 1) := by decide +kernel
theorem dX12_parse_7 : decode cX12_parse 7 = .ok (.putfield 301, 3) := by decide +kernel
theorem dX12_parse_10 : decode cX12_parse 10 = .ok (.aload_n 0, 1) := by decide +kernel
theorem dX12_parse_11 : decode cX12_parse 11 = .ok (.iconst 0, 1) := by decide +kernel
theorem dX12_parse_12 : decode cX12_parse 12 = .ok (.putfield 336, 3) := by decide +kernel
theorem dX12_parse_15 : decode cX12_parse 15 = .ok (.aload_n 0, 1) := by decide +kernel
theorem dX12_parse_16 : decode cX12_parse 16 = .ok (.iconst 0, 1) := by decide +kernel
theorem dX12_parse_17 : decode cX12_parse 17 = .ok (.putfield 304, 3) := by decide +kernel
theorem dX12_parse_20 : decode cX12_parse 20 = .ok (.aload_n 0, 1) := by decide +kernel
theorem dX12_parse_21 : decode cX12_parse 21 = .ok (.iconst (-1), 1) := by decide +kernel
theorem dX12_parse_22 : decode cX12_parse 22 = .ok (.putfield 352, 3) := by decide +kernel
theorem dX12_parse_25 : decode cX12_parse 25 = .ok (.iconst (-1), 1) := by decide +kernel
theorem dX12_parse_26 : decode cX12_parse 26 = .ok (.istore_n 1, 1) := by decide +kernel
theorem dX12_parse_27 : decode cX12_parse 27 = .ok (.aload_n 0, 1) := by decide +kernel
theorem dX12_parse_28 : decode cX12_parse 28 = .ok (.getfield 304, 3) := by decide +kernel
theorem dX12_parse_31 : decode cX12_parse 31 = .ok (.ifCond .ne 44, 3) := by decide +kernel
theorem dX12_parse_34 : decode cX12_parse 34 = .ok (.aload_n 0, 1) := by decide +kernel
theorem dX12_parse_35 : decode cX12_parse 35 = .ok (.getfield 27, 3) := by decide +kernel
theorem dX12_parse_38 : decode cX12_parse 38 = .ok (.aload_n 0, 1) := by decide +kernel
theorem dX12_parse_39 : decode cX12_parse 39 = .ok (.getfield 314, 3) := by decide +kernel
theorem dX12_parse_42 : decode cX12_parse 42 = .ok (.iaload, 1) := by decide +kernel
theorem dX12_parse_43 : decode cX12_parse 43 = .ok (.ifCond .eq 32, 3) := by decide +kernel
theorem dX12_parse_46 : decode cX12_parse 46 = .ok (.aload_n 0, 1) := by decide +kernel
theorem dX12_parse_47 : decode cX12_parse 47 = .ok (.invokevirtual 355, 3) := by decide +kernel
theorem dX12_parse_50 : decode cX12_parse 50 = .ok (.istore_n 2, 1) := by decide +kernel
theorem dX12_parse_51 : decode cX12_parse 51 = .ok (.iload_n 1, 1) := by decide +kernel
theorem dX12_parse_52 : decode cX12_parse 52 = .ok (.ifCond .ge 11, 3) := by decide +kernel
theorem dX12_parse_55 : decode cX12_parse 55 = .ok (.aload_n 0, 1) := by decide +kernel
theorem dX12_parse_56 : decode cX12_parse 56 = .ok (.iload_n 2, 1) := by decide +kernel
theorem dX12_parse_57 : decode cX12_parse 57 = .ok (.putfield 352, 3) := by decide +kernel
theorem dX12_parse_60 : decode cX12_parse 60 = .ok (.goto 10, 3) := by decide +kernel
theorem dX12_parse_63 : decode cX12_parse 63 = .ok (.aload_n 0, 1) := by decide +kernel
theorem dX12_parse_64 : decode cX12_parse 64 = .ok (.getfield 64, 3) := by decide +kernel
theorem dX12_parse_67 : decode cX12_parse 67 = .ok (.iload_n 1, 1) := by decide +kernel
theorem dX12_parse_68 : decode cX12_parse 68 = .ok (.iload_n 2, 1) := by decide +kernel
theorem dX12_parse_69 : decode cX12_parse 69 = .ok (.iastore, 1) := by decide +kernel
theorem dX12_parse_70 : decode cX12_parse 70 = .ok (.iload_n 2, 1) := by decide +kernel
theorem dX12_parse_71 : decode cX12_parse 71 = .ok (.istore_n 1, 1) := by decide +kernel
theorem dX12_parse_72 : decode cX12_parse 72 = .ok (.goto (-45), 3) := by decide +kernel
theorem dX12_parse_75 : decode cX12_parse 75 = .ok (.return_, 1) := by decide +kernel
def F_X12_parse  (σ : MS) : MR :=
  bnd (mI σ 25 0) fun σ_1 =>
  bnd (mI σ_1 23 0) fun σ_3 =>
  bnd (mI σ_3 26 0) fun σ_5 =>
  bnd (mI σ_5 27 0) fun σ_7 =>
  bnd (mI σ_7 24 (-1)) fun σ_9 =>
  loopF (fun (again_12 : (Int32 × MS) → MR) (s_11 : Int32 × MS) => (
    if (s_11.2.1 27) = 0 then (
      bnd ((s_11.2.1 25)) fun (x_17 : Int32) =>
      if x_17 < 0 ∨ 16010 ≤ x_17.toNatClampNeg then none else
      if (s_11.2.2 7 x_17.toNatClampNeg) = 0 then (
        some (0, s_11.2)
      ) else (
        (F_X12_item s_11.2).bind fun u_24 =>
        bnd (fun  (σ_26 : MS) => (
          again_12 (u_24.1, σ_26)
        ) : MS → MR) fun j_27 =>
        if 0 ≤ s_11.1 then (
          if s_11.1 < 0 ∨ 40000 ≤ s_11.1.toNatClampNeg then none else
          bnd (mA u_24.2 22 (upd (u_24.2.2 22) s_11.1.toNatClampNeg u_24.1)) fun σ_34 =>
          j_27  σ_34
        ) else (
          bnd (mI u_24.2 24 u_24.1) fun σ_37 =>
          j_27  σ_37
        )
      )
    ) else (
      some (0, s_11.2)
    )
  )) FU ((-1), σ_9)
set_option maxHeartbeats 4000000 in
set_option maxRecDepth 100000 in
theorem m_X12_parse (l : Launch) (dC : Nat → ClassId) (dI : Nat → Nat → Nat) (cB cC cI cJ cZ cP : ClassId) (h qK qS : Nat) (ad : Nat → Nat) (hDD : mDis cB cI cZ h qK qS ad) (sz : Nat)   (σ : MS) (res : Int32 × MS) (hF : F_X12_parse  σ = some res) : Met l yX12_parse (g_ws yX12_parse cX12_parse 3 none) ({ frames := 409, cells := 0, slots := 0, locals := 9518 }) (va_Pc [.ref h] (m_B (dC, dI) [(cB, .byte), (cC, .char), (cI, .int), (cJ, .long), (cZ, .boolean), (cP, .object "StoryHouse$Play")] sz h ad qK qS (mW cB cI cZ h qK qS ad σ) g_0)) (va_Qv (fun (_ : Unit) => True) (fun _ t => va_P (dC, dI) vwCl (mW cB cI cZ h qK qS ad res.2) t.heap) (mCells h ad sz)) 0 0 (mCells h ad sz) := by
  refine Met.ofW (cc := cX12_parse) (maxL := 3) (ret := none) (by decide) rfl ?_
  intro p e s m args below meth c s₁ B hml hv
  obtain ⟨rfl, hsz, hP, hK, hE, hKS, hX⟩ := hv
  have hx := B.exec
  have hb := B.bytes
  have hr := B.returns
  have hts0 := atoms_spec (ws := g_ws yX12_parse cX12_parse 3 none) B.pre
  have hts : ∀ w ∈ lw_good, w.before ([.ref h] : List Value).toArray s = true := fun w z => hts0 w (List.mem_cons_of_mem _ z)
  have hown : s.vm.findClass RX12 = some m.cls := findClass_of_methodNamed B.named
  have hlocks := B.notSynchronized
  have hS : va_S (mCells h ad sz) s.heap s.heap [] := va_S.rf
  have hl := lv_entry ([.ref h]) (n := 3) (Nat.le_of_ble_eq_true rfl)
  rw [lg_entry_eq]
  generalize (lg_sl ([.ref h]) ++ List.replicate (3 - (lg_sl ([.ref h])).length) Slot.unset).toArray = ls at hl ⊢
  have hl : lv_has ls 3 [(0, .ref h)] := hl
  unfold F_X12_parse at hF
  refine lv_aload_n hx hb dX12_parse_0 rfl (lv_at hl 0 rfl) ?_
  refine lv_iconst (v := 0) hx hb dX12_parse_1 (by decide +kernel) ?_
  obtain ⟨σ_1, eσ_1, hF_2⟩ := bnd_e hF
  clear hF
  refine m_put (σ' := σ_1) (v := .int 0) (ty := .int) hx hb hts hown hK hP (hDD _ _) hS (by rw [eσ_1]; exact mwI_25) (k := 25) (by decide) (hts (.fieldLink RX12 314 "StoryHouseModel" "at" "I") wq_1381) (fun _ h9 => h9) rfl (by decide +kernel) rfl rfl dX12_parse_2 (fun H locs hP hS => ?_)
  refine lv_aload_n hx hb dX12_parse_5 rfl (lv_at hl 0 rfl) ?_
  refine lv_iconst (v := 0) hx hb dX12_parse_6 (by decide +kernel) ?_
  obtain ⟨σ_3, eσ_3, hF_4⟩ := bnd_e hF_2
  clear hF_2
  refine m_put (σ' := σ_3) (v := .int 0) (ty := .int) hx hb hts hown hK hP (hDD _ _) hS (by rw [eσ_3]; exact mwI_23) (k := 23) (by decide) (hts (.fieldLink RX12 301 "StoryHouseModel" "nodes" "I") wq_1379) (fun _ h9 => h9) rfl (by decide +kernel) rfl rfl dX12_parse_7 (fun H locs hP hS => ?_)
  refine lv_aload_n hx hb dX12_parse_10 rfl (lv_at hl 0 rfl) ?_
  refine lv_iconst (v := 0) hx hb dX12_parse_11 (by decide +kernel) ?_
  obtain ⟨σ_5, eσ_5, hF_6⟩ := bnd_e hF_4
  clear hF_4
  refine m_put (σ' := σ_5) (v := .int 0) (ty := .int) hx hb hts hown hK hP (hDD _ _) hS (by rw [eσ_5]; exact mwI_26) (k := 26) (by decide) (hts (.fieldLink RX12 336 "StoryHouseModel" "depth" "I") wq_1382) (fun _ h9 => h9) rfl (by decide +kernel) rfl rfl dX12_parse_12 (fun H locs hP hS => ?_)
  refine lv_aload_n hx hb dX12_parse_15 rfl (lv_at hl 0 rfl) ?_
  refine lv_iconst (v := 0) hx hb dX12_parse_16 (by decide +kernel) ?_
  obtain ⟨σ_7, eσ_7, hF_8⟩ := bnd_e hF_6
  clear hF_6
  refine m_put (σ' := σ_7) (v := .int 0) (ty := .boolean) hx hb hts hown hK hP (hDD _ _) hS (by rw [eσ_7]; exact mwI_27) (k := 27) (by decide) (hts (.fieldLink RX12 304 "StoryHouseModel" "stopped" "Z") wq_1383) (fun _ h9 => h9) rfl (by decide +kernel) (by decide +kernel) (by decide +kernel) dX12_parse_17 (fun H locs hP hS => ?_)
  refine lv_aload_n hx hb dX12_parse_20 rfl (lv_at hl 0 rfl) ?_
  refine lv_iconst (v := (-1)) hx hb dX12_parse_21 (by decide +kernel) ?_
  obtain ⟨σ_9, eσ_9, hF_10⟩ := bnd_e hF_8
  clear hF_8
  refine m_put (σ' := σ_9) (v := .int (-1)) (ty := .int) hx hb hts hown hK hP (hDD _ _) hS (by rw [eσ_9]; exact mwI_24) (k := 24) (by decide) (hts (.fieldLink RX12 352 "StoryHouseModel" "items" "I") wq_1380) (fun _ h9 => h9) rfl (by decide +kernel) rfl rfl dX12_parse_22 (fun H locs hP hS => ?_)
  refine lv_iconst (v := (-1)) hx hb dX12_parse_25 (by decide +kernel) ?_
  refine lv_istore_n (lv' := [(1, .int (-1)), (0, .ref h)]) hx hb dX12_parse_26 rfl hl (by decide) rfl (fun ls hl => ?_)
  refine loopF_ind (P := fun (s_11 : Int32 × MS) => ∀ (H : Heap) (locs : List Loc), va_P (dC, dI) vwCl (mW cB cI cZ h qK qS ad s_11.2) H → va_S (mCells h ad sz) s.heap H locs → ∀ ls : Array Slot, lv_has ls 3 [(0, .ref h), (1, .int s_11.1)] → W p l e (headSpec (g_ws yX12_parse cX12_parse 3 none) { frames := 409, cells := 0, slots := 0, locals := 9518 }).room s m ([.ref h] : List Value).toArray below meth c H locs 0 0 (MQ below (va_Qv (fun (_ : Unit) => True) (fun _ t => va_P (dC, dI) vwCl (mW cB cI cZ h qK qS ad res.2) t.heap) (mCells h ad sz)) ([.ref h] : List Value).toArray s 0 0 (mCells h ad sz)) (F0 m 27 ls [])) ?_ _ _ hF_10 _ _ hP hS ls (lv_sub hl [1, 0] rfl)
  intro again_12 s_11 ih_13 hF_14
  intro H locs hP hS ls hl
  refine lv_aload_n hx hb dX12_parse_27 rfl (lv_at hl 0 rfl) ?_
  refine va_get (D := (dC, dI)) (ci := 12) (v := .int (s_11.2.1 27)) (C := RX12) (T := TX12) (N := 123) hx hb hts ii_X12 hown hK hP 0 rfl rfl 27 (by decide) (hts (.fieldLink RX12 304 "StoryHouseModel" "stopped" "Z") wq_1383) (fun _ h9 => h9) rfl dX12_parse_28 ?_
  refine lv_if_ne (tgt := 75) hx hb dX12_parse_31 (by decide) (fun c_15 => ?_) (fun c_15 => ?_)
  · have hF_39 := ineg c_15 hF_14
    clear hF_14
    have h9 := Option.some.inj hF_39
    subst h9
    exact W.vret hx hb hr (fun t ht hW => ⟨⟨(), rfl, trivial, m_end ht hP⟩, hS.F ht⟩) hS.2.2 dX12_parse_75
  · have hF_16 := ipos c_15 hF_14
    clear hF_14
    refine lv_aload_n hx hb dX12_parse_34 rfl (lv_at hl 0 rfl) ?_
    refine va_get (D := (dC, dI)) (ci := 12) (v := .ref (ad 7)) (C := RX12) (T := TX12) (N := 123) hx hb hts ii_X12 hown hK hP 0 rfl rfl 7 (by decide) (hts (.fieldLink RX12 27 "StoryHouseModel" "tokKind" "[I") wq_1363) (fun _ h9 => h9) rfl dX12_parse_35 ?_
    refine lv_aload_n hx hb dX12_parse_38 rfl (lv_at hl 0 rfl) ?_
    refine va_get (D := (dC, dI)) (ci := 12) (v := .int (s_11.2.1 25)) (C := RX12) (T := TX12) (N := 123) hx hb hts ii_X12 hown hK hP 0 rfl rfl 25 (by decide) (hts (.fieldLink RX12 314 "StoryHouseModel" "at" "I") wq_1381) (fun _ h9 => h9) rfl dX12_parse_39 ?_
    obtain ⟨x_17, ex_17, hF_18⟩ := bnd_e hF_16
    clear hF_16
    refine m_top ex_17 ?_
    obtain ⟨g_19, hF_20⟩ := nif_e hF_18
    clear hF_18
    refine va_iald (f := s_11.2.2 7) hx hb hK hP 3 2 rfl rfl g_19 dX12_parse_42 ?_
    refine lv_if_eq (tgt := 75) hx hb dX12_parse_43 (by decide) (fun c_21 => ?_) (fun c_21 => ?_)
    · have hF_22 := ipos c_21 hF_20
      clear hF_20
      have h9 := Option.some.inj hF_22
      subst h9
      exact W.vret hx hb hr (fun t ht hW => ⟨⟨(), rfl, trivial, m_end ht hP⟩, hS.F ht⟩) hS.2.2 dX12_parse_75
    · have hF_23 := ineg c_21 hF_20
      clear hF_20
      refine lv_aload_n hx hb dX12_parse_46 rfl (lv_at hl 0 rfl) ?_
      obtain ⟨u_24, hu_24, hF_25⟩ := Option.bind_eq_some_iff.mp hF_23
      clear hF_23
      refine m_ci hsz hS (va_runV (As := []) (rest := []) ⟨hx, hb, hml, hown, hts⟩ (m_X12_item l dC dI cB cC cI cJ cZ cP h qK qS ad hDD H.size  s_11.2 _ hu_24) (cwV 0 hts (g_gV wq_1531 wq_1532 wq_2123 wq_13 wq_1533) rfl rfl rfl (by decide +kernel) ⟨Nat.le_of_ble_eq_true rfl, Nat.le_of_ble_eq_true rfl⟩) (m_preV g_bl0 hsz hK hP hS hE hKS g_to0) rfl rfl hl.1 rfl (lv_room (Nat.le_of_ble_eq_true rfl)) dX12_parse_47 ⟨Nat.le_of_ble_eq_true rfl, Nat.le_of_ble_eq_true rfl⟩) (fun H locs hP hS => ?_)
      refine lv_istore_n (lv' := [(2, .int u_24.1), (0, .ref h), (1, .int s_11.1)]) hx hb dX12_parse_50 rfl hl (by decide) rfl (fun ls hl => ?_)
      refine lv_iload_n hx hb dX12_parse_51 rfl (lv_at hl 2 rfl) ?_
      obtain ⟨j_27, ej_27, hF_28⟩ := bnd_e hF_25
      clear hF_25
      have Jj_27 : ∀  (σ_26 : MS), j_27  σ_26 = some res → ∀ (H : Heap) (locs : List Loc), va_P (dC, dI) vwCl (mW cB cI cZ h qK qS ad σ_26) H → va_S (mCells h ad sz) s.heap H locs → ∀ ls : Array Slot, lv_has ls 3 [(0, .ref h), (2, .int u_24.1)] → W p l e (headSpec (g_ws yX12_parse cX12_parse 3 none) { frames := 409, cells := 0, slots := 0, locals := 9518 }).room s m ([.ref h] : List Value).toArray below meth c H locs 0 0 (MQ below (va_Qv (fun (_ : Unit) => True) (fun _ t => va_P (dC, dI) vwCl (mW cB cI cZ h qK qS ad res.2) t.heap) (mCells h ad sz)) ([.ref h] : List Value).toArray s 0 0 (mCells h ad sz)) (F0 m 70 ls []) := by
        intro  σ_26 hF0 H locs hP hS ls hl
        subst ej_27
        have hF_29 := hF0
        clear hF0
        refine lv_iload_n hx hb dX12_parse_70 rfl (lv_at hl 1 rfl) ?_
        refine lv_istore_n (lv' := [(1, .int u_24.1), (0, .ref h), (2, .int u_24.1)]) hx hb dX12_parse_71 rfl hl (by decide) rfl (fun ls hl => ?_)
        refine lv_goto (tgt := 27) hx hb dX12_parse_72 (by decide) ?_
        exact ih_13 (u_24.1, σ_26) hF_29 _ _ hP hS ls (lv_sub hl [1, 0] rfl)
      refine lv_if_ge (tgt := 63) hx hb dX12_parse_52 (by decide) (fun c_30 => ?_) (fun c_30 => ?_)
      · have hF_31 := ipos c_30 hF_28
        clear hF_28
        refine lv_aload_n hx hb dX12_parse_63 rfl (lv_at hl 1 rfl) ?_
        refine va_get (D := (dC, dI)) (ci := 12) (v := .ref (ad 22)) (C := RX12) (T := TX12) (N := 123) hx hb hts ii_X12 hown hK hP 0 rfl rfl 22 (by decide) (hts (.fieldLink RX12 64 "StoryHouseModel" "then" "[I") wq_1378) (fun _ h9 => h9) rfl dX12_parse_64 ?_
        refine lv_iload_n hx hb dX12_parse_67 rfl (lv_at hl 2 rfl) ?_
        refine lv_iload_n hx hb dX12_parse_68 rfl (lv_at hl 0 rfl) ?_
        obtain ⟨g_32, hF_33⟩ := nif_e hF_31
        clear hF_31
        obtain ⟨σ_34, eσ_34, hF_35⟩ := bnd_e hF_33
        clear hF_33
        refine m_iast (σ' := σ_34) hx hb hK hP (hDD _ _) hS (q0 := 13) (t0 := 2) (f := u_24.2.2 22) rfl rfl (by rw [eσ_34]; exact mwA_22) g_32 dX12_parse_69 (fun H locs hP hS => ?_)
        exact Jj_27  σ_34 hF_35 _ _ hP hS ls (lv_sub hl [1, 0] rfl)
      · have hF_36 := ineg c_30 hF_28
        clear hF_28
        refine lv_aload_n hx hb dX12_parse_55 rfl (lv_at hl 1 rfl) ?_
        refine lv_iload_n hx hb dX12_parse_56 rfl (lv_at hl 0 rfl) ?_
        obtain ⟨σ_37, eσ_37, hF_38⟩ := bnd_e hF_36
        clear hF_36
        refine m_put (σ' := σ_37) (v := .int u_24.1) (ty := .int) hx hb hts hown hK hP (hDD _ _) hS (by rw [eσ_37]; exact mwI_24) (k := 24) (by decide) (hts (.fieldLink RX12 352 "StoryHouseModel" "items" "I") wq_1380) (fun _ h9 => h9) rfl (by decide +kernel) rfl rfl dX12_parse_57 (fun H locs hP hS => ?_)
        refine lv_goto (tgt := 70) hx hb dX12_parse_60 (by decide) ?_
        exact Jj_27  σ_37 hF_38 _ _ hP hS ls (lv_sub hl [1, 0] rfl)
theorem dX12_note_0 : decode cX12_note 0 = .ok (.aload_n 0, 1) := by decide +kernel
theorem dX12_note_1 : decode cX12_note 1 = .ok (.getfield 308, 3) := by decide +kernel
theorem dX12_note_4 : decode cX12_note 4 = .ok (.ifCond .eq 12, 3) := by decide +kernel
theorem dX12_note_7 : decode cX12_note 7 = .ok (.aload_n 0, 1) := by decide +kernel
theorem dX12_note_8 : decode cX12_note 8 = .ok (.getfield 311, 3) := by decide +kernel
theorem dX12_note_11 : decode cX12_note 11 = .ok (.iload_n 2, 1) := by decide +kernel
theorem dX12_note_12 : decode cX12_note 12 = .ok (.if_icmp .gt 4, 3) := by decide +kernel
theorem dX12_note_15 : decode cX12_note 15 = .ok (.return_, 1) := by decide +kernel
theorem dX12_note_16 : decode cX12_note 16 = .ok (.aload_n 0, 1) := by decide +kernel
theorem dX12_note_17 : decode cX12_note 17 = .ok (.iload_n 1, 1) := by decide +kernel
theorem dX12_note_18 : decode cX12_note 18 = .ok (.putfield 308, 3) := by decide +kernel
theorem dX12_note_21 : decode cX12_note 21 = .ok (.aload_n 0, 1) := by decide +kernel
theorem dX12_note_22 : decode cX12_note 22 = .ok (.iload_n 2, 1) := by decide +kernel
theorem dX12_note_23 : decode cX12_note 23 = .ok (.putfield 311, 3) := by decide +kernel
theorem dX12_note_26 : decode cX12_note 26 = .ok (.return_, 1) := by decide +kernel
def F_X12_note (p0 : Int32) (p1 : Int32) (σ : MS) : MR :=
  bnd (fun  (σ_1 : MS) => (
    bnd (mI σ_1 14 p0) fun σ_5 =>
    bnd (mI σ_5 15 p1) fun σ_7 =>
    some (0, σ_7)
  ) : MS → MR) fun j_2 =>
  if (σ.1 14) = 0 then (
    j_2  σ
  ) else (
    if p1 < (σ.1 15) then (
      j_2  σ
    ) else (
      some (0, σ)
    )
  )
set_option maxHeartbeats 4000000 in
set_option maxRecDepth 100000 in
theorem m_X12_note (l : Launch) (dC : Nat → ClassId) (dI : Nat → Nat → Nat) (cB cC cI cJ cZ cP : ClassId) (h qK qS : Nat) (ad : Nat → Nat) (hDD : mDis cB cI cZ h qK qS ad) (sz : Nat)  (p0 : Int32) (p1 : Int32) (σ : MS) (res : Int32 × MS) (hF : F_X12_note p0 p1 σ = some res) : Met l yX12_note (g_ws yX12_note cX12_note 3 none) ({ frames := 1, cells := 0, slots := 0, locals := 40 }) (va_Pc [.ref h, .int p0, .int p1] (m_B (dC, dI) [(cB, .byte), (cC, .char), (cI, .int), (cJ, .long), (cZ, .boolean), (cP, .object "StoryHouse$Play")] sz h ad qK qS (mW cB cI cZ h qK qS ad σ) g_0)) (va_Qv (fun (_ : Unit) => True) (fun _ t => va_P (dC, dI) vwCl (mW cB cI cZ h qK qS ad res.2) t.heap) (mCells h ad sz)) 0 0 (mCells h ad sz) := by
  refine Met.ofW (cc := cX12_note) (maxL := 3) (ret := none) (by decide) rfl ?_
  intro p e s m args below meth c s₁ B hml hv
  obtain ⟨rfl, hsz, hP, hK, hE, hKS, hX⟩ := hv
  have hx := B.exec
  have hb := B.bytes
  have hr := B.returns
  have hts0 := atoms_spec (ws := g_ws yX12_note cX12_note 3 none) B.pre
  have hts : ∀ w ∈ lw_good, w.before ([.ref h, .int p0, .int p1] : List Value).toArray s = true := fun w z => hts0 w (List.mem_cons_of_mem _ z)
  have hown : s.vm.findClass RX12 = some m.cls := findClass_of_methodNamed B.named
  have hlocks := B.notSynchronized
  have hS : va_S (mCells h ad sz) s.heap s.heap [] := va_S.rf
  have hl := lv_entry ([.ref h, .int p0, .int p1]) (n := 3) (Nat.le_of_ble_eq_true rfl)
  rw [lg_entry_eq]
  generalize (lg_sl ([.ref h, .int p0, .int p1]) ++ List.replicate (3 - (lg_sl ([.ref h, .int p0, .int p1])).length) Slot.unset).toArray = ls at hl ⊢
  have hl : lv_has ls 3 [(0, .ref h), (1, .int p0), (2, .int p1)] := hl
  unfold F_X12_note at hF
  refine lv_aload_n hx hb dX12_note_0 rfl (lv_at hl 0 rfl) ?_
  refine va_get (D := (dC, dI)) (ci := 12) (v := .int (σ.1 14)) (C := RX12) (T := TX12) (N := 123) hx hb hts ii_X12 hown hK hP 0 rfl rfl 14 (by decide) (hts (.fieldLink RX12 308 "StoryHouseModel" "fault" "I") wq_1370) (fun _ h9 => h9) rfl dX12_note_1 ?_
  obtain ⟨j_2, ej_2, hF_3⟩ := bnd_e hF
  clear hF
  have Jj_2 : ∀  (σ_1 : MS), j_2  σ_1 = some res → ∀ (H : Heap) (locs : List Loc), va_P (dC, dI) vwCl (mW cB cI cZ h qK qS ad σ_1) H → va_S (mCells h ad sz) s.heap H locs → ∀ ls : Array Slot, lv_has ls 3 [(0, .ref h), (1, .int p0), (2, .int p1)] → W p l e (headSpec (g_ws yX12_note cX12_note 3 none) { frames := 1, cells := 0, slots := 0, locals := 40 }).room s m ([.ref h, .int p0, .int p1] : List Value).toArray below meth c H locs 0 0 (MQ below (va_Qv (fun (_ : Unit) => True) (fun _ t => va_P (dC, dI) vwCl (mW cB cI cZ h qK qS ad res.2) t.heap) (mCells h ad sz)) ([.ref h, .int p0, .int p1] : List Value).toArray s 0 0 (mCells h ad sz)) (F0 m 16 ls []) := by
    intro  σ_1 hF0 H locs hP hS ls hl
    subst ej_2
    have hF_4 := hF0
    clear hF0
    refine lv_aload_n hx hb dX12_note_16 rfl (lv_at hl 0 rfl) ?_
    refine lv_iload_n hx hb dX12_note_17 rfl (lv_at hl 1 rfl) ?_
    obtain ⟨σ_5, eσ_5, hF_6⟩ := bnd_e hF_4
    clear hF_4
    refine m_put (σ' := σ_5) (v := .int p0) (ty := .int) hx hb hts hown hK hP (hDD _ _) hS (by rw [eσ_5]; exact mwI_14) (k := 14) (by decide) (hts (.fieldLink RX12 308 "StoryHouseModel" "fault" "I") wq_1370) (fun _ h9 => h9) rfl (by decide +kernel) rfl rfl dX12_note_18 (fun H locs hP hS => ?_)
    refine lv_aload_n hx hb dX12_note_21 rfl (lv_at hl 0 rfl) ?_
    refine lv_iload_n hx hb dX12_note_22 rfl (lv_at hl 2 rfl) ?_
    obtain ⟨σ_7, eσ_7, hF_8⟩ := bnd_e hF_6
    clear hF_6
    refine m_put (σ' := σ_7) (v := .int p1) (ty := .int) hx hb hts hown hK hP (hDD _ _) hS (by rw [eσ_7]; exact mwI_15) (k := 15) (by decide) (hts (.fieldLink RX12 311 "StoryHouseModel" "faultAt" "I") wq_1371) (fun _ h9 => h9) rfl (by decide +kernel) rfl rfl dX12_note_23 (fun H locs hP hS => ?_)
    have h9 := Option.some.inj hF_8
    subst h9
    exact W.vret hx hb hr (fun t ht hW => ⟨⟨(), rfl, trivial, m_end ht hP⟩, hS.F ht⟩) hS.2.2 dX12_note_26
  refine lv_if_eq (tgt := 16) hx hb dX12_note_4 (by decide) (fun c_9 => ?_) (fun c_9 => ?_)
  · have hF_10 := ipos c_9 hF_3
    clear hF_3
    exact Jj_2  σ hF_10 _ _ hP hS ls (lv_sub hl [0, 1, 2] rfl)
  · have hF_11 := ineg c_9 hF_3
    clear hF_3
    refine lv_aload_n hx hb dX12_note_7 rfl (lv_at hl 0 rfl) ?_
    refine va_get (D := (dC, dI)) (ci := 12) (v := .int (σ.1 15)) (C := RX12) (T := TX12) (N := 123) hx hb hts ii_X12 hown hK hP 0 rfl rfl 15 (by decide) (hts (.fieldLink RX12 311 "StoryHouseModel" "faultAt" "I") wq_1371) (fun _ h9 => h9) rfl dX12_note_8 ?_
    refine lv_iload_n hx hb dX12_note_11 rfl (lv_at hl 2 rfl) ?_
    refine lv_icmp_gt (tgt := 16) hx hb dX12_note_12 (by decide) (fun c_12 => ?_) (fun c_12 => ?_)
    · have hF_13 := ipos c_12 hF_11
      clear hF_11
      exact Jj_2  σ hF_13 _ _ hP hS ls (lv_sub hl [0, 1, 2] rfl)
    · have hF_14 := ineg c_12 hF_11
      clear hF_11
      have h9 := Option.some.inj hF_14
      subst h9
      exact W.vret hx hb hr (fun t ht hW => ⟨⟨(), rfl, trivial, m_end ht hP⟩, hS.F ht⟩) hS.2.2 dX12_note_15
