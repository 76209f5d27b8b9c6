abbrev b_M_frameOf : ByteArray := prog_14_method_137_code
def y_M_frameOf : MethodName := ⟨R_M, "frameOf", "(IIIZ)V"⟩
def w_M_frameOf : List Cond := wd_ws y_M_frameOf b_M_frameOf 15 none
set_option maxRecDepth 100000 in
theorem k_M_frameOf : Cond.code y_M_frameOf b_M_frameOf 15 none ∈ wd_tbl := wd_of 3177 rfl rfl
theorem d_M_frameOf_0 : decode b_M_frameOf 0 = .ok (.iload_n 2, 1) := by decide +kernel
theorem d_M_frameOf_1 : decode b_M_frameOf 1 = .ok (.iconst (-1), 1) := by decide +kernel
theorem d_M_frameOf_2 : decode b_M_frameOf 2 = .ok (.if_icmp .eq 7, 3) := by decide +kernel
theorem d_M_frameOf_5 : decode b_M_frameOf 5 = .ok (.iconst 1, 1) := by decide +kernel
theorem d_M_frameOf_6 : decode b_M_frameOf 6 = .ok (.goto 4, 3) := by decide +kernel
theorem d_M_frameOf_9 : decode b_M_frameOf 9 = .ok (.iconst 0, 1) := by decide +kernel
theorem d_M_frameOf_10 : decode b_M_frameOf 10 = .ok (.istore 5, 2) := by decide +kernel
theorem d_M_frameOf_12 : decode b_M_frameOf 12 = .ok (.aload_n 0, 1) := by decide +kernel
theorem d_M_frameOf_13 : decode b_M_frameOf 13 = .ok (.getfield 959, 3) := by decide +kernel
theorem d_M_frameOf_16 : decode b_M_frameOf 16 = .ok (.ifCond .eq 7, 3) := by decide +kernel
theorem d_M_frameOf_19 : decode b_M_frameOf 19 = .ok (.iconst 1, 1) := by decide +kernel
theorem d_M_frameOf_20 : decode b_M_frameOf 20 = .ok (.goto 4, 3) := by decide +kernel
theorem d_M_frameOf_23 : decode b_M_frameOf 23 = .ok (.iconst 0, 1) := by decide +kernel
theorem d_M_frameOf_24 : decode b_M_frameOf 24 = .ok (.istore 6, 2) := by decide +kernel
theorem d_M_frameOf_26 : decode b_M_frameOf 26 = .ok (.iload 6, 2) := by decide +kernel
theorem d_M_frameOf_28 : decode b_M_frameOf 28 = .ok (.iconst 1, 1) := by decide +kernel
theorem d_M_frameOf_29 : decode b_M_frameOf 29 = .ok (.if_icmp .ne 11, 3) := by decide +kernel
theorem d_M_frameOf_32 : decode b_M_frameOf 32 = .ok (.aload_n 0, 1) := by decide +kernel
theorem d_M_frameOf_33 : decode b_M_frameOf 33 = .ok (.iload_n 3, 1) := by decide +kernel
theorem d_M_frameOf_34 : decode b_M_frameOf 34 = .ok (.invokevirtual 848, 3) := by decide +kernel
theorem d_M_frameOf_37 : decode b_M_frameOf 37 = .ok (.goto 9, 3) := by decide +kernel
theorem d_M_frameOf_40 : decode b_M_frameOf 40 = .ok (.bipush 6, 2) := by decide +kernel
theorem d_M_frameOf_42 : decode b_M_frameOf 42 = .ok (.iconst 0, 1) := by decide +kernel
theorem d_M_frameOf_43 : decode b_M_frameOf 43 = .ok (.invokestatic 315, 3) := by decide +kernel
theorem d_M_frameOf_46 : decode b_M_frameOf 46 = .ok (.lstore 7, 2) := by decide +kernel
theorem d_M_frameOf_48 : decode b_M_frameOf 48 = .ok (.aload_n 0, 1) := by decide +kernel
theorem d_M_frameOf_49 : decode b_M_frameOf 49 = .ok (.getfield 669, 3) := by decide +kernel
theorem d_M_frameOf_52 : decode b_M_frameOf 52 = .ok (.ldc_w 672, 3) := by decide +kernel
theorem d_M_frameOf_55 : decode b_M_frameOf 55 = .ok (.imul, 1) := by decide +kernel
theorem d_M_frameOf_56 : decode b_M_frameOf 56 = .ok (.istore 9, 2) := by decide +kernel
theorem d_M_frameOf_58 : decode b_M_frameOf 58 = .ok (.aload_n 0, 1) := by decide +kernel
theorem d_M_frameOf_59 : decode b_M_frameOf 59 = .ok (.getfield 202, 3) := by decide +kernel
theorem d_M_frameOf_62 : decode b_M_frameOf 62 = .ok (.aload_n 0, 1) := by decide +kernel
theorem d_M_frameOf_63 : decode b_M_frameOf 63 = .ok (.getfield 669, 3) := by decide +kernel
theorem d_M_frameOf_66 : decode b_M_frameOf 66 = .ok (.iaload, 1) := by decide +kernel
theorem d_M_frameOf_67 : decode b_M_frameOf 67 = .ok (.iload_n 3, 1) := by decide +kernel
theorem d_M_frameOf_68 : decode b_M_frameOf 68 = .ok (.isub, 1) := by decide +kernel
theorem d_M_frameOf_69 : decode b_M_frameOf 69 = .ok (.iload 6, 2) := by decide +kernel
theorem d_M_frameOf_71 : decode b_M_frameOf 71 = .ok (.isub, 1) := by decide +kernel
theorem d_M_frameOf_72 : decode b_M_frameOf 72 = .ok (.istore 10, 2) := by decide +kernel
theorem d_M_frameOf_74 : decode b_M_frameOf 74 = .ok (.aload_n 0, 1) := by decide +kernel
theorem d_M_frameOf_75 : decode b_M_frameOf 75 = .ok (.getfield 209, 3) := by decide +kernel
theorem d_M_frameOf_78 : decode b_M_frameOf 78 = .ok (.aload_n 0, 1) := by decide +kernel
theorem d_M_frameOf_79 : decode b_M_frameOf 79 = .ok (.getfield 669, 3) := by decide +kernel
theorem d_M_frameOf_82 : decode b_M_frameOf 82 = .ok (.iaload, 1) := by decide +kernel
theorem d_M_frameOf_83 : decode b_M_frameOf 83 = .ok (.istore 11, 2) := by decide +kernel
theorem d_M_frameOf_85 : decode b_M_frameOf 85 = .ok (.iload 4, 2) := by decide +kernel
theorem d_M_frameOf_87 : decode b_M_frameOf 87 = .ok (.ifCond .eq 28, 3) := by decide +kernel
theorem d_M_frameOf_90 : decode b_M_frameOf 90 = .ok (.aload_n 0, 1) := by decide +kernel
theorem d_M_frameOf_91 : decode b_M_frameOf 91 = .ok (.getfield 227, 3) := by decide +kernel
theorem d_M_frameOf_94 : decode b_M_frameOf 94 = .ok (.aload_n 0, 1) := by decide +kernel
theorem d_M_frameOf_95 : decode b_M_frameOf 95 = .ok (.invokevirtual 673, 3) := by decide +kernel
theorem d_M_frameOf_98 : decode b_M_frameOf 98 = .ok (.iaload, 1) := by decide +kernel
theorem d_M_frameOf_99 : decode b_M_frameOf 99 = .ok (.istore 10, 2) := by decide +kernel
theorem d_M_frameOf_101 : decode b_M_frameOf 101 = .ok (.aload_n 0, 1) := by decide +kernel
theorem d_M_frameOf_102 : decode b_M_frameOf 102 = .ok (.getfield 224, 3) := by decide +kernel
theorem d_M_frameOf_105 : decode b_M_frameOf 105 = .ok (.aload_n 0, 1) := by decide +kernel
theorem d_M_frameOf_106 : decode b_M_frameOf 106 = .ok (.invokevirtual 673, 3) := by decide +kernel
theorem d_M_frameOf_109 : decode b_M_frameOf 109 = .ok (.iaload, 1) := by decide +kernel
theorem d_M_frameOf_110 : decode b_M_frameOf 110 = .ok (.istore 11, 2) := by decide +kernel
theorem d_M_frameOf_112 : decode b_M_frameOf 112 = .ok (.goto 16, 3) := by decide +kernel
theorem d_M_frameOf_115 : decode b_M_frameOf 115 = .ok (.aload_n 0, 1) := by decide +kernel
theorem d_M_frameOf_116 : decode b_M_frameOf 116 = .ok (.getfield 212, 3) := by decide +kernel
theorem d_M_frameOf_119 : decode b_M_frameOf 119 = .ok (.aload_n 0, 1) := by decide +kernel
theorem d_M_frameOf_120 : decode b_M_frameOf 120 = .ok (.getfield 669, 3) := by decide +kernel
theorem d_M_frameOf_123 : decode b_M_frameOf 123 = .ok (.dup2, 1) := by decide +kernel
theorem d_M_frameOf_124 : decode b_M_frameOf 124 = .ok (.iaload, 1) := by decide +kernel
theorem d_M_frameOf_125 : decode b_M_frameOf 125 = .ok (.iconst 1, 1) := by decide +kernel
theorem d_M_frameOf_126 : decode b_M_frameOf 126 = .ok (.iadd, 1) := by decide +kernel
theorem d_M_frameOf_127 : decode b_M_frameOf 127 = .ok (.iastore, 1) := by decide +kernel
theorem d_M_frameOf_128 : decode b_M_frameOf 128 = .ok (.aload_n 0, 1) := by decide +kernel
theorem d_M_frameOf_129 : decode b_M_frameOf 129 = .ok (.getfield 202, 3) := by decide +kernel
theorem d_M_frameOf_132 : decode b_M_frameOf 132 = .ok (.aload_n 0, 1) := by decide +kernel
theorem d_M_frameOf_133 : decode b_M_frameOf 133 = .ok (.getfield 669, 3) := by decide +kernel
theorem d_M_frameOf_136 : decode b_M_frameOf 136 = .ok (.iaload, 1) := by decide +kernel
theorem d_M_frameOf_137 : decode b_M_frameOf 137 = .ok (.iload_n 3, 1) := by decide +kernel
theorem d_M_frameOf_138 : decode b_M_frameOf 138 = .ok (.isub, 1) := by decide +kernel
theorem d_M_frameOf_139 : decode b_M_frameOf 139 = .ok (.istore 12, 2) := by decide +kernel
theorem d_M_frameOf_141 : decode b_M_frameOf 141 = .ok (.iconst 0, 1) := by decide +kernel
theorem d_M_frameOf_142 : decode b_M_frameOf 142 = .ok (.istore 13, 2) := by decide +kernel
theorem d_M_frameOf_144 : decode b_M_frameOf 144 = .ok (.iload 13, 2) := by decide +kernel
theorem d_M_frameOf_146 : decode b_M_frameOf 146 = .ok (.iload_n 3, 1) := by decide +kernel
theorem d_M_frameOf_147 : decode b_M_frameOf 147 = .ok (.if_icmp .ge 35, 3) := by decide +kernel
theorem d_M_frameOf_150 : decode b_M_frameOf 150 = .ok (.aload_n 0, 1) := by decide +kernel
theorem d_M_frameOf_151 : decode b_M_frameOf 151 = .ok (.getfield 199, 3) := by decide +kernel
theorem d_M_frameOf_154 : decode b_M_frameOf 154 = .ok (.iload 9, 2) := by decide +kernel
theorem d_M_frameOf_156 : decode b_M_frameOf 156 = .ok (.iload 10, 2) := by decide +kernel
theorem d_M_frameOf_158 : decode b_M_frameOf 158 = .ok (.iadd, 1) := by decide +kernel
theorem d_M_frameOf_159 : decode b_M_frameOf 159 = .ok (.iload 13, 2) := by decide +kernel
theorem d_M_frameOf_161 : decode b_M_frameOf 161 = .ok (.iadd, 1) := by decide +kernel
theorem d_M_frameOf_162 : decode b_M_frameOf 162 = .ok (.aload_n 0, 1) := by decide +kernel
theorem d_M_frameOf_163 : decode b_M_frameOf 163 = .ok (.getfield 199, 3) := by decide +kernel
theorem d_M_frameOf_166 : decode b_M_frameOf 166 = .ok (.iload 9, 2) := by decide +kernel
theorem d_M_frameOf_168 : decode b_M_frameOf 168 = .ok (.iload 12, 2) := by decide +kernel
theorem d_M_frameOf_170 : decode b_M_frameOf 170 = .ok (.iadd, 1) := by decide +kernel
theorem d_M_frameOf_171 : decode b_M_frameOf 171 = .ok (.iload 13, 2) := by decide +kernel
theorem d_M_frameOf_173 : decode b_M_frameOf 173 = .ok (.iadd, 1) := by decide +kernel
theorem d_M_frameOf_174 : decode b_M_frameOf 174 = .ok (.laload, 1) := by decide +kernel
theorem d_M_frameOf_175 : decode b_M_frameOf 175 = .ok (.lastore, 1) := by decide +kernel
theorem d_M_frameOf_176 : decode b_M_frameOf 176 = .ok (.iinc 13 1, 3) := by decide +kernel
theorem d_M_frameOf_179 : decode b_M_frameOf 179 = .ok (.goto (-35), 3) := by decide +kernel
theorem d_M_frameOf_182 : decode b_M_frameOf 182 = .ok (.aload_n 0, 1) := by decide +kernel
theorem d_M_frameOf_183 : decode b_M_frameOf 183 = .ok (.getfield 202, 3) := by decide +kernel
theorem d_M_frameOf_186 : decode b_M_frameOf 186 = .ok (.aload_n 0, 1) := by decide +kernel
theorem d_M_frameOf_187 : decode b_M_frameOf 187 = .ok (.getfield 669, 3) := by decide +kernel
theorem d_M_frameOf_190 : decode b_M_frameOf 190 = .ok (.iload 10, 2) := by decide +kernel
theorem d_M_frameOf_192 : decode b_M_frameOf 192 = .ok (.iload_n 3, 1) := by decide +kernel
theorem d_M_frameOf_193 : decode b_M_frameOf 193 = .ok (.iadd, 1) := by decide +kernel
theorem d_M_frameOf_194 : decode b_M_frameOf 194 = .ok (.iastore, 1) := by decide +kernel
theorem d_M_frameOf_195 : decode b_M_frameOf 195 = .ok (.aload_n 0, 1) := by decide +kernel
theorem d_M_frameOf_196 : decode b_M_frameOf 196 = .ok (.invokevirtual 673, 3) := by decide +kernel
theorem d_M_frameOf_199 : decode b_M_frameOf 199 = .ok (.istore 13, 2) := by decide +kernel
theorem d_M_frameOf_201 : decode b_M_frameOf 201 = .ok (.aload_n 0, 1) := by decide +kernel
theorem d_M_frameOf_202 : decode b_M_frameOf 202 = .ok (.getfield 215, 3) := by decide +kernel
theorem d_M_frameOf_205 : decode b_M_frameOf 205 = .ok (.iload 13, 2) := by decide +kernel
theorem d_M_frameOf_207 : decode b_M_frameOf 207 = .ok (.iload_n 1, 1) := by decide +kernel
theorem d_M_frameOf_208 : decode b_M_frameOf 208 = .ok (.iastore, 1) := by decide +kernel
theorem d_M_frameOf_209 : decode b_M_frameOf 209 = .ok (.aload_n 0, 1) := by decide +kernel
theorem d_M_frameOf_210 : decode b_M_frameOf 210 = .ok (.getfield 218, 3) := by decide +kernel
theorem d_M_frameOf_213 : decode b_M_frameOf 213 = .ok (.iload 13, 2) := by decide +kernel
theorem d_M_frameOf_215 : decode b_M_frameOf 215 = .ok (.iconst (-1), 1) := by decide +kernel
theorem d_M_frameOf_216 : decode b_M_frameOf 216 = .ok (.iastore, 1) := by decide +kernel
theorem d_M_frameOf_217 : decode b_M_frameOf 217 = .ok (.aload_n 0, 1) := by decide +kernel
theorem d_M_frameOf_218 : decode b_M_frameOf 218 = .ok (.getfield 227, 3) := by decide +kernel
theorem d_M_frameOf_221 : decode b_M_frameOf 221 = .ok (.iload 13, 2) := by decide +kernel
theorem d_M_frameOf_223 : decode b_M_frameOf 223 = .ok (.iload 10, 2) := by decide +kernel
theorem d_M_frameOf_225 : decode b_M_frameOf 225 = .ok (.iastore, 1) := by decide +kernel
theorem d_M_frameOf_226 : decode b_M_frameOf 226 = .ok (.aload_n 0, 1) := by decide +kernel
theorem d_M_frameOf_227 : decode b_M_frameOf 227 = .ok (.getfield 224, 3) := by decide +kernel
theorem d_M_frameOf_230 : decode b_M_frameOf 230 = .ok (.iload 13, 2) := by decide +kernel
theorem d_M_frameOf_232 : decode b_M_frameOf 232 = .ok (.iload 11, 2) := by decide +kernel
theorem d_M_frameOf_234 : decode b_M_frameOf 234 = .ok (.iastore, 1) := by decide +kernel
theorem d_M_frameOf_235 : decode b_M_frameOf 235 = .ok (.aload_n 0, 1) := by decide +kernel
theorem d_M_frameOf_236 : decode b_M_frameOf 236 = .ok (.getfield 209, 3) := by decide +kernel
theorem d_M_frameOf_239 : decode b_M_frameOf 239 = .ok (.aload_n 0, 1) := by decide +kernel
theorem d_M_frameOf_240 : decode b_M_frameOf 240 = .ok (.getfield 669, 3) := by decide +kernel
theorem d_M_frameOf_243 : decode b_M_frameOf 243 = .ok (.iload 11, 2) := by decide +kernel
theorem d_M_frameOf_245 : decode b_M_frameOf 245 = .ok (.iastore, 1) := by decide +kernel
theorem d_M_frameOf_246 : decode b_M_frameOf 246 = .ok (.aload_n 0, 1) := by decide +kernel
theorem d_M_frameOf_247 : decode b_M_frameOf 247 = .ok (.getfield 230, 3) := by decide +kernel
theorem d_M_frameOf_250 : decode b_M_frameOf 250 = .ok (.iload 13, 2) := by decide +kernel
theorem d_M_frameOf_252 : decode b_M_frameOf 252 = .ok (.iconst 0, 1) := by decide +kernel
theorem d_M_frameOf_253 : decode b_M_frameOf 253 = .ok (.iastore, 1) := by decide +kernel
theorem d_M_frameOf_254 : decode b_M_frameOf 254 = .ok (.iload 5, 2) := by decide +kernel
theorem d_M_frameOf_256 : decode b_M_frameOf 256 = .ok (.ifCond .eq 103, 3) := by decide +kernel
theorem d_M_frameOf_259 : decode b_M_frameOf 259 = .ok (.aload_n 0, 1) := by decide +kernel
theorem d_M_frameOf_260 : decode b_M_frameOf 260 = .ok (.getfield 230, 3) := by decide +kernel
theorem d_M_frameOf_263 : decode b_M_frameOf 263 = .ok (.iload 13, 2) := by decide +kernel
theorem d_M_frameOf_265 : decode b_M_frameOf 265 = .ok (.aload_n 0, 1) := by decide +kernel
theorem d_M_frameOf_266 : decode b_M_frameOf 266 = .ok (.aload_n 0, 1) := by decide +kernel
theorem d_M_frameOf_267 : decode b_M_frameOf 267 = .ok (.getfield 669, 3) := by decide +kernel
theorem d_M_frameOf_270 : decode b_M_frameOf 270 = .ok (.lload 7, 2) := by decide +kernel
theorem d_M_frameOf_272 : decode b_M_frameOf 272 = .ok (.invokestatic 680, 3) := by decide +kernel
theorem d_M_frameOf_275 : decode b_M_frameOf 275 = .ok (.iconst 1, 1) := by decide +kernel
theorem d_M_frameOf_276 : decode b_M_frameOf 276 = .ok (.iadd, 1) := by decide +kernel
theorem d_M_frameOf_277 : decode b_M_frameOf 277 = .ok (.invokevirtual 683, 3) := by decide +kernel
theorem d_M_frameOf_280 : decode b_M_frameOf 280 = .ok (.l2i, 1) := by decide +kernel
theorem d_M_frameOf_281 : decode b_M_frameOf 281 = .ok (.iastore, 1) := by decide +kernel
theorem d_M_frameOf_282 : decode b_M_frameOf 282 = .ok (.iconst 0, 1) := by decide +kernel
theorem d_M_frameOf_283 : decode b_M_frameOf 283 = .ok (.istore 14, 2) := by decide +kernel
theorem d_M_frameOf_285 : decode b_M_frameOf 285 = .ok (.iload 14, 2) := by decide +kernel
theorem d_M_frameOf_287 : decode b_M_frameOf 287 = .ok (.aload_n 0, 1) := by decide +kernel
theorem d_M_frameOf_288 : decode b_M_frameOf 288 = .ok (.getfield 230, 3) := by decide +kernel
theorem d_M_frameOf_291 : decode b_M_frameOf 291 = .ok (.iload 13, 2) := by decide +kernel
theorem d_M_frameOf_293 : decode b_M_frameOf 293 = .ok (.iaload, 1) := by decide +kernel
theorem d_M_frameOf_294 : decode b_M_frameOf 294 = .ok (.if_icmp .ge 46, 3) := by decide +kernel
theorem d_M_frameOf_297 : decode b_M_frameOf 297 = .ok (.aload_n 0, 1) := by decide +kernel
theorem d_M_frameOf_298 : decode b_M_frameOf 298 = .ok (.getfield 206, 3) := by decide +kernel
theorem d_M_frameOf_301 : decode b_M_frameOf 301 = .ok (.aload_n 0, 1) := by decide +kernel
theorem d_M_frameOf_302 : decode b_M_frameOf 302 = .ok (.getfield 669, 3) := by decide +kernel
theorem d_M_frameOf_305 : decode b_M_frameOf 305 = .ok (.sipush 2500, 3) := by decide +kernel
theorem d_M_frameOf_308 : decode b_M_frameOf 308 = .ok (.imul, 1) := by decide +kernel
theorem d_M_frameOf_309 : decode b_M_frameOf 309 = .ok (.iload 11, 2) := by decide +kernel
theorem d_M_frameOf_311 : decode b_M_frameOf 311 = .ok (.iadd, 1) := by decide +kernel
theorem d_M_frameOf_312 : decode b_M_frameOf 312 = .ok (.iload 14, 2) := by decide +kernel
theorem d_M_frameOf_314 : decode b_M_frameOf 314 = .ok (.iadd, 1) := by decide +kernel
theorem d_M_frameOf_315 : decode b_M_frameOf 315 = .ok (.aload_n 0, 1) := by decide +kernel
theorem d_M_frameOf_316 : decode b_M_frameOf 316 = .ok (.aload_n 0, 1) := by decide +kernel
theorem d_M_frameOf_317 : decode b_M_frameOf 317 = .ok (.getfield 669, 3) := by decide +kernel
theorem d_M_frameOf_320 : decode b_M_frameOf 320 = .ok (.lload 7, 2) := by decide +kernel
theorem d_M_frameOf_322 : decode b_M_frameOf 322 = .ok (.invokestatic 680, 3) := by decide +kernel
theorem d_M_frameOf_325 : decode b_M_frameOf 325 = .ok (.iconst 2, 1) := by decide +kernel
theorem d_M_frameOf_326 : decode b_M_frameOf 326 = .ok (.iadd, 1) := by decide +kernel
theorem d_M_frameOf_327 : decode b_M_frameOf 327 = .ok (.iload 14, 2) := by decide +kernel
theorem d_M_frameOf_329 : decode b_M_frameOf 329 = .ok (.iadd, 1) := by decide +kernel
theorem d_M_frameOf_330 : decode b_M_frameOf 330 = .ok (.invokevirtual 683, 3) := by decide +kernel
theorem d_M_frameOf_333 : decode b_M_frameOf 333 = .ok (.lastore, 1) := by decide +kernel
theorem d_M_frameOf_334 : decode b_M_frameOf 334 = .ok (.iinc 14 1, 3) := by decide +kernel
theorem d_M_frameOf_337 : decode b_M_frameOf 337 = .ok (.goto (-52), 3) := by decide +kernel
theorem d_M_frameOf_340 : decode b_M_frameOf 340 = .ok (.aload_n 0, 1) := by decide +kernel
theorem d_M_frameOf_341 : decode b_M_frameOf 341 = .ok (.getfield 209, 3) := by decide +kernel
theorem d_M_frameOf_344 : decode b_M_frameOf 344 = .ok (.aload_n 0, 1) := by decide +kernel
theorem d_M_frameOf_345 : decode b_M_frameOf 345 = .ok (.getfield 669, 3) := by decide +kernel
theorem d_M_frameOf_348 : decode b_M_frameOf 348 = .ok (.iload 11, 2) := by decide +kernel
theorem d_M_frameOf_350 : decode b_M_frameOf 350 = .ok (.aload_n 0, 1) := by decide +kernel
theorem d_M_frameOf_351 : decode b_M_frameOf 351 = .ok (.getfield 230, 3) := by decide +kernel
theorem d_M_frameOf_354 : decode b_M_frameOf 354 = .ok (.iload 13, 2) := by decide +kernel
theorem d_M_frameOf_356 : decode b_M_frameOf 356 = .ok (.iaload, 1) := by decide +kernel
theorem d_M_frameOf_357 : decode b_M_frameOf 357 = .ok (.iadd, 1) := by decide +kernel
theorem d_M_frameOf_358 : decode b_M_frameOf 358 = .ok (.iastore, 1) := by decide +kernel
theorem d_M_frameOf_359 : decode b_M_frameOf 359 = .ok (.return_, 1) := by decide +kernel
set_option maxRecDepth 100000 in
theorem hl_M_frameOf : Cond.methodLink R_M 964 y_M_frameOf ∈ wd_tbl := wd_of 3174 (by decide +kernel) rfl
set_option maxRecDepth 100000 in
theorem hi_M_frameOf : Cond.instanceMethod y_M_frameOf ∈ wd_tbl := wd_of 3176 (by decide +kernel) rfl
set_option maxRecDepth 100000 in
theorem hs_M_frameOf : Cond.selects R_M y_M_frameOf y_M_frameOf ∈ wd_tbl := wd_of 248 (by decide +kernel) rfl
theorem hd_M_frameOf : y_M_frameOf.cls = R_M ∧ y_M_frameOf.cls ≠ "java/lang/invoke/MethodHandle" ∧ y_M_frameOf.cls ≠ "java/lang/invoke/VarHandle" ∧ (parseMethodDescriptor y_M_frameOf.desc).map (fun d => d.parameters.length) = some 4 := by decide +kernel
def rm_M_frameOf : Room := { frames := 1, cells := 0, slots := 0, locals := 22 }
theorem rm_M_frameOf_M_top {R : Room} (hR : R = rm_M_frameOf) : (rm_M_top).frames + 1 ≤ R.frames ∧ 8 + (2 + 11) + (rm_M_top).locals ≤ R.locals := by subst hR; decide
theorem rm_M_frameOf_M_term {R : Room} (hR : R = rm_M_frameOf) : (rm_M_term).frames + 1 ≤ R.frames ∧ 8 + (2 + 11) + (rm_M_term).locals ≤ R.locals := by subst hR; decide
theorem rm_M_frameOf_M_frame0 {R : Room} (hR : R = rm_M_frameOf) : (rm_M_frame0).frames + 1 ≤ R.frames ∧ 8 + (1 + 11) + (rm_M_frame0).locals ≤ R.locals := by subst hR; decide
theorem rm_M_frameOf_M_valueOf {R : Room} (hR : R = rm_M_frameOf) : (rm_M_valueOf).frames + 1 ≤ R.frames ∧ 8 + (2 + 11) + (rm_M_valueOf).locals ≤ R.locals := by subst hR; decide
theorem rm_M_frameOf_M_cell {R : Room} (hR : R = rm_M_frameOf) : (rm_M_cell).frames + 1 ≤ R.frames ∧ 8 + (3 + 11) + (rm_M_cell).locals ≤ R.locals := by subst hR; decide
def fb_M_frameOf_359 (N : Nat) (G : (MS → Int32 → Int32 → Int32 → Int64 → Int32 → Int32 → Int32 → Int32 → Int32 → Option (MS × Unit)) × (MS → Int64 → Int32 → Int32 → Int32 → Option (MS × Unit))) (u : MS) : Option (MS × Unit) := some (u, ())
set_option maxRecDepth 100000 in
set_option maxHeartbeats 4000000 in
theorem wb_M_frameOf_359 {p : Program} {l : Launch} {e : Env} {R : Room} {s : State} {m : MethodId} {args : Array Value} {below : List Frame} {meth : Method} {c : Code} {D : va_G} {cl : List vw_C} {cB cI cJ cZ cS : ClassId} {A : Nat → Prop} {iM h0 : Nat} {ad : Nat → Nat} (C0 : MCx p s m args meth c b_M_frameOf 15 none D cl cB cI cJ cZ cS iM A) (hR : R = rm_M_frameOf) (N : Nat) (G : (MS → Int32 → Int32 → Int32 → Int64 → Int32 → Int32 → Int32 → Int32 → Int32 → Option (MS × Unit)) × (MS → Int64 → Int32 → Int32 → Int32 → Option (MS × Unit))) (hG : (∀ (u : MS) (v1 : Int32) (v3 : Int32) (v5 : Int32) (v7 : Int64) (v9 : Int32) (v10 : Int32) (v11 : Int32) (v12 : Int32) (v13 : Int32) (x : MS × Unit), G.1 u v1 v3 v5 v7 v9 v10 v11 v12 v13 = some x → ∀ (H : Heap) (locs : List Loc), va_P D cl (wM cB cI cJ cZ cS iM h0 ad u) H → va_D A (wM cB cI cJ cZ cS iM h0 ad u) → va_S A s.heap H locs → ∀ (ls : Array Slot), lv_has ls 15 [(0, .ref h0), (1, .int v1), (3, .int v3), (5, .int v5), (7, .long v7), (9, .int v9), (10, .int v10), (11, .int v11), (12, .int v12), (13, .int v13)] → W p l e R s m args below meth c H locs 0 0 (MQ below (mQv D cl cB cI cJ cZ cS iM h0 ad A x) args s 0 0 A) (F0 m 144 ls [])) ∧ (∀ (u : MS) (v7 : Int64) (v11 : Int32) (v13 : Int32) (v14 : Int32) (x : MS × Unit), G.2 u v7 v11 v13 v14 = some x → ∀ (H : Heap) (locs : List Loc), va_P D cl (wM cB cI cJ cZ cS iM h0 ad u) H → va_D A (wM cB cI cJ cZ cS iM h0 ad u) → va_S A s.heap H locs → ∀ (ls : Array Slot), lv_has ls 15 [(0, .ref h0), (7, .long v7), (11, .int v11), (13, .int v13), (14, .int v14)] → W p l e R s m args below meth c H locs 0 0 (MQ below (mQv D cl cB cI cJ cZ cS iM h0 ad A x) args s 0 0 A) (F0 m 285 ls []))) : ∀ (u : MS) (x : MS × Unit), fb_M_frameOf_359 N G u = some x → ∀ (H : Heap) (locs : List Loc), va_P D cl (wM cB cI cJ cZ cS iM h0 ad u) H → va_D A (wM cB cI cJ cZ cS iM h0 ad u) → va_S A s.heap H locs → ∀ (ls : Array Slot), lv_has ls 15 [] → W p l e R s m args below meth c H locs 0 0 (MQ below (mQv D cl cB cI cJ cZ cS iM h0 ad A x) args s 0 0 A) (F0 m 359 ls []) := by
  intro u x hf H locs hP hD hS ls hl
  obtain ⟨hx, hb, hr, hml, ht, hown, hM, hK, hA, hlocks⟩ := id C0
  unfold fb_M_frameOf_359 at hf
  exact mr_v C0 hP hD hS hf d_M_frameOf_359
def fb_M_frameOf_285 (N : Nat) (G : (MS → Int32 → Int32 → Int32 → Int64 → Int32 → Int32 → Int32 → Int32 → Int32 → Option (MS × Unit)) × (MS → Int64 → Int32 → Int32 → Int32 → Option (MS × Unit))) (u : MS) (v7 : Int64) (v11 : Int32) (v13 : Int32) (v14 : Int32) : Option (MS × Unit) := ck (inb v13 (ln 101)) (br (decide ((u.2.2.1 101 v13.toNatClampNeg) ≤ v14)) (ck (inb v13 (ln 101)) (ck (inb (u.1 133) (ln 94)) (lt (upA u 94 (upd (u.2.2.1 94) (u.1 133).toNatClampNeg (v11 + (u.2.2.1 101 v13.toNatClampNeg)))) (fun w1 => fb_M_frameOf_359 N G w1)))) (bnd (fm_M_valueOf N u v7) (fun u2 r2 => bnd (fm_M_cell N u2 (u.1 133) ((r2 + 2) + v14)) (fun u3 r3 => ck (inb ((((u.1 133) * 2500) + v11) + v14) (ln 93)) (lt (upJ u3 93 (vp_updL (u3.2.2.2 93) ((((u.1 133) * 2500) + v11) + v14).toNatClampNeg r3)) (fun w4 => G.2 w4 (v7) (v11) (v13) ((v14 + 1))))))))
set_option maxRecDepth 100000 in
set_option maxHeartbeats 4000000 in
theorem wb_M_frameOf_285 {p : Program} {l : Launch} {e : Env} {R : Room} {s : State} {m : MethodId} {args : Array Value} {below : List Frame} {meth : Method} {c : Code} {D : va_G} {cl : List vw_C} {cB cI cJ cZ cS : ClassId} {A : Nat → Prop} {iM h0 : Nat} {ad : Nat → Nat} (C0 : MCx p s m args meth c b_M_frameOf 15 none D cl cB cI cJ cZ cS iM A) (hR : R = rm_M_frameOf) (N : Nat) (G : (MS → Int32 → Int32 → Int32 → Int64 → Int32 → Int32 → Int32 → Int32 → Int32 → Option (MS × Unit)) × (MS → Int64 → Int32 → Int32 → Int32 → Option (MS × Unit))) (hG : (∀ (u : MS) (v1 : Int32) (v3 : Int32) (v5 : Int32) (v7 : Int64) (v9 : Int32) (v10 : Int32) (v11 : Int32) (v12 : Int32) (v13 : Int32) (x : MS × Unit), G.1 u v1 v3 v5 v7 v9 v10 v11 v12 v13 = some x → ∀ (H : Heap) (locs : List Loc), va_P D cl (wM cB cI cJ cZ cS iM h0 ad u) H → va_D A (wM cB cI cJ cZ cS iM h0 ad u) → va_S A s.heap H locs → ∀ (ls : Array Slot), lv_has ls 15 [(0, .ref h0), (1, .int v1), (3, .int v3), (5, .int v5), (7, .long v7), (9, .int v9), (10, .int v10), (11, .int v11), (12, .int v12), (13, .int v13)] → W p l e R s m args below meth c H locs 0 0 (MQ below (mQv D cl cB cI cJ cZ cS iM h0 ad A x) args s 0 0 A) (F0 m 144 ls [])) ∧ (∀ (u : MS) (v7 : Int64) (v11 : Int32) (v13 : Int32) (v14 : Int32) (x : MS × Unit), G.2 u v7 v11 v13 v14 = some x → ∀ (H : Heap) (locs : List Loc), va_P D cl (wM cB cI cJ cZ cS iM h0 ad u) H → va_D A (wM cB cI cJ cZ cS iM h0 ad u) → va_S A s.heap H locs → ∀ (ls : Array Slot), lv_has ls 15 [(0, .ref h0), (7, .long v7), (11, .int v11), (13, .int v13), (14, .int v14)] → W p l e R s m args below meth c H locs 0 0 (MQ below (mQv D cl cB cI cJ cZ cS iM h0 ad A x) args s 0 0 A) (F0 m 285 ls []))) : ∀ (u : MS) (v7 : Int64) (v11 : Int32) (v13 : Int32) (v14 : Int32) (x : MS × Unit), fb_M_frameOf_285 N G u v7 v11 v13 v14 = some x → ∀ (H : Heap) (locs : List Loc), va_P D cl (wM cB cI cJ cZ cS iM h0 ad u) H → va_D A (wM cB cI cJ cZ cS iM h0 ad u) → va_S A s.heap H locs → ∀ (ls : Array Slot), lv_has ls 15 [(0, .ref h0), (7, .long v7), (11, .int v11), (13, .int v13), (14, .int v14)] → W p l e R s m args below meth c H locs 0 0 (MQ below (mQv D cl cB cI cJ cZ cS iM h0 ad A x) args s 0 0 A) (F0 m 285 ls []) := by
  intro u v7 v11 v13 v14 x hf H locs hP hD hS ls hl
  obtain ⟨hx, hb, hr, hml, ht, hown, hM, hK, hA, hlocks⟩ := id C0
  unfold fb_M_frameOf_285 at hf
  refine lv_iload hx hb d_M_frameOf_285 (lv_at hl 4 rfl) ?_
  refine lv_aload_n hx hb d_M_frameOf_287 rfl (lv_at hl 0 rfl) ?_
  refine ug_R hx hb ht hown hM hK hP 101 (by decide) lk_M_101 (by decide) d_M_frameOf_288 ?_
  refine lv_iload hx hb d_M_frameOf_291 (lv_at hl 3 rfl) ?_
  obtain ⟨hi9, hf⟩ := ck_some hf
  refine ul_I hx hb hK hP (by decide) (by decide) hi9 d_M_frameOf_293 ?_
  refine lv_icmp_ge (tgt := 340) hx hb d_M_frameOf_294 (by decide) (fun hc => ?_) (fun hc => ?_)
  · rw [br_p _ hc] at hf
    refine lv_aload_n hx hb d_M_frameOf_340 rfl (lv_at hl 0 rfl) ?_
    refine ug_R hx hb ht hown hM hK hP 94 (by decide) lk_M_94 (by decide) d_M_frameOf_341 ?_
    refine lv_aload_n hx hb d_M_frameOf_344 rfl (lv_at hl 0 rfl) ?_
    refine ug_I hx hb ht hown hM hK hP 133 (by decide) lk_M_133 (by decide) d_M_frameOf_345 ?_
    refine lv_iload hx hb d_M_frameOf_348 (lv_at hl 2 rfl) ?_
    refine lv_aload_n hx hb d_M_frameOf_350 rfl (lv_at hl 0 rfl) ?_
    refine ug_R hx hb ht hown hM hK hP 101 (by decide) lk_M_101 (by decide) d_M_frameOf_351 ?_
    refine lv_iload hx hb d_M_frameOf_354 (lv_at hl 3 rfl) ?_
    obtain ⟨hi9, hf⟩ := ck_some hf
    refine ul_I hx hb hK hP (by decide) (by decide) hi9 d_M_frameOf_356 ?_
    refine lv_iadd hx hb d_M_frameOf_357 ?_
    obtain ⟨hi9, hf⟩ := ck_some hf
    refine us_I hx hb hK hP hD hS (by decide) (by decide) hi9 d_M_frameOf_358 (fun H locs hP hD hS => ?_)
    obtain ⟨w1, e1, hf⟩ := lt_some hf
    rw [← e1] at hP hD
    exact wb_M_frameOf_359 C0 hR N G hG _ _ hf H locs hP hD hS ls (lv_sub hl [] rfl)
  · rw [br_n _ hc] at hf
    refine lv_aload_n hx hb d_M_frameOf_297 rfl (lv_at hl 0 rfl) ?_
    refine ug_R hx hb ht hown hM hK hP 93 (by decide) lk_M_93 (by decide) d_M_frameOf_298 ?_
    refine lv_aload_n hx hb d_M_frameOf_301 rfl (lv_at hl 0 rfl) ?_
    refine ug_I hx hb ht hown hM hK hP 133 (by decide) lk_M_133 (by decide) d_M_frameOf_302 ?_
    refine lv_sipush (v := 2500) hx hb d_M_frameOf_305 (by decide) ?_
    refine lv_imul hx hb d_M_frameOf_308 ?_
    refine lv_iload hx hb d_M_frameOf_309 (lv_at hl 2 rfl) ?_
    refine lv_iadd hx hb d_M_frameOf_311 ?_
    refine lv_iload hx hb d_M_frameOf_312 (lv_at hl 4 rfl) ?_
    refine lv_iadd hx hb d_M_frameOf_314 ?_
    refine lv_aload_n hx hb d_M_frameOf_315 rfl (lv_at hl 0 rfl) ?_
    refine lv_aload_n hx hb d_M_frameOf_316 rfl (lv_at hl 0 rfl) ?_
    refine ug_I hx hb ht hown hM hK hP 133 (by decide) lk_M_133 (by decide) d_M_frameOf_317 ?_
    refine lv_lload hx hb d_M_frameOf_320 (lv_at hl 1 rfl) ?_
    obtain ⟨u2, r2, hc2, hf⟩ := bnd_some hf
    refine mS_i (As := [.long v7]) (rest := [.int (u.1 133), .ref h0, .int ((((u.1 133) * 2500) + v11) + v14), .ref (ad 93)]) C0 hP hD hS (c_M_valueOf N hM hc2) k_M_valueOf hl_M_valueOf ht_M_valueOf hini_M rfl rfl hd_M_valueOf rfl (rm_M_frameOf_M_valueOf hR) hl.1 (Nat.le_of_ble_eq_true rfl) d_M_frameOf_322 rfl ⟨Nat.zero_le _, Nat.zero_le _⟩ (fun H locs hP hD hS => ?_)
    refine lv_iconst (v := 2) hx hb d_M_frameOf_325 (by decide) ?_
    refine lv_iadd hx hb d_M_frameOf_326 ?_
    refine lv_iload hx hb d_M_frameOf_327 (lv_at hl 4 rfl) ?_
    refine lv_iadd hx hb d_M_frameOf_329 ?_
    obtain ⟨u3, r3, hc3, hf⟩ := bnd_some hf
    refine mV_l (As := [.int (u.1 133), .int ((r2 + 2) + v14)]) (rest := [.int ((((u.1 133) * 2500) + v11) + v14), .ref (ad 93)]) C0 hP hD hS (c_M_cell N hM hc3) k_M_cell hl_M_cell hi_M_cell hs_M_cell hini_M rfl rfl hd_M_cell rfl (rm_M_frameOf_M_cell hR) hl.1 (Nat.le_of_ble_eq_true rfl) d_M_frameOf_330 rfl ⟨Nat.zero_le _, Nat.zero_le _⟩ (fun H locs hP hD hS => ?_)
    obtain ⟨hi9, hf⟩ := ck_some hf
    refine us_J hx hb hK hP hD hS (by decide) (by decide) hi9 d_M_frameOf_333 (fun H locs hP hD hS => ?_)
    obtain ⟨w4, e4, hf⟩ := lt_some hf
    rw [← e4] at hP hD
    refine lv_iinc (v := (v14 + 1)) (lv' := [(14, .int (v14 + 1)), (0, .ref h0), (7, .long v7), (11, .int v11), (13, .int v13)]) hx hb d_M_frameOf_334 hl (k := 4) rfl rfl (by decide) rfl (fun ls hl => ?_)
    refine lv_goto (tgt := 285) hx hb d_M_frameOf_337 (by decide) ?_
    exact hG.2 _ _ _ _ _ _ hf H locs hP hD hS ls (lv_sub hl [1, 2, 3, 4, 0] rfl)
def fb_M_frameOf_144 (N : Nat) (G : (MS → Int32 → Int32 → Int32 → Int64 → Int32 → Int32 → Int32 → Int32 → Int32 → Option (MS × Unit)) × (MS → Int64 → Int32 → Int32 → Int32 → Option (MS × Unit))) (u : MS) (v1 : Int32) (v3 : Int32) (v5 : Int32) (v7 : Int64) (v9 : Int32) (v10 : Int32) (v11 : Int32) (v12 : Int32) (v13 : Int32) : Option (MS × Unit) := br (decide (v3 ≤ v13)) (ck (inb (u.1 133) (ln 92)) (lt (upA u 92 (upd (u.2.2.1 92) (u.1 133).toNatClampNeg (v10 + v3))) (fun w5 => bnd (fm_M_frame0 N w5) (fun u6 r6 => ck (inb r6 (ln 96)) (lt (upA u6 96 (upd (u6.2.2.1 96) r6.toNatClampNeg v1)) (fun w7 => ck (inb r6 (ln 97)) (lt (upA w7 97 (upd (w7.2.2.1 97) r6.toNatClampNeg (-1))) (fun w8 => ck (inb r6 (ln 100)) (lt (upA w8 100 (upd (w8.2.2.1 100) r6.toNatClampNeg v10)) (fun w9 => ck (inb r6 (ln 99)) (lt (upA w9 99 (upd (w9.2.2.1 99) r6.toNatClampNeg v11)) (fun w10 => ck (inb (w10.1 133) (ln 94)) (lt (upA w10 94 (upd (w10.2.2.1 94) (w10.1 133).toNatClampNeg v11)) (fun w11 => ck (inb r6 (ln 101)) (lt (upA w11 101 (upd (w11.2.2.1 101) r6.toNatClampNeg 0)) (fun w12 => br (decide (v5 = 0)) (fb_M_frameOf_359 N G w12) (bnd (fm_M_valueOf N w12 v7) (fun u13 r13 => bnd (fm_M_cell N u13 (w12.1 133) (r13 + 1)) (fun u14 r14 => ck (inb r6 (ln 101)) (lt (upA u14 101 (upd (u14.2.2.1 101) r6.toNatClampNeg (r14.toInt32))) (fun w15 => G.2 w15 (v7) (v11) (r6) (0)))))))))))))))))))))) (ck (inb ((v9 + v12) + v13) (ln 91)) (ck (inb ((v9 + v10) + v13) (ln 91)) (lt (upJ u 91 (vp_updL (u.2.2.2 91) ((v9 + v10) + v13).toNatClampNeg (u.2.2.2 91 ((v9 + v12) + v13).toNatClampNeg))) (fun w16 => G.1 w16 (v1) (v3) (v5) (v7) (v9) (v10) (v11) (v12) ((v13 + 1))))))
set_option maxRecDepth 100000 in
set_option maxHeartbeats 4000000 in
theorem wb_M_frameOf_144 {p : Program} {l : Launch} {e : Env} {R : Room} {s : State} {m : MethodId} {args : Array Value} {below : List Frame} {meth : Method} {c : Code} {D : va_G} {cl : List vw_C} {cB cI cJ cZ cS : ClassId} {A : Nat → Prop} {iM h0 : Nat} {ad : Nat → Nat} (C0 : MCx p s m args meth c b_M_frameOf 15 none D cl cB cI cJ cZ cS iM A) (hR : R = rm_M_frameOf) (N : Nat) (G : (MS → Int32 → Int32 → Int32 → Int64 → Int32 → Int32 → Int32 → Int32 → Int32 → Option (MS × Unit)) × (MS → Int64 → Int32 → Int32 → Int32 → Option (MS × Unit))) (hG : (∀ (u : MS) (v1 : Int32) (v3 : Int32) (v5 : Int32) (v7 : Int64) (v9 : Int32) (v10 : Int32) (v11 : Int32) (v12 : Int32) (v13 : Int32) (x : MS × Unit), G.1 u v1 v3 v5 v7 v9 v10 v11 v12 v13 = some x → ∀ (H : Heap) (locs : List Loc), va_P D cl (wM cB cI cJ cZ cS iM h0 ad u) H → va_D A (wM cB cI cJ cZ cS iM h0 ad u) → va_S A s.heap H locs → ∀ (ls : Array Slot), lv_has ls 15 [(0, .ref h0), (1, .int v1), (3, .int v3), (5, .int v5), (7, .long v7), (9, .int v9), (10, .int v10), (11, .int v11), (12, .int v12), (13, .int v13)] → W p l e R s m args below meth c H locs 0 0 (MQ below (mQv D cl cB cI cJ cZ cS iM h0 ad A x) args s 0 0 A) (F0 m 144 ls [])) ∧ (∀ (u : MS) (v7 : Int64) (v11 : Int32) (v13 : Int32) (v14 : Int32) (x : MS × Unit), G.2 u v7 v11 v13 v14 = some x → ∀ (H : Heap) (locs : List Loc), va_P D cl (wM cB cI cJ cZ cS iM h0 ad u) H → va_D A (wM cB cI cJ cZ cS iM h0 ad u) → va_S A s.heap H locs → ∀ (ls : Array Slot), lv_has ls 15 [(0, .ref h0), (7, .long v7), (11, .int v11), (13, .int v13), (14, .int v14)] → W p l e R s m args below meth c H locs 0 0 (MQ below (mQv D cl cB cI cJ cZ cS iM h0 ad A x) args s 0 0 A) (F0 m 285 ls []))) : ∀ (u : MS) (v1 : Int32) (v3 : Int32) (v5 : Int32) (v7 : Int64) (v9 : Int32) (v10 : Int32) (v11 : Int32) (v12 : Int32) (v13 : Int32) (x : MS × Unit), fb_M_frameOf_144 N G u v1 v3 v5 v7 v9 v10 v11 v12 v13 = some x → ∀ (H : Heap) (locs : List Loc), va_P D cl (wM cB cI cJ cZ cS iM h0 ad u) H → va_D A (wM cB cI cJ cZ cS iM h0 ad u) → va_S A s.heap H locs → ∀ (ls : Array Slot), lv_has ls 15 [(0, .ref h0), (1, .int v1), (3, .int v3), (5, .int v5), (7, .long v7), (9, .int v9), (10, .int v10), (11, .int v11), (12, .int v12), (13, .int v13)] → W p l e R s m args below meth c H locs 0 0 (MQ below (mQv D cl cB cI cJ cZ cS iM h0 ad A x) args s 0 0 A) (F0 m 144 ls []) := by
  intro u v1 v3 v5 v7 v9 v10 v11 v12 v13 x hf H locs hP hD hS ls hl
  obtain ⟨hx, hb, hr, hml, ht, hown, hM, hK, hA, hlocks⟩ := id C0
  unfold fb_M_frameOf_144 at hf
  refine lv_iload hx hb d_M_frameOf_144 (lv_at hl 9 rfl) ?_
  refine lv_iload_n hx hb d_M_frameOf_146 rfl (lv_at hl 2 rfl) ?_
  refine lv_icmp_ge (tgt := 182) hx hb d_M_frameOf_147 (by decide) (fun hc => ?_) (fun hc => ?_)
  · rw [br_p _ hc] at hf
    refine lv_aload_n hx hb d_M_frameOf_182 rfl (lv_at hl 0 rfl) ?_
    refine ug_R hx hb ht hown hM hK hP 92 (by decide) lk_M_92 (by decide) d_M_frameOf_183 ?_
    refine lv_aload_n hx hb d_M_frameOf_186 rfl (lv_at hl 0 rfl) ?_
    refine ug_I hx hb ht hown hM hK hP 133 (by decide) lk_M_133 (by decide) d_M_frameOf_187 ?_
    refine lv_iload hx hb d_M_frameOf_190 (lv_at hl 6 rfl) ?_
    refine lv_iload_n hx hb d_M_frameOf_192 rfl (lv_at hl 2 rfl) ?_
    refine lv_iadd hx hb d_M_frameOf_193 ?_
    obtain ⟨hi9, hf⟩ := ck_some hf
    refine us_I hx hb hK hP hD hS (by decide) (by decide) hi9 d_M_frameOf_194 (fun H locs hP hD hS => ?_)
    obtain ⟨w5, e5, hf⟩ := lt_some hf
    rw [← e5] at hP hD
    refine lv_aload_n hx hb d_M_frameOf_195 rfl (lv_at hl 0 rfl) ?_
    obtain ⟨u6, r6, hc6, hf⟩ := bnd_some hf
    refine mV_i (As := []) (rest := []) C0 hP hD hS (c_M_frame0 N hM hc6) k_M_frame0 hl_M_frame0 hi_M_frame0 hs_M_frame0 hini_M rfl rfl hd_M_frame0 rfl (rm_M_frameOf_M_frame0 hR) hl.1 (Nat.le_of_ble_eq_true rfl) d_M_frameOf_196 rfl ⟨Nat.zero_le _, Nat.zero_le _⟩ (fun H locs hP hD hS => ?_)
    refine lv_istore (lv' := [(13, .int r6), (0, .ref h0), (1, .int v1), (3, .int v3), (5, .int v5), (7, .long v7), (9, .int v9), (10, .int v10), (11, .int v11), (12, .int v12)]) hx hb d_M_frameOf_199 hl (by decide) rfl (fun ls hl => ?_)
    refine lv_aload_n hx hb d_M_frameOf_201 rfl (lv_at hl 1 rfl) ?_
    refine ug_R hx hb ht hown hM hK hP 96 (by decide) lk_M_96 (by decide) d_M_frameOf_202 ?_
    refine lv_iload hx hb d_M_frameOf_205 (lv_at hl 0 rfl) ?_
    refine lv_iload_n hx hb d_M_frameOf_207 rfl (lv_at hl 2 rfl) ?_
    obtain ⟨hi9, hf⟩ := ck_some hf
    refine us_I hx hb hK hP hD hS (by decide) (by decide) hi9 d_M_frameOf_208 (fun H locs hP hD hS => ?_)
    obtain ⟨w7, e7, hf⟩ := lt_some hf
    rw [← e7] at hP hD
    refine lv_aload_n hx hb d_M_frameOf_209 rfl (lv_at hl 1 rfl) ?_
    refine ug_R hx hb ht hown hM hK hP 97 (by decide) lk_M_97 (by decide) d_M_frameOf_210 ?_
    refine lv_iload hx hb d_M_frameOf_213 (lv_at hl 0 rfl) ?_
    refine lv_iconst (v := (-1)) hx hb d_M_frameOf_215 (by decide) ?_
    obtain ⟨hi9, hf⟩ := ck_some hf
    refine us_I hx hb hK hP hD hS (by decide) (by decide) hi9 d_M_frameOf_216 (fun H locs hP hD hS => ?_)
    obtain ⟨w8, e8, hf⟩ := lt_some hf
    rw [← e8] at hP hD
    refine lv_aload_n hx hb d_M_frameOf_217 rfl (lv_at hl 1 rfl) ?_
    refine ug_R hx hb ht hown hM hK hP 100 (by decide) lk_M_100 (by decide) d_M_frameOf_218 ?_
    refine lv_iload hx hb d_M_frameOf_221 (lv_at hl 0 rfl) ?_
    refine lv_iload hx hb d_M_frameOf_223 (lv_at hl 7 rfl) ?_
    obtain ⟨hi9, hf⟩ := ck_some hf
    refine us_I hx hb hK hP hD hS (by decide) (by decide) hi9 d_M_frameOf_225 (fun H locs hP hD hS => ?_)
    obtain ⟨w9, e9, hf⟩ := lt_some hf
    rw [← e9] at hP hD
    refine lv_aload_n hx hb d_M_frameOf_226 rfl (lv_at hl 1 rfl) ?_
    refine ug_R hx hb ht hown hM hK hP 99 (by decide) lk_M_99 (by decide) d_M_frameOf_227 ?_
    refine lv_iload hx hb d_M_frameOf_230 (lv_at hl 0 rfl) ?_
    refine lv_iload hx hb d_M_frameOf_232 (lv_at hl 8 rfl) ?_
    obtain ⟨hi9, hf⟩ := ck_some hf
    refine us_I hx hb hK hP hD hS (by decide) (by decide) hi9 d_M_frameOf_234 (fun H locs hP hD hS => ?_)
    obtain ⟨w10, e10, hf⟩ := lt_some hf
    rw [← e10] at hP hD
    refine lv_aload_n hx hb d_M_frameOf_235 rfl (lv_at hl 1 rfl) ?_
    refine ug_R hx hb ht hown hM hK hP 94 (by decide) lk_M_94 (by decide) d_M_frameOf_236 ?_
    refine lv_aload_n hx hb d_M_frameOf_239 rfl (lv_at hl 1 rfl) ?_
    refine ug_I hx hb ht hown hM hK hP 133 (by decide) lk_M_133 (by decide) d_M_frameOf_240 ?_
    refine lv_iload hx hb d_M_frameOf_243 (lv_at hl 8 rfl) ?_
    obtain ⟨hi9, hf⟩ := ck_some hf
    refine us_I hx hb hK hP hD hS (by decide) (by decide) hi9 d_M_frameOf_245 (fun H locs hP hD hS => ?_)
    obtain ⟨w11, e11, hf⟩ := lt_some hf
    rw [← e11] at hP hD
    refine lv_aload_n hx hb d_M_frameOf_246 rfl (lv_at hl 1 rfl) ?_
    refine ug_R hx hb ht hown hM hK hP 101 (by decide) lk_M_101 (by decide) d_M_frameOf_247 ?_
    refine lv_iload hx hb d_M_frameOf_250 (lv_at hl 0 rfl) ?_
    refine lv_iconst (v := 0) hx hb d_M_frameOf_252 (by decide) ?_
    obtain ⟨hi9, hf⟩ := ck_some hf
    refine us_I hx hb hK hP hD hS (by decide) (by decide) hi9 d_M_frameOf_253 (fun H locs hP hD hS => ?_)
    obtain ⟨w12, e12, hf⟩ := lt_some hf
    rw [← e12] at hP hD
    refine lv_iload hx hb d_M_frameOf_254 (lv_at hl 4 rfl) ?_
    refine lv_if_eq (tgt := 359) hx hb d_M_frameOf_256 (by decide) (fun hc => ?_) (fun hc => ?_)
    · rw [br_p _ hc] at hf
      exact wb_M_frameOf_359 C0 hR N G hG _ _ hf H locs hP hD hS ls (lv_sub hl [] rfl)
    · rw [br_n _ hc] at hf
      refine lv_aload_n hx hb d_M_frameOf_259 rfl (lv_at hl 1 rfl) ?_
      refine ug_R hx hb ht hown hM hK hP 101 (by decide) lk_M_101 (by decide) d_M_frameOf_260 ?_
      refine lv_iload hx hb d_M_frameOf_263 (lv_at hl 0 rfl) ?_
      refine lv_aload_n hx hb d_M_frameOf_265 rfl (lv_at hl 1 rfl) ?_
      refine lv_aload_n hx hb d_M_frameOf_266 rfl (lv_at hl 1 rfl) ?_
      refine ug_I hx hb ht hown hM hK hP 133 (by decide) lk_M_133 (by decide) d_M_frameOf_267 ?_
      refine lv_lload hx hb d_M_frameOf_270 (lv_at hl 5 rfl) ?_
      obtain ⟨u13, r13, hc13, hf⟩ := bnd_some hf
      refine mS_i (As := [.long v7]) (rest := [.int (w12.1 133), .ref h0, .int r6, .ref (ad 101)]) C0 hP hD hS (c_M_valueOf N hM hc13) k_M_valueOf hl_M_valueOf ht_M_valueOf hini_M rfl rfl hd_M_valueOf rfl (rm_M_frameOf_M_valueOf hR) hl.1 (Nat.le_of_ble_eq_true rfl) d_M_frameOf_272 rfl ⟨Nat.zero_le _, Nat.zero_le _⟩ (fun H locs hP hD hS => ?_)
      refine lv_iconst (v := 1) hx hb d_M_frameOf_275 (by decide) ?_
      refine lv_iadd hx hb d_M_frameOf_276 ?_
      obtain ⟨u14, r14, hc14, hf⟩ := bnd_some hf
      refine mV_l (As := [.int (w12.1 133), .int (r13 + 1)]) (rest := [.int r6, .ref (ad 101)]) C0 hP hD hS (c_M_cell N hM hc14) k_M_cell hl_M_cell hi_M_cell hs_M_cell hini_M rfl rfl hd_M_cell rfl (rm_M_frameOf_M_cell hR) hl.1 (Nat.le_of_ble_eq_true rfl) d_M_frameOf_277 rfl ⟨Nat.zero_le _, Nat.zero_le _⟩ (fun H locs hP hD hS => ?_)
      refine lv_l2i hx hb d_M_frameOf_280 rfl ?_
      obtain ⟨hi9, hf⟩ := ck_some hf
      refine us_I hx hb hK hP hD hS (by decide) (by decide) hi9 d_M_frameOf_281 (fun H locs hP hD hS => ?_)
      obtain ⟨w15, e15, hf⟩ := lt_some hf
      rw [← e15] at hP hD
      refine lv_iconst (v := 0) hx hb d_M_frameOf_282 (by decide) ?_
      refine lv_istore (lv' := [(14, .int 0), (13, .int r6), (0, .ref h0), (1, .int v1), (3, .int v3), (5, .int v5), (7, .long v7), (9, .int v9), (10, .int v10), (11, .int v11), (12, .int v12)]) hx hb d_M_frameOf_283 hl (by decide) rfl (fun ls hl => ?_)
      exact hG.2 _ _ _ _ _ _ hf H locs hP hD hS ls (lv_sub hl [2, 6, 9, 1, 0] rfl)
  · rw [br_n _ hc] at hf
    refine lv_aload_n hx hb d_M_frameOf_150 rfl (lv_at hl 0 rfl) ?_
    refine ug_R hx hb ht hown hM hK hP 91 (by decide) lk_M_91 (by decide) d_M_frameOf_151 ?_
    refine lv_iload hx hb d_M_frameOf_154 (lv_at hl 5 rfl) ?_
    refine lv_iload hx hb d_M_frameOf_156 (lv_at hl 6 rfl) ?_
    refine lv_iadd hx hb d_M_frameOf_158 ?_
    refine lv_iload hx hb d_M_frameOf_159 (lv_at hl 9 rfl) ?_
    refine lv_iadd hx hb d_M_frameOf_161 ?_
    refine lv_aload_n hx hb d_M_frameOf_162 rfl (lv_at hl 0 rfl) ?_
    refine ug_R hx hb ht hown hM hK hP 91 (by decide) lk_M_91 (by decide) d_M_frameOf_163 ?_
    refine lv_iload hx hb d_M_frameOf_166 (lv_at hl 5 rfl) ?_
    refine lv_iload hx hb d_M_frameOf_168 (lv_at hl 8 rfl) ?_
    refine lv_iadd hx hb d_M_frameOf_170 ?_
    refine lv_iload hx hb d_M_frameOf_171 (lv_at hl 9 rfl) ?_
    refine lv_iadd hx hb d_M_frameOf_173 ?_
    obtain ⟨hi9, hf⟩ := ck_some hf
    refine ul_J hx hb hK hP (by decide) (by decide) hi9 d_M_frameOf_174 ?_
    obtain ⟨hi9, hf⟩ := ck_some hf
    refine us_J hx hb hK hP hD hS (by decide) (by decide) hi9 d_M_frameOf_175 (fun H locs hP hD hS => ?_)
    obtain ⟨w16, e16, hf⟩ := lt_some hf
    rw [← e16] at hP hD
    refine lv_iinc (v := (v13 + 1)) (lv' := [(13, .int (v13 + 1)), (0, .ref h0), (1, .int v1), (3, .int v3), (5, .int v5), (7, .long v7), (9, .int v9), (10, .int v10), (11, .int v11), (12, .int v12)]) hx hb d_M_frameOf_176 hl (k := 9) rfl rfl (by decide) rfl (fun ls hl => ?_)
    refine lv_goto (tgt := 144) hx hb d_M_frameOf_179 (by decide) ?_
    exact hG.1 _ _ _ _ _ _ _ _ _ _ _ hf H locs hP hD hS ls (lv_sub hl [1, 2, 3, 4, 5, 6, 7, 8, 9, 0] rfl)
def fb_M_frameOf_128 (N : Nat) (G : (MS → Int32 → Int32 → Int32 → Int64 → Int32 → Int32 → Int32 → Int32 → Int32 → Option (MS × Unit)) × (MS → Int64 → Int32 → Int32 → Int32 → Option (MS × Unit))) (u : MS) (v1 : Int32) (v3 : Int32) (v5 : Int32) (v7 : Int64) (v9 : Int32) (v10 : Int32) (v11 : Int32) : Option (MS × Unit) := ck (inb (u.1 133) (ln 92)) (lt ((u.2.2.1 92 (u.1 133).toNatClampNeg) - v3) (fun y17 => G.1 u (v1) (v3) (v5) (v7) (v9) (v10) (v11) (y17) (0)))
set_option maxRecDepth 100000 in
set_option maxHeartbeats 4000000 in
theorem wb_M_frameOf_128 {p : Program} {l : Launch} {e : Env} {R : Room} {s : State} {m : MethodId} {args : Array Value} {below : List Frame} {meth : Method} {c : Code} {D : va_G} {cl : List vw_C} {cB cI cJ cZ cS : ClassId} {A : Nat → Prop} {iM h0 : Nat} {ad : Nat → Nat} (C0 : MCx p s m args meth c b_M_frameOf 15 none D cl cB cI cJ cZ cS iM A) (hR : R = rm_M_frameOf) (N : Nat) (G : (MS → Int32 → Int32 → Int32 → Int64 → Int32 → Int32 → Int32 → Int32 → Int32 → Option (MS × Unit)) × (MS → Int64 → Int32 → Int32 → Int32 → Option (MS × Unit))) (hG : (∀ (u : MS) (v1 : Int32) (v3 : Int32) (v5 : Int32) (v7 : Int64) (v9 : Int32) (v10 : Int32) (v11 : Int32) (v12 : Int32) (v13 : Int32) (x : MS × Unit), G.1 u v1 v3 v5 v7 v9 v10 v11 v12 v13 = some x → ∀ (H : Heap) (locs : List Loc), va_P D cl (wM cB cI cJ cZ cS iM h0 ad u) H → va_D A (wM cB cI cJ cZ cS iM h0 ad u) → va_S A s.heap H locs → ∀ (ls : Array Slot), lv_has ls 15 [(0, .ref h0), (1, .int v1), (3, .int v3), (5, .int v5), (7, .long v7), (9, .int v9), (10, .int v10), (11, .int v11), (12, .int v12), (13, .int v13)] → W p l e R s m args below meth c H locs 0 0 (MQ below (mQv D cl cB cI cJ cZ cS iM h0 ad A x) args s 0 0 A) (F0 m 144 ls [])) ∧ (∀ (u : MS) (v7 : Int64) (v11 : Int32) (v13 : Int32) (v14 : Int32) (x : MS × Unit), G.2 u v7 v11 v13 v14 = some x → ∀ (H : Heap) (locs : List Loc), va_P D cl (wM cB cI cJ cZ cS iM h0 ad u) H → va_D A (wM cB cI cJ cZ cS iM h0 ad u) → va_S A s.heap H locs → ∀ (ls : Array Slot), lv_has ls 15 [(0, .ref h0), (7, .long v7), (11, .int v11), (13, .int v13), (14, .int v14)] → W p l e R s m args below meth c H locs 0 0 (MQ below (mQv D cl cB cI cJ cZ cS iM h0 ad A x) args s 0 0 A) (F0 m 285 ls []))) : ∀ (u : MS) (v1 : Int32) (v3 : Int32) (v5 : Int32) (v7 : Int64) (v9 : Int32) (v10 : Int32) (v11 : Int32) (x : MS × Unit), fb_M_frameOf_128 N G u v1 v3 v5 v7 v9 v10 v11 = some x → ∀ (H : Heap) (locs : List Loc), va_P D cl (wM cB cI cJ cZ cS iM h0 ad u) H → va_D A (wM cB cI cJ cZ cS iM h0 ad u) → va_S A s.heap H locs → ∀ (ls : Array Slot), lv_has ls 15 [(0, .ref h0), (1, .int v1), (3, .int v3), (5, .int v5), (7, .long v7), (9, .int v9), (10, .int v10), (11, .int v11)] → W p l e R s m args below meth c H locs 0 0 (MQ below (mQv D cl cB cI cJ cZ cS iM h0 ad A x) args s 0 0 A) (F0 m 128 ls []) := by
  intro u v1 v3 v5 v7 v9 v10 v11 x hf H locs hP hD hS ls hl
  obtain ⟨hx, hb, hr, hml, ht, hown, hM, hK, hA, hlocks⟩ := id C0
  unfold fb_M_frameOf_128 at hf
  refine lv_aload_n hx hb d_M_frameOf_128 rfl (lv_at hl 0 rfl) ?_
  refine ug_R hx hb ht hown hM hK hP 92 (by decide) lk_M_92 (by decide) d_M_frameOf_129 ?_
  refine lv_aload_n hx hb d_M_frameOf_132 rfl (lv_at hl 0 rfl) ?_
  refine ug_I hx hb ht hown hM hK hP 133 (by decide) lk_M_133 (by decide) d_M_frameOf_133 ?_
  obtain ⟨hi9, hf⟩ := ck_some hf
  refine ul_I hx hb hK hP (by decide) (by decide) hi9 d_M_frameOf_136 ?_
  refine lv_iload_n hx hb d_M_frameOf_137 rfl (lv_at hl 2 rfl) ?_
  refine lv_isub hx hb d_M_frameOf_138 ?_
  obtain ⟨y17, e17, hf⟩ := lt_some hf
  rw [← e17]
  refine lv_istore (lv' := [(12, .int y17), (0, .ref h0), (1, .int v1), (3, .int v3), (5, .int v5), (7, .long v7), (9, .int v9), (10, .int v10), (11, .int v11)]) hx hb d_M_frameOf_139 hl (by decide) rfl (fun ls hl => ?_)
  refine lv_iconst (v := 0) hx hb d_M_frameOf_141 (by decide) ?_
  refine lv_istore (lv' := [(13, .int 0), (12, .int y17), (0, .ref h0), (1, .int v1), (3, .int v3), (5, .int v5), (7, .long v7), (9, .int v9), (10, .int v10), (11, .int v11)]) hx hb d_M_frameOf_142 hl (by decide) rfl (fun ls hl => ?_)
  exact hG.1 _ _ _ _ _ _ _ _ _ _ _ hf H locs hP hD hS ls (lv_sub hl [2, 3, 4, 5, 6, 7, 8, 9, 1, 0] rfl)
def fb_M_frameOf_46 (N : Nat) (G : (MS → Int32 → Int32 → Int32 → Int64 → Int32 → Int32 → Int32 → Int32 → Int32 → Option (MS × Unit)) × (MS → Int64 → Int32 → Int32 → Int32 → Option (MS × Unit))) (u : MS) (v1 : Int32) (v3 : Int32) (v4 : Int32) (v5 : Int32) (v6 : Int32) (t0 : Int64) : Option (MS × Unit) := ck (inb (u.1 133) (ln 92)) (lt (((u.2.2.1 92 (u.1 133).toNatClampNeg) - v3) - v6) (fun y18 => ck (inb (u.1 133) (ln 94)) (lt (u.2.2.1 94 (u.1 133).toNatClampNeg) (fun y19 => br (decide (v4 = 0)) (ck (inb (u.1 133) (ln 95)) (ck (inb (u.1 133) (ln 95)) (lt (upA u 95 (upd (u.2.2.1 95) (u.1 133).toNatClampNeg ((u.2.2.1 95 (u.1 133).toNatClampNeg) + 1))) (fun w20 => fb_M_frameOf_128 N G w20 (v1) (v3) (v5) (t0) (((u.1 133) * 46000)) (y18) (y19))))) (bnd (fm_M_frame0 N u) (fun u21 r21 => ck (inb r21 (ln 100)) (lt (u21.2.2.1 100 r21.toNatClampNeg) (fun y22 => bnd (fm_M_frame0 N u21) (fun u23 r23 => ck (inb r23 (ln 99)) (lt (u23.2.2.1 99 r23.toNatClampNeg) (fun y24 => fb_M_frameOf_128 N G u23 (v1) (v3) (v5) (t0) (((u.1 133) * 46000)) (y22) (y24))))))))))))
set_option maxRecDepth 100000 in
set_option maxHeartbeats 4000000 in
theorem wb_M_frameOf_46 {p : Program} {l : Launch} {e : Env} {R : Room} {s : State} {m : MethodId} {args : Array Value} {below : List Frame} {meth : Method} {c : Code} {D : va_G} {cl : List vw_C} {cB cI cJ cZ cS : ClassId} {A : Nat → Prop} {iM h0 : Nat} {ad : Nat → Nat} (C0 : MCx p s m args meth c b_M_frameOf 15 none D cl cB cI cJ cZ cS iM A) (hR : R = rm_M_frameOf) (N : Nat) (G : (MS → Int32 → Int32 → Int32 → Int64 → Int32 → Int32 → Int32 → Int32 → Int32 → Option (MS × Unit)) × (MS → Int64 → Int32 → Int32 → Int32 → Option (MS × Unit))) (hG : (∀ (u : MS) (v1 : Int32) (v3 : Int32) (v5 : Int32) (v7 : Int64) (v9 : Int32) (v10 : Int32) (v11 : Int32) (v12 : Int32) (v13 : Int32) (x : MS × Unit), G.1 u v1 v3 v5 v7 v9 v10 v11 v12 v13 = some x → ∀ (H : Heap) (locs : List Loc), va_P D cl (wM cB cI cJ cZ cS iM h0 ad u) H → va_D A (wM cB cI cJ cZ cS iM h0 ad u) → va_S A s.heap H locs → ∀ (ls : Array Slot), lv_has ls 15 [(0, .ref h0), (1, .int v1), (3, .int v3), (5, .int v5), (7, .long v7), (9, .int v9), (10, .int v10), (11, .int v11), (12, .int v12), (13, .int v13)] → W p l e R s m args below meth c H locs 0 0 (MQ below (mQv D cl cB cI cJ cZ cS iM h0 ad A x) args s 0 0 A) (F0 m 144 ls [])) ∧ (∀ (u : MS) (v7 : Int64) (v11 : Int32) (v13 : Int32) (v14 : Int32) (x : MS × Unit), G.2 u v7 v11 v13 v14 = some x → ∀ (H : Heap) (locs : List Loc), va_P D cl (wM cB cI cJ cZ cS iM h0 ad u) H → va_D A (wM cB cI cJ cZ cS iM h0 ad u) → va_S A s.heap H locs → ∀ (ls : Array Slot), lv_has ls 15 [(0, .ref h0), (7, .long v7), (11, .int v11), (13, .int v13), (14, .int v14)] → W p l e R s m args below meth c H locs 0 0 (MQ below (mQv D cl cB cI cJ cZ cS iM h0 ad A x) args s 0 0 A) (F0 m 285 ls []))) : ∀ (u : MS) (v1 : Int32) (v3 : Int32) (v4 : Int32) (v5 : Int32) (v6 : Int32) (t0 : Int64) (x : MS × Unit), fb_M_frameOf_46 N G u v1 v3 v4 v5 v6 t0 = some x → ∀ (H : Heap) (locs : List Loc), va_P D cl (wM cB cI cJ cZ cS iM h0 ad u) H → va_D A (wM cB cI cJ cZ cS iM h0 ad u) → va_S A s.heap H locs → ∀ (ls : Array Slot), lv_has ls 15 [(0, .ref h0), (1, .int v1), (3, .int v3), (4, .int v4), (5, .int v5), (6, .int v6)] → W p l e R s m args below meth c H locs 0 0 (MQ below (mQv D cl cB cI cJ cZ cS iM h0 ad A x) args s 0 0 A) (F0 m 46 ls [.long t0]) := by
  intro u v1 v3 v4 v5 v6 t0 x hf H locs hP hD hS ls hl
  obtain ⟨hx, hb, hr, hml, ht, hown, hM, hK, hA, hlocks⟩ := id C0
  unfold fb_M_frameOf_46 at hf
  refine lv_lstore (lv' := [(7, .long t0), (0, .ref h0), (1, .int v1), (3, .int v3), (4, .int v4), (5, .int v5), (6, .int v6)]) hx hb d_M_frameOf_46 hl (by decide) rfl (fun ls hl => ?_)
  refine lv_aload_n hx hb d_M_frameOf_48 rfl (lv_at hl 1 rfl) ?_
  refine ug_I hx hb ht hown hM hK hP 133 (by decide) lk_M_133 (by decide) d_M_frameOf_49 ?_
  refine lv_ldcw (v := 46000) hx hb hown (ht _ (wd_of 2940 (by decide +kernel) rfl)) d_M_frameOf_52 ?_
  refine lv_imul hx hb d_M_frameOf_55 ?_
  refine lv_istore (lv' := [(9, .int ((u.1 133) * 46000)), (7, .long t0), (0, .ref h0), (1, .int v1), (3, .int v3), (4, .int v4), (5, .int v5), (6, .int v6)]) hx hb d_M_frameOf_56 hl (by decide) rfl (fun ls hl => ?_)
  refine lv_aload_n hx hb d_M_frameOf_58 rfl (lv_at hl 2 rfl) ?_
  refine ug_R hx hb ht hown hM hK hP 92 (by decide) lk_M_92 (by decide) d_M_frameOf_59 ?_
  refine lv_aload_n hx hb d_M_frameOf_62 rfl (lv_at hl 2 rfl) ?_
  refine ug_I hx hb ht hown hM hK hP 133 (by decide) lk_M_133 (by decide) d_M_frameOf_63 ?_
  obtain ⟨hi9, hf⟩ := ck_some hf
  refine ul_I hx hb hK hP (by decide) (by decide) hi9 d_M_frameOf_66 ?_
  refine lv_iload_n hx hb d_M_frameOf_67 rfl (lv_at hl 4 rfl) ?_
  refine lv_isub hx hb d_M_frameOf_68 ?_
  refine lv_iload hx hb d_M_frameOf_69 (lv_at hl 7 rfl) ?_
  refine lv_isub hx hb d_M_frameOf_71 ?_
  obtain ⟨y18, e18, hf⟩ := lt_some hf
  rw [← e18]
  refine lv_istore (lv' := [(10, .int y18), (9, .int ((u.1 133) * 46000)), (7, .long t0), (0, .ref h0), (1, .int v1), (3, .int v3), (4, .int v4), (5, .int v5), (6, .int v6)]) hx hb d_M_frameOf_72 hl (by decide) rfl (fun ls hl => ?_)
  refine lv_aload_n hx hb d_M_frameOf_74 rfl (lv_at hl 3 rfl) ?_
  refine ug_R hx hb ht hown hM hK hP 94 (by decide) lk_M_94 (by decide) d_M_frameOf_75 ?_
  refine lv_aload_n hx hb d_M_frameOf_78 rfl (lv_at hl 3 rfl) ?_
  refine ug_I hx hb ht hown hM hK hP 133 (by decide) lk_M_133 (by decide) d_M_frameOf_79 ?_
  obtain ⟨hi9, hf⟩ := ck_some hf
  refine ul_I hx hb hK hP (by decide) (by decide) hi9 d_M_frameOf_82 ?_
  obtain ⟨y19, e19, hf⟩ := lt_some hf
  rw [← e19]
  refine lv_istore (lv' := [(11, .int y19), (10, .int y18), (9, .int ((u.1 133) * 46000)), (7, .long t0), (0, .ref h0), (1, .int v1), (3, .int v3), (4, .int v4), (5, .int v5), (6, .int v6)]) hx hb d_M_frameOf_83 hl (by decide) rfl (fun ls hl => ?_)
  refine lv_iload hx hb d_M_frameOf_85 (lv_at hl 7 rfl) ?_
  refine lv_if_eq (tgt := 115) hx hb d_M_frameOf_87 (by decide) (fun hc => ?_) (fun hc => ?_)
  · rw [br_p _ hc] at hf
    refine lv_aload_n hx hb d_M_frameOf_115 rfl (lv_at hl 4 rfl) ?_
    refine ug_R hx hb ht hown hM hK hP 95 (by decide) lk_M_95 (by decide) d_M_frameOf_116 ?_
    refine lv_aload_n hx hb d_M_frameOf_119 rfl (lv_at hl 4 rfl) ?_
    refine ug_I hx hb ht hown hM hK hP 133 (by decide) lk_M_133 (by decide) d_M_frameOf_120 ?_
    refine lv_dup2_11 hx hb d_M_frameOf_123 rfl rfl ?_
    obtain ⟨hi9, hf⟩ := ck_some hf
    refine ul_I hx hb hK hP (by decide) (by decide) hi9 d_M_frameOf_124 ?_
    refine lv_iconst (v := 1) hx hb d_M_frameOf_125 (by decide) ?_
    refine lv_iadd hx hb d_M_frameOf_126 ?_
    obtain ⟨hi9, hf⟩ := ck_some hf
    refine us_I hx hb hK hP hD hS (by decide) (by decide) hi9 d_M_frameOf_127 (fun H locs hP hD hS => ?_)
    obtain ⟨w20, e20, hf⟩ := lt_some hf
    rw [← e20] at hP hD
    exact wb_M_frameOf_128 C0 hR N G hG _ _ _ _ _ _ _ _ _ hf H locs hP hD hS ls (lv_sub hl [4, 5, 6, 8, 3, 2, 1, 0] rfl)
  · rw [br_n _ hc] at hf
    refine lv_aload_n hx hb d_M_frameOf_90 rfl (lv_at hl 4 rfl) ?_
    refine ug_R hx hb ht hown hM hK hP 100 (by decide) lk_M_100 (by decide) d_M_frameOf_91 ?_
    refine lv_aload_n hx hb d_M_frameOf_94 rfl (lv_at hl 4 rfl) ?_
    obtain ⟨u21, r21, hc21, hf⟩ := bnd_some hf
    refine mV_i (As := []) (rest := [.ref (ad 100)]) C0 hP hD hS (c_M_frame0 N hM hc21) k_M_frame0 hl_M_frame0 hi_M_frame0 hs_M_frame0 hini_M rfl rfl hd_M_frame0 rfl (rm_M_frameOf_M_frame0 hR) hl.1 (Nat.le_of_ble_eq_true rfl) d_M_frameOf_95 rfl ⟨Nat.zero_le _, Nat.zero_le _⟩ (fun H locs hP hD hS => ?_)
    obtain ⟨hi9, hf⟩ := ck_some hf
    refine ul_I hx hb hK hP (by decide) (by decide) hi9 d_M_frameOf_98 ?_
    obtain ⟨y22, e22, hf⟩ := lt_some hf
    rw [← e22]
    refine lv_istore (lv' := [(10, .int y22), (11, .int y19), (9, .int ((u.1 133) * 46000)), (7, .long t0), (0, .ref h0), (1, .int v1), (3, .int v3), (4, .int v4), (5, .int v5), (6, .int v6)]) hx hb d_M_frameOf_99 hl (by decide) rfl (fun ls hl => ?_)
    refine lv_aload_n hx hb d_M_frameOf_101 rfl (lv_at hl 4 rfl) ?_
    refine ug_R hx hb ht hown hM hK hP 99 (by decide) lk_M_99 (by decide) d_M_frameOf_102 ?_
    refine lv_aload_n hx hb d_M_frameOf_105 rfl (lv_at hl 4 rfl) ?_
    obtain ⟨u23, r23, hc23, hf⟩ := bnd_some hf
    refine mV_i (As := []) (rest := [.ref (ad 99)]) C0 hP hD hS (c_M_frame0 N hM hc23) k_M_frame0 hl_M_frame0 hi_M_frame0 hs_M_frame0 hini_M rfl rfl hd_M_frame0 rfl (rm_M_frameOf_M_frame0 hR) hl.1 (Nat.le_of_ble_eq_true rfl) d_M_frameOf_106 rfl ⟨Nat.zero_le _, Nat.zero_le _⟩ (fun H locs hP hD hS => ?_)
    obtain ⟨hi9, hf⟩ := ck_some hf
    refine ul_I hx hb hK hP (by decide) (by decide) hi9 d_M_frameOf_109 ?_
    obtain ⟨y24, e24, hf⟩ := lt_some hf
    rw [← e24]
    refine lv_istore (lv' := [(11, .int y24), (10, .int y22), (9, .int ((u.1 133) * 46000)), (7, .long t0), (0, .ref h0), (1, .int v1), (3, .int v3), (4, .int v4), (5, .int v5), (6, .int v6)]) hx hb d_M_frameOf_110 hl (by decide) rfl (fun ls hl => ?_)
    refine lv_goto (tgt := 128) hx hb d_M_frameOf_112 (by decide) ?_
    exact wb_M_frameOf_128 C0 hR N G hG _ _ _ _ _ _ _ _ _ hf H locs hP hD hS ls (lv_sub hl [4, 5, 6, 8, 3, 2, 1, 0] rfl)
def fb_M_frameOf_24 (N : Nat) (G : (MS → Int32 → Int32 → Int32 → Int64 → Int32 → Int32 → Int32 → Int32 → Int32 → Option (MS × Unit)) × (MS → Int64 → Int32 → Int32 → Int32 → Option (MS × Unit))) (u : MS) (v1 : Int32) (v3 : Int32) (v4 : Int32) (v5 : Int32) (t0 : Int32) : Option (MS × Unit) := br (decide (t0 = 1)) (bnd (fm_M_top N u v3) (fun u26 r26 => fb_M_frameOf_46 N G u26 (v1) (v3) (v4) (v5) (t0) (r26))) (bnd (fm_M_term N u 6 0) (fun u25 r25 => fb_M_frameOf_46 N G u25 (v1) (v3) (v4) (v5) (t0) (r25)))
set_option maxRecDepth 100000 in
set_option maxHeartbeats 4000000 in
theorem wb_M_frameOf_24 {p : Program} {l : Launch} {e : Env} {R : Room} {s : State} {m : MethodId} {args : Array Value} {below : List Frame} {meth : Method} {c : Code} {D : va_G} {cl : List vw_C} {cB cI cJ cZ cS : ClassId} {A : Nat → Prop} {iM h0 : Nat} {ad : Nat → Nat} (C0 : MCx p s m args meth c b_M_frameOf 15 none D cl cB cI cJ cZ cS iM A) (hR : R = rm_M_frameOf) (N : Nat) (G : (MS → Int32 → Int32 → Int32 → Int64 → Int32 → Int32 → Int32 → Int32 → Int32 → Option (MS × Unit)) × (MS → Int64 → Int32 → Int32 → Int32 → Option (MS × Unit))) (hG : (∀ (u : MS) (v1 : Int32) (v3 : Int32) (v5 : Int32) (v7 : Int64) (v9 : Int32) (v10 : Int32) (v11 : Int32) (v12 : Int32) (v13 : Int32) (x : MS × Unit), G.1 u v1 v3 v5 v7 v9 v10 v11 v12 v13 = some x → ∀ (H : Heap) (locs : List Loc), va_P D cl (wM cB cI cJ cZ cS iM h0 ad u) H → va_D A (wM cB cI cJ cZ cS iM h0 ad u) → va_S A s.heap H locs → ∀ (ls : Array Slot), lv_has ls 15 [(0, .ref h0), (1, .int v1), (3, .int v3), (5, .int v5), (7, .long v7), (9, .int v9), (10, .int v10), (11, .int v11), (12, .int v12), (13, .int v13)] → W p l e R s m args below meth c H locs 0 0 (MQ below (mQv D cl cB cI cJ cZ cS iM h0 ad A x) args s 0 0 A) (F0 m 144 ls [])) ∧ (∀ (u : MS) (v7 : Int64) (v11 : Int32) (v13 : Int32) (v14 : Int32) (x : MS × Unit), G.2 u v7 v11 v13 v14 = some x → ∀ (H : Heap) (locs : List Loc), va_P D cl (wM cB cI cJ cZ cS iM h0 ad u) H → va_D A (wM cB cI cJ cZ cS iM h0 ad u) → va_S A s.heap H locs → ∀ (ls : Array Slot), lv_has ls 15 [(0, .ref h0), (7, .long v7), (11, .int v11), (13, .int v13), (14, .int v14)] → W p l e R s m args below meth c H locs 0 0 (MQ below (mQv D cl cB cI cJ cZ cS iM h0 ad A x) args s 0 0 A) (F0 m 285 ls []))) : ∀ (u : MS) (v1 : Int32) (v3 : Int32) (v4 : Int32) (v5 : Int32) (t0 : Int32) (x : MS × Unit), fb_M_frameOf_24 N G u v1 v3 v4 v5 t0 = some x → ∀ (H : Heap) (locs : List Loc), va_P D cl (wM cB cI cJ cZ cS iM h0 ad u) H → va_D A (wM cB cI cJ cZ cS iM h0 ad u) → va_S A s.heap H locs → ∀ (ls : Array Slot), lv_has ls 15 [(0, .ref h0), (1, .int v1), (3, .int v3), (4, .int v4), (5, .int v5)] → W p l e R s m args below meth c H locs 0 0 (MQ below (mQv D cl cB cI cJ cZ cS iM h0 ad A x) args s 0 0 A) (F0 m 24 ls [.int t0]) := by
  intro u v1 v3 v4 v5 t0 x hf H locs hP hD hS ls hl
  obtain ⟨hx, hb, hr, hml, ht, hown, hM, hK, hA, hlocks⟩ := id C0
  unfold fb_M_frameOf_24 at hf
  refine lv_istore (lv' := [(6, .int t0), (0, .ref h0), (1, .int v1), (3, .int v3), (4, .int v4), (5, .int v5)]) hx hb d_M_frameOf_24 hl (by decide) rfl (fun ls hl => ?_)
  refine lv_iload hx hb d_M_frameOf_26 (lv_at hl 0 rfl) ?_
  refine lv_iconst (v := 1) hx hb d_M_frameOf_28 (by decide) ?_
  refine lv_icmp_ne (tgt := 40) hx hb d_M_frameOf_29 (by decide) (fun hc => ?_) (fun hc => ?_)
  · rw [br_n _ hc] at hf
    refine lv_bipush (v := 6) hx hb d_M_frameOf_40 (by decide) ?_
    refine lv_iconst (v := 0) hx hb d_M_frameOf_42 (by decide) ?_
    obtain ⟨u25, r25, hc25, hf⟩ := bnd_some hf
    refine mS_l (As := [.int 6, .int 0]) (rest := []) C0 hP hD hS (c_M_term N hM hc25) k_M_term hl_M_term ht_M_term hini_M rfl rfl hd_M_term rfl (rm_M_frameOf_M_term hR) hl.1 (Nat.le_of_ble_eq_true rfl) d_M_frameOf_43 rfl ⟨Nat.zero_le _, Nat.zero_le _⟩ (fun H locs hP hD hS => ?_)
    exact wb_M_frameOf_46 C0 hR N G hG _ _ _ _ _ _ _ _ hf H locs hP hD hS ls (lv_sub hl [1, 2, 3, 4, 5, 0] rfl)
  · rw [br_p _ hc] at hf
    refine lv_aload_n hx hb d_M_frameOf_32 rfl (lv_at hl 1 rfl) ?_
    refine lv_iload_n hx hb d_M_frameOf_33 rfl (lv_at hl 3 rfl) ?_
    obtain ⟨u26, r26, hc26, hf⟩ := bnd_some hf
    refine mV_l (As := [.int v3]) (rest := []) C0 hP hD hS (c_M_top N hM hc26) k_M_top hl_M_top hi_M_top hs_M_top hini_M rfl rfl hd_M_top rfl (rm_M_frameOf_M_top hR) hl.1 (Nat.le_of_ble_eq_true rfl) d_M_frameOf_34 rfl ⟨Nat.zero_le _, Nat.zero_le _⟩ (fun H locs hP hD hS => ?_)
    refine lv_goto (tgt := 46) hx hb d_M_frameOf_37 (by decide) ?_
    exact wb_M_frameOf_46 C0 hR N G hG _ _ _ _ _ _ _ _ hf H locs hP hD hS ls (lv_sub hl [1, 2, 3, 4, 5, 0] rfl)
def fb_M_frameOf_10 (N : Nat) (G : (MS → Int32 → Int32 → Int32 → Int64 → Int32 → Int32 → Int32 → Int32 → Int32 → Option (MS × Unit)) × (MS → Int64 → Int32 → Int32 → Int32 → Option (MS × Unit))) (u : MS) (v1 : Int32) (v3 : Int32) (v4 : Int32) (t0 : Int32) : Option (MS × Unit) := br (decide ((u.1 166) = 0)) (fb_M_frameOf_24 N G u (v1) (v3) (v4) (t0) (0)) (fb_M_frameOf_24 N G u (v1) (v3) (v4) (t0) (1))
set_option maxRecDepth 100000 in
set_option maxHeartbeats 4000000 in
theorem wb_M_frameOf_10 {p : Program} {l : Launch} {e : Env} {R : Room} {s : State} {m : MethodId} {args : Array Value} {below : List Frame} {meth : Method} {c : Code} {D : va_G} {cl : List vw_C} {cB cI cJ cZ cS : ClassId} {A : Nat → Prop} {iM h0 : Nat} {ad : Nat → Nat} (C0 : MCx p s m args meth c b_M_frameOf 15 none D cl cB cI cJ cZ cS iM A) (hR : R = rm_M_frameOf) (N : Nat) (G : (MS → Int32 → Int32 → Int32 → Int64 → Int32 → Int32 → Int32 → Int32 → Int32 → Option (MS × Unit)) × (MS → Int64 → Int32 → Int32 → Int32 → Option (MS × Unit))) (hG : (∀ (u : MS) (v1 : Int32) (v3 : Int32) (v5 : Int32) (v7 : Int64) (v9 : Int32) (v10 : Int32) (v11 : Int32) (v12 : Int32) (v13 : Int32) (x : MS × Unit), G.1 u v1 v3 v5 v7 v9 v10 v11 v12 v13 = some x → ∀ (H : Heap) (locs : List Loc), va_P D cl (wM cB cI cJ cZ cS iM h0 ad u) H → va_D A (wM cB cI cJ cZ cS iM h0 ad u) → va_S A s.heap H locs → ∀ (ls : Array Slot), lv_has ls 15 [(0, .ref h0), (1, .int v1), (3, .int v3), (5, .int v5), (7, .long v7), (9, .int v9), (10, .int v10), (11, .int v11), (12, .int v12), (13, .int v13)] → W p l e R s m args below meth c H locs 0 0 (MQ below (mQv D cl cB cI cJ cZ cS iM h0 ad A x) args s 0 0 A) (F0 m 144 ls [])) ∧ (∀ (u : MS) (v7 : Int64) (v11 : Int32) (v13 : Int32) (v14 : Int32) (x : MS × Unit), G.2 u v7 v11 v13 v14 = some x → ∀ (H : Heap) (locs : List Loc), va_P D cl (wM cB cI cJ cZ cS iM h0 ad u) H → va_D A (wM cB cI cJ cZ cS iM h0 ad u) → va_S A s.heap H locs → ∀ (ls : Array Slot), lv_has ls 15 [(0, .ref h0), (7, .long v7), (11, .int v11), (13, .int v13), (14, .int v14)] → W p l e R s m args below meth c H locs 0 0 (MQ below (mQv D cl cB cI cJ cZ cS iM h0 ad A x) args s 0 0 A) (F0 m 285 ls []))) : ∀ (u : MS) (v1 : Int32) (v3 : Int32) (v4 : Int32) (t0 : Int32) (x : MS × Unit), fb_M_frameOf_10 N G u v1 v3 v4 t0 = some x → ∀ (H : Heap) (locs : List Loc), va_P D cl (wM cB cI cJ cZ cS iM h0 ad u) H → va_D A (wM cB cI cJ cZ cS iM h0 ad u) → va_S A s.heap H locs → ∀ (ls : Array Slot), lv_has ls 15 [(0, .ref h0), (1, .int v1), (3, .int v3), (4, .int v4)] → W p l e R s m args below meth c H locs 0 0 (MQ below (mQv D cl cB cI cJ cZ cS iM h0 ad A x) args s 0 0 A) (F0 m 10 ls [.int t0]) := by
  intro u v1 v3 v4 t0 x hf H locs hP hD hS ls hl
  obtain ⟨hx, hb, hr, hml, ht, hown, hM, hK, hA, hlocks⟩ := id C0
  unfold fb_M_frameOf_10 at hf
  refine lv_istore (lv' := [(5, .int t0), (0, .ref h0), (1, .int v1), (3, .int v3), (4, .int v4)]) hx hb d_M_frameOf_10 hl (by decide) rfl (fun ls hl => ?_)
  refine lv_aload_n hx hb d_M_frameOf_12 rfl (lv_at hl 1 rfl) ?_
  refine ug_I hx hb ht hown hM hK hP 166 (by decide) lk_M_166 (by decide) d_M_frameOf_13 ?_
  refine lv_if_eq (tgt := 23) hx hb d_M_frameOf_16 (by decide) (fun hc => ?_) (fun hc => ?_)
  · rw [br_p _ hc] at hf
    refine lv_iconst (v := 0) hx hb d_M_frameOf_23 (by decide) ?_
    exact wb_M_frameOf_24 C0 hR N G hG _ _ _ _ _ _ _ hf H locs hP hD hS ls (lv_sub hl [1, 2, 3, 4, 0] rfl)
  · rw [br_n _ hc] at hf
    refine lv_iconst (v := 1) hx hb d_M_frameOf_19 (by decide) ?_
    refine lv_goto (tgt := 24) hx hb d_M_frameOf_20 (by decide) ?_
    exact wb_M_frameOf_24 C0 hR N G hG _ _ _ _ _ _ _ hf H locs hP hD hS ls (lv_sub hl [1, 2, 3, 4, 0] rfl)
def fb_M_frameOf_0 (N : Nat) (G : (MS → Int32 → Int32 → Int32 → Int64 → Int32 → Int32 → Int32 → Int32 → Int32 → Option (MS × Unit)) × (MS → Int64 → Int32 → Int32 → Int32 → Option (MS × Unit))) (u : MS) (v1 : Int32) (v2 : Int32) (v3 : Int32) (v4 : Int32) : Option (MS × Unit) := br (decide (v2 = (-1))) (fb_M_frameOf_10 N G u (v1) (v3) (v4) (0)) (fb_M_frameOf_10 N G u (v1) (v3) (v4) (1))
set_option maxRecDepth 100000 in
set_option maxHeartbeats 4000000 in
theorem wb_M_frameOf_0 {p : Program} {l : Launch} {e : Env} {R : Room} {s : State} {m : MethodId} {args : Array Value} {below : List Frame} {meth : Method} {c : Code} {D : va_G} {cl : List vw_C} {cB cI cJ cZ cS : ClassId} {A : Nat → Prop} {iM h0 : Nat} {ad : Nat → Nat} (C0 : MCx p s m args meth c b_M_frameOf 15 none D cl cB cI cJ cZ cS iM A) (hR : R = rm_M_frameOf) (N : Nat) (G : (MS → Int32 → Int32 → Int32 → Int64 → Int32 → Int32 → Int32 → Int32 → Int32 → Option (MS × Unit)) × (MS → Int64 → Int32 → Int32 → Int32 → Option (MS × Unit))) (hG : (∀ (u : MS) (v1 : Int32) (v3 : Int32) (v5 : Int32) (v7 : Int64) (v9 : Int32) (v10 : Int32) (v11 : Int32) (v12 : Int32) (v13 : Int32) (x : MS × Unit), G.1 u v1 v3 v5 v7 v9 v10 v11 v12 v13 = some x → ∀ (H : Heap) (locs : List Loc), va_P D cl (wM cB cI cJ cZ cS iM h0 ad u) H → va_D A (wM cB cI cJ cZ cS iM h0 ad u) → va_S A s.heap H locs → ∀ (ls : Array Slot), lv_has ls 15 [(0, .ref h0), (1, .int v1), (3, .int v3), (5, .int v5), (7, .long v7), (9, .int v9), (10, .int v10), (11, .int v11), (12, .int v12), (13, .int v13)] → W p l e R s m args below meth c H locs 0 0 (MQ below (mQv D cl cB cI cJ cZ cS iM h0 ad A x) args s 0 0 A) (F0 m 144 ls [])) ∧ (∀ (u : MS) (v7 : Int64) (v11 : Int32) (v13 : Int32) (v14 : Int32) (x : MS × Unit), G.2 u v7 v11 v13 v14 = some x → ∀ (H : Heap) (locs : List Loc), va_P D cl (wM cB cI cJ cZ cS iM h0 ad u) H → va_D A (wM cB cI cJ cZ cS iM h0 ad u) → va_S A s.heap H locs → ∀ (ls : Array Slot), lv_has ls 15 [(0, .ref h0), (7, .long v7), (11, .int v11), (13, .int v13), (14, .int v14)] → W p l e R s m args below meth c H locs 0 0 (MQ below (mQv D cl cB cI cJ cZ cS iM h0 ad A x) args s 0 0 A) (F0 m 285 ls []))) : ∀ (u : MS) (v1 : Int32) (v2 : Int32) (v3 : Int32) (v4 : Int32) (x : MS × Unit), fb_M_frameOf_0 N G u v1 v2 v3 v4 = some x → ∀ (H : Heap) (locs : List Loc), va_P D cl (wM cB cI cJ cZ cS iM h0 ad u) H → va_D A (wM cB cI cJ cZ cS iM h0 ad u) → va_S A s.heap H locs → ∀ (ls : Array Slot), lv_has ls 15 [(0, .ref h0), (1, .int v1), (2, .int v2), (3, .int v3), (4, .int v4)] → W p l e R s m args below meth c H locs 0 0 (MQ below (mQv D cl cB cI cJ cZ cS iM h0 ad A x) args s 0 0 A) (F0 m 0 ls []) := by
  intro u v1 v2 v3 v4 x hf H locs hP hD hS ls hl
  obtain ⟨hx, hb, hr, hml, ht, hown, hM, hK, hA, hlocks⟩ := id C0
  unfold fb_M_frameOf_0 at hf
  refine lv_iload_n hx hb d_M_frameOf_0 rfl (lv_at hl 2 rfl) ?_
  refine lv_iconst (v := (-1)) hx hb d_M_frameOf_1 (by decide) ?_
  refine lv_icmp_eq (tgt := 9) hx hb d_M_frameOf_2 (by decide) (fun hc => ?_) (fun hc => ?_)
  · rw [br_p _ hc] at hf
    refine lv_iconst (v := 0) hx hb d_M_frameOf_9 (by decide) ?_
    exact wb_M_frameOf_10 C0 hR N G hG _ _ _ _ _ _ hf H locs hP hD hS ls (lv_sub hl [0, 1, 3, 4] rfl)
  · rw [br_n _ hc] at hf
    refine lv_iconst (v := 1) hx hb d_M_frameOf_5 (by decide) ?_
    refine lv_goto (tgt := 10) hx hb d_M_frameOf_6 (by decide) ?_
    exact wb_M_frameOf_10 C0 hR N G hG _ _ _ _ _ _ hf H locs hP hD hS ls (lv_sub hl [0, 1, 3, 4] rfl)
def gg_M_frameOf (N : Nat) : Nat → ((MS → Int32 → Int32 → Int32 → Int64 → Int32 → Int32 → Int32 → Int32 → Int32 → Option (MS × Unit)) × (MS → Int64 → Int32 → Int32 → Int32 → Option (MS × Unit)))
  | 0 => (fun _ _ _ _ _ _ _ _ _ _ => none, fun _ _ _ _ _ => none)
  | n + 1 => (fb_M_frameOf_144 N (gg_M_frameOf N n), fb_M_frameOf_285 N (gg_M_frameOf N n))
theorem wg_M_frameOf {p : Program} {l : Launch} {e : Env} {R : Room} {s : State} {m : MethodId} {args : Array Value} {below : List Frame} {meth : Method} {c : Code} {D : va_G} {cl : List vw_C} {cB cI cJ cZ cS : ClassId} {A : Nat → Prop} {iM h0 : Nat} {ad : Nat → Nat} (C0 : MCx p s m args meth c b_M_frameOf 15 none D cl cB cI cJ cZ cS iM A) (hR : R = rm_M_frameOf) (N : Nat) : ∀ n : Nat, (∀ (u : MS) (v1 : Int32) (v3 : Int32) (v5 : Int32) (v7 : Int64) (v9 : Int32) (v10 : Int32) (v11 : Int32) (v12 : Int32) (v13 : Int32) (x : MS × Unit), (gg_M_frameOf N n).1 u v1 v3 v5 v7 v9 v10 v11 v12 v13 = some x → ∀ (H : Heap) (locs : List Loc), va_P D cl (wM cB cI cJ cZ cS iM h0 ad u) H → va_D A (wM cB cI cJ cZ cS iM h0 ad u) → va_S A s.heap H locs → ∀ (ls : Array Slot), lv_has ls 15 [(0, .ref h0), (1, .int v1), (3, .int v3), (5, .int v5), (7, .long v7), (9, .int v9), (10, .int v10), (11, .int v11), (12, .int v12), (13, .int v13)] → W p l e R s m args below meth c H locs 0 0 (MQ below (mQv D cl cB cI cJ cZ cS iM h0 ad A x) args s 0 0 A) (F0 m 144 ls [])) ∧ (∀ (u : MS) (v7 : Int64) (v11 : Int32) (v13 : Int32) (v14 : Int32) (x : MS × Unit), (gg_M_frameOf N n).2 u v7 v11 v13 v14 = some x → ∀ (H : Heap) (locs : List Loc), va_P D cl (wM cB cI cJ cZ cS iM h0 ad u) H → va_D A (wM cB cI cJ cZ cS iM h0 ad u) → va_S A s.heap H locs → ∀ (ls : Array Slot), lv_has ls 15 [(0, .ref h0), (7, .long v7), (11, .int v11), (13, .int v13), (14, .int v14)] → W p l e R s m args below meth c H locs 0 0 (MQ below (mQv D cl cB cI cJ cZ cS iM h0 ad A x) args s 0 0 A) (F0 m 285 ls []))
  | 0 => ⟨(fun u v1 v3 v5 v7 v9 v10 v11 v12 v13 x hf => by cases hf), (fun u v7 v11 v13 v14 x hf => by cases hf)⟩
  | n + 1 => ⟨wb_M_frameOf_144 C0 hR N (gg_M_frameOf N n) (wg_M_frameOf C0 hR N n), wb_M_frameOf_285 C0 hR N (gg_M_frameOf N n) (wg_M_frameOf C0 hR N n)⟩
def fm_M_frameOf (N : Nat) (u : MS) (v1 : Int32) (v2 : Int32) (v3 : Int32) (v4 : Int32) : Option (MS × Unit) := fb_M_frameOf_0 N (gg_M_frameOf N N) u v1 v2 v3 v4
set_option maxRecDepth 100000 in
set_option maxHeartbeats 4000000 in
theorem c_M_frameOf (N : Nat) {l : Launch} {D : va_G} {cl : List vw_C} {cB cI cJ cZ cS : ClassId} {iM h0 : Nat} {ad : Nat → Nat} {u : MS} {sz : Nat} {v1 : Int32} {v2 : Int32} {v3 : Int32} {v4 : Int32} {x : MS × Unit} (hM : cl[iM]? = some (R_M, F_M, 171)) (hf : fm_M_frameOf N u v1 v2 v3 v4 = some x) : Met l y_M_frameOf (wd_ws y_M_frameOf b_M_frameOf 15 none) rm_M_frameOf (mPc D cl cB cI cJ cZ cS iM h0 ad u sz [.ref h0, .int v1, .int v2, .int v3, .int v4]) (mQv D cl cB cI cJ cZ cS iM h0 ad (mA cB cI cJ cZ cS iM h0 ad u sz) x) 0 0 (mA cB cI cJ cZ cS iM h0 ad u sz) :=
  mMet (by decide) rfl hM (Nat.le_of_ble_eq_true rfl) (fun p e s m below meth c ls hsz C0 hP hD hS hl => by
    have hR : rm_M_frameOf = rm_M_frameOf := rfl
    exact wb_M_frameOf_0 C0 hR N (gg_M_frameOf N N) (wg_M_frameOf C0 hR N N) u _ _ _ _ x hf s.heap [] hP hD hS ls (lv_sub hl [0, 1, 2, 3, 4] rfl))
abbrev b_M_callRun : ByteArray := prog_14_method_136_code
def y_M_callRun : MethodName := ⟨R_M, "callRun", "(II)V"⟩
def w_M_callRun : List Cond := wd_ws y_M_callRun b_M_callRun 11 none
set_option maxRecDepth 100000 in
theorem k_M_callRun : Cond.code y_M_callRun b_M_callRun 11 none ∈ wd_tbl := wd_of 3070 rfl rfl
theorem d_M_callRun_0 : decode b_M_callRun 0 = .ok (.aload_n 0, 1) := by decide +kernel
theorem d_M_callRun_1 : decode b_M_callRun 1 = .ok (.getfield 66, 3) := by decide +kernel
theorem d_M_callRun_4 : decode b_M_callRun 4 = .ok (.iload_n 1, 1) := by decide +kernel
theorem d_M_callRun_5 : decode b_M_callRun 5 = .ok (.iaload, 1) := by decide +kernel
theorem d_M_callRun_6 : decode b_M_callRun 6 = .ok (.istore_n 3, 1) := by decide +kernel
theorem d_M_callRun_7 : decode b_M_callRun 7 = .ok (.iload_n 2, 1) := by decide +kernel
theorem d_M_callRun_8 : decode b_M_callRun 8 = .ok (.bipush 12, 2) := by decide +kernel
theorem d_M_callRun_10 : decode b_M_callRun 10 = .ok (.if_icmp .ne 37, 3) := by decide +kernel
theorem d_M_callRun_13 : decode b_M_callRun 13 = .ok (.aload_n 0, 1) := by decide +kernel
theorem d_M_callRun_14 : decode b_M_callRun 14 = .ok (.getfield 69, 3) := by decide +kernel
theorem d_M_callRun_17 : decode b_M_callRun 17 = .ok (.iload_n 1, 1) := by decide +kernel
theorem d_M_callRun_18 : decode b_M_callRun 18 = .ok (.iaload, 1) := by decide +kernel
theorem d_M_callRun_19 : decode b_M_callRun 19 = .ok (.sipush 2000, 3) := by decide +kernel
theorem d_M_callRun_22 : decode b_M_callRun 22 = .ok (.if_icmp .lt 25, 3) := by decide +kernel
theorem d_M_callRun_25 : decode b_M_callRun 25 = .ok (.aload_n 0, 1) := by decide +kernel
theorem d_M_callRun_26 : decode b_M_callRun 26 = .ok (.iload_n 1, 1) := by decide +kernel
theorem d_M_callRun_27 : decode b_M_callRun 27 = .ok (.iconst 1, 1) := by decide +kernel
theorem d_M_callRun_28 : decode b_M_callRun 28 = .ok (.iadd, 1) := by decide +kernel
theorem d_M_callRun_29 : decode b_M_callRun 29 = .ok (.invokevirtual 811, 3) := by decide +kernel
theorem d_M_callRun_32 : decode b_M_callRun 32 = .ok (.aload_n 0, 1) := by decide +kernel
theorem d_M_callRun_33 : decode b_M_callRun 33 = .ok (.aload_n 0, 1) := by decide +kernel
theorem d_M_callRun_34 : decode b_M_callRun 34 = .ok (.getfield 69, 3) := by decide +kernel
theorem d_M_callRun_37 : decode b_M_callRun 37 = .ok (.iload_n 1, 1) := by decide +kernel
theorem d_M_callRun_38 : decode b_M_callRun 38 = .ok (.iaload, 1) := by decide +kernel
theorem d_M_callRun_39 : decode b_M_callRun 39 = .ok (.sipush 2000, 3) := by decide +kernel
theorem d_M_callRun_42 : decode b_M_callRun 42 = .ok (.isub, 1) := by decide +kernel
theorem d_M_callRun_43 : decode b_M_callRun 43 = .ok (.invokevirtual 956, 3) := by decide +kernel
theorem d_M_callRun_46 : decode b_M_callRun 46 = .ok (.return_, 1) := by decide +kernel
theorem d_M_callRun_47 : decode b_M_callRun 47 = .ok (.iload_n 2, 1) := by decide +kernel
theorem d_M_callRun_48 : decode b_M_callRun 48 = .ok (.bipush 12, 2) := by decide +kernel
theorem d_M_callRun_50 : decode b_M_callRun 50 = .ok (.if_icmp .ne 12, 3) := by decide +kernel
theorem d_M_callRun_53 : decode b_M_callRun 53 = .ok (.aload_n 0, 1) := by decide +kernel
theorem d_M_callRun_54 : decode b_M_callRun 54 = .ok (.getfield 69, 3) := by decide +kernel
theorem d_M_callRun_57 : decode b_M_callRun 57 = .ok (.iload_n 1, 1) := by decide +kernel
theorem d_M_callRun_58 : decode b_M_callRun 58 = .ok (.iaload, 1) := by decide +kernel
theorem d_M_callRun_59 : decode b_M_callRun 59 = .ok (.goto 4, 3) := by decide +kernel
theorem d_M_callRun_62 : decode b_M_callRun 62 = .ok (.iconst (-1), 1) := by decide +kernel
theorem d_M_callRun_63 : decode b_M_callRun 63 = .ok (.istore 4, 2) := by decide +kernel
theorem d_M_callRun_65 : decode b_M_callRun 65 = .ok (.iconst (-1), 1) := by decide +kernel
theorem d_M_callRun_66 : decode b_M_callRun 66 = .ok (.istore 5, 2) := by decide +kernel
theorem d_M_callRun_68 : decode b_M_callRun 68 = .ok (.aload_n 0, 1) := by decide +kernel
theorem d_M_callRun_69 : decode b_M_callRun 69 = .ok (.iload_n 2, 1) := by decide +kernel
theorem d_M_callRun_70 : decode b_M_callRun 70 = .ok (.bipush 13, 2) := by decide +kernel
theorem d_M_callRun_72 : decode b_M_callRun 72 = .ok (.if_icmp .ne 7, 3) := by decide +kernel
theorem d_M_callRun_75 : decode b_M_callRun 75 = .ok (.iconst 1, 1) := by decide +kernel
theorem d_M_callRun_76 : decode b_M_callRun 76 = .ok (.goto 4, 3) := by decide +kernel
theorem d_M_callRun_79 : decode b_M_callRun 79 = .ok (.iconst 0, 1) := by decide +kernel
theorem d_M_callRun_80 : decode b_M_callRun 80 = .ok (.putfield 959, 3) := by decide +kernel
theorem d_M_callRun_83 : decode b_M_callRun 83 = .ok (.iload_n 2, 1) := by decide +kernel
theorem d_M_callRun_84 : decode b_M_callRun 84 = .ok (.bipush 13, 2) := by decide +kernel
theorem d_M_callRun_86 : decode b_M_callRun 86 = .ok (.if_icmp .ne 127, 3) := by decide +kernel
theorem d_M_callRun_89 : decode b_M_callRun 89 = .ok (.aload_n 0, 1) := by decide +kernel
theorem d_M_callRun_90 : decode b_M_callRun 90 = .ok (.iload_n 3, 1) := by decide +kernel
theorem d_M_callRun_91 : decode b_M_callRun 91 = .ok (.invokevirtual 848, 3) := by decide +kernel
theorem d_M_callRun_94 : decode b_M_callRun 94 = .ok (.lstore 6, 2) := by decide +kernel
theorem d_M_callRun_96 : decode b_M_callRun 96 = .ok (.lload 6, 2) := by decide +kernel
theorem d_M_callRun_98 : decode b_M_callRun 98 = .ok (.invokestatic 676, 3) := by decide +kernel
theorem d_M_callRun_101 : decode b_M_callRun 101 = .ok (.iconst 3, 1) := by decide +kernel
theorem d_M_callRun_102 : decode b_M_callRun 102 = .ok (.if_icmp .eq 12, 3) := by decide +kernel
theorem d_M_callRun_105 : decode b_M_callRun 105 = .ok (.aload_n 0, 1) := by decide +kernel
theorem d_M_callRun_106 : decode b_M_callRun 106 = .ok (.bipush 17, 2) := by decide +kernel
theorem d_M_callRun_108 : decode b_M_callRun 108 = .ok (.lload 6, 2) := by decide +kernel
theorem d_M_callRun_110 : decode b_M_callRun 110 = .ok (.invokevirtual 858, 3) := by decide +kernel
theorem d_M_callRun_113 : decode b_M_callRun 113 = .ok (.return_, 1) := by decide +kernel
theorem d_M_callRun_114 : decode b_M_callRun 114 = .ok (.aload_n 0, 1) := by decide +kernel
theorem d_M_callRun_115 : decode b_M_callRun 115 = .ok (.aload_n 0, 1) := by decide +kernel
theorem d_M_callRun_116 : decode b_M_callRun 116 = .ok (.getfield 669, 3) := by decide +kernel
theorem d_M_callRun_119 : decode b_M_callRun 119 = .ok (.lload 6, 2) := by decide +kernel
theorem d_M_callRun_121 : decode b_M_callRun 121 = .ok (.invokestatic 680, 3) := by decide +kernel
theorem d_M_callRun_124 : decode b_M_callRun 124 = .ok (.invokevirtual 683, 3) := by decide +kernel
theorem d_M_callRun_127 : decode b_M_callRun 127 = .ok (.lstore 8, 2) := by decide +kernel
theorem d_M_callRun_129 : decode b_M_callRun 129 = .ok (.lload 8, 2) := by decide +kernel
theorem d_M_callRun_131 : decode b_M_callRun 131 = .ok (.lconst 0, 1) := by decide +kernel
theorem d_M_callRun_132 : decode b_M_callRun 132 = .ok (.lcmp, 1) := by decide +kernel
theorem d_M_callRun_133 : decode b_M_callRun 133 = .ok (.ifCond .ge 13, 3) := by decide +kernel
theorem d_M_callRun_136 : decode b_M_callRun 136 = .ok (.ldc2_w 913, 3) := by decide +kernel
theorem d_M_callRun_139 : decode b_M_callRun 139 = .ok (.lload 8, 2) := by decide +kernel
theorem d_M_callRun_141 : decode b_M_callRun 141 = .ok (.lsub, 1) := by decide +kernel
theorem d_M_callRun_142 : decode b_M_callRun 142 = .ok (.l2i, 1) := by decide +kernel
theorem d_M_callRun_143 : decode b_M_callRun 143 = .ok (.goto 4, 3) := by decide +kernel
theorem d_M_callRun_146 : decode b_M_callRun 146 = .ok (.iconst (-1), 1) := by decide +kernel
theorem d_M_callRun_147 : decode b_M_callRun 147 = .ok (.istore 4, 2) := by decide +kernel
theorem d_M_callRun_149 : decode b_M_callRun 149 = .ok (.lload 8, 2) := by decide +kernel
theorem d_M_callRun_151 : decode b_M_callRun 151 = .ok (.lconst 0, 1) := by decide +kernel
theorem d_M_callRun_152 : decode b_M_callRun 152 = .ok (.lcmp, 1) := by decide +kernel
theorem d_M_callRun_153 : decode b_M_callRun 153 = .ok (.ifCond .ge 7, 3) := by decide +kernel
theorem d_M_callRun_156 : decode b_M_callRun 156 = .ok (.iconst (-1), 1) := by decide +kernel
theorem d_M_callRun_157 : decode b_M_callRun 157 = .ok (.goto 6, 3) := by decide +kernel
theorem d_M_callRun_160 : decode b_M_callRun 160 = .ok (.lload 8, 2) := by decide +kernel
theorem d_M_callRun_162 : decode b_M_callRun 162 = .ok (.l2i, 1) := by decide +kernel
theorem d_M_callRun_163 : decode b_M_callRun 163 = .ok (.istore 5, 2) := by decide +kernel
theorem d_M_callRun_165 : decode b_M_callRun 165 = .ok (.iload 4, 2) := by decide +kernel
theorem d_M_callRun_167 : decode b_M_callRun 167 = .ok (.iconst (-1), 1) := by decide +kernel
theorem d_M_callRun_168 : decode b_M_callRun 168 = .ok (.if_icmp .eq 13, 3) := by decide +kernel
theorem d_M_callRun_171 : decode b_M_callRun 171 = .ok (.aload_n 0, 1) := by decide +kernel
theorem d_M_callRun_172 : decode b_M_callRun 172 = .ok (.getfield 125, 3) := by decide +kernel
theorem d_M_callRun_175 : decode b_M_callRun 175 = .ok (.iload 4, 2) := by decide +kernel
theorem d_M_callRun_177 : decode b_M_callRun 177 = .ok (.iaload, 1) := by decide +kernel
theorem d_M_callRun_178 : decode b_M_callRun 178 = .ok (.goto 15, 3) := by decide +kernel
theorem d_M_callRun_181 : decode b_M_callRun 181 = .ok (.aload_n 0, 1) := by decide +kernel
theorem d_M_callRun_182 : decode b_M_callRun 182 = .ok (.getfield 107, 3) := by decide +kernel
theorem d_M_callRun_185 : decode b_M_callRun 185 = .ok (.aload_n 0, 1) := by decide +kernel
theorem d_M_callRun_186 : decode b_M_callRun 186 = .ok (.getfield 137, 3) := by decide +kernel
theorem d_M_callRun_189 : decode b_M_callRun 189 = .ok (.iload 5, 2) := by decide +kernel
theorem d_M_callRun_191 : decode b_M_callRun 191 = .ok (.iaload, 1) := by decide +kernel
theorem d_M_callRun_192 : decode b_M_callRun 192 = .ok (.iaload, 1) := by decide +kernel
theorem d_M_callRun_193 : decode b_M_callRun 193 = .ok (.istore 10, 2) := by decide +kernel
theorem d_M_callRun_195 : decode b_M_callRun 195 = .ok (.iload 10, 2) := by decide +kernel
theorem d_M_callRun_197 : decode b_M_callRun 197 = .ok (.iload_n 3, 1) := by decide +kernel
theorem d_M_callRun_198 : decode b_M_callRun 198 = .ok (.if_icmp .eq 15, 3) := by decide +kernel
theorem d_M_callRun_201 : decode b_M_callRun 201 = .ok (.aload_n 0, 1) := by decide +kernel
theorem d_M_callRun_202 : decode b_M_callRun 202 = .ok (.bipush 18, 2) := by decide +kernel
theorem d_M_callRun_204 : decode b_M_callRun 204 = .ok (.iconst 0, 1) := by decide +kernel
theorem d_M_callRun_205 : decode b_M_callRun 205 = .ok (.iload_n 3, 1) := by decide +kernel
theorem d_M_callRun_206 : decode b_M_callRun 206 = .ok (.invokestatic 315, 3) := by decide +kernel
theorem d_M_callRun_209 : decode b_M_callRun 209 = .ok (.invokevirtual 858, 3) := by decide +kernel
theorem d_M_callRun_212 : decode b_M_callRun 212 = .ok (.return_, 1) := by decide +kernel
theorem d_M_callRun_213 : decode b_M_callRun 213 = .ok (.aload_n 0, 1) := by decide +kernel
theorem d_M_callRun_214 : decode b_M_callRun 214 = .ok (.getfield 889, 3) := by decide +kernel
theorem d_M_callRun_217 : decode b_M_callRun 217 = .ok (.aload_n 0, 1) := by decide +kernel
theorem d_M_callRun_218 : decode b_M_callRun 218 = .ok (.getfield 886, 3) := by decide +kernel
theorem d_M_callRun_221 : decode b_M_callRun 221 = .ok (.if_icmp .ne 29, 3) := by decide +kernel
theorem d_M_callRun_224 : decode b_M_callRun 224 = .ok (.aload_n 0, 1) := by decide +kernel
theorem d_M_callRun_225 : decode b_M_callRun 225 = .ok (.iconst 1, 1) := by decide +kernel
theorem d_M_callRun_226 : decode b_M_callRun 226 = .ok (.putfield 789, 3) := by decide +kernel
theorem d_M_callRun_229 : decode b_M_callRun 229 = .ok (.aload_n 0, 1) := by decide +kernel
theorem d_M_callRun_230 : decode b_M_callRun 230 = .ok (.getfield 273, 3) := by decide +kernel
theorem d_M_callRun_233 : decode b_M_callRun 233 = .ok (.aload_n 0, 1) := by decide +kernel
theorem d_M_callRun_234 : decode b_M_callRun 234 = .ok (.getfield 669, 3) := by decide +kernel
theorem d_M_callRun_237 : decode b_M_callRun 237 = .ok (.aload_n 0, 1) := by decide +kernel
theorem d_M_callRun_238 : decode b_M_callRun 238 = .ok (.getfield 29, 3) := by decide +kernel
theorem d_M_callRun_241 : decode b_M_callRun 241 = .ok (.aload_n 0, 1) := by decide +kernel
theorem d_M_callRun_242 : decode b_M_callRun 242 = .ok (.getfield 59, 3) := by decide +kernel
theorem d_M_callRun_245 : decode b_M_callRun 245 = .ok (.iload_n 1, 1) := by decide +kernel
theorem d_M_callRun_246 : decode b_M_callRun 246 = .ok (.saload, 1) := by decide +kernel
theorem d_M_callRun_247 : decode b_M_callRun 247 = .ok (.iaload, 1) := by decide +kernel
theorem d_M_callRun_248 : decode b_M_callRun 248 = .ok (.iastore, 1) := by decide +kernel
theorem d_M_callRun_249 : decode b_M_callRun 249 = .ok (.return_, 1) := by decide +kernel
theorem d_M_callRun_250 : decode b_M_callRun 250 = .ok (.aload_n 0, 1) := by decide +kernel
theorem d_M_callRun_251 : decode b_M_callRun 251 = .ok (.getfield 78, 3) := by decide +kernel
theorem d_M_callRun_254 : decode b_M_callRun 254 = .ok (.iload_n 1, 1) := by decide +kernel
theorem d_M_callRun_255 : decode b_M_callRun 255 = .ok (.baload, 1) := by decide +kernel
theorem d_M_callRun_256 : decode b_M_callRun 256 = .ok (.ifCond .ne 29, 3) := by decide +kernel
theorem d_M_callRun_259 : decode b_M_callRun 259 = .ok (.aload_n 0, 1) := by decide +kernel
theorem d_M_callRun_260 : decode b_M_callRun 260 = .ok (.getfield 212, 3) := by decide +kernel
theorem d_M_callRun_263 : decode b_M_callRun 263 = .ok (.aload_n 0, 1) := by decide +kernel
theorem d_M_callRun_264 : decode b_M_callRun 264 = .ok (.getfield 669, 3) := by decide +kernel
theorem d_M_callRun_267 : decode b_M_callRun 267 = .ok (.iaload, 1) := by decide +kernel
theorem d_M_callRun_268 : decode b_M_callRun 268 = .ok (.bipush 60, 2) := by decide +kernel
theorem d_M_callRun_270 : decode b_M_callRun 270 = .ok (.if_icmp .ne 15, 3) := by decide +kernel
theorem d_M_callRun_273 : decode b_M_callRun 273 = .ok (.aload_n 0, 1) := by decide +kernel
theorem d_M_callRun_274 : decode b_M_callRun 274 = .ok (.iconst 0, 1) := by decide +kernel
theorem d_M_callRun_275 : decode b_M_callRun 275 = .ok (.iconst 1, 1) := by decide +kernel
theorem d_M_callRun_276 : decode b_M_callRun 276 = .ok (.bipush 21, 2) := by decide +kernel
theorem d_M_callRun_278 : decode b_M_callRun 278 = .ok (.invokestatic 315, 3) := by decide +kernel
theorem d_M_callRun_281 : decode b_M_callRun 281 = .ok (.invokevirtual 792, 3) := by decide +kernel
theorem d_M_callRun_284 : decode b_M_callRun 284 = .ok (.return_, 1) := by decide +kernel
theorem d_M_callRun_285 : decode b_M_callRun 285 = .ok (.aload_n 0, 1) := by decide +kernel
theorem d_M_callRun_286 : decode b_M_callRun 286 = .ok (.dup, 1) := by decide +kernel
theorem d_M_callRun_287 : decode b_M_callRun 287 = .ok (.getfield 889, 3) := by decide +kernel
theorem d_M_callRun_290 : decode b_M_callRun 290 = .ok (.iconst 1, 1) := by decide +kernel
theorem d_M_callRun_291 : decode b_M_callRun 291 = .ok (.iadd, 1) := by decide +kernel
theorem d_M_callRun_292 : decode b_M_callRun 292 = .ok (.putfield 889, 3) := by decide +kernel
theorem d_M_callRun_295 : decode b_M_callRun 295 = .ok (.aload_n 0, 1) := by decide +kernel
theorem d_M_callRun_296 : decode b_M_callRun 296 = .ok (.dup, 1) := by decide +kernel
theorem d_M_callRun_297 : decode b_M_callRun 297 = .ok (.getfield 962, 3) := by decide +kernel
theorem d_M_callRun_300 : decode b_M_callRun 300 = .ok (.iconst 1, 1) := by decide +kernel
theorem d_M_callRun_301 : decode b_M_callRun 301 = .ok (.iadd, 1) := by decide +kernel
theorem d_M_callRun_302 : decode b_M_callRun 302 = .ok (.putfield 962, 3) := by decide +kernel
theorem d_M_callRun_305 : decode b_M_callRun 305 = .ok (.aload_n 0, 1) := by decide +kernel
theorem d_M_callRun_306 : decode b_M_callRun 306 = .ok (.getfield 270, 3) := by decide +kernel
theorem d_M_callRun_309 : decode b_M_callRun 309 = .ok (.aload_n 0, 1) := by decide +kernel
theorem d_M_callRun_310 : decode b_M_callRun 310 = .ok (.getfield 669, 3) := by decide +kernel
theorem d_M_callRun_313 : decode b_M_callRun 313 = .ok (.dup2, 1) := by decide +kernel
theorem d_M_callRun_314 : decode b_M_callRun 314 = .ok (.iaload, 1) := by decide +kernel
theorem d_M_callRun_315 : decode b_M_callRun 315 = .ok (.iconst 1, 1) := by decide +kernel
theorem d_M_callRun_316 : decode b_M_callRun 316 = .ok (.iadd, 1) := by decide +kernel
theorem d_M_callRun_317 : decode b_M_callRun 317 = .ok (.iastore, 1) := by decide +kernel
theorem d_M_callRun_318 : decode b_M_callRun 318 = .ok (.aload_n 0, 1) := by decide +kernel
theorem d_M_callRun_319 : decode b_M_callRun 319 = .ok (.iload_n 1, 1) := by decide +kernel
theorem d_M_callRun_320 : decode b_M_callRun 320 = .ok (.iconst 1, 1) := by decide +kernel
theorem d_M_callRun_321 : decode b_M_callRun 321 = .ok (.iadd, 1) := by decide +kernel
theorem d_M_callRun_322 : decode b_M_callRun 322 = .ok (.invokevirtual 811, 3) := by decide +kernel
theorem d_M_callRun_325 : decode b_M_callRun 325 = .ok (.aload_n 0, 1) := by decide +kernel
theorem d_M_callRun_326 : decode b_M_callRun 326 = .ok (.iload 4, 2) := by decide +kernel
theorem d_M_callRun_328 : decode b_M_callRun 328 = .ok (.iload 5, 2) := by decide +kernel
theorem d_M_callRun_330 : decode b_M_callRun 330 = .ok (.iload_n 3, 1) := by decide +kernel
theorem d_M_callRun_331 : decode b_M_callRun 331 = .ok (.aload_n 0, 1) := by decide +kernel
theorem d_M_callRun_332 : decode b_M_callRun 332 = .ok (.getfield 78, 3) := by decide +kernel
theorem d_M_callRun_335 : decode b_M_callRun 335 = .ok (.iload_n 1, 1) := by decide +kernel
theorem d_M_callRun_336 : decode b_M_callRun 336 = .ok (.baload, 1) := by decide +kernel
theorem d_M_callRun_337 : decode b_M_callRun 337 = .ok (.invokevirtual 964, 3) := by decide +kernel
theorem d_M_callRun_340 : decode b_M_callRun 340 = .ok (.aload_n 0, 1) := by decide +kernel
theorem d_M_callRun_341 : decode b_M_callRun 341 = .ok (.iload 4, 2) := by decide +kernel
theorem d_M_callRun_343 : decode b_M_callRun 343 = .ok (.iconst (-1), 1) := by decide +kernel
theorem d_M_callRun_344 : decode b_M_callRun 344 = .ok (.if_icmp .eq 13, 3) := by decide +kernel
theorem d_M_callRun_347 : decode b_M_callRun 347 = .ok (.aload_n 0, 1) := by decide +kernel
theorem d_M_callRun_348 : decode b_M_callRun 348 = .ok (.getfield 131, 3) := by decide +kernel
theorem d_M_callRun_351 : decode b_M_callRun 351 = .ok (.iload 4, 2) := by decide +kernel
theorem d_M_callRun_353 : decode b_M_callRun 353 = .ok (.iaload, 1) := by decide +kernel
theorem d_M_callRun_354 : decode b_M_callRun 354 = .ok (.goto 10, 3) := by decide +kernel
theorem d_M_callRun_357 : decode b_M_callRun 357 = .ok (.aload_n 0, 1) := by decide +kernel
theorem d_M_callRun_358 : decode b_M_callRun 358 = .ok (.getfield 137, 3) := by decide +kernel
theorem d_M_callRun_361 : decode b_M_callRun 361 = .ok (.iload 5, 2) := by decide +kernel
theorem d_M_callRun_363 : decode b_M_callRun 363 = .ok (.iaload, 1) := by decide +kernel
theorem d_M_callRun_364 : decode b_M_callRun 364 = .ok (.invokevirtual 892, 3) := by decide +kernel
theorem d_M_callRun_367 : decode b_M_callRun 367 = .ok (.return_, 1) := by decide +kernel
set_option maxRecDepth 100000 in
theorem hl_M_callRun : Cond.methodLink R_M 910 y_M_callRun ∈ wd_tbl := wd_of 3067 (by decide +kernel) rfl
set_option maxRecDepth 100000 in
theorem hi_M_callRun : Cond.instanceMethod y_M_callRun ∈ wd_tbl := wd_of 3069 (by decide +kernel) rfl
set_option maxRecDepth 100000 in
theorem hs_M_callRun : Cond.selects R_M y_M_callRun y_M_callRun ∈ wd_tbl := wd_of 223 (by decide +kernel) rfl
theorem hd_M_callRun : y_M_callRun.cls = R_M ∧ y_M_callRun.cls ≠ "java/lang/invoke/MethodHandle" ∧ y_M_callRun.cls ≠ "java/lang/invoke/VarHandle" ∧ (parseMethodDescriptor y_M_callRun.desc).map (fun d => d.parameters.length) = some 2 := by decide +kernel
def rm_M_callRun : Room := { frames := 30, cells := 0, slots := 0, locals := 778 }
theorem rm_M_callRun_M_goTo {R : Room} (hR : R = rm_M_callRun) : (rm_M_goTo).frames + 1 ≤ R.frames ∧ 8 + (2 + 11) + (rm_M_goTo).locals ≤ R.locals := by subst hR; decide
theorem rm_M_callRun_M_predefinedRun {R : Room} (hR : R = rm_M_callRun) : (rm_M_predefinedRun).frames + 1 ≤ R.frames ∧ 8 + (4 + 11) + (rm_M_predefinedRun).locals ≤ R.locals := by subst hR; decide
theorem rm_M_callRun_M_top {R : Room} (hR : R = rm_M_callRun) : (rm_M_top).frames + 1 ≤ R.frames ∧ 8 + (2 + 11) + (rm_M_top).locals ≤ R.locals := by subst hR; decide
theorem rm_M_callRun_M_sortOf {R : Room} (hR : R = rm_M_callRun) : (rm_M_sortOf).frames + 1 ≤ R.frames ∧ 8 + (2 + 11) + (rm_M_sortOf).locals ≤ R.locals := by subst hR; decide
theorem rm_M_callRun_M_errorOf {R : Room} (hR : R = rm_M_callRun) : (rm_M_errorOf).frames + 1 ≤ R.frames ∧ 8 + (7 + 11) + (rm_M_errorOf).locals ≤ R.locals := by subst hR; decide
theorem rm_M_callRun_M_valueOf {R : Room} (hR : R = rm_M_callRun) : (rm_M_valueOf).frames + 1 ≤ R.frames ∧ 8 + (2 + 11) + (rm_M_valueOf).locals ≤ R.locals := by subst hR; decide
theorem rm_M_callRun_M_cell {R : Room} (hR : R = rm_M_callRun) : (rm_M_cell).frames + 1 ≤ R.frames ∧ 8 + (3 + 11) + (rm_M_cell).locals ≤ R.locals := by subst hR; decide
theorem rm_M_callRun_M_term {R : Room} (hR : R = rm_M_callRun) : (rm_M_term).frames + 1 ≤ R.frames ∧ 8 + (2 + 11) + (rm_M_term).locals ≤ R.locals := by subst hR; decide
theorem rm_M_callRun_M_ends {R : Room} (hR : R = rm_M_callRun) : (rm_M_ends).frames + 1 ≤ R.frames ∧ 8 + (4 + 11) + (rm_M_ends).locals ≤ R.locals := by subst hR; decide
theorem rm_M_callRun_M_frameOf {R : Room} (hR : R = rm_M_callRun) : (rm_M_frameOf).frames + 1 ≤ R.frames ∧ 8 + (15 + 11) + (rm_M_frameOf).locals ≤ R.locals := by subst hR; decide
theorem rm_M_callRun_M_clausesOf {R : Room} (hR : R = rm_M_callRun) : (rm_M_clausesOf).frames + 1 ≤ R.frames ∧ 8 + (3 + 11) + (rm_M_clausesOf).locals ≤ R.locals := by subst hR; decide
def fb_M_callRun_364 (N : Nat) (G : Unit) (u : MS) (t1 : Int32) : Option (MS × Unit) := bnd (fm_M_clausesOf N u t1) (fun u1 _ => some (u1, ()))
set_option maxRecDepth 100000 in
set_option maxHeartbeats 4000000 in
theorem wb_M_callRun_364 {p : Program} {l : Launch} {e : Env} {R : Room} {s : State} {m : MethodId} {args : Array Value} {below : List Frame} {meth : Method} {c : Code} {D : va_G} {cl : List vw_C} {cB cI cJ cZ cS : ClassId} {A : Nat → Prop} {iM h0 : Nat} {ad : Nat → Nat} (C0 : MCx p s m args meth c b_M_callRun 11 none D cl cB cI cJ cZ cS iM A) (hR : R = rm_M_callRun) (N : Nat) (G : Unit) (hG : True) : ∀ (u : MS) (t1 : Int32) (x : MS × Unit), fb_M_callRun_364 N G u t1 = some x → ∀ (H : Heap) (locs : List Loc), va_P D cl (wM cB cI cJ cZ cS iM h0 ad u) H → va_D A (wM cB cI cJ cZ cS iM h0 ad u) → va_S A s.heap H locs → ∀ (ls : Array Slot), lv_has ls 11 [] → W p l e R s m args below meth c H locs 0 0 (MQ below (mQv D cl cB cI cJ cZ cS iM h0 ad A x) args s 0 0 A) (F0 m 364 ls [.int t1, .ref h0]) := by
  intro u t1 x hf H locs hP hD hS ls hl
  obtain ⟨hx, hb, hr, hml, ht, hown, hM, hK, hA, hlocks⟩ := id C0
  unfold fb_M_callRun_364 at hf
  obtain ⟨u1, r1, hc1, hf⟩ := bnd_some hf
  refine mV_v (As := [.int t1]) (rest := []) C0 hP hD hS (c_M_clausesOf N hM hc1) k_M_clausesOf hl_M_clausesOf hi_M_clausesOf hs_M_clausesOf hini_M rfl rfl hd_M_clausesOf rfl (rm_M_callRun_M_clausesOf hR) hl.1 (Nat.le_of_ble_eq_true rfl) d_M_callRun_364 rfl ⟨Nat.zero_le _, Nat.zero_le _⟩ (fun H locs hP hD hS => ?_)
  exact mr_v C0 hP hD hS hf d_M_callRun_367
def fb_M_callRun_285 (N : Nat) (G : Unit) (u : MS) (v1 : Int32) (v3 : Int32) (v4 : Int32) (v5 : Int32) : Option (MS × Unit) := lt (upI u 165 ((u.1 165) + 1)) (fun w2 => lt (upI w2 119 ((w2.1 119) + 1)) (fun w3 => ck (inb (w3.1 133) (ln 114)) (ck (inb (w3.1 133) (ln 114)) (lt (upA w3 114 (upd (w3.2.2.1 114) (w3.1 133).toNatClampNeg ((w3.2.2.1 114 (w3.1 133).toNatClampNeg) + 1))) (fun w4 => bnd (fm_M_goTo N w4 (v1 + 1)) (fun u5 _ => ck (inb v1 (ln 30)) (bnd (fm_M_frameOf N u5 v4 v5 v3 (u5.2.2.1 30 v1.toNatClampNeg)) (fun u6 _ => br (decide (v4 = (-1))) (ck (inb v5 (ln 53)) (fb_M_callRun_364 N G u6 ((u6.2.2.1 53 v5.toNatClampNeg)))) (ck (inb v4 (ln 50)) (fb_M_callRun_364 N G u6 ((u6.2.2.1 50 v4.toNatClampNeg))))))))))))
set_option maxRecDepth 100000 in
set_option maxHeartbeats 4000000 in
theorem wb_M_callRun_285 {p : Program} {l : Launch} {e : Env} {R : Room} {s : State} {m : MethodId} {args : Array Value} {below : List Frame} {meth : Method} {c : Code} {D : va_G} {cl : List vw_C} {cB cI cJ cZ cS : ClassId} {A : Nat → Prop} {iM h0 : Nat} {ad : Nat → Nat} (C0 : MCx p s m args meth c b_M_callRun 11 none D cl cB cI cJ cZ cS iM A) (hR : R = rm_M_callRun) (N : Nat) (G : Unit) (hG : True) : ∀ (u : MS) (v1 : Int32) (v3 : Int32) (v4 : Int32) (v5 : Int32) (x : MS × Unit), fb_M_callRun_285 N G u v1 v3 v4 v5 = some x → ∀ (H : Heap) (locs : List Loc), va_P D cl (wM cB cI cJ cZ cS iM h0 ad u) H → va_D A (wM cB cI cJ cZ cS iM h0 ad u) → va_S A s.heap H locs → ∀ (ls : Array Slot), lv_has ls 11 [(0, .ref h0), (1, .int v1), (3, .int v3), (4, .int v4), (5, .int v5)] → W p l e R s m args below meth c H locs 0 0 (MQ below (mQv D cl cB cI cJ cZ cS iM h0 ad A x) args s 0 0 A) (F0 m 285 ls []) := by
  intro u v1 v3 v4 v5 x hf H locs hP hD hS ls hl
  obtain ⟨hx, hb, hr, hml, ht, hown, hM, hK, hA, hlocks⟩ := id C0
  unfold fb_M_callRun_285 at hf
  refine lv_aload_n hx hb d_M_callRun_285 rfl (lv_at hl 0 rfl) ?_
  refine lv_dup hx hb d_M_callRun_286 rfl ?_
  refine ug_I hx hb ht hown hM hK hP 165 (by decide) lk_M_165 (by decide) d_M_callRun_287 ?_
  refine lv_iconst (v := 1) hx hb d_M_callRun_290 (by decide) ?_
  refine lv_iadd hx hb d_M_callRun_291 ?_
  refine up_I hx hb ht hown hM hK hP hD hS 165 (by decide) lk_M_165 (by decide) rfl rfl rfl d_M_callRun_292 (fun H locs hP hD hS => ?_)
  obtain ⟨w2, e2, hf⟩ := lt_some hf
  rw [← e2] at hP hD
  refine lv_aload_n hx hb d_M_callRun_295 rfl (lv_at hl 0 rfl) ?_
  refine lv_dup hx hb d_M_callRun_296 rfl ?_
  refine ug_I hx hb ht hown hM hK hP 119 (by decide) lk_M_119 (by decide) d_M_callRun_297 ?_
  refine lv_iconst (v := 1) hx hb d_M_callRun_300 (by decide) ?_
  refine lv_iadd hx hb d_M_callRun_301 ?_
  refine up_I hx hb ht hown hM hK hP hD hS 119 (by decide) lk_M_119 (by decide) rfl rfl rfl d_M_callRun_302 (fun H locs hP hD hS => ?_)
  obtain ⟨w3, e3, hf⟩ := lt_some hf
  rw [← e3] at hP hD
  refine lv_aload_n hx hb d_M_callRun_305 rfl (lv_at hl 0 rfl) ?_
  refine ug_R hx hb ht hown hM hK hP 114 (by decide) lk_M_114 (by decide) d_M_callRun_306 ?_
  refine lv_aload_n hx hb d_M_callRun_309 rfl (lv_at hl 0 rfl) ?_
  refine ug_I hx hb ht hown hM hK hP 133 (by decide) lk_M_133 (by decide) d_M_callRun_310 ?_
  refine lv_dup2_11 hx hb d_M_callRun_313 rfl rfl ?_
  obtain ⟨hi9, hf⟩ := ck_some hf
  refine ul_I hx hb hK hP (by decide) (by decide) hi9 d_M_callRun_314 ?_
  refine lv_iconst (v := 1) hx hb d_M_callRun_315 (by decide) ?_
  refine lv_iadd hx hb d_M_callRun_316 ?_
  obtain ⟨hi9, hf⟩ := ck_some hf
  refine us_I hx hb hK hP hD hS (by decide) (by decide) hi9 d_M_callRun_317 (fun H locs hP hD hS => ?_)
  obtain ⟨w4, e4, hf⟩ := lt_some hf
  rw [← e4] at hP hD
  refine lv_aload_n hx hb d_M_callRun_318 rfl (lv_at hl 0 rfl) ?_
  refine lv_iload_n hx hb d_M_callRun_319 rfl (lv_at hl 1 rfl) ?_
  refine lv_iconst (v := 1) hx hb d_M_callRun_320 (by decide) ?_
  refine lv_iadd hx hb d_M_callRun_321 ?_
  obtain ⟨u5, r5, hc5, hf⟩ := bnd_some hf
  refine mV_v (As := [.int (v1 + 1)]) (rest := []) C0 hP hD hS (c_M_goTo N hM hc5) k_M_goTo hl_M_goTo hi_M_goTo hs_M_goTo hini_M rfl rfl hd_M_goTo rfl (rm_M_callRun_M_goTo hR) hl.1 (Nat.le_of_ble_eq_true rfl) d_M_callRun_322 rfl ⟨Nat.zero_le _, Nat.zero_le _⟩ (fun H locs hP hD hS => ?_)
  refine lv_aload_n hx hb d_M_callRun_325 rfl (lv_at hl 0 rfl) ?_
  refine lv_iload hx hb d_M_callRun_326 (lv_at hl 3 rfl) ?_
  refine lv_iload hx hb d_M_callRun_328 (lv_at hl 4 rfl) ?_
  refine lv_iload_n hx hb d_M_callRun_330 rfl (lv_at hl 2 rfl) ?_
  refine lv_aload_n hx hb d_M_callRun_331 rfl (lv_at hl 0 rfl) ?_
  refine ug_R hx hb ht hown hM hK hP 30 (by decide) lk_M_30 (by decide) d_M_callRun_332 ?_
  refine lv_iload_n hx hb d_M_callRun_335 rfl (lv_at hl 1 rfl) ?_
  obtain ⟨hi9, hf⟩ := ck_some hf
  refine ul_Z hx hb hK hP (by decide) (by decide) hi9 d_M_callRun_336 ?_
  obtain ⟨u6, r6, hc6, hf⟩ := bnd_some hf
  refine mV_v (As := [.int v4, .int v5, .int v3, .int (u5.2.2.1 30 v1.toNatClampNeg)]) (rest := []) C0 hP hD hS (c_M_frameOf N hM hc6) k_M_frameOf hl_M_frameOf hi_M_frameOf hs_M_frameOf hini_M rfl rfl hd_M_frameOf rfl (rm_M_callRun_M_frameOf hR) hl.1 (Nat.le_of_ble_eq_true rfl) d_M_callRun_337 rfl ⟨Nat.zero_le _, Nat.zero_le _⟩ (fun H locs hP hD hS => ?_)
  refine lv_aload_n hx hb d_M_callRun_340 rfl (lv_at hl 0 rfl) ?_
  refine lv_iload hx hb d_M_callRun_341 (lv_at hl 3 rfl) ?_
  refine lv_iconst (v := (-1)) hx hb d_M_callRun_343 (by decide) ?_
  refine lv_icmp_eq (tgt := 357) hx hb d_M_callRun_344 (by decide) (fun hc => ?_) (fun hc => ?_)
  · rw [br_p _ hc] at hf
    refine lv_aload_n hx hb d_M_callRun_357 rfl (lv_at hl 0 rfl) ?_
    refine ug_R hx hb ht hown hM hK hP 53 (by decide) lk_M_53 (by decide) d_M_callRun_358 ?_
    refine lv_iload hx hb d_M_callRun_361 (lv_at hl 4 rfl) ?_
    obtain ⟨hi9, hf⟩ := ck_some hf
    refine ul_I hx hb hK hP (by decide) (by decide) hi9 d_M_callRun_363 ?_
    exact wb_M_callRun_364 C0 hR N G hG _ _ _ hf H locs hP hD hS ls (lv_sub hl [] rfl)
  · rw [br_n _ hc] at hf
    refine lv_aload_n hx hb d_M_callRun_347 rfl (lv_at hl 0 rfl) ?_
    refine ug_R hx hb ht hown hM hK hP 50 (by decide) lk_M_50 (by decide) d_M_callRun_348 ?_
    refine lv_iload hx hb d_M_callRun_351 (lv_at hl 3 rfl) ?_
    obtain ⟨hi9, hf⟩ := ck_some hf
    refine ul_I hx hb hK hP (by decide) (by decide) hi9 d_M_callRun_353 ?_
    refine lv_goto (tgt := 364) hx hb d_M_callRun_354 (by decide) ?_
    exact wb_M_callRun_364 C0 hR N G hG _ _ _ hf H locs hP hD hS ls (lv_sub hl [] rfl)
def fb_M_callRun_213 (N : Nat) (G : Unit) (u : MS) (v1 : Int32) (v3 : Int32) (v4 : Int32) (v5 : Int32) : Option (MS × Unit) := br (decide ((u.1 165) = (u.1 164))) (lt (upI u 151 1) (fun w9 => ck (inb v1 (ln 24)) (ck (inb (w9.2.2.1 24 v1.toNatClampNeg) (ln 8)) (ck (inb (w9.1 133) (ln 115)) (lt (upA w9 115 (upd (w9.2.2.1 115) (w9.1 133).toNatClampNeg (w9.2.2.1 8 (w9.2.2.1 24 v1.toNatClampNeg).toNatClampNeg))) (fun w10 => some (w10, ()))))))) (ck (inb v1 (ln 30)) (br (decide ((u.2.2.1 30 v1.toNatClampNeg) = 0)) (ck (inb (u.1 133) (ln 95)) (br (decide ((u.2.2.1 95 (u.1 133).toNatClampNeg) = 60)) (bnd (fm_M_term N u 1 21) (fun u7 r7 => bnd (fm_M_ends N u7 0 r7) (fun u8 _ => some (u8, ())))) (fb_M_callRun_285 N G u (v1) (v3) (v4) (v5)))) (fb_M_callRun_285 N G u (v1) (v3) (v4) (v5))))
set_option maxRecDepth 100000 in
set_option maxHeartbeats 4000000 in
theorem wb_M_callRun_213 {p : Program} {l : Launch} {e : Env} {R : Room} {s : State} {m : MethodId} {args : Array Value} {below : List Frame} {meth : Method} {c : Code} {D : va_G} {cl : List vw_C} {cB cI cJ cZ cS : ClassId} {A : Nat → Prop} {iM h0 : Nat} {ad : Nat → Nat} (C0 : MCx p s m args meth c b_M_callRun 11 none D cl cB cI cJ cZ cS iM A) (hR : R = rm_M_callRun) (N : Nat) (G : Unit) (hG : True) : ∀ (u : MS) (v1 : Int32) (v3 : Int32) (v4 : Int32) (v5 : Int32) (x : MS × Unit), fb_M_callRun_213 N G u v1 v3 v4 v5 = some x → ∀ (H : Heap) (locs : List Loc), va_P D cl (wM cB cI cJ cZ cS iM h0 ad u) H → va_D A (wM cB cI cJ cZ cS iM h0 ad u) → va_S A s.heap H locs → ∀ (ls : Array Slot), lv_has ls 11 [(0, .ref h0), (1, .int v1), (3, .int v3), (4, .int v4), (5, .int v5)] → W p l e R s m args below meth c H locs 0 0 (MQ below (mQv D cl cB cI cJ cZ cS iM h0 ad A x) args s 0 0 A) (F0 m 213 ls []) := by
  intro u v1 v3 v4 v5 x hf H locs hP hD hS ls hl
  obtain ⟨hx, hb, hr, hml, ht, hown, hM, hK, hA, hlocks⟩ := id C0
  unfold fb_M_callRun_213 at hf
  refine lv_aload_n hx hb d_M_callRun_213 rfl (lv_at hl 0 rfl) ?_
  refine ug_I hx hb ht hown hM hK hP 165 (by decide) lk_M_165 (by decide) d_M_callRun_214 ?_
  refine lv_aload_n hx hb d_M_callRun_217 rfl (lv_at hl 0 rfl) ?_
  refine ug_I hx hb ht hown hM hK hP 164 (by decide) lk_M_164 (by decide) d_M_callRun_218 ?_
  refine lv_icmp_ne (tgt := 250) hx hb d_M_callRun_221 (by decide) (fun hc => ?_) (fun hc => ?_)
  · rw [br_n _ hc] at hf
    refine lv_aload_n hx hb d_M_callRun_250 rfl (lv_at hl 0 rfl) ?_
    refine ug_R hx hb ht hown hM hK hP 30 (by decide) lk_M_30 (by decide) d_M_callRun_251 ?_
    refine lv_iload_n hx hb d_M_callRun_254 rfl (lv_at hl 1 rfl) ?_
    obtain ⟨hi9, hf⟩ := ck_some hf
    refine ul_Z hx hb hK hP (by decide) (by decide) hi9 d_M_callRun_255 ?_
    refine lv_if_ne (tgt := 285) hx hb d_M_callRun_256 (by decide) (fun hc => ?_) (fun hc => ?_)
    · rw [br_n _ hc] at hf
      exact wb_M_callRun_285 C0 hR N G hG _ _ _ _ _ _ hf H locs hP hD hS ls (lv_sub hl [0, 1, 2, 3, 4] rfl)
    · rw [br_p _ hc] at hf
      refine lv_aload_n hx hb d_M_callRun_259 rfl (lv_at hl 0 rfl) ?_
      refine ug_R hx hb ht hown hM hK hP 95 (by decide) lk_M_95 (by decide) d_M_callRun_260 ?_
      refine lv_aload_n hx hb d_M_callRun_263 rfl (lv_at hl 0 rfl) ?_
      refine ug_I hx hb ht hown hM hK hP 133 (by decide) lk_M_133 (by decide) d_M_callRun_264 ?_
      obtain ⟨hi9, hf⟩ := ck_some hf
      refine ul_I hx hb hK hP (by decide) (by decide) hi9 d_M_callRun_267 ?_
      refine lv_bipush (v := 60) hx hb d_M_callRun_268 (by decide) ?_
      refine lv_icmp_ne (tgt := 285) hx hb d_M_callRun_270 (by decide) (fun hc => ?_) (fun hc => ?_)
      · rw [br_n _ hc] at hf
        exact wb_M_callRun_285 C0 hR N G hG _ _ _ _ _ _ hf H locs hP hD hS ls (lv_sub hl [0, 1, 2, 3, 4] rfl)
      · rw [br_p _ hc] at hf
        refine lv_aload_n hx hb d_M_callRun_273 rfl (lv_at hl 0 rfl) ?_
        refine lv_iconst (v := 0) hx hb d_M_callRun_274 (by decide) ?_
        refine lv_iconst (v := 1) hx hb d_M_callRun_275 (by decide) ?_
        refine lv_bipush (v := 21) hx hb d_M_callRun_276 (by decide) ?_
        obtain ⟨u7, r7, hc7, hf⟩ := bnd_some hf
        refine mS_l (As := [.int 1, .int 21]) (rest := [.int 0, .ref h0]) C0 hP hD hS (c_M_term N hM hc7) k_M_term hl_M_term ht_M_term hini_M rfl rfl hd_M_term rfl (rm_M_callRun_M_term hR) hl.1 (Nat.le_of_ble_eq_true rfl) d_M_callRun_278 rfl ⟨Nat.zero_le _, Nat.zero_le _⟩ (fun H locs hP hD hS => ?_)
        obtain ⟨u8, r8, hc8, hf⟩ := bnd_some hf
        refine mV_v (As := [.int 0, .long r7]) (rest := []) C0 hP hD hS (c_M_ends N hM hc8) k_M_ends hl_M_ends hi_M_ends hs_M_ends hini_M rfl rfl hd_M_ends rfl (rm_M_callRun_M_ends hR) hl.1 (Nat.le_of_ble_eq_true rfl) d_M_callRun_281 rfl ⟨Nat.zero_le _, Nat.zero_le _⟩ (fun H locs hP hD hS => ?_)
        exact mr_v C0 hP hD hS hf d_M_callRun_284
  · rw [br_p _ hc] at hf
    refine lv_aload_n hx hb d_M_callRun_224 rfl (lv_at hl 0 rfl) ?_
    refine lv_iconst (v := 1) hx hb d_M_callRun_225 (by decide) ?_
    refine up_I hx hb ht hown hM hK hP hD hS 151 (by decide) lk_M_151 (by decide) rfl rfl rfl d_M_callRun_226 (fun H locs hP hD hS => ?_)
    obtain ⟨w9, e9, hf⟩ := lt_some hf
    rw [← e9] at hP hD
    refine lv_aload_n hx hb d_M_callRun_229 rfl (lv_at hl 0 rfl) ?_
    refine ug_R hx hb ht hown hM hK hP 115 (by decide) lk_M_115 (by decide) d_M_callRun_230 ?_
    refine lv_aload_n hx hb d_M_callRun_233 rfl (lv_at hl 0 rfl) ?_
    refine ug_I hx hb ht hown hM hK hP 133 (by decide) lk_M_133 (by decide) d_M_callRun_234 ?_
    refine lv_aload_n hx hb d_M_callRun_237 rfl (lv_at hl 0 rfl) ?_
    refine ug_R hx hb ht hown hM hK hP 8 (by decide) lk_M_8 (by decide) d_M_callRun_238 ?_
    refine lv_aload_n hx hb d_M_callRun_241 rfl (lv_at hl 0 rfl) ?_
    refine ug_R hx hb ht hown hM hK hP 24 (by decide) lk_M_24 (by decide) d_M_callRun_242 ?_
    refine lv_iload_n hx hb d_M_callRun_245 rfl (lv_at hl 1 rfl) ?_
    obtain ⟨hi9, hf⟩ := ck_some hf
    refine ul_S hx hb hK hP (by decide) (by decide) hi9 d_M_callRun_246 ?_
    obtain ⟨hi9, hf⟩ := ck_some hf
    refine ul_I hx hb hK hP (by decide) (by decide) hi9 d_M_callRun_247 ?_
    obtain ⟨hi9, hf⟩ := ck_some hf
    refine us_I hx hb hK hP hD hS (by decide) (by decide) hi9 d_M_callRun_248 (fun H locs hP hD hS => ?_)
    obtain ⟨w10, e10, hf⟩ := lt_some hf
    rw [← e10] at hP hD
    exact mr_v C0 hP hD hS hf d_M_callRun_249
def fb_M_callRun_193 (N : Nat) (G : Unit) (u : MS) (v1 : Int32) (v3 : Int32) (v4 : Int32) (v5 : Int32) (t0 : Int32) : Option (MS × Unit) := br (decide (t0 = v3)) (fb_M_callRun_213 N G u (v1) (v3) (v4) (v5)) (bnd (fm_M_term N u 0 v3) (fun u11 r11 => bnd (fr_M_errorOf N u11 18 r11) (fun u12 _ => some (u12, ()))))
set_option maxRecDepth 100000 in
set_option maxHeartbeats 4000000 in
theorem wb_M_callRun_193 {p : Program} {l : Launch} {e : Env} {R : Room} {s : State} {m : MethodId} {args : Array Value} {below : List Frame} {meth : Method} {c : Code} {D : va_G} {cl : List vw_C} {cB cI cJ cZ cS : ClassId} {A : Nat → Prop} {iM h0 : Nat} {ad : Nat → Nat} (C0 : MCx p s m args meth c b_M_callRun 11 none D cl cB cI cJ cZ cS iM A) (hR : R = rm_M_callRun) (N : Nat) (G : Unit) (hG : True) : ∀ (u : MS) (v1 : Int32) (v3 : Int32) (v4 : Int32) (v5 : Int32) (t0 : Int32) (x : MS × Unit), fb_M_callRun_193 N G u v1 v3 v4 v5 t0 = some x → ∀ (H : Heap) (locs : List Loc), va_P D cl (wM cB cI cJ cZ cS iM h0 ad u) H → va_D A (wM cB cI cJ cZ cS iM h0 ad u) → va_S A s.heap H locs → ∀ (ls : Array Slot), lv_has ls 11 [(0, .ref h0), (1, .int v1), (3, .int v3), (4, .int v4), (5, .int v5)] → W p l e R s m args below meth c H locs 0 0 (MQ below (mQv D cl cB cI cJ cZ cS iM h0 ad A x) args s 0 0 A) (F0 m 193 ls [.int t0]) := by
  intro u v1 v3 v4 v5 t0 x hf H locs hP hD hS ls hl
  obtain ⟨hx, hb, hr, hml, ht, hown, hM, hK, hA, hlocks⟩ := id C0
  unfold fb_M_callRun_193 at hf
  refine lv_istore (lv' := [(10, .int t0), (0, .ref h0), (1, .int v1), (3, .int v3), (4, .int v4), (5, .int v5)]) hx hb d_M_callRun_193 hl (by decide) rfl (fun ls hl => ?_)
  refine lv_iload hx hb d_M_callRun_195 (lv_at hl 0 rfl) ?_
  refine lv_iload_n hx hb d_M_callRun_197 rfl (lv_at hl 3 rfl) ?_
  refine lv_icmp_eq (tgt := 213) hx hb d_M_callRun_198 (by decide) (fun hc => ?_) (fun hc => ?_)
  · rw [br_p _ hc] at hf
    exact wb_M_callRun_213 C0 hR N G hG _ _ _ _ _ _ hf H locs hP hD hS ls (lv_sub hl [1, 2, 3, 4, 5] rfl)
  · rw [br_n _ hc] at hf
    refine lv_aload_n hx hb d_M_callRun_201 rfl (lv_at hl 1 rfl) ?_
    refine lv_bipush (v := 18) hx hb d_M_callRun_202 (by decide) ?_
    refine lv_iconst (v := 0) hx hb d_M_callRun_204 (by decide) ?_
    refine lv_iload_n hx hb d_M_callRun_205 rfl (lv_at hl 3 rfl) ?_
    obtain ⟨u11, r11, hc11, hf⟩ := bnd_some hf
    refine mS_l (As := [.int 0, .int v3]) (rest := [.int 18, .ref h0]) C0 hP hD hS (c_M_term N hM hc11) k_M_term hl_M_term ht_M_term hini_M rfl rfl hd_M_term rfl (rm_M_callRun_M_term hR) hl.1 (Nat.le_of_ble_eq_true rfl) d_M_callRun_206 rfl ⟨Nat.zero_le _, Nat.zero_le _⟩ (fun H locs hP hD hS => ?_)
    obtain ⟨u12, r12, hc12, hf⟩ := bnd_some hf
    refine mV_v (As := [.int 18, .long r11]) (rest := []) C0 hP hD hS (c_M_errorOf N hM hc12) k_M_errorOf hl_M_errorOf hi_M_errorOf hs_M_errorOf hini_M rfl rfl hd_M_errorOf rfl (rm_M_callRun_M_errorOf hR) hl.1 (Nat.le_of_ble_eq_true rfl) d_M_callRun_209 rfl ⟨Nat.zero_le _, Nat.zero_le _⟩ (fun H locs hP hD hS => ?_)
    exact mr_v C0 hP hD hS hf d_M_callRun_212
def fb_M_callRun_163 (N : Nat) (G : Unit) (u : MS) (v1 : Int32) (v3 : Int32) (v4 : Int32) (t0 : Int32) : Option (MS × Unit) := br (decide (v4 = (-1))) (ck (inb t0 (ln 53)) (ck (inb (u.2.2.1 53 t0.toNatClampNeg) (ln 41)) (fb_M_callRun_193 N G u (v1) (v3) (v4) (t0) ((u.2.2.1 41 (u.2.2.1 53 t0.toNatClampNeg).toNatClampNeg))))) (ck (inb v4 (ln 48)) (fb_M_callRun_193 N G u (v1) (v3) (v4) (t0) ((u.2.2.1 48 v4.toNatClampNeg))))
set_option maxRecDepth 100000 in
set_option maxHeartbeats 4000000 in
theorem wb_M_callRun_163 {p : Program} {l : Launch} {e : Env} {R : Room} {s : State} {m : MethodId} {args : Array Value} {below : List Frame} {meth : Method} {c : Code} {D : va_G} {cl : List vw_C} {cB cI cJ cZ cS : ClassId} {A : Nat → Prop} {iM h0 : Nat} {ad : Nat → Nat} (C0 : MCx p s m args meth c b_M_callRun 11 none D cl cB cI cJ cZ cS iM A) (hR : R = rm_M_callRun) (N : Nat) (G : Unit) (hG : True) : ∀ (u : MS) (v1 : Int32) (v3 : Int32) (v4 : Int32) (t0 : Int32) (x : MS × Unit), fb_M_callRun_163 N G u v1 v3 v4 t0 = some x → ∀ (H : Heap) (locs : List Loc), va_P D cl (wM cB cI cJ cZ cS iM h0 ad u) H → va_D A (wM cB cI cJ cZ cS iM h0 ad u) → va_S A s.heap H locs → ∀ (ls : Array Slot), lv_has ls 11 [(0, .ref h0), (1, .int v1), (3, .int v3), (4, .int v4)] → W p l e R s m args below meth c H locs 0 0 (MQ below (mQv D cl cB cI cJ cZ cS iM h0 ad A x) args s 0 0 A) (F0 m 163 ls [.int t0]) := by
  intro u v1 v3 v4 t0 x hf H locs hP hD hS ls hl
  obtain ⟨hx, hb, hr, hml, ht, hown, hM, hK, hA, hlocks⟩ := id C0
  unfold fb_M_callRun_163 at hf
  refine lv_istore (lv' := [(5, .int t0), (0, .ref h0), (1, .int v1), (3, .int v3), (4, .int v4)]) hx hb d_M_callRun_163 hl (by decide) rfl (fun ls hl => ?_)
  refine lv_iload hx hb d_M_callRun_165 (lv_at hl 4 rfl) ?_
  refine lv_iconst (v := (-1)) hx hb d_M_callRun_167 (by decide) ?_
  refine lv_icmp_eq (tgt := 181) hx hb d_M_callRun_168 (by decide) (fun hc => ?_) (fun hc => ?_)
  · rw [br_p _ hc] at hf
    refine lv_aload_n hx hb d_M_callRun_181 rfl (lv_at hl 1 rfl) ?_
    refine ug_R hx hb ht hown hM hK hP 41 (by decide) lk_M_41 (by decide) d_M_callRun_182 ?_
    refine lv_aload_n hx hb d_M_callRun_185 rfl (lv_at hl 1 rfl) ?_
    refine ug_R hx hb ht hown hM hK hP 53 (by decide) lk_M_53 (by decide) d_M_callRun_186 ?_
    refine lv_iload hx hb d_M_callRun_189 (lv_at hl 0 rfl) ?_
    obtain ⟨hi9, hf⟩ := ck_some hf
    refine ul_I hx hb hK hP (by decide) (by decide) hi9 d_M_callRun_191 ?_
    obtain ⟨hi9, hf⟩ := ck_some hf
    refine ul_I hx hb hK hP (by decide) (by decide) hi9 d_M_callRun_192 ?_
    exact wb_M_callRun_193 C0 hR N G hG _ _ _ _ _ _ _ hf H locs hP hD hS ls (lv_sub hl [1, 2, 3, 4, 0] rfl)
  · rw [br_n _ hc] at hf
    refine lv_aload_n hx hb d_M_callRun_171 rfl (lv_at hl 1 rfl) ?_
    refine ug_R hx hb ht hown hM hK hP 48 (by decide) lk_M_48 (by decide) d_M_callRun_172 ?_
    refine lv_iload hx hb d_M_callRun_175 (lv_at hl 4 rfl) ?_
    obtain ⟨hi9, hf⟩ := ck_some hf
    refine ul_I hx hb hK hP (by decide) (by decide) hi9 d_M_callRun_177 ?_
    refine lv_goto (tgt := 193) hx hb d_M_callRun_178 (by decide) ?_
    exact wb_M_callRun_193 C0 hR N G hG _ _ _ _ _ _ _ hf H locs hP hD hS ls (lv_sub hl [1, 2, 3, 4, 0] rfl)
def fb_M_callRun_147 (N : Nat) (G : Unit) (u : MS) (v1 : Int32) (v3 : Int32) (v8 : Int64) (t0 : Int32) : Option (MS × Unit) := br (decide (0 ≤ (lg_cmp v8 0))) (fb_M_callRun_163 N G u (v1) (v3) (t0) (v8.toInt32)) (fb_M_callRun_163 N G u (v1) (v3) (t0) ((-1)))
set_option maxRecDepth 100000 in
set_option maxHeartbeats 4000000 in
theorem wb_M_callRun_147 {p : Program} {l : Launch} {e : Env} {R : Room} {s : State} {m : MethodId} {args : Array Value} {below : List Frame} {meth : Method} {c : Code} {D : va_G} {cl : List vw_C} {cB cI cJ cZ cS : ClassId} {A : Nat → Prop} {iM h0 : Nat} {ad : Nat → Nat} (C0 : MCx p s m args meth c b_M_callRun 11 none D cl cB cI cJ cZ cS iM A) (hR : R = rm_M_callRun) (N : Nat) (G : Unit) (hG : True) : ∀ (u : MS) (v1 : Int32) (v3 : Int32) (v8 : Int64) (t0 : Int32) (x : MS × Unit), fb_M_callRun_147 N G u v1 v3 v8 t0 = some x → ∀ (H : Heap) (locs : List Loc), va_P D cl (wM cB cI cJ cZ cS iM h0 ad u) H → va_D A (wM cB cI cJ cZ cS iM h0 ad u) → va_S A s.heap H locs → ∀ (ls : Array Slot), lv_has ls 11 [(0, .ref h0), (1, .int v1), (3, .int v3), (8, .long v8)] → W p l e R s m args below meth c H locs 0 0 (MQ below (mQv D cl cB cI cJ cZ cS iM h0 ad A x) args s 0 0 A) (F0 m 147 ls [.int t0]) := by
  intro u v1 v3 v8 t0 x hf H locs hP hD hS ls hl
  obtain ⟨hx, hb, hr, hml, ht, hown, hM, hK, hA, hlocks⟩ := id C0
  unfold fb_M_callRun_147 at hf
  refine lv_istore (lv' := [(4, .int t0), (0, .ref h0), (1, .int v1), (3, .int v3), (8, .long v8)]) hx hb d_M_callRun_147 hl (by decide) rfl (fun ls hl => ?_)
  refine lv_lload hx hb d_M_callRun_149 (lv_at hl 4 rfl) ?_
  refine lv_lconst (v := 0) hx hb d_M_callRun_151 (by decide) ?_
  refine W.lcmp hx hb d_M_callRun_152 ?_
  refine lv_if_ge (tgt := 160) hx hb d_M_callRun_153 (by decide) (fun hc => ?_) (fun hc => ?_)
  · rw [br_p _ hc] at hf
    refine lv_lload hx hb d_M_callRun_160 (lv_at hl 4 rfl) ?_
    refine lv_l2i hx hb d_M_callRun_162 rfl ?_
    exact wb_M_callRun_163 C0 hR N G hG _ _ _ _ _ _ hf H locs hP hD hS ls (lv_sub hl [1, 2, 3, 0] rfl)
  · rw [br_n _ hc] at hf
    refine lv_iconst (v := (-1)) hx hb d_M_callRun_156 (by decide) ?_
    refine lv_goto (tgt := 163) hx hb d_M_callRun_157 (by decide) ?_
    exact wb_M_callRun_163 C0 hR N G hG _ _ _ _ _ _ hf H locs hP hD hS ls (lv_sub hl [1, 2, 3, 0] rfl)
def fb_M_callRun_80 (N : Nat) (G : Unit) (u : MS) (v1 : Int32) (v2 : Int32) (v3 : Int32) (v4 : Int32) (v5 : Int32) (t1 : Int32) : Option (MS × Unit) := ck (isb t1) (lt (upI u 166 t1) (fun w13 => br (decide (v2 = 13)) (bnd (fm_M_top N w13 v3) (fun u14 r14 => bnd (fm_M_sortOf N u14 r14) (fun u15 r15 => br (decide (r15 = 3)) (bnd (fm_M_valueOf N u15 r14) (fun u16 r16 => bnd (fm_M_cell N u16 (u15.1 133) r16) (fun u17 r17 => br (decide (0 ≤ (lg_cmp r17 0))) (fb_M_callRun_147 N G u17 (v1) (v3) (r17) ((-1))) (fb_M_callRun_147 N G u17 (v1) (v3) (r17) (((-1) - r17).toInt32))))) (bnd (fr_M_errorOf N u15 17 r14) (fun u18 _ => some (u18, ())))))) (fb_M_callRun_213 N G w13 (v1) (v3) (v4) (v5))))
set_option maxRecDepth 100000 in
set_option maxHeartbeats 4000000 in
theorem wb_M_callRun_80 {p : Program} {l : Launch} {e : Env} {R : Room} {s : State} {m : MethodId} {args : Array Value} {below : List Frame} {meth : Method} {c : Code} {D : va_G} {cl : List vw_C} {cB cI cJ cZ cS : ClassId} {A : Nat → Prop} {iM h0 : Nat} {ad : Nat → Nat} (C0 : MCx p s m args meth c b_M_callRun 11 none D cl cB cI cJ cZ cS iM A) (hR : R = rm_M_callRun) (N : Nat) (G : Unit) (hG : True) : ∀ (u : MS) (v1 : Int32) (v2 : Int32) (v3 : Int32) (v4 : Int32) (v5 : Int32) (t1 : Int32) (x : MS × Unit), fb_M_callRun_80 N G u v1 v2 v3 v4 v5 t1 = some x → ∀ (H : Heap) (locs : List Loc), va_P D cl (wM cB cI cJ cZ cS iM h0 ad u) H → va_D A (wM cB cI cJ cZ cS iM h0 ad u) → va_S A s.heap H locs → ∀ (ls : Array Slot), lv_has ls 11 [(0, .ref h0), (1, .int v1), (2, .int v2), (3, .int v3), (4, .int v4), (5, .int v5)] → W p l e R s m args below meth c H locs 0 0 (MQ below (mQv D cl cB cI cJ cZ cS iM h0 ad A x) args s 0 0 A) (F0 m 80 ls [.int t1, .ref h0]) := by
  intro u v1 v2 v3 v4 v5 t1 x hf H locs hP hD hS ls hl
  obtain ⟨hx, hb, hr, hml, ht, hown, hM, hK, hA, hlocks⟩ := id C0
  unfold fb_M_callRun_80 at hf
  obtain ⟨hz, hf⟩ := ck_some hf
  refine up_I hx hb ht hown hM hK hP hD hS 166 (by decide) lk_M_166 (by decide) rfl (isb_n hz) (isb_f hz) d_M_callRun_80 (fun H locs hP hD hS => ?_)
  obtain ⟨w13, e13, hf⟩ := lt_some hf
  rw [← e13] at hP hD
  refine lv_iload_n hx hb d_M_callRun_83 rfl (lv_at hl 2 rfl) ?_
  refine lv_bipush (v := 13) hx hb d_M_callRun_84 (by decide) ?_
  refine lv_icmp_ne (tgt := 213) hx hb d_M_callRun_86 (by decide) (fun hc => ?_) (fun hc => ?_)
  · rw [br_n _ hc] at hf
    exact wb_M_callRun_213 C0 hR N G hG _ _ _ _ _ _ hf H locs hP hD hS ls (lv_sub hl [0, 1, 3, 4, 5] rfl)
  · rw [br_p _ hc] at hf
    refine lv_aload_n hx hb d_M_callRun_89 rfl (lv_at hl 0 rfl) ?_
    refine lv_iload_n hx hb d_M_callRun_90 rfl (lv_at hl 3 rfl) ?_
    obtain ⟨u14, r14, hc14, hf⟩ := bnd_some hf
    refine mV_l (As := [.int v3]) (rest := []) C0 hP hD hS (c_M_top N hM hc14) k_M_top hl_M_top hi_M_top hs_M_top hini_M rfl rfl hd_M_top rfl (rm_M_callRun_M_top hR) hl.1 (Nat.le_of_ble_eq_true rfl) d_M_callRun_91 rfl ⟨Nat.zero_le _, Nat.zero_le _⟩ (fun H locs hP hD hS => ?_)
    refine lv_lstore (lv' := [(6, .long r14), (0, .ref h0), (1, .int v1), (2, .int v2), (3, .int v3), (4, .int v4), (5, .int v5)]) hx hb d_M_callRun_94 hl (by decide) rfl (fun ls hl => ?_)
    refine lv_lload hx hb d_M_callRun_96 (lv_at hl 0 rfl) ?_
    obtain ⟨u15, r15, hc15, hf⟩ := bnd_some hf
    refine mS_i (As := [.long r14]) (rest := []) C0 hP hD hS (c_M_sortOf N hM hc15) k_M_sortOf hl_M_sortOf ht_M_sortOf hini_M rfl rfl hd_M_sortOf rfl (rm_M_callRun_M_sortOf hR) hl.1 (Nat.le_of_ble_eq_true rfl) d_M_callRun_98 rfl ⟨Nat.zero_le _, Nat.zero_le _⟩ (fun H locs hP hD hS => ?_)
    refine lv_iconst (v := 3) hx hb d_M_callRun_101 (by decide) ?_
    refine lv_icmp_eq (tgt := 114) hx hb d_M_callRun_102 (by decide) (fun hc => ?_) (fun hc => ?_)
    · rw [br_p _ hc] at hf
      refine lv_aload_n hx hb d_M_callRun_114 rfl (lv_at hl 1 rfl) ?_
      refine lv_aload_n hx hb d_M_callRun_115 rfl (lv_at hl 1 rfl) ?_
      refine ug_I hx hb ht hown hM hK hP 133 (by decide) lk_M_133 (by decide) d_M_callRun_116 ?_
      refine lv_lload hx hb d_M_callRun_119 (lv_at hl 0 rfl) ?_
      obtain ⟨u16, r16, hc16, hf⟩ := bnd_some hf
      refine mS_i (As := [.long r14]) (rest := [.int (u15.1 133), .ref h0]) C0 hP hD hS (c_M_valueOf N hM hc16) k_M_valueOf hl_M_valueOf ht_M_valueOf hini_M rfl rfl hd_M_valueOf rfl (rm_M_callRun_M_valueOf hR) hl.1 (Nat.le_of_ble_eq_true rfl) d_M_callRun_121 rfl ⟨Nat.zero_le _, Nat.zero_le _⟩ (fun H locs hP hD hS => ?_)
      obtain ⟨u17, r17, hc17, hf⟩ := bnd_some hf
      refine mV_l (As := [.int (u15.1 133), .int r16]) (rest := []) C0 hP hD hS (c_M_cell N hM hc17) k_M_cell hl_M_cell hi_M_cell hs_M_cell hini_M rfl rfl hd_M_cell rfl (rm_M_callRun_M_cell hR) hl.1 (Nat.le_of_ble_eq_true rfl) d_M_callRun_124 rfl ⟨Nat.zero_le _, Nat.zero_le _⟩ (fun H locs hP hD hS => ?_)
      refine lv_lstore (lv' := [(8, .long r17), (6, .long r14), (0, .ref h0), (1, .int v1), (2, .int v2), (3, .int v3), (4, .int v4), (5, .int v5)]) hx hb d_M_callRun_127 hl (by decide) rfl (fun ls hl => ?_)
      refine lv_lload hx hb d_M_callRun_129 (lv_at hl 0 rfl) ?_
      refine lv_lconst (v := 0) hx hb d_M_callRun_131 (by decide) ?_
      refine W.lcmp hx hb d_M_callRun_132 ?_
      refine lv_if_ge (tgt := 146) hx hb d_M_callRun_133 (by decide) (fun hc => ?_) (fun hc => ?_)
      · rw [br_p _ hc] at hf
        refine lv_iconst (v := (-1)) hx hb d_M_callRun_146 (by decide) ?_
        exact wb_M_callRun_147 C0 hR N G hG _ _ _ _ _ _ hf H locs hP hD hS ls (lv_sub hl [2, 3, 5, 0] rfl)
      · rw [br_n _ hc] at hf
        refine lv_ldc2 (v := (-1)) hx hb hown (ht _ (wd_of 3094 (by decide +kernel) rfl)) d_M_callRun_136 ?_
        refine lv_lload hx hb d_M_callRun_139 (lv_at hl 0 rfl) ?_
        refine lv_lsub hx hb d_M_callRun_141 ?_
        refine lv_l2i hx hb d_M_callRun_142 rfl ?_
        refine lv_goto (tgt := 147) hx hb d_M_callRun_143 (by decide) ?_
        exact wb_M_callRun_147 C0 hR N G hG _ _ _ _ _ _ hf H locs hP hD hS ls (lv_sub hl [2, 3, 5, 0] rfl)
    · rw [br_n _ hc] at hf
      refine lv_aload_n hx hb d_M_callRun_105 rfl (lv_at hl 1 rfl) ?_
      refine lv_bipush (v := 17) hx hb d_M_callRun_106 (by decide) ?_
      refine lv_lload hx hb d_M_callRun_108 (lv_at hl 0 rfl) ?_
      obtain ⟨u18, r18, hc18, hf⟩ := bnd_some hf
      refine mV_v (As := [.int 17, .long r14]) (rest := []) C0 hP hD hS (c_M_errorOf N hM hc18) k_M_errorOf hl_M_errorOf hi_M_errorOf hs_M_errorOf hini_M rfl rfl hd_M_errorOf rfl (rm_M_callRun_M_errorOf hR) hl.1 (Nat.le_of_ble_eq_true rfl) d_M_callRun_110 rfl ⟨Nat.zero_le _, Nat.zero_le _⟩ (fun H locs hP hD hS => ?_)
      exact mr_v C0 hP hD hS hf d_M_callRun_113
def fb_M_callRun_63 (N : Nat) (G : Unit) (u : MS) (v1 : Int32) (v2 : Int32) (v3 : Int32) (t0 : Int32) : Option (MS × Unit) := br (decide (v2 = 13)) (fb_M_callRun_80 N G u (v1) (v2) (v3) (t0) ((-1)) (1)) (fb_M_callRun_80 N G u (v1) (v2) (v3) (t0) ((-1)) (0))
set_option maxRecDepth 100000 in
set_option maxHeartbeats 4000000 in
theorem wb_M_callRun_63 {p : Program} {l : Launch} {e : Env} {R : Room} {s : State} {m : MethodId} {args : Array Value} {below : List Frame} {meth : Method} {c : Code} {D : va_G} {cl : List vw_C} {cB cI cJ cZ cS : ClassId} {A : Nat → Prop} {iM h0 : Nat} {ad : Nat → Nat} (C0 : MCx p s m args meth c b_M_callRun 11 none D cl cB cI cJ cZ cS iM A) (hR : R = rm_M_callRun) (N : Nat) (G : Unit) (hG : True) : ∀ (u : MS) (v1 : Int32) (v2 : Int32) (v3 : Int32) (t0 : Int32) (x : MS × Unit), fb_M_callRun_63 N G u v1 v2 v3 t0 = some x → ∀ (H : Heap) (locs : List Loc), va_P D cl (wM cB cI cJ cZ cS iM h0 ad u) H → va_D A (wM cB cI cJ cZ cS iM h0 ad u) → va_S A s.heap H locs → ∀ (ls : Array Slot), lv_has ls 11 [(0, .ref h0), (1, .int v1), (2, .int v2), (3, .int v3)] → W p l e R s m args below meth c H locs 0 0 (MQ below (mQv D cl cB cI cJ cZ cS iM h0 ad A x) args s 0 0 A) (F0 m 63 ls [.int t0]) := by
  intro u v1 v2 v3 t0 x hf H locs hP hD hS ls hl
  obtain ⟨hx, hb, hr, hml, ht, hown, hM, hK, hA, hlocks⟩ := id C0
  unfold fb_M_callRun_63 at hf
  refine lv_istore (lv' := [(4, .int t0), (0, .ref h0), (1, .int v1), (2, .int v2), (3, .int v3)]) hx hb d_M_callRun_63 hl (by decide) rfl (fun ls hl => ?_)
  refine lv_iconst (v := (-1)) hx hb d_M_callRun_65 (by decide) ?_
  refine lv_istore (lv' := [(5, .int (-1)), (4, .int t0), (0, .ref h0), (1, .int v1), (2, .int v2), (3, .int v3)]) hx hb d_M_callRun_66 hl (by decide) rfl (fun ls hl => ?_)
  refine lv_aload_n hx hb d_M_callRun_68 rfl (lv_at hl 2 rfl) ?_
  refine lv_iload_n hx hb d_M_callRun_69 rfl (lv_at hl 4 rfl) ?_
  refine lv_bipush (v := 13) hx hb d_M_callRun_70 (by decide) ?_
  refine lv_icmp_ne (tgt := 79) hx hb d_M_callRun_72 (by decide) (fun hc => ?_) (fun hc => ?_)
  · rw [br_n _ hc] at hf
    refine lv_iconst (v := 0) hx hb d_M_callRun_79 (by decide) ?_
    exact wb_M_callRun_80 C0 hR N G hG _ _ _ _ _ _ _ _ hf H locs hP hD hS ls (lv_sub hl [2, 3, 4, 5, 1, 0] rfl)
  · rw [br_p _ hc] at hf
    refine lv_iconst (v := 1) hx hb d_M_callRun_75 (by decide) ?_
    refine lv_goto (tgt := 80) hx hb d_M_callRun_76 (by decide) ?_
    exact wb_M_callRun_80 C0 hR N G hG _ _ _ _ _ _ _ _ hf H locs hP hD hS ls (lv_sub hl [2, 3, 4, 5, 1, 0] rfl)
def fb_M_callRun_47 (N : Nat) (G : Unit) (u : MS) (v1 : Int32) (v2 : Int32) (v3 : Int32) : Option (MS × Unit) := br (decide (v2 = 12)) (ck (inb v1 (ln 27)) (fb_M_callRun_63 N G u (v1) (v2) (v3) ((u.2.2.1 27 v1.toNatClampNeg)))) (fb_M_callRun_63 N G u (v1) (v2) (v3) ((-1)))
set_option maxRecDepth 100000 in
set_option maxHeartbeats 4000000 in
theorem wb_M_callRun_47 {p : Program} {l : Launch} {e : Env} {R : Room} {s : State} {m : MethodId} {args : Array Value} {below : List Frame} {meth : Method} {c : Code} {D : va_G} {cl : List vw_C} {cB cI cJ cZ cS : ClassId} {A : Nat → Prop} {iM h0 : Nat} {ad : Nat → Nat} (C0 : MCx p s m args meth c b_M_callRun 11 none D cl cB cI cJ cZ cS iM A) (hR : R = rm_M_callRun) (N : Nat) (G : Unit) (hG : True) : ∀ (u : MS) (v1 : Int32) (v2 : Int32) (v3 : Int32) (x : MS × Unit), fb_M_callRun_47 N G u v1 v2 v3 = some x → ∀ (H : Heap) (locs : List Loc), va_P D cl (wM cB cI cJ cZ cS iM h0 ad u) H → va_D A (wM cB cI cJ cZ cS iM h0 ad u) → va_S A s.heap H locs → ∀ (ls : Array Slot), lv_has ls 11 [(0, .ref h0), (1, .int v1), (2, .int v2), (3, .int v3)] → W p l e R s m args below meth c H locs 0 0 (MQ below (mQv D cl cB cI cJ cZ cS iM h0 ad A x) args s 0 0 A) (F0 m 47 ls []) := by
  intro u v1 v2 v3 x hf H locs hP hD hS ls hl
  obtain ⟨hx, hb, hr, hml, ht, hown, hM, hK, hA, hlocks⟩ := id C0
  unfold fb_M_callRun_47 at hf
  refine lv_iload_n hx hb d_M_callRun_47 rfl (lv_at hl 2 rfl) ?_
  refine lv_bipush (v := 12) hx hb d_M_callRun_48 (by decide) ?_
  refine lv_icmp_ne (tgt := 62) hx hb d_M_callRun_50 (by decide) (fun hc => ?_) (fun hc => ?_)
  · rw [br_n _ hc] at hf
    refine lv_iconst (v := (-1)) hx hb d_M_callRun_62 (by decide) ?_
    exact wb_M_callRun_63 C0 hR N G hG _ _ _ _ _ _ hf H locs hP hD hS ls (lv_sub hl [0, 1, 2, 3] rfl)
  · rw [br_p _ hc] at hf
    refine lv_aload_n hx hb d_M_callRun_53 rfl (lv_at hl 0 rfl) ?_
    refine ug_R hx hb ht hown hM hK hP 27 (by decide) lk_M_27 (by decide) d_M_callRun_54 ?_
    refine lv_iload_n hx hb d_M_callRun_57 rfl (lv_at hl 1 rfl) ?_
    obtain ⟨hi9, hf⟩ := ck_some hf
    refine ul_I hx hb hK hP (by decide) (by decide) hi9 d_M_callRun_58 ?_
    refine lv_goto (tgt := 63) hx hb d_M_callRun_59 (by decide) ?_
    exact wb_M_callRun_63 C0 hR N G hG _ _ _ _ _ _ hf H locs hP hD hS ls (lv_sub hl [0, 1, 2, 3] rfl)
def fb_M_callRun_0 (N : Nat) (G : Unit) (u : MS) (v1 : Int32) (v2 : Int32) : Option (MS × Unit) := ck (inb v1 (ln 26)) (br (decide (v2 = 12)) (ck (inb v1 (ln 27)) (br (decide ((u.2.2.1 27 v1.toNatClampNeg) < 2000)) (fb_M_callRun_47 N G u (v1) (v2) ((u.2.2.1 26 v1.toNatClampNeg))) (bnd (fm_M_goTo N u (v1 + 1)) (fun u19 _ => ck (inb v1 (ln 27)) (bnd (fm_M_predefinedRun N u19 ((u19.2.2.1 27 v1.toNatClampNeg) - 2000)) (fun u20 _ => some (u20, ()))))))) (fb_M_callRun_47 N G u (v1) (v2) ((u.2.2.1 26 v1.toNatClampNeg))))
set_option maxRecDepth 100000 in
set_option maxHeartbeats 4000000 in
theorem wb_M_callRun_0 {p : Program} {l : Launch} {e : Env} {R : Room} {s : State} {m : MethodId} {args : Array Value} {below : List Frame} {meth : Method} {c : Code} {D : va_G} {cl : List vw_C} {cB cI cJ cZ cS : ClassId} {A : Nat → Prop} {iM h0 : Nat} {ad : Nat → Nat} (C0 : MCx p s m args meth c b_M_callRun 11 none D cl cB cI cJ cZ cS iM A) (hR : R = rm_M_callRun) (N : Nat) (G : Unit) (hG : True) : ∀ (u : MS) (v1 : Int32) (v2 : Int32) (x : MS × Unit), fb_M_callRun_0 N G u v1 v2 = some x → ∀ (H : Heap) (locs : List Loc), va_P D cl (wM cB cI cJ cZ cS iM h0 ad u) H → va_D A (wM cB cI cJ cZ cS iM h0 ad u) → va_S A s.heap H locs → ∀ (ls : Array Slot), lv_has ls 11 [(0, .ref h0), (1, .int v1), (2, .int v2)] → W p l e R s m args below meth c H locs 0 0 (MQ below (mQv D cl cB cI cJ cZ cS iM h0 ad A x) args s 0 0 A) (F0 m 0 ls []) := by
  intro u v1 v2 x hf H locs hP hD hS ls hl
  obtain ⟨hx, hb, hr, hml, ht, hown, hM, hK, hA, hlocks⟩ := id C0
  unfold fb_M_callRun_0 at hf
  refine lv_aload_n hx hb d_M_callRun_0 rfl (lv_at hl 0 rfl) ?_
  refine ug_R hx hb ht hown hM hK hP 26 (by decide) lk_M_26 (by decide) d_M_callRun_1 ?_
  refine lv_iload_n hx hb d_M_callRun_4 rfl (lv_at hl 1 rfl) ?_
  obtain ⟨hi9, hf⟩ := ck_some hf
  refine ul_I hx hb hK hP (by decide) (by decide) hi9 d_M_callRun_5 ?_
  refine lv_istore_n (lv' := [(3, .int (u.2.2.1 26 v1.toNatClampNeg)), (0, .ref h0), (1, .int v1), (2, .int v2)]) hx hb d_M_callRun_6 rfl hl (by decide) rfl (fun ls hl => ?_)
  refine lv_iload_n hx hb d_M_callRun_7 rfl (lv_at hl 3 rfl) ?_
  refine lv_bipush (v := 12) hx hb d_M_callRun_8 (by decide) ?_
  refine lv_icmp_ne (tgt := 47) hx hb d_M_callRun_10 (by decide) (fun hc => ?_) (fun hc => ?_)
  · rw [br_n _ hc] at hf
    exact wb_M_callRun_47 C0 hR N G hG _ _ _ _ _ hf H locs hP hD hS ls (lv_sub hl [1, 2, 3, 0] rfl)
  · rw [br_p _ hc] at hf
    refine lv_aload_n hx hb d_M_callRun_13 rfl (lv_at hl 1 rfl) ?_
    refine ug_R hx hb ht hown hM hK hP 27 (by decide) lk_M_27 (by decide) d_M_callRun_14 ?_
    refine lv_iload_n hx hb d_M_callRun_17 rfl (lv_at hl 2 rfl) ?_
    obtain ⟨hi9, hf⟩ := ck_some hf
    refine ul_I hx hb hK hP (by decide) (by decide) hi9 d_M_callRun_18 ?_
    refine lv_sipush (v := 2000) hx hb d_M_callRun_19 (by decide) ?_
    refine lv_icmp_lt (tgt := 47) hx hb d_M_callRun_22 (by decide) (fun hc => ?_) (fun hc => ?_)
    · rw [br_p _ hc] at hf
      exact wb_M_callRun_47 C0 hR N G hG _ _ _ _ _ hf H locs hP hD hS ls (lv_sub hl [1, 2, 3, 0] rfl)
    · rw [br_n _ hc] at hf
      refine lv_aload_n hx hb d_M_callRun_25 rfl (lv_at hl 1 rfl) ?_
      refine lv_iload_n hx hb d_M_callRun_26 rfl (lv_at hl 2 rfl) ?_
      refine lv_iconst (v := 1) hx hb d_M_callRun_27 (by decide) ?_
      refine lv_iadd hx hb d_M_callRun_28 ?_
      obtain ⟨u19, r19, hc19, hf⟩ := bnd_some hf
      refine mV_v (As := [.int (v1 + 1)]) (rest := []) C0 hP hD hS (c_M_goTo N hM hc19) k_M_goTo hl_M_goTo hi_M_goTo hs_M_goTo hini_M rfl rfl hd_M_goTo rfl (rm_M_callRun_M_goTo hR) hl.1 (Nat.le_of_ble_eq_true rfl) d_M_callRun_29 rfl ⟨Nat.zero_le _, Nat.zero_le _⟩ (fun H locs hP hD hS => ?_)
      refine lv_aload_n hx hb d_M_callRun_32 rfl (lv_at hl 1 rfl) ?_
      refine lv_aload_n hx hb d_M_callRun_33 rfl (lv_at hl 1 rfl) ?_
      refine ug_R hx hb ht hown hM hK hP 27 (by decide) lk_M_27 (by decide) d_M_callRun_34 ?_
      refine lv_iload_n hx hb d_M_callRun_37 rfl (lv_at hl 2 rfl) ?_
      obtain ⟨hi9, hf⟩ := ck_some hf
      refine ul_I hx hb hK hP (by decide) (by decide) hi9 d_M_callRun_38 ?_
      refine lv_sipush (v := 2000) hx hb d_M_callRun_39 (by decide) ?_
      refine lv_isub hx hb d_M_callRun_42 ?_
      obtain ⟨u20, r20, hc20, hf⟩ := bnd_some hf
      refine mV_v (As := [.int ((u19.2.2.1 27 v1.toNatClampNeg) - 2000)]) (rest := []) C0 hP hD hS (c_M_predefinedRun N hM hc20) k_M_predefinedRun hl_M_predefinedRun hi_M_predefinedRun hs_M_predefinedRun hini_M rfl rfl hd_M_predefinedRun rfl (rm_M_callRun_M_predefinedRun hR) hl.1 (Nat.le_of_ble_eq_true rfl) d_M_callRun_43 rfl ⟨Nat.zero_le _, Nat.zero_le _⟩ (fun H locs hP hD hS => ?_)
      exact mr_v C0 hP hD hS hf d_M_callRun_46
def fm_M_callRun (N : Nat) (u : MS) (v1 : Int32) (v2 : Int32) : Option (MS × Unit) := fb_M_callRun_0 N () u v1 v2
set_option maxRecDepth 100000 in
set_option maxHeartbeats 4000000 in
theorem c_M_callRun (N : Nat) {l : Launch} {D : va_G} {cl : List vw_C} {cB cI cJ cZ cS : ClassId} {iM h0 : Nat} {ad : Nat → Nat} {u : MS} {sz : Nat} {v1 : Int32} {v2 : Int32} {x : MS × Unit} (hM : cl[iM]? = some (R_M, F_M, 171)) (hf : fm_M_callRun N u v1 v2 = some x) : Met l y_M_callRun (wd_ws y_M_callRun b_M_callRun 11 none) rm_M_callRun (mPc D cl cB cI cJ cZ cS iM h0 ad u sz [.ref h0, .int v1, .int v2]) (mQv D cl cB cI cJ cZ cS iM h0 ad (mA cB cI cJ cZ cS iM h0 ad u sz) x) 0 0 (mA cB cI cJ cZ cS iM h0 ad u sz) :=
  mMet (by decide) rfl hM (Nat.le_of_ble_eq_true rfl) (fun p e s m below meth c ls hsz C0 hP hD hS hl => by
    have hR : rm_M_callRun = rm_M_callRun := rfl
    exact wb_M_callRun_0 C0 hR N () trivial u _ _ x hf s.heap [] hP hD hS ls (lv_sub hl [0, 1, 2] rfl))
abbrev b_M_returns : ByteArray := prog_14_method_135_code
def y_M_returns : MethodName := ⟨R_M, "returns", "()V"⟩
def w_M_returns : List Cond := wd_ws y_M_returns b_M_returns 4 none
set_option maxRecDepth 100000 in
theorem k_M_returns : Cond.code y_M_returns b_M_returns 4 none ∈ wd_tbl := wd_of 3181 rfl rfl
theorem d_M_returns_0 : decode b_M_returns 0 = .ok (.aload_n 0, 1) := by decide +kernel
theorem d_M_returns_1 : decode b_M_returns 1 = .ok (.invokevirtual 930, 3) := by decide +kernel
theorem d_M_returns_4 : decode b_M_returns 4 = .ok (.lstore_n 1, 1) := by decide +kernel
theorem d_M_returns_5 : decode b_M_returns 5 = .ok (.aload_n 0, 1) := by decide +kernel
theorem d_M_returns_6 : decode b_M_returns 6 = .ok (.invokevirtual 673, 3) := by decide +kernel
theorem d_M_returns_9 : decode b_M_returns 9 = .ok (.istore_n 3, 1) := by decide +kernel
theorem d_M_returns_10 : decode b_M_returns 10 = .ok (.aload_n 0, 1) := by decide +kernel
theorem d_M_returns_11 : decode b_M_returns 11 = .ok (.getfield 202, 3) := by decide +kernel
theorem d_M_returns_14 : decode b_M_returns 14 = .ok (.aload_n 0, 1) := by decide +kernel
theorem d_M_returns_15 : decode b_M_returns 15 = .ok (.getfield 669, 3) := by decide +kernel
theorem d_M_returns_18 : decode b_M_returns 18 = .ok (.aload_n 0, 1) := by decide +kernel
theorem d_M_returns_19 : decode b_M_returns 19 = .ok (.getfield 227, 3) := by decide +kernel
theorem d_M_returns_22 : decode b_M_returns 22 = .ok (.iload_n 3, 1) := by decide +kernel
theorem d_M_returns_23 : decode b_M_returns 23 = .ok (.iaload, 1) := by decide +kernel
theorem d_M_returns_24 : decode b_M_returns 24 = .ok (.iastore, 1) := by decide +kernel
theorem d_M_returns_25 : decode b_M_returns 25 = .ok (.aload_n 0, 1) := by decide +kernel
theorem d_M_returns_26 : decode b_M_returns 26 = .ok (.getfield 209, 3) := by decide +kernel
theorem d_M_returns_29 : decode b_M_returns 29 = .ok (.aload_n 0, 1) := by decide +kernel
theorem d_M_returns_30 : decode b_M_returns 30 = .ok (.getfield 669, 3) := by decide +kernel
theorem d_M_returns_33 : decode b_M_returns 33 = .ok (.aload_n 0, 1) := by decide +kernel
theorem d_M_returns_34 : decode b_M_returns 34 = .ok (.getfield 224, 3) := by decide +kernel
theorem d_M_returns_37 : decode b_M_returns 37 = .ok (.iload_n 3, 1) := by decide +kernel
theorem d_M_returns_38 : decode b_M_returns 38 = .ok (.iaload, 1) := by decide +kernel
theorem d_M_returns_39 : decode b_M_returns 39 = .ok (.iastore, 1) := by decide +kernel
theorem d_M_returns_40 : decode b_M_returns 40 = .ok (.aload_n 0, 1) := by decide +kernel
theorem d_M_returns_41 : decode b_M_returns 41 = .ok (.getfield 212, 3) := by decide +kernel
theorem d_M_returns_44 : decode b_M_returns 44 = .ok (.aload_n 0, 1) := by decide +kernel
theorem d_M_returns_45 : decode b_M_returns 45 = .ok (.getfield 669, 3) := by decide +kernel
theorem d_M_returns_48 : decode b_M_returns 48 = .ok (.dup2, 1) := by decide +kernel
theorem d_M_returns_49 : decode b_M_returns 49 = .ok (.iaload, 1) := by decide +kernel
theorem d_M_returns_50 : decode b_M_returns 50 = .ok (.iconst 1, 1) := by decide +kernel
theorem d_M_returns_51 : decode b_M_returns 51 = .ok (.isub, 1) := by decide +kernel
theorem d_M_returns_52 : decode b_M_returns 52 = .ok (.iastore, 1) := by decide +kernel
theorem d_M_returns_53 : decode b_M_returns 53 = .ok (.aload_n 0, 1) := by decide +kernel
theorem d_M_returns_54 : decode b_M_returns 54 = .ok (.getfield 212, 3) := by decide +kernel
theorem d_M_returns_57 : decode b_M_returns 57 = .ok (.aload_n 0, 1) := by decide +kernel
theorem d_M_returns_58 : decode b_M_returns 58 = .ok (.getfield 669, 3) := by decide +kernel
theorem d_M_returns_61 : decode b_M_returns 61 = .ok (.iaload, 1) := by decide +kernel
theorem d_M_returns_62 : decode b_M_returns 62 = .ok (.ifCond .ne 16, 3) := by decide +kernel
theorem d_M_returns_65 : decode b_M_returns 65 = .ok (.aload_n 0, 1) := by decide +kernel
theorem d_M_returns_66 : decode b_M_returns 66 = .ok (.iconst 0, 1) := by decide +kernel
theorem d_M_returns_67 : decode b_M_returns 67 = .ok (.iconst 1, 1) := by decide +kernel
theorem d_M_returns_68 : decode b_M_returns 68 = .ok (.iconst 4, 1) := by decide +kernel
theorem d_M_returns_69 : decode b_M_returns 69 = .ok (.invokestatic 315, 3) := by decide +kernel
theorem d_M_returns_72 : decode b_M_returns 72 = .ok (.invokevirtual 792, 3) := by decide +kernel
theorem d_M_returns_75 : decode b_M_returns 75 = .ok (.goto 8, 3) := by decide +kernel
theorem d_M_returns_78 : decode b_M_returns 78 = .ok (.aload_n 0, 1) := by decide +kernel
theorem d_M_returns_79 : decode b_M_returns 79 = .ok (.lload_n 1, 1) := by decide +kernel
theorem d_M_returns_80 : decode b_M_returns 80 = .ok (.invokevirtual 801, 3) := by decide +kernel
theorem d_M_returns_83 : decode b_M_returns 83 = .ok (.return_, 1) := by decide +kernel
set_option maxRecDepth 100000 in
theorem hl_M_returns : Cond.methodLink R_M 915 y_M_returns ∈ wd_tbl := wd_of 3178 (by decide +kernel) rfl
set_option maxRecDepth 100000 in
theorem hi_M_returns : Cond.instanceMethod y_M_returns ∈ wd_tbl := wd_of 3180 (by decide +kernel) rfl
set_option maxRecDepth 100000 in
theorem hs_M_returns : Cond.selects R_M y_M_returns y_M_returns ∈ wd_tbl := wd_of 249 (by decide +kernel) rfl
theorem hd_M_returns : y_M_returns.cls = R_M ∧ y_M_returns.cls ≠ "java/lang/invoke/MethodHandle" ∧ y_M_returns.cls ≠ "java/lang/invoke/VarHandle" ∧ (parseMethodDescriptor y_M_returns.desc).map (fun d => d.parameters.length) = some 0 := by decide +kernel
def rm_M_returns : Room := { frames := 2, cells := 0, slots := 0, locals := 48 }
theorem rm_M_returns_M_take {R : Room} (hR : R = rm_M_returns) : (rm_M_take).frames + 1 ≤ R.frames ∧ 8 + (1 + 11) + (rm_M_take).locals ≤ R.locals := by subst hR; decide
theorem rm_M_returns_M_frame0 {R : Room} (hR : R = rm_M_returns) : (rm_M_frame0).frames + 1 ≤ R.frames ∧ 8 + (1 + 11) + (rm_M_frame0).locals ≤ R.locals := by subst hR; decide
theorem rm_M_returns_M_term {R : Room} (hR : R = rm_M_returns) : (rm_M_term).frames + 1 ≤ R.frames ∧ 8 + (2 + 11) + (rm_M_term).locals ≤ R.locals := by subst hR; decide
theorem rm_M_returns_M_ends {R : Room} (hR : R = rm_M_returns) : (rm_M_ends).frames + 1 ≤ R.frames ∧ 8 + (4 + 11) + (rm_M_ends).locals ≤ R.locals := by subst hR; decide
theorem rm_M_returns_M_put {R : Room} (hR : R = rm_M_returns) : (rm_M_put).frames + 1 ≤ R.frames ∧ 8 + (3 + 11) + (rm_M_put).locals ≤ R.locals := by subst hR; decide
def fb_M_returns_83 (N : Nat) (G : Unit) (u : MS) : Option (MS × Unit) := some (u, ())
set_option maxRecDepth 100000 in
set_option maxHeartbeats 4000000 in
theorem wb_M_returns_83 {p : Program} {l : Launch} {e : Env} {R : Room} {s : State} {m : MethodId} {args : Array Value} {below : List Frame} {meth : Method} {c : Code} {D : va_G} {cl : List vw_C} {cB cI cJ cZ cS : ClassId} {A : Nat → Prop} {iM h0 : Nat} {ad : Nat → Nat} (C0 : MCx p s m args meth c b_M_returns 4 none D cl cB cI cJ cZ cS iM A) (hR : R = rm_M_returns) (N : Nat) (G : Unit) (hG : True) : ∀ (u : MS) (x : MS × Unit), fb_M_returns_83 N G u = some x → ∀ (H : Heap) (locs : List Loc), va_P D cl (wM cB cI cJ cZ cS iM h0 ad u) H → va_D A (wM cB cI cJ cZ cS iM h0 ad u) → va_S A s.heap H locs → ∀ (ls : Array Slot), lv_has ls 4 [] → W p l e R s m args below meth c H locs 0 0 (MQ below (mQv D cl cB cI cJ cZ cS iM h0 ad A x) args s 0 0 A) (F0 m 83 ls []) := by
  intro u x hf H locs hP hD hS ls hl
  obtain ⟨hx, hb, hr, hml, ht, hown, hM, hK, hA, hlocks⟩ := id C0
  unfold fb_M_returns_83 at hf
  exact mr_v C0 hP hD hS hf d_M_returns_83
def fb_M_returns_0 (N : Nat) (G : Unit) (u : MS) : Option (MS × Unit) := bnd (fm_M_take N u) (fun u1 r1 => bnd (fm_M_frame0 N u1) (fun u2 r2 => ck (inb r2 (ln 100)) (ck (inb (u2.1 133) (ln 92)) (lt (upA u2 92 (upd (u2.2.2.1 92) (u2.1 133).toNatClampNeg (u2.2.2.1 100 r2.toNatClampNeg))) (fun w3 => ck (inb r2 (ln 99)) (ck (inb (w3.1 133) (ln 94)) (lt (upA w3 94 (upd (w3.2.2.1 94) (w3.1 133).toNatClampNeg (w3.2.2.1 99 r2.toNatClampNeg))) (fun w4 => ck (inb (w4.1 133) (ln 95)) (ck (inb (w4.1 133) (ln 95)) (lt (upA w4 95 (upd (w4.2.2.1 95) (w4.1 133).toNatClampNeg ((w4.2.2.1 95 (w4.1 133).toNatClampNeg) - 1))) (fun w5 => ck (inb (w5.1 133) (ln 95)) (br (decide ((w5.2.2.1 95 (w5.1 133).toNatClampNeg) = 0)) (bnd (fm_M_term N w5 1 4) (fun u7 r7 => bnd (fm_M_ends N u7 0 r7) (fun u8 _ => fb_M_returns_83 N G u8))) (bnd (fm_M_put N w5 r1) (fun u6 _ => fb_M_returns_83 N G u6))))))))))))))
set_option maxRecDepth 100000 in
set_option maxHeartbeats 4000000 in
theorem wb_M_returns_0 {p : Program} {l : Launch} {e : Env} {R : Room} {s : State} {m : MethodId} {args : Array Value} {below : List Frame} {meth : Method} {c : Code} {D : va_G} {cl : List vw_C} {cB cI cJ cZ cS : ClassId} {A : Nat → Prop} {iM h0 : Nat} {ad : Nat → Nat} (C0 : MCx p s m args meth c b_M_returns 4 none D cl cB cI cJ cZ cS iM A) (hR : R = rm_M_returns) (N : Nat) (G : Unit) (hG : True) : ∀ (u : MS) (x : MS × Unit), fb_M_returns_0 N G u = some x → ∀ (H : Heap) (locs : List Loc), va_P D cl (wM cB cI cJ cZ cS iM h0 ad u) H → va_D A (wM cB cI cJ cZ cS iM h0 ad u) → va_S A s.heap H locs → ∀ (ls : Array Slot), lv_has ls 4 [(0, .ref h0)] → W p l e R s m args below meth c H locs 0 0 (MQ below (mQv D cl cB cI cJ cZ cS iM h0 ad A x) args s 0 0 A) (F0 m 0 ls []) := by
  intro u x hf H locs hP hD hS ls hl
  obtain ⟨hx, hb, hr, hml, ht, hown, hM, hK, hA, hlocks⟩ := id C0
  unfold fb_M_returns_0 at hf
  refine lv_aload_n hx hb d_M_returns_0 rfl (lv_at hl 0 rfl) ?_
  obtain ⟨u1, r1, hc1, hf⟩ := bnd_some hf
  refine mV_l (As := []) (rest := []) C0 hP hD hS (c_M_take N hM hc1) k_M_take hl_M_take hi_M_take hs_M_take hini_M rfl rfl hd_M_take rfl (rm_M_returns_M_take hR) hl.1 (Nat.le_of_ble_eq_true rfl) d_M_returns_1 rfl ⟨Nat.zero_le _, Nat.zero_le _⟩ (fun H locs hP hD hS => ?_)
  refine lv_lstore_n (lv' := [(1, .long r1), (0, .ref h0)]) hx hb d_M_returns_4 rfl hl (by decide) rfl (fun ls hl => ?_)
  refine lv_aload_n hx hb d_M_returns_5 rfl (lv_at hl 1 rfl) ?_
  obtain ⟨u2, r2, hc2, hf⟩ := bnd_some hf
  refine mV_i (As := []) (rest := []) C0 hP hD hS (c_M_frame0 N hM hc2) k_M_frame0 hl_M_frame0 hi_M_frame0 hs_M_frame0 hini_M rfl rfl hd_M_frame0 rfl (rm_M_returns_M_frame0 hR) hl.1 (Nat.le_of_ble_eq_true rfl) d_M_returns_6 rfl ⟨Nat.zero_le _, Nat.zero_le _⟩ (fun H locs hP hD hS => ?_)
  refine lv_istore_n (lv' := [(3, .int r2), (1, .long r1), (0, .ref h0)]) hx hb d_M_returns_9 rfl hl (by decide) rfl (fun ls hl => ?_)
  refine lv_aload_n hx hb d_M_returns_10 rfl (lv_at hl 2 rfl) ?_
  refine ug_R hx hb ht hown hM hK hP 92 (by decide) lk_M_92 (by decide) d_M_returns_11 ?_
  refine lv_aload_n hx hb d_M_returns_14 rfl (lv_at hl 2 rfl) ?_
  refine ug_I hx hb ht hown hM hK hP 133 (by decide) lk_M_133 (by decide) d_M_returns_15 ?_
  refine lv_aload_n hx hb d_M_returns_18 rfl (lv_at hl 2 rfl) ?_
  refine ug_R hx hb ht hown hM hK hP 100 (by decide) lk_M_100 (by decide) d_M_returns_19 ?_
  refine lv_iload_n hx hb d_M_returns_22 rfl (lv_at hl 0 rfl) ?_
  obtain ⟨hi9, hf⟩ := ck_some hf
  refine ul_I hx hb hK hP (by decide) (by decide) hi9 d_M_returns_23 ?_
  obtain ⟨hi9, hf⟩ := ck_some hf
  refine us_I hx hb hK hP hD hS (by decide) (by decide) hi9 d_M_returns_24 (fun H locs hP hD hS => ?_)
  obtain ⟨w3, e3, hf⟩ := lt_some hf
  rw [← e3] at hP hD
  refine lv_aload_n hx hb d_M_returns_25 rfl (lv_at hl 2 rfl) ?_
  refine ug_R hx hb ht hown hM hK hP 94 (by decide) lk_M_94 (by decide) d_M_returns_26 ?_
  refine lv_aload_n hx hb d_M_returns_29 rfl (lv_at hl 2 rfl) ?_
  refine ug_I hx hb ht hown hM hK hP 133 (by decide) lk_M_133 (by decide) d_M_returns_30 ?_
  refine lv_aload_n hx hb d_M_returns_33 rfl (lv_at hl 2 rfl) ?_
  refine ug_R hx hb ht hown hM hK hP 99 (by decide) lk_M_99 (by decide) d_M_returns_34 ?_
  refine lv_iload_n hx hb d_M_returns_37 rfl (lv_at hl 0 rfl) ?_
  obtain ⟨hi9, hf⟩ := ck_some hf
  refine ul_I hx hb hK hP (by decide) (by decide) hi9 d_M_returns_38 ?_
  obtain ⟨hi9, hf⟩ := ck_some hf
  refine us_I hx hb hK hP hD hS (by decide) (by decide) hi9 d_M_returns_39 (fun H locs hP hD hS => ?_)
  obtain ⟨w4, e4, hf⟩ := lt_some hf
  rw [← e4] at hP hD
  refine lv_aload_n hx hb d_M_returns_40 rfl (lv_at hl 2 rfl) ?_
  refine ug_R hx hb ht hown hM hK hP 95 (by decide) lk_M_95 (by decide) d_M_returns_41 ?_
  refine lv_aload_n hx hb d_M_returns_44 rfl (lv_at hl 2 rfl) ?_
  refine ug_I hx hb ht hown hM hK hP 133 (by decide) lk_M_133 (by decide) d_M_returns_45 ?_
  refine lv_dup2_11 hx hb d_M_returns_48 rfl rfl ?_
  obtain ⟨hi9, hf⟩ := ck_some hf
  refine ul_I hx hb hK hP (by decide) (by decide) hi9 d_M_returns_49 ?_
  refine lv_iconst (v := 1) hx hb d_M_returns_50 (by decide) ?_
  refine lv_isub hx hb d_M_returns_51 ?_
  obtain ⟨hi9, hf⟩ := ck_some hf
  refine us_I hx hb hK hP hD hS (by decide) (by decide) hi9 d_M_returns_52 (fun H locs hP hD hS => ?_)
  obtain ⟨w5, e5, hf⟩ := lt_some hf
  rw [← e5] at hP hD
  refine lv_aload_n hx hb d_M_returns_53 rfl (lv_at hl 2 rfl) ?_
  refine ug_R hx hb ht hown hM hK hP 95 (by decide) lk_M_95 (by decide) d_M_returns_54 ?_
  refine lv_aload_n hx hb d_M_returns_57 rfl (lv_at hl 2 rfl) ?_
  refine ug_I hx hb ht hown hM hK hP 133 (by decide) lk_M_133 (by decide) d_M_returns_58 ?_
  obtain ⟨hi9, hf⟩ := ck_some hf
  refine ul_I hx hb hK hP (by decide) (by decide) hi9 d_M_returns_61 ?_
  refine lv_if_ne (tgt := 78) hx hb d_M_returns_62 (by decide) (fun hc => ?_) (fun hc => ?_)
  · rw [br_n _ hc] at hf
    refine lv_aload_n hx hb d_M_returns_78 rfl (lv_at hl 2 rfl) ?_
    refine lv_lload_n hx hb d_M_returns_79 rfl (lv_at hl 1 rfl) ?_
    obtain ⟨u6, r6, hc6, hf⟩ := bnd_some hf
    refine mV_v (As := [.long r1]) (rest := []) C0 hP hD hS (c_M_put N hM hc6) k_M_put hl_M_put hi_M_put hs_M_put hini_M rfl rfl hd_M_put rfl (rm_M_returns_M_put hR) hl.1 (Nat.le_of_ble_eq_true rfl) d_M_returns_80 rfl ⟨Nat.zero_le _, Nat.zero_le _⟩ (fun H locs hP hD hS => ?_)
    exact wb_M_returns_83 C0 hR N G hG _ _ hf H locs hP hD hS ls (lv_sub hl [] rfl)
  · rw [br_p _ hc] at hf
    refine lv_aload_n hx hb d_M_returns_65 rfl (lv_at hl 2 rfl) ?_
    refine lv_iconst (v := 0) hx hb d_M_returns_66 (by decide) ?_
    refine lv_iconst (v := 1) hx hb d_M_returns_67 (by decide) ?_
    refine lv_iconst (v := 4) hx hb d_M_returns_68 (by decide) ?_
    obtain ⟨u7, r7, hc7, hf⟩ := bnd_some hf
    refine mS_l (As := [.int 1, .int 4]) (rest := [.int 0, .ref h0]) C0 hP hD hS (c_M_term N hM hc7) k_M_term hl_M_term ht_M_term hini_M rfl rfl hd_M_term rfl (rm_M_returns_M_term hR) hl.1 (Nat.le_of_ble_eq_true rfl) d_M_returns_69 rfl ⟨Nat.zero_le _, Nat.zero_le _⟩ (fun H locs hP hD hS => ?_)
    obtain ⟨u8, r8, hc8, hf⟩ := bnd_some hf
    refine mV_v (As := [.int 0, .long r7]) (rest := []) C0 hP hD hS (c_M_ends N hM hc8) k_M_ends hl_M_ends hi_M_ends hs_M_ends hini_M rfl rfl hd_M_ends rfl (rm_M_returns_M_ends hR) hl.1 (Nat.le_of_ble_eq_true rfl) d_M_returns_72 rfl ⟨Nat.zero_le _, Nat.zero_le _⟩ (fun H locs hP hD hS => ?_)
    refine lv_goto (tgt := 83) hx hb d_M_returns_75 (by decide) ?_
    exact wb_M_returns_83 C0 hR N G hG _ _ hf H locs hP hD hS ls (lv_sub hl [] rfl)
def fm_M_returns (N : Nat) (u : MS) : Option (MS × Unit) := fb_M_returns_0 N () u
set_option maxRecDepth 100000 in
set_option maxHeartbeats 4000000 in
theorem c_M_returns (N : Nat) {l : Launch} {D : va_G} {cl : List vw_C} {cB cI cJ cZ cS : ClassId} {iM h0 : Nat} {ad : Nat → Nat} {u : MS} {sz : Nat} {x : MS × Unit} (hM : cl[iM]? = some (R_M, F_M, 171)) (hf : fm_M_returns N u = some x) : Met l y_M_returns (wd_ws y_M_returns b_M_returns 4 none) rm_M_returns (mPc D cl cB cI cJ cZ cS iM h0 ad u sz [.ref h0]) (mQv D cl cB cI cJ cZ cS iM h0 ad (mA cB cI cJ cZ cS iM h0 ad u sz) x) 0 0 (mA cB cI cJ cZ cS iM h0 ad u sz) :=
  mMet (by decide) rfl hM (Nat.le_of_ble_eq_true rfl) (fun p e s m below meth c ls hsz C0 hP hD hS hl => by
    have hR : rm_M_returns = rm_M_returns := rfl
    exact wb_M_returns_0 C0 hR N () trivial u x hf s.heap [] hP hD hS ls (lv_sub hl [0] rfl))
abbrev b_M_pair : ByteArray := prog_14_method_140_code
def y_M_pair : MethodName := ⟨R_M, "pair", "(JJ)I"⟩
def w_M_pair : List Cond := wd_ws y_M_pair b_M_pair 6 (some .int)
set_option maxRecDepth 100000 in
theorem k_M_pair : Cond.code y_M_pair b_M_pair 6 (some .int) ∈ wd_tbl := wd_of 3189 rfl rfl
theorem d_M_pair_0 : decode b_M_pair 0 = .ok (.aload_n 0, 1) := by decide +kernel
theorem d_M_pair_1 : decode b_M_pair 1 = .ok (.getfield 192, 3) := by decide +kernel
theorem d_M_pair_4 : decode b_M_pair 4 = .ok (.aload_n 0, 1) := by decide +kernel
theorem d_M_pair_5 : decode b_M_pair 5 = .ok (.getfield 669, 3) := by decide +kernel
theorem d_M_pair_8 : decode b_M_pair 8 = .ok (.iaload, 1) := by decide +kernel
theorem d_M_pair_9 : decode b_M_pair 9 = .ok (.istore 5, 2) := by decide +kernel
theorem d_M_pair_11 : decode b_M_pair 11 = .ok (.aload_n 0, 1) := by decide +kernel
theorem d_M_pair_12 : decode b_M_pair 12 = .ok (.getfield 189, 3) := by decide +kernel
theorem d_M_pair_15 : decode b_M_pair 15 = .ok (.aload_n 0, 1) := by decide +kernel
theorem d_M_pair_16 : decode b_M_pair 16 = .ok (.getfield 669, 3) := by decide +kernel
theorem d_M_pair_19 : decode b_M_pair 19 = .ok (.sipush 500, 3) := by decide +kernel
theorem d_M_pair_22 : decode b_M_pair 22 = .ok (.imul, 1) := by decide +kernel
theorem d_M_pair_23 : decode b_M_pair 23 = .ok (.iload 5, 2) := by decide +kernel
theorem d_M_pair_25 : decode b_M_pair 25 = .ok (.iadd, 1) := by decide +kernel
theorem d_M_pair_26 : decode b_M_pair 26 = .ok (.lload_n 1, 1) := by decide +kernel
theorem d_M_pair_27 : decode b_M_pair 27 = .ok (.lastore, 1) := by decide +kernel
theorem d_M_pair_28 : decode b_M_pair 28 = .ok (.aload_n 0, 1) := by decide +kernel
theorem d_M_pair_29 : decode b_M_pair 29 = .ok (.getfield 189, 3) := by decide +kernel
theorem d_M_pair_32 : decode b_M_pair 32 = .ok (.aload_n 0, 1) := by decide +kernel
theorem d_M_pair_33 : decode b_M_pair 33 = .ok (.getfield 669, 3) := by decide +kernel
theorem d_M_pair_36 : decode b_M_pair 36 = .ok (.sipush 500, 3) := by decide +kernel
theorem d_M_pair_39 : decode b_M_pair 39 = .ok (.imul, 1) := by decide +kernel
theorem d_M_pair_40 : decode b_M_pair 40 = .ok (.iload 5, 2) := by decide +kernel
theorem d_M_pair_42 : decode b_M_pair 42 = .ok (.iadd, 1) := by decide +kernel
theorem d_M_pair_43 : decode b_M_pair 43 = .ok (.iconst 1, 1) := by decide +kernel
theorem d_M_pair_44 : decode b_M_pair 44 = .ok (.iadd, 1) := by decide +kernel
theorem d_M_pair_45 : decode b_M_pair 45 = .ok (.lload_n 3, 1) := by decide +kernel
theorem d_M_pair_46 : decode b_M_pair 46 = .ok (.lastore, 1) := by decide +kernel
theorem d_M_pair_47 : decode b_M_pair 47 = .ok (.aload_n 0, 1) := by decide +kernel
theorem d_M_pair_48 : decode b_M_pair 48 = .ok (.getfield 192, 3) := by decide +kernel
theorem d_M_pair_51 : decode b_M_pair 51 = .ok (.aload_n 0, 1) := by decide +kernel
theorem d_M_pair_52 : decode b_M_pair 52 = .ok (.getfield 669, 3) := by decide +kernel
theorem d_M_pair_55 : decode b_M_pair 55 = .ok (.dup2, 1) := by decide +kernel
theorem d_M_pair_56 : decode b_M_pair 56 = .ok (.iaload, 1) := by decide +kernel
theorem d_M_pair_57 : decode b_M_pair 57 = .ok (.iconst 2, 1) := by decide +kernel
theorem d_M_pair_58 : decode b_M_pair 58 = .ok (.iadd, 1) := by decide +kernel
theorem d_M_pair_59 : decode b_M_pair 59 = .ok (.iastore, 1) := by decide +kernel
theorem d_M_pair_60 : decode b_M_pair 60 = .ok (.iload 5, 2) := by decide +kernel
theorem d_M_pair_62 : decode b_M_pair 62 = .ok (.ireturn, 1) := by decide +kernel
set_option maxRecDepth 100000 in
theorem hl_M_pair : Cond.methodLink R_M 968 y_M_pair ∈ wd_tbl := wd_of 3186 (by decide +kernel) rfl
set_option maxRecDepth 100000 in
theorem hi_M_pair : Cond.instanceMethod y_M_pair ∈ wd_tbl := wd_of 3188 (by decide +kernel) rfl
set_option maxRecDepth 100000 in
theorem hs_M_pair : Cond.selects R_M y_M_pair y_M_pair ∈ wd_tbl := wd_of 251 (by decide +kernel) rfl
theorem hd_M_pair : y_M_pair.cls = R_M ∧ y_M_pair.cls ≠ "java/lang/invoke/MethodHandle" ∧ y_M_pair.cls ≠ "java/lang/invoke/VarHandle" ∧ (parseMethodDescriptor y_M_pair.desc).map (fun d => d.parameters.length) = some 2 := by decide +kernel
def rm_M_pair : Room := { frames := 0, cells := 0, slots := 0, locals := 0 }
def fb_M_pair_0 (N : Nat) (G : Unit) (u : MS) (v1 : Int64) (v3 : Int64) : Option (MS × Int32) := ck (inb (u.1 133) (ln 89)) (lt (u.2.2.1 89 (u.1 133).toNatClampNeg) (fun y1 => ck (inb (((u.1 133) * 500) + y1) (ln 88)) (lt (upJ u 88 (vp_updL (u.2.2.2 88) (((u.1 133) * 500) + y1).toNatClampNeg v1)) (fun w2 => ck (inb ((((w2.1 133) * 500) + y1) + 1) (ln 88)) (lt (upJ w2 88 (vp_updL (w2.2.2.2 88) ((((w2.1 133) * 500) + y1) + 1).toNatClampNeg v3)) (fun w3 => ck (inb (w3.1 133) (ln 89)) (ck (inb (w3.1 133) (ln 89)) (lt (upA w3 89 (upd (w3.2.2.1 89) (w3.1 133).toNatClampNeg ((w3.2.2.1 89 (w3.1 133).toNatClampNeg) + 2))) (fun w4 => some (w4, y1))))))))))
set_option maxRecDepth 100000 in
set_option maxHeartbeats 4000000 in
theorem wb_M_pair_0 {p : Program} {l : Launch} {e : Env} {R : Room} {s : State} {m : MethodId} {args : Array Value} {below : List Frame} {meth : Method} {c : Code} {D : va_G} {cl : List vw_C} {cB cI cJ cZ cS : ClassId} {A : Nat → Prop} {iM h0 : Nat} {ad : Nat → Nat} (C0 : MCx p s m args meth c b_M_pair 6 (some .int) D cl cB cI cJ cZ cS iM A) (hR : R = rm_M_pair) (N : Nat) (G : Unit) (hG : True) : ∀ (u : MS) (v1 : Int64) (v3 : Int64) (x : MS × Int32), fb_M_pair_0 N G u v1 v3 = some x → ∀ (H : Heap) (locs : List Loc), va_P D cl (wM cB cI cJ cZ cS iM h0 ad u) H → va_D A (wM cB cI cJ cZ cS iM h0 ad u) → va_S A s.heap H locs → ∀ (ls : Array Slot), lv_has ls 6 [(0, .ref h0), (1, .long v1), (3, .long v3)] → W p l e R s m args below meth c H locs 0 0 (MQ below (mQi D cl cB cI cJ cZ cS iM h0 ad A x) args s 0 0 A) (F0 m 0 ls []) := by
  intro u v1 v3 x hf H locs hP hD hS ls hl
  obtain ⟨hx, hb, hr, hml, ht, hown, hM, hK, hA, hlocks⟩ := id C0
  unfold fb_M_pair_0 at hf
  refine lv_aload_n hx hb d_M_pair_0 rfl (lv_at hl 0 rfl) ?_
  refine ug_R hx hb ht hown hM hK hP 89 (by decide) lk_M_89 (by decide) d_M_pair_1 ?_
  refine lv_aload_n hx hb d_M_pair_4 rfl (lv_at hl 0 rfl) ?_
  refine ug_I hx hb ht hown hM hK hP 133 (by decide) lk_M_133 (by decide) d_M_pair_5 ?_
  obtain ⟨hi9, hf⟩ := ck_some hf
  refine ul_I hx hb hK hP (by decide) (by decide) hi9 d_M_pair_8 ?_
  obtain ⟨y1, e1, hf⟩ := lt_some hf
  rw [← e1]
  refine lv_istore (lv' := [(5, .int y1), (0, .ref h0), (1, .long v1), (3, .long v3)]) hx hb d_M_pair_9 hl (by decide) rfl (fun ls hl => ?_)
  refine lv_aload_n hx hb d_M_pair_11 rfl (lv_at hl 1 rfl) ?_
  refine ug_R hx hb ht hown hM hK hP 88 (by decide) lk_M_88 (by decide) d_M_pair_12 ?_
  refine lv_aload_n hx hb d_M_pair_15 rfl (lv_at hl 1 rfl) ?_
  refine ug_I hx hb ht hown hM hK hP 133 (by decide) lk_M_133 (by decide) d_M_pair_16 ?_
  refine lv_sipush (v := 500) hx hb d_M_pair_19 (by decide) ?_
  refine lv_imul hx hb d_M_pair_22 ?_
  refine lv_iload hx hb d_M_pair_23 (lv_at hl 0 rfl) ?_
  refine lv_iadd hx hb d_M_pair_25 ?_
  refine lv_lload_n hx hb d_M_pair_26 rfl (lv_at hl 2 rfl) ?_
  obtain ⟨hi9, hf⟩ := ck_some hf
  refine us_J hx hb hK hP hD hS (by decide) (by decide) hi9 d_M_pair_27 (fun H locs hP hD hS => ?_)
  obtain ⟨w2, e2, hf⟩ := lt_some hf
  rw [← e2] at hP hD
  refine lv_aload_n hx hb d_M_pair_28 rfl (lv_at hl 1 rfl) ?_
  refine ug_R hx hb ht hown hM hK hP 88 (by decide) lk_M_88 (by decide) d_M_pair_29 ?_
  refine lv_aload_n hx hb d_M_pair_32 rfl (lv_at hl 1 rfl) ?_
  refine ug_I hx hb ht hown hM hK hP 133 (by decide) lk_M_133 (by decide) d_M_pair_33 ?_
  refine lv_sipush (v := 500) hx hb d_M_pair_36 (by decide) ?_
  refine lv_imul hx hb d_M_pair_39 ?_
  refine lv_iload hx hb d_M_pair_40 (lv_at hl 0 rfl) ?_
  refine lv_iadd hx hb d_M_pair_42 ?_
  refine lv_iconst (v := 1) hx hb d_M_pair_43 (by decide) ?_
  refine lv_iadd hx hb d_M_pair_44 ?_
  refine lv_lload_n hx hb d_M_pair_45 rfl (lv_at hl 3 rfl) ?_
  obtain ⟨hi9, hf⟩ := ck_some hf
  refine us_J hx hb hK hP hD hS (by decide) (by decide) hi9 d_M_pair_46 (fun H locs hP hD hS => ?_)
  obtain ⟨w3, e3, hf⟩ := lt_some hf
  rw [← e3] at hP hD
  refine lv_aload_n hx hb d_M_pair_47 rfl (lv_at hl 1 rfl) ?_
  refine ug_R hx hb ht hown hM hK hP 89 (by decide) lk_M_89 (by decide) d_M_pair_48 ?_
  refine lv_aload_n hx hb d_M_pair_51 rfl (lv_at hl 1 rfl) ?_
  refine ug_I hx hb ht hown hM hK hP 133 (by decide) lk_M_133 (by decide) d_M_pair_52 ?_
  refine lv_dup2_11 hx hb d_M_pair_55 rfl rfl ?_
  obtain ⟨hi9, hf⟩ := ck_some hf
  refine ul_I hx hb hK hP (by decide) (by decide) hi9 d_M_pair_56 ?_
  refine lv_iconst (v := 2) hx hb d_M_pair_57 (by decide) ?_
  refine lv_iadd hx hb d_M_pair_58 ?_
  obtain ⟨hi9, hf⟩ := ck_some hf
  refine us_I hx hb hK hP hD hS (by decide) (by decide) hi9 d_M_pair_59 (fun H locs hP hD hS => ?_)
  obtain ⟨w4, e4, hf⟩ := lt_some hf
  rw [← e4] at hP hD
  refine lv_iload hx hb d_M_pair_60 (lv_at hl 0 rfl) ?_
  exact mr_i C0 hP hD hS hf d_M_pair_62
def fm_M_pair (N : Nat) (u : MS) (v1 : Int64) (v3 : Int64) : Option (MS × Int32) := fb_M_pair_0 N () u v1 v3
set_option maxRecDepth 100000 in
set_option maxHeartbeats 4000000 in
theorem c_M_pair (N : Nat) {l : Launch} {D : va_G} {cl : List vw_C} {cB cI cJ cZ cS : ClassId} {iM h0 : Nat} {ad : Nat → Nat} {u : MS} {sz : Nat} {v1 : Int64} {v3 : Int64} {x : MS × Int32} (hM : cl[iM]? = some (R_M, F_M, 171)) (hf : fm_M_pair N u v1 v3 = some x) : Met l y_M_pair (wd_ws y_M_pair b_M_pair 6 (some .int)) rm_M_pair (mPc D cl cB cI cJ cZ cS iM h0 ad u sz [.ref h0, .long v1, .long v3]) (mQi D cl cB cI cJ cZ cS iM h0 ad (mA cB cI cJ cZ cS iM h0 ad u sz) x) 0 0 (mA cB cI cJ cZ cS iM h0 ad u sz) :=
  mMet (by decide) rfl hM (Nat.le_of_ble_eq_true rfl) (fun p e s m below meth c ls hsz C0 hP hD hS hl => by
    have hR : rm_M_pair = rm_M_pair := rfl
    exact wb_M_pair_0 C0 hR N () trivial u _ _ x hf s.heap [] hP hD hS ls (lv_sub hl [0, 1, 2] rfl))
abbrev b_M_stringRun : ByteArray := prog_14_method_142_code
def y_M_stringRun : MethodName := ⟨R_M, "stringRun", "(I)V"⟩
def w_M_stringRun : List Cond := wd_ws y_M_stringRun b_M_stringRun 6 none
set_option maxRecDepth 100000 in
theorem k_M_stringRun : Cond.code y_M_stringRun b_M_stringRun 6 none ∈ wd_tbl := wd_of 3185 rfl rfl
theorem d_M_stringRun_0 : decode b_M_stringRun 0 = .ok (.aload_n 0, 1) := by decide +kernel
theorem d_M_stringRun_1 : decode b_M_stringRun 1 = .ok (.getfield 47, 3) := by decide +kernel
theorem d_M_stringRun_4 : decode b_M_stringRun 4 = .ok (.iload_n 1, 1) := by decide +kernel
theorem d_M_stringRun_5 : decode b_M_stringRun 5 = .ok (.iconst 1, 1) := by decide +kernel
theorem d_M_stringRun_6 : decode b_M_stringRun 6 = .ok (.iadd, 1) := by decide +kernel
theorem d_M_stringRun_7 : decode b_M_stringRun 7 = .ok (.iaload, 1) := by decide +kernel
theorem d_M_stringRun_8 : decode b_M_stringRun 8 = .ok (.aload_n 0, 1) := by decide +kernel
theorem d_M_stringRun_9 : decode b_M_stringRun 9 = .ok (.getfield 47, 3) := by decide +kernel
theorem d_M_stringRun_12 : decode b_M_stringRun 12 = .ok (.iload_n 1, 1) := by decide +kernel
theorem d_M_stringRun_13 : decode b_M_stringRun 13 = .ok (.iaload, 1) := by decide +kernel
theorem d_M_stringRun_14 : decode b_M_stringRun 14 = .ok (.isub, 1) := by decide +kernel
theorem d_M_stringRun_15 : decode b_M_stringRun 15 = .ok (.istore_n 2, 1) := by decide +kernel
theorem d_M_stringRun_16 : decode b_M_stringRun 16 = .ok (.aload_n 0, 1) := by decide +kernel
theorem d_M_stringRun_17 : decode b_M_stringRun 17 = .ok (.aload_n 0, 1) := by decide +kernel
theorem d_M_stringRun_18 : decode b_M_stringRun 18 = .ok (.getfield 669, 3) := by decide +kernel
theorem d_M_stringRun_21 : decode b_M_stringRun 21 = .ok (.iconst 2, 1) := by decide +kernel
theorem d_M_stringRun_22 : decode b_M_stringRun 22 = .ok (.iload_n 2, 1) := by decide +kernel
theorem d_M_stringRun_23 : decode b_M_stringRun 23 = .ok (.imul, 1) := by decide +kernel
theorem d_M_stringRun_24 : decode b_M_stringRun 24 = .ok (.invokevirtual 776, 3) := by decide +kernel
theorem d_M_stringRun_27 : decode b_M_stringRun 27 = .ok (.ifCond .ne 8, 3) := by decide +kernel
theorem d_M_stringRun_30 : decode b_M_stringRun 30 = .ok (.aload_n 0, 1) := by decide +kernel
theorem d_M_stringRun_31 : decode b_M_stringRun 31 = .ok (.invokevirtual 805, 3) := by decide +kernel
theorem d_M_stringRun_34 : decode b_M_stringRun 34 = .ok (.return_, 1) := by decide +kernel
theorem d_M_stringRun_35 : decode b_M_stringRun 35 = .ok (.bipush 6, 2) := by decide +kernel
theorem d_M_stringRun_37 : decode b_M_stringRun 37 = .ok (.iconst 0, 1) := by decide +kernel
theorem d_M_stringRun_38 : decode b_M_stringRun 38 = .ok (.invokestatic 315, 3) := by decide +kernel
theorem d_M_stringRun_41 : decode b_M_stringRun 41 = .ok (.lstore_n 3, 1) := by decide +kernel
theorem d_M_stringRun_42 : decode b_M_stringRun 42 = .ok (.iload_n 2, 1) := by decide +kernel
theorem d_M_stringRun_43 : decode b_M_stringRun 43 = .ok (.iconst 1, 1) := by decide +kernel
theorem d_M_stringRun_44 : decode b_M_stringRun 44 = .ok (.isub, 1) := by decide +kernel
theorem d_M_stringRun_45 : decode b_M_stringRun 45 = .ok (.istore 5, 2) := by decide +kernel
theorem d_M_stringRun_47 : decode b_M_stringRun 47 = .ok (.iload 5, 2) := by decide +kernel
theorem d_M_stringRun_49 : decode b_M_stringRun 49 = .ok (.ifCond .lt 38, 3) := by decide +kernel
theorem d_M_stringRun_52 : decode b_M_stringRun 52 = .ok (.bipush 7, 2) := by decide +kernel
theorem d_M_stringRun_54 : decode b_M_stringRun 54 = .ok (.aload_n 0, 1) := by decide +kernel
theorem d_M_stringRun_55 : decode b_M_stringRun 55 = .ok (.iconst 0, 1) := by decide +kernel
theorem d_M_stringRun_56 : decode b_M_stringRun 56 = .ok (.aload_n 0, 1) := by decide +kernel
theorem d_M_stringRun_57 : decode b_M_stringRun 57 = .ok (.getfield 44, 3) := by decide +kernel
theorem d_M_stringRun_60 : decode b_M_stringRun 60 = .ok (.aload_n 0, 1) := by decide +kernel
theorem d_M_stringRun_61 : decode b_M_stringRun 61 = .ok (.getfield 47, 3) := by decide +kernel
theorem d_M_stringRun_64 : decode b_M_stringRun 64 = .ok (.iload_n 1, 1) := by decide +kernel
theorem d_M_stringRun_65 : decode b_M_stringRun 65 = .ok (.iaload, 1) := by decide +kernel
theorem d_M_stringRun_66 : decode b_M_stringRun 66 = .ok (.iload 5, 2) := by decide +kernel
theorem d_M_stringRun_68 : decode b_M_stringRun 68 = .ok (.iadd, 1) := by decide +kernel
theorem d_M_stringRun_69 : decode b_M_stringRun 69 = .ok (.baload, 1) := by decide +kernel
theorem d_M_stringRun_70 : decode b_M_stringRun 70 = .ok (.invokestatic 315, 3) := by decide +kernel
theorem d_M_stringRun_73 : decode b_M_stringRun 73 = .ok (.lload_n 3, 1) := by decide +kernel
theorem d_M_stringRun_74 : decode b_M_stringRun 74 = .ok (.invokevirtual 968, 3) := by decide +kernel
theorem d_M_stringRun_77 : decode b_M_stringRun 77 = .ok (.invokestatic 315, 3) := by decide +kernel
theorem d_M_stringRun_80 : decode b_M_stringRun 80 = .ok (.lstore_n 3, 1) := by decide +kernel
theorem d_M_stringRun_81 : decode b_M_stringRun 81 = .ok (.iinc 5 (-1), 3) := by decide +kernel
theorem d_M_stringRun_84 : decode b_M_stringRun 84 = .ok (.goto (-37), 3) := by decide +kernel
theorem d_M_stringRun_87 : decode b_M_stringRun 87 = .ok (.aload_n 0, 1) := by decide +kernel
theorem d_M_stringRun_88 : decode b_M_stringRun 88 = .ok (.lload_n 3, 1) := by decide +kernel
theorem d_M_stringRun_89 : decode b_M_stringRun 89 = .ok (.invokevirtual 801, 3) := by decide +kernel
theorem d_M_stringRun_92 : decode b_M_stringRun 92 = .ok (.return_, 1) := by decide +kernel
set_option maxRecDepth 100000 in
theorem hl_M_stringRun : Cond.methodLink R_M 918 y_M_stringRun ∈ wd_tbl := wd_of 3182 (by decide +kernel) rfl
set_option maxRecDepth 100000 in
theorem hi_M_stringRun : Cond.instanceMethod y_M_stringRun ∈ wd_tbl := wd_of 3184 (by decide +kernel) rfl
set_option maxRecDepth 100000 in
theorem hs_M_stringRun : Cond.selects R_M y_M_stringRun y_M_stringRun ∈ wd_tbl := wd_of 250 (by decide +kernel) rfl
theorem hd_M_stringRun : y_M_stringRun.cls = R_M ∧ y_M_stringRun.cls ≠ "java/lang/invoke/MethodHandle" ∧ y_M_stringRun.cls ≠ "java/lang/invoke/VarHandle" ∧ (parseMethodDescriptor y_M_stringRun.desc).map (fun d => d.parameters.length) = some 1 := by decide +kernel
def rm_M_stringRun : Room := { frames := 5, cells := 0, slots := 0, locals := 123 }
theorem rm_M_stringRun_M_wants {R : Room} (hR : R = rm_M_stringRun) : (rm_M_wants).frames + 1 ≤ R.frames ∧ 8 + (3 + 11) + (rm_M_wants).locals ≤ R.locals := by subst hR; decide
theorem rm_M_stringRun_M_noRoom {R : Room} (hR : R = rm_M_stringRun) : (rm_M_noRoom).frames + 1 ≤ R.frames ∧ 8 + (1 + 11) + (rm_M_noRoom).locals ≤ R.locals := by subst hR; decide
theorem rm_M_stringRun_M_term {R : Room} (hR : R = rm_M_stringRun) : (rm_M_term).frames + 1 ≤ R.frames ∧ 8 + (2 + 11) + (rm_M_term).locals ≤ R.locals := by subst hR; decide
theorem rm_M_stringRun_M_pair {R : Room} (hR : R = rm_M_stringRun) : (rm_M_pair).frames + 1 ≤ R.frames ∧ 8 + (6 + 11) + (rm_M_pair).locals ≤ R.locals := by subst hR; decide
theorem rm_M_stringRun_M_put {R : Room} (hR : R = rm_M_stringRun) : (rm_M_put).frames + 1 ≤ R.frames ∧ 8 + (3 + 11) + (rm_M_put).locals ≤ R.locals := by subst hR; decide
def fb_M_stringRun_47 (N : Nat) (G : (MS → Int32 → Int64 → Int32 → Option (MS × Unit))) (u : MS) (v1 : Int32) (v3 : Int64) (v5 : Int32) : Option (MS × Unit) := br (decide (v5 < 0)) (bnd (fm_M_put N u v3) (fun u1 _ => some (u1, ()))) (ck (inb v1 (ln 19)) (ck (inb ((u.2.2.1 19 v1.toNatClampNeg) + v5) (ln 18)) (bnd (fm_M_term N u 0 (u.2.2.1 18 ((u.2.2.1 19 v1.toNatClampNeg) + v5).toNatClampNeg)) (fun u2 r2 => bnd (fm_M_pair N u2 r2 v3) (fun u3 r3 => bnd (fm_M_term N u3 7 r3) (fun u4 r4 => G u4 (v1) (r4) ((v5 + (-1)))))))))
set_option maxRecDepth 100000 in
set_option maxHeartbeats 4000000 in
theorem wb_M_stringRun_47 {p : Program} {l : Launch} {e : Env} {R : Room} {s : State} {m : MethodId} {args : Array Value} {below : List Frame} {meth : Method} {c : Code} {D : va_G} {cl : List vw_C} {cB cI cJ cZ cS : ClassId} {A : Nat → Prop} {iM h0 : Nat} {ad : Nat → Nat} (C0 : MCx p s m args meth c b_M_stringRun 6 none D cl cB cI cJ cZ cS iM A) (hR : R = rm_M_stringRun) (N : Nat) (G : (MS → Int32 → Int64 → Int32 → Option (MS × Unit))) (hG : (∀ (u : MS) (v1 : Int32) (v3 : Int64) (v5 : Int32) (x : MS × Unit), G u v1 v3 v5 = some x → ∀ (H : Heap) (locs : List Loc), va_P D cl (wM cB cI cJ cZ cS iM h0 ad u) H → va_D A (wM cB cI cJ cZ cS iM h0 ad u) → va_S A s.heap H locs → ∀ (ls : Array Slot), lv_has ls 6 [(0, .ref h0), (1, .int v1), (3, .long v3), (5, .int v5)] → W p l e R s m args below meth c H locs 0 0 (MQ below (mQv D cl cB cI cJ cZ cS iM h0 ad A x) args s 0 0 A) (F0 m 47 ls []))) : ∀ (u : MS) (v1 : Int32) (v3 : Int64) (v5 : Int32) (x : MS × Unit), fb_M_stringRun_47 N G u v1 v3 v5 = some x → ∀ (H : Heap) (locs : List Loc), va_P D cl (wM cB cI cJ cZ cS iM h0 ad u) H → va_D A (wM cB cI cJ cZ cS iM h0 ad u) → va_S A s.heap H locs → ∀ (ls : Array Slot), lv_has ls 6 [(0, .ref h0), (1, .int v1), (3, .long v3), (5, .int v5)] → W p l e R s m args below meth c H locs 0 0 (MQ below (mQv D cl cB cI cJ cZ cS iM h0 ad A x) args s 0 0 A) (F0 m 47 ls []) := by
  intro u v1 v3 v5 x hf H locs hP hD hS ls hl
  obtain ⟨hx, hb, hr, hml, ht, hown, hM, hK, hA, hlocks⟩ := id C0
  unfold fb_M_stringRun_47 at hf
  refine lv_iload hx hb d_M_stringRun_47 (lv_at hl 3 rfl) ?_
  refine lv_if_lt (tgt := 87) hx hb d_M_stringRun_49 (by decide) (fun hc => ?_) (fun hc => ?_)
  · rw [br_p _ hc] at hf
    refine lv_aload_n hx hb d_M_stringRun_87 rfl (lv_at hl 0 rfl) ?_
    refine lv_lload_n hx hb d_M_stringRun_88 rfl (lv_at hl 2 rfl) ?_
    obtain ⟨u1, r1, hc1, hf⟩ := bnd_some hf
    refine mV_v (As := [.long v3]) (rest := []) C0 hP hD hS (c_M_put N hM hc1) k_M_put hl_M_put hi_M_put hs_M_put hini_M rfl rfl hd_M_put rfl (rm_M_stringRun_M_put hR) hl.1 (Nat.le_of_ble_eq_true rfl) d_M_stringRun_89 rfl ⟨Nat.zero_le _, Nat.zero_le _⟩ (fun H locs hP hD hS => ?_)
    exact mr_v C0 hP hD hS hf d_M_stringRun_92
  · rw [br_n _ hc] at hf
    refine lv_bipush (v := 7) hx hb d_M_stringRun_52 (by decide) ?_
    refine lv_aload_n hx hb d_M_stringRun_54 rfl (lv_at hl 0 rfl) ?_
    refine lv_iconst (v := 0) hx hb d_M_stringRun_55 (by decide) ?_
    refine lv_aload_n hx hb d_M_stringRun_56 rfl (lv_at hl 0 rfl) ?_
    refine ug_R hx hb ht hown hM hK hP 18 (by decide) lk_M_18 (by decide) d_M_stringRun_57 ?_
    refine lv_aload_n hx hb d_M_stringRun_60 rfl (lv_at hl 0 rfl) ?_
    refine ug_R hx hb ht hown hM hK hP 19 (by decide) lk_M_19 (by decide) d_M_stringRun_61 ?_
    refine lv_iload_n hx hb d_M_stringRun_64 rfl (lv_at hl 1 rfl) ?_
    obtain ⟨hi9, hf⟩ := ck_some hf
    refine ul_I hx hb hK hP (by decide) (by decide) hi9 d_M_stringRun_65 ?_
    refine lv_iload hx hb d_M_stringRun_66 (lv_at hl 3 rfl) ?_
    refine lv_iadd hx hb d_M_stringRun_68 ?_
    obtain ⟨hi9, hf⟩ := ck_some hf
    refine ul_B hx hb hK hP (by decide) (by decide) hi9 d_M_stringRun_69 ?_
    obtain ⟨u2, r2, hc2, hf⟩ := bnd_some hf
    refine mS_l (As := [.int 0, .int (u.2.2.1 18 ((u.2.2.1 19 v1.toNatClampNeg) + v5).toNatClampNeg)]) (rest := [.ref h0, .int 7]) C0 hP hD hS (c_M_term N hM hc2) k_M_term hl_M_term ht_M_term hini_M rfl rfl hd_M_term rfl (rm_M_stringRun_M_term hR) hl.1 (Nat.le_of_ble_eq_true rfl) d_M_stringRun_70 rfl ⟨Nat.zero_le _, Nat.zero_le _⟩ (fun H locs hP hD hS => ?_)
    refine lv_lload_n hx hb d_M_stringRun_73 rfl (lv_at hl 2 rfl) ?_
    obtain ⟨u3, r3, hc3, hf⟩ := bnd_some hf
    refine mV_i (As := [.long r2, .long v3]) (rest := [.int 7]) C0 hP hD hS (c_M_pair N hM hc3) k_M_pair hl_M_pair hi_M_pair hs_M_pair hini_M rfl rfl hd_M_pair rfl (rm_M_stringRun_M_pair hR) hl.1 (Nat.le_of_ble_eq_true rfl) d_M_stringRun_74 rfl ⟨Nat.zero_le _, Nat.zero_le _⟩ (fun H locs hP hD hS => ?_)
    obtain ⟨u4, r4, hc4, hf⟩ := bnd_some hf
    refine mS_l (As := [.int 7, .int r3]) (rest := []) C0 hP hD hS (c_M_term N hM hc4) k_M_term hl_M_term ht_M_term hini_M rfl rfl hd_M_term rfl (rm_M_stringRun_M_term hR) hl.1 (Nat.le_of_ble_eq_true rfl) d_M_stringRun_77 rfl ⟨Nat.zero_le _, Nat.zero_le _⟩ (fun H locs hP hD hS => ?_)
    refine lv_lstore_n (lv' := [(3, .long r4), (0, .ref h0), (1, .int v1), (5, .int v5)]) hx hb d_M_stringRun_80 rfl hl (by decide) rfl (fun ls hl => ?_)
    refine lv_iinc (v := (v5 + (-1))) (lv' := [(5, .int (v5 + (-1))), (3, .long r4), (0, .ref h0), (1, .int v1)]) hx hb d_M_stringRun_81 hl (k := 3) rfl rfl (by decide) rfl (fun ls hl => ?_)
    refine lv_goto (tgt := 47) hx hb d_M_stringRun_84 (by decide) ?_
    exact hG _ _ _ _ _ hf H locs hP hD hS ls (lv_sub hl [2, 3, 1, 0] rfl)
def fb_M_stringRun_0 (N : Nat) (G : (MS → Int32 → Int64 → Int32 → Option (MS × Unit))) (u : MS) (v1 : Int32) : Option (MS × Unit) := ck (inb (v1 + 1) (ln 19)) (ck (inb v1 (ln 19)) (lt ((u.2.2.1 19 (v1 + 1).toNatClampNeg) - (u.2.2.1 19 v1.toNatClampNeg)) (fun y5 => bnd (fm_M_wants N u (u.1 133) (2 * y5)) (fun u6 r6 => br (decide (r6 = 0)) (bnd (fm_M_noRoom N u6) (fun u8 _ => some (u8, ()))) (bnd (fm_M_term N u6 6 0) (fun u7 r7 => G u7 (v1) (r7) ((y5 - 1))))))))
set_option maxRecDepth 100000 in
set_option maxHeartbeats 4000000 in
theorem wb_M_stringRun_0 {p : Program} {l : Launch} {e : Env} {R : Room} {s : State} {m : MethodId} {args : Array Value} {below : List Frame} {meth : Method} {c : Code} {D : va_G} {cl : List vw_C} {cB cI cJ cZ cS : ClassId} {A : Nat → Prop} {iM h0 : Nat} {ad : Nat → Nat} (C0 : MCx p s m args meth c b_M_stringRun 6 none D cl cB cI cJ cZ cS iM A) (hR : R = rm_M_stringRun) (N : Nat) (G : (MS → Int32 → Int64 → Int32 → Option (MS × Unit))) (hG : (∀ (u : MS) (v1 : Int32) (v3 : Int64) (v5 : Int32) (x : MS × Unit), G u v1 v3 v5 = some x → ∀ (H : Heap) (locs : List Loc), va_P D cl (wM cB cI cJ cZ cS iM h0 ad u) H → va_D A (wM cB cI cJ cZ cS iM h0 ad u) → va_S A s.heap H locs → ∀ (ls : Array Slot), lv_has ls 6 [(0, .ref h0), (1, .int v1), (3, .long v3), (5, .int v5)] → W p l e R s m args below meth c H locs 0 0 (MQ below (mQv D cl cB cI cJ cZ cS iM h0 ad A x) args s 0 0 A) (F0 m 47 ls []))) : ∀ (u : MS) (v1 : Int32) (x : MS × Unit), fb_M_stringRun_0 N G u v1 = some x → ∀ (H : Heap) (locs : List Loc), va_P D cl (wM cB cI cJ cZ cS iM h0 ad u) H → va_D A (wM cB cI cJ cZ cS iM h0 ad u) → va_S A s.heap H locs → ∀ (ls : Array Slot), lv_has ls 6 [(0, .ref h0), (1, .int v1)] → W p l e R s m args below meth c H locs 0 0 (MQ below (mQv D cl cB cI cJ cZ cS iM h0 ad A x) args s 0 0 A) (F0 m 0 ls []) := by
  intro u v1 x hf H locs hP hD hS ls hl
  obtain ⟨hx, hb, hr, hml, ht, hown, hM, hK, hA, hlocks⟩ := id C0
  unfold fb_M_stringRun_0 at hf
  refine lv_aload_n hx hb d_M_stringRun_0 rfl (lv_at hl 0 rfl) ?_
  refine ug_R hx hb ht hown hM hK hP 19 (by decide) lk_M_19 (by decide) d_M_stringRun_1 ?_
  refine lv_iload_n hx hb d_M_stringRun_4 rfl (lv_at hl 1 rfl) ?_
  refine lv_iconst (v := 1) hx hb d_M_stringRun_5 (by decide) ?_
  refine lv_iadd hx hb d_M_stringRun_6 ?_
  obtain ⟨hi9, hf⟩ := ck_some hf
  refine ul_I hx hb hK hP (by decide) (by decide) hi9 d_M_stringRun_7 ?_
  refine lv_aload_n hx hb d_M_stringRun_8 rfl (lv_at hl 0 rfl) ?_
  refine ug_R hx hb ht hown hM hK hP 19 (by decide) lk_M_19 (by decide) d_M_stringRun_9 ?_
  refine lv_iload_n hx hb d_M_stringRun_12 rfl (lv_at hl 1 rfl) ?_
  obtain ⟨hi9, hf⟩ := ck_some hf
  refine ul_I hx hb hK hP (by decide) (by decide) hi9 d_M_stringRun_13 ?_
  refine lv_isub hx hb d_M_stringRun_14 ?_
  obtain ⟨y5, e5, hf⟩ := lt_some hf
  rw [← e5]
  refine lv_istore_n (lv' := [(2, .int y5), (0, .ref h0), (1, .int v1)]) hx hb d_M_stringRun_15 rfl hl (by decide) rfl (fun ls hl => ?_)
  refine lv_aload_n hx hb d_M_stringRun_16 rfl (lv_at hl 1 rfl) ?_
  refine lv_aload_n hx hb d_M_stringRun_17 rfl (lv_at hl 1 rfl) ?_
  refine ug_I hx hb ht hown hM hK hP 133 (by decide) lk_M_133 (by decide) d_M_stringRun_18 ?_
  refine lv_iconst (v := 2) hx hb d_M_stringRun_21 (by decide) ?_
  refine lv_iload_n hx hb d_M_stringRun_22 rfl (lv_at hl 0 rfl) ?_
  refine lv_imul hx hb d_M_stringRun_23 ?_
  obtain ⟨u6, r6, hc6, hf⟩ := bnd_some hf
  refine mV_i (As := [.int (u.1 133), .int (2 * y5)]) (rest := []) C0 hP hD hS (c_M_wants N hM hc6) k_M_wants hl_M_wants hi_M_wants hs_M_wants hini_M rfl rfl hd_M_wants rfl (rm_M_stringRun_M_wants hR) hl.1 (Nat.le_of_ble_eq_true rfl) d_M_stringRun_24 rfl ⟨Nat.zero_le _, Nat.zero_le _⟩ (fun H locs hP hD hS => ?_)
  refine lv_if_ne (tgt := 35) hx hb d_M_stringRun_27 (by decide) (fun hc => ?_) (fun hc => ?_)
  · rw [br_n _ hc] at hf
    refine lv_bipush (v := 6) hx hb d_M_stringRun_35 (by decide) ?_
    refine lv_iconst (v := 0) hx hb d_M_stringRun_37 (by decide) ?_
    obtain ⟨u7, r7, hc7, hf⟩ := bnd_some hf
    refine mS_l (As := [.int 6, .int 0]) (rest := []) C0 hP hD hS (c_M_term N hM hc7) k_M_term hl_M_term ht_M_term hini_M rfl rfl hd_M_term rfl (rm_M_stringRun_M_term hR) hl.1 (Nat.le_of_ble_eq_true rfl) d_M_stringRun_38 rfl ⟨Nat.zero_le _, Nat.zero_le _⟩ (fun H locs hP hD hS => ?_)
    refine lv_lstore_n (lv' := [(3, .long r7), (2, .int y5), (0, .ref h0), (1, .int v1)]) hx hb d_M_stringRun_41 rfl hl (by decide) rfl (fun ls hl => ?_)
    refine lv_iload_n hx hb d_M_stringRun_42 rfl (lv_at hl 1 rfl) ?_
    refine lv_iconst (v := 1) hx hb d_M_stringRun_43 (by decide) ?_
    refine lv_isub hx hb d_M_stringRun_44 ?_
    refine lv_istore (lv' := [(5, .int (y5 - 1)), (3, .long r7), (2, .int y5), (0, .ref h0), (1, .int v1)]) hx hb d_M_stringRun_45 hl (by decide) rfl (fun ls hl => ?_)
    exact hG _ _ _ _ _ hf H locs hP hD hS ls (lv_sub hl [3, 4, 1, 0] rfl)
  · rw [br_p _ hc] at hf
    refine lv_aload_n hx hb d_M_stringRun_30 rfl (lv_at hl 1 rfl) ?_
    obtain ⟨u8, r8, hc8, hf⟩ := bnd_some hf
    refine mV_v (As := []) (rest := []) C0 hP hD hS (c_M_noRoom N hM hc8) k_M_noRoom hl_M_noRoom hi_M_noRoom hs_M_noRoom hini_M rfl rfl hd_M_noRoom rfl (rm_M_stringRun_M_noRoom hR) hl.1 (Nat.le_of_ble_eq_true rfl) d_M_stringRun_31 rfl ⟨Nat.zero_le _, Nat.zero_le _⟩ (fun H locs hP hD hS => ?_)
    exact mr_v C0 hP hD hS hf d_M_stringRun_34
def gg_M_stringRun (N : Nat) : Nat → ((MS → Int32 → Int64 → Int32 → Option (MS × Unit)))
  | 0 => fun _ _ _ _ => none
  | n + 1 => fb_M_stringRun_47 N (gg_M_stringRun N n)
theorem wg_M_stringRun {p : Program} {l : Launch} {e : Env} {R : Room} {s : State} {m : MethodId} {args : Array Value} {below : List Frame} {meth : Method} {c : Code} {D : va_G} {cl : List vw_C} {cB cI cJ cZ cS : ClassId} {A : Nat → Prop} {iM h0 : Nat} {ad : Nat → Nat} (C0 : MCx p s m args meth c b_M_stringRun 6 none D cl cB cI cJ cZ cS iM A) (hR : R = rm_M_stringRun) (N : Nat) : ∀ n : Nat, (∀ (u : MS) (v1 : Int32) (v3 : Int64) (v5 : Int32) (x : MS × Unit), gg_M_stringRun N n u v1 v3 v5 = some x → ∀ (H : Heap) (locs : List Loc), va_P D cl (wM cB cI cJ cZ cS iM h0 ad u) H → va_D A (wM cB cI cJ cZ cS iM h0 ad u) → va_S A s.heap H locs → ∀ (ls : Array Slot), lv_has ls 6 [(0, .ref h0), (1, .int v1), (3, .long v3), (5, .int v5)] → W p l e R s m args below meth c H locs 0 0 (MQ below (mQv D cl cB cI cJ cZ cS iM h0 ad A x) args s 0 0 A) (F0 m 47 ls []))
  | 0 => (fun u v1 v3 v5 x hf => by cases hf)
  | n + 1 => wb_M_stringRun_47 C0 hR N (gg_M_stringRun N n) (wg_M_stringRun C0 hR N n)
def fm_M_stringRun (N : Nat) (u : MS) (v1 : Int32) : Option (MS × Unit) := fb_M_stringRun_0 N (gg_M_stringRun N N) u v1
set_option maxRecDepth 100000 in
set_option maxHeartbeats 4000000 in
theorem c_M_stringRun (N : Nat) {l : Launch} {D : va_G} {cl : List vw_C} {cB cI cJ cZ cS : ClassId} {iM h0 : Nat} {ad : Nat → Nat} {u : MS} {sz : Nat} {v1 : Int32} {x : MS × Unit} (hM : cl[iM]? = some (R_M, F_M, 171)) (hf : fm_M_stringRun N u v1 = some x) : Met l y_M_stringRun (wd_ws y_M_stringRun b_M_stringRun 6 none) rm_M_stringRun (mPc D cl cB cI cJ cZ cS iM h0 ad u sz [.ref h0, .int v1]) (mQv D cl cB cI cJ cZ cS iM h0 ad (mA cB cI cJ cZ cS iM h0 ad u sz) x) 0 0 (mA cB cI cJ cZ cS iM h0 ad u sz) :=
  mMet (by decide) rfl hM (Nat.le_of_ble_eq_true rfl) (fun p e s m below meth c ls hsz C0 hP hD hS hl => by
    have hR : rm_M_stringRun = rm_M_stringRun := rfl
    exact wb_M_stringRun_0 C0 hR N (gg_M_stringRun N N) (wg_M_stringRun C0 hR N N) u _ x hf s.heap [] hP hD hS ls (lv_sub hl [0, 1] rfl))
abbrev b_M_tupleRun : ByteArray := prog_14_method_139_code
def y_M_tupleRun : MethodName := ⟨R_M, "tupleRun", "(I)V"⟩
def w_M_tupleRun : List Cond := wd_ws y_M_tupleRun b_M_tupleRun 5 none
set_option maxRecDepth 100000 in
theorem k_M_tupleRun : Cond.code y_M_tupleRun b_M_tupleRun 5 none ∈ wd_tbl := wd_of 3193 rfl rfl
theorem d_M_tupleRun_0 : decode b_M_tupleRun 0 = .ok (.iconst 1, 1) := by decide +kernel
theorem d_M_tupleRun_1 : decode b_M_tupleRun 1 = .ok (.iload_n 1, 1) := by decide +kernel
theorem d_M_tupleRun_2 : decode b_M_tupleRun 2 = .ok (.iadd, 1) := by decide +kernel
theorem d_M_tupleRun_3 : decode b_M_tupleRun 3 = .ok (.istore_n 2, 1) := by decide +kernel
theorem d_M_tupleRun_4 : decode b_M_tupleRun 4 = .ok (.iconst 0, 1) := by decide +kernel
theorem d_M_tupleRun_5 : decode b_M_tupleRun 5 = .ok (.istore_n 3, 1) := by decide +kernel
theorem d_M_tupleRun_6 : decode b_M_tupleRun 6 = .ok (.iload_n 3, 1) := by decide +kernel
theorem d_M_tupleRun_7 : decode b_M_tupleRun 7 = .ok (.iload_n 1, 1) := by decide +kernel
theorem d_M_tupleRun_8 : decode b_M_tupleRun 8 = .ok (.if_icmp .ge 25, 3) := by decide +kernel
theorem d_M_tupleRun_11 : decode b_M_tupleRun 11 = .ok (.iload_n 2, 1) := by decide +kernel
theorem d_M_tupleRun_12 : decode b_M_tupleRun 12 = .ok (.aload_n 0, 1) := by decide +kernel
theorem d_M_tupleRun_13 : decode b_M_tupleRun 13 = .ok (.aload_n 0, 1) := by decide +kernel
theorem d_M_tupleRun_14 : decode b_M_tupleRun 14 = .ok (.getfield 669, 3) := by decide +kernel
theorem d_M_tupleRun_17 : decode b_M_tupleRun 17 = .ok (.aload_n 0, 1) := by decide +kernel
theorem d_M_tupleRun_18 : decode b_M_tupleRun 18 = .ok (.iload_n 3, 1) := by decide +kernel
theorem d_M_tupleRun_19 : decode b_M_tupleRun 19 = .ok (.invokevirtual 848, 3) := by decide +kernel
theorem d_M_tupleRun_22 : decode b_M_tupleRun 22 = .ok (.invokevirtual 770, 3) := by decide +kernel
theorem d_M_tupleRun_25 : decode b_M_tupleRun 25 = .ok (.iadd, 1) := by decide +kernel
theorem d_M_tupleRun_26 : decode b_M_tupleRun 26 = .ok (.istore_n 2, 1) := by decide +kernel
theorem d_M_tupleRun_27 : decode b_M_tupleRun 27 = .ok (.iinc 3 1, 3) := by decide +kernel
theorem d_M_tupleRun_30 : decode b_M_tupleRun 30 = .ok (.goto (-24), 3) := by decide +kernel
theorem d_M_tupleRun_33 : decode b_M_tupleRun 33 = .ok (.iload_n 2, 1) := by decide +kernel
theorem d_M_tupleRun_34 : decode b_M_tupleRun 34 = .ok (.sipush 500, 3) := by decide +kernel
theorem d_M_tupleRun_37 : decode b_M_tupleRun 37 = .ok (.if_icmp .le 10, 3) := by decide +kernel
theorem d_M_tupleRun_40 : decode b_M_tupleRun 40 = .ok (.aload_n 0, 1) := by decide +kernel
theorem d_M_tupleRun_41 : decode b_M_tupleRun 41 = .ok (.bipush 11, 2) := by decide +kernel
theorem d_M_tupleRun_43 : decode b_M_tupleRun 43 = .ok (.invokevirtual 861, 3) := by decide +kernel
theorem d_M_tupleRun_46 : decode b_M_tupleRun 46 = .ok (.return_, 1) := by decide +kernel
theorem d_M_tupleRun_47 : decode b_M_tupleRun 47 = .ok (.aload_n 0, 1) := by decide +kernel
theorem d_M_tupleRun_48 : decode b_M_tupleRun 48 = .ok (.aload_n 0, 1) := by decide +kernel
theorem d_M_tupleRun_49 : decode b_M_tupleRun 49 = .ok (.getfield 669, 3) := by decide +kernel
theorem d_M_tupleRun_52 : decode b_M_tupleRun 52 = .ok (.iconst 1, 1) := by decide +kernel
theorem d_M_tupleRun_53 : decode b_M_tupleRun 53 = .ok (.iload_n 1, 1) := by decide +kernel
theorem d_M_tupleRun_54 : decode b_M_tupleRun 54 = .ok (.iadd, 1) := by decide +kernel
theorem d_M_tupleRun_55 : decode b_M_tupleRun 55 = .ok (.invokevirtual 776, 3) := by decide +kernel
theorem d_M_tupleRun_58 : decode b_M_tupleRun 58 = .ok (.ifCond .ne 8, 3) := by decide +kernel
theorem d_M_tupleRun_61 : decode b_M_tupleRun 61 = .ok (.aload_n 0, 1) := by decide +kernel
theorem d_M_tupleRun_62 : decode b_M_tupleRun 62 = .ok (.invokevirtual 805, 3) := by decide +kernel
theorem d_M_tupleRun_65 : decode b_M_tupleRun 65 = .ok (.return_, 1) := by decide +kernel
theorem d_M_tupleRun_66 : decode b_M_tupleRun 66 = .ok (.aload_n 0, 1) := by decide +kernel
theorem d_M_tupleRun_67 : decode b_M_tupleRun 67 = .ok (.getfield 192, 3) := by decide +kernel
theorem d_M_tupleRun_70 : decode b_M_tupleRun 70 = .ok (.aload_n 0, 1) := by decide +kernel
theorem d_M_tupleRun_71 : decode b_M_tupleRun 71 = .ok (.getfield 669, 3) := by decide +kernel
theorem d_M_tupleRun_74 : decode b_M_tupleRun 74 = .ok (.iaload, 1) := by decide +kernel
theorem d_M_tupleRun_75 : decode b_M_tupleRun 75 = .ok (.istore_n 3, 1) := by decide +kernel
theorem d_M_tupleRun_76 : decode b_M_tupleRun 76 = .ok (.aload_n 0, 1) := by decide +kernel
theorem d_M_tupleRun_77 : decode b_M_tupleRun 77 = .ok (.getfield 192, 3) := by decide +kernel
theorem d_M_tupleRun_80 : decode b_M_tupleRun 80 = .ok (.aload_n 0, 1) := by decide +kernel
theorem d_M_tupleRun_81 : decode b_M_tupleRun 81 = .ok (.getfield 669, 3) := by decide +kernel
theorem d_M_tupleRun_84 : decode b_M_tupleRun 84 = .ok (.dup2, 1) := by decide +kernel
theorem d_M_tupleRun_85 : decode b_M_tupleRun 85 = .ok (.iaload, 1) := by decide +kernel
theorem d_M_tupleRun_86 : decode b_M_tupleRun 86 = .ok (.iconst 1, 1) := by decide +kernel
theorem d_M_tupleRun_87 : decode b_M_tupleRun 87 = .ok (.iload_n 1, 1) := by decide +kernel
theorem d_M_tupleRun_88 : decode b_M_tupleRun 88 = .ok (.iadd, 1) := by decide +kernel
theorem d_M_tupleRun_89 : decode b_M_tupleRun 89 = .ok (.iadd, 1) := by decide +kernel
theorem d_M_tupleRun_90 : decode b_M_tupleRun 90 = .ok (.iastore, 1) := by decide +kernel
theorem d_M_tupleRun_91 : decode b_M_tupleRun 91 = .ok (.aload_n 0, 1) := by decide +kernel
theorem d_M_tupleRun_92 : decode b_M_tupleRun 92 = .ok (.getfield 189, 3) := by decide +kernel
theorem d_M_tupleRun_95 : decode b_M_tupleRun 95 = .ok (.aload_n 0, 1) := by decide +kernel
theorem d_M_tupleRun_96 : decode b_M_tupleRun 96 = .ok (.getfield 669, 3) := by decide +kernel
theorem d_M_tupleRun_99 : decode b_M_tupleRun 99 = .ok (.sipush 500, 3) := by decide +kernel
theorem d_M_tupleRun_102 : decode b_M_tupleRun 102 = .ok (.imul, 1) := by decide +kernel
theorem d_M_tupleRun_103 : decode b_M_tupleRun 103 = .ok (.iload_n 3, 1) := by decide +kernel
theorem d_M_tupleRun_104 : decode b_M_tupleRun 104 = .ok (.iadd, 1) := by decide +kernel
theorem d_M_tupleRun_105 : decode b_M_tupleRun 105 = .ok (.iload_n 1, 1) := by decide +kernel
theorem d_M_tupleRun_106 : decode b_M_tupleRun 106 = .ok (.i2l, 1) := by decide +kernel
theorem d_M_tupleRun_107 : decode b_M_tupleRun 107 = .ok (.lastore, 1) := by decide +kernel
theorem d_M_tupleRun_108 : decode b_M_tupleRun 108 = .ok (.iconst 0, 1) := by decide +kernel
theorem d_M_tupleRun_109 : decode b_M_tupleRun 109 = .ok (.istore 4, 2) := by decide +kernel
theorem d_M_tupleRun_111 : decode b_M_tupleRun 111 = .ok (.iload 4, 2) := by decide +kernel
theorem d_M_tupleRun_113 : decode b_M_tupleRun 113 = .ok (.iload_n 1, 1) := by decide +kernel
theorem d_M_tupleRun_114 : decode b_M_tupleRun 114 = .ok (.if_icmp .ge 39, 3) := by decide +kernel
theorem d_M_tupleRun_117 : decode b_M_tupleRun 117 = .ok (.aload_n 0, 1) := by decide +kernel
theorem d_M_tupleRun_118 : decode b_M_tupleRun 118 = .ok (.getfield 189, 3) := by decide +kernel
theorem d_M_tupleRun_121 : decode b_M_tupleRun 121 = .ok (.aload_n 0, 1) := by decide +kernel
theorem d_M_tupleRun_122 : decode b_M_tupleRun 122 = .ok (.getfield 669, 3) := by decide +kernel
theorem d_M_tupleRun_125 : decode b_M_tupleRun 125 = .ok (.sipush 500, 3) := by decide +kernel
theorem d_M_tupleRun_128 : decode b_M_tupleRun 128 = .ok (.imul, 1) := by decide +kernel
theorem d_M_tupleRun_129 : decode b_M_tupleRun 129 = .ok (.iload_n 3, 1) := by decide +kernel
theorem d_M_tupleRun_130 : decode b_M_tupleRun 130 = .ok (.iadd, 1) := by decide +kernel
theorem d_M_tupleRun_131 : decode b_M_tupleRun 131 = .ok (.iconst 1, 1) := by decide +kernel
theorem d_M_tupleRun_132 : decode b_M_tupleRun 132 = .ok (.iadd, 1) := by decide +kernel
theorem d_M_tupleRun_133 : decode b_M_tupleRun 133 = .ok (.iload 4, 2) := by decide +kernel
theorem d_M_tupleRun_135 : decode b_M_tupleRun 135 = .ok (.iadd, 1) := by decide +kernel
theorem d_M_tupleRun_136 : decode b_M_tupleRun 136 = .ok (.aload_n 0, 1) := by decide +kernel
theorem d_M_tupleRun_137 : decode b_M_tupleRun 137 = .ok (.iload_n 1, 1) := by decide +kernel
theorem d_M_tupleRun_138 : decode b_M_tupleRun 138 = .ok (.iconst 1, 1) := by decide +kernel
theorem d_M_tupleRun_139 : decode b_M_tupleRun 139 = .ok (.isub, 1) := by decide +kernel
theorem d_M_tupleRun_140 : decode b_M_tupleRun 140 = .ok (.iload 4, 2) := by decide +kernel
theorem d_M_tupleRun_142 : decode b_M_tupleRun 142 = .ok (.isub, 1) := by decide +kernel
theorem d_M_tupleRun_143 : decode b_M_tupleRun 143 = .ok (.invokevirtual 848, 3) := by decide +kernel
theorem d_M_tupleRun_146 : decode b_M_tupleRun 146 = .ok (.lastore, 1) := by decide +kernel
theorem d_M_tupleRun_147 : decode b_M_tupleRun 147 = .ok (.iinc 4 1, 3) := by decide +kernel
theorem d_M_tupleRun_150 : decode b_M_tupleRun 150 = .ok (.goto (-39), 3) := by decide +kernel
theorem d_M_tupleRun_153 : decode b_M_tupleRun 153 = .ok (.aload_n 0, 1) := by decide +kernel
theorem d_M_tupleRun_154 : decode b_M_tupleRun 154 = .ok (.getfield 202, 3) := by decide +kernel
theorem d_M_tupleRun_157 : decode b_M_tupleRun 157 = .ok (.aload_n 0, 1) := by decide +kernel
theorem d_M_tupleRun_158 : decode b_M_tupleRun 158 = .ok (.getfield 669, 3) := by decide +kernel
theorem d_M_tupleRun_161 : decode b_M_tupleRun 161 = .ok (.dup2, 1) := by decide +kernel
theorem d_M_tupleRun_162 : decode b_M_tupleRun 162 = .ok (.iaload, 1) := by decide +kernel
theorem d_M_tupleRun_163 : decode b_M_tupleRun 163 = .ok (.iload_n 1, 1) := by decide +kernel
theorem d_M_tupleRun_164 : decode b_M_tupleRun 164 = .ok (.isub, 1) := by decide +kernel
theorem d_M_tupleRun_165 : decode b_M_tupleRun 165 = .ok (.iastore, 1) := by decide +kernel
theorem d_M_tupleRun_166 : decode b_M_tupleRun 166 = .ok (.aload_n 0, 1) := by decide +kernel
theorem d_M_tupleRun_167 : decode b_M_tupleRun 167 = .ok (.iconst 5, 1) := by decide +kernel
theorem d_M_tupleRun_168 : decode b_M_tupleRun 168 = .ok (.iload_n 3, 1) := by decide +kernel
theorem d_M_tupleRun_169 : decode b_M_tupleRun 169 = .ok (.invokestatic 315, 3) := by decide +kernel
theorem d_M_tupleRun_172 : decode b_M_tupleRun 172 = .ok (.invokevirtual 801, 3) := by decide +kernel
theorem d_M_tupleRun_175 : decode b_M_tupleRun 175 = .ok (.return_, 1) := by decide +kernel
set_option maxRecDepth 100000 in
theorem hl_M_tupleRun : Cond.methodLink R_M 921 y_M_tupleRun ∈ wd_tbl := wd_of 3190 (by decide +kernel) rfl
set_option maxRecDepth 100000 in
theorem hi_M_tupleRun : Cond.instanceMethod y_M_tupleRun ∈ wd_tbl := wd_of 3192 (by decide +kernel) rfl
set_option maxRecDepth 100000 in
theorem hs_M_tupleRun : Cond.selects R_M y_M_tupleRun y_M_tupleRun ∈ wd_tbl := wd_of 252 (by decide +kernel) rfl
theorem hd_M_tupleRun : y_M_tupleRun.cls = R_M ∧ y_M_tupleRun.cls ≠ "java/lang/invoke/MethodHandle" ∧ y_M_tupleRun.cls ≠ "java/lang/invoke/VarHandle" ∧ (parseMethodDescriptor y_M_tupleRun.desc).map (fun d => d.parameters.length) = some 1 := by decide +kernel
def rm_M_tupleRun : Room := { frames := 27, cells := 0, slots := 0, locals := 704 }
theorem rm_M_tupleRun_M_top {R : Room} (hR : R = rm_M_tupleRun) : (rm_M_top).frames + 1 ≤ R.frames ∧ 8 + (2 + 11) + (rm_M_top).locals ≤ R.locals := by subst hR; decide
theorem rm_M_tupleRun_M_copySize {R : Room} (hR : R = rm_M_tupleRun) : (rm_M_copySize).frames + 1 ≤ R.frames ∧ 8 + (10 + 11) + (rm_M_copySize).locals ≤ R.locals := by subst hR; decide
theorem rm_M_tupleRun_M_error {R : Room} (hR : R = rm_M_tupleRun) : (rm_M_error).frames + 1 ≤ R.frames ∧ 8 + (2 + 11) + (rm_M_error).locals ≤ R.locals := by subst hR; decide
theorem rm_M_tupleRun_M_wants {R : Room} (hR : R = rm_M_tupleRun) : (rm_M_wants).frames + 1 ≤ R.frames ∧ 8 + (3 + 11) + (rm_M_wants).locals ≤ R.locals := by subst hR; decide
theorem rm_M_tupleRun_M_noRoom {R : Room} (hR : R = rm_M_tupleRun) : (rm_M_noRoom).frames + 1 ≤ R.frames ∧ 8 + (1 + 11) + (rm_M_noRoom).locals ≤ R.locals := by subst hR; decide
theorem rm_M_tupleRun_M_term {R : Room} (hR : R = rm_M_tupleRun) : (rm_M_term).frames + 1 ≤ R.frames ∧ 8 + (2 + 11) + (rm_M_term).locals ≤ R.locals := by subst hR; decide
theorem rm_M_tupleRun_M_put {R : Room} (hR : R = rm_M_tupleRun) : (rm_M_put).frames + 1 ≤ R.frames ∧ 8 + (3 + 11) + (rm_M_put).locals ≤ R.locals := by subst hR; decide
def fb_M_tupleRun_111 (N : Nat) (G : (MS → Int32 → Int32 → Int32 → Option (MS × Unit)) × (MS → Int32 → Int32 → Int32 → Option (MS × Unit))) (u : MS) (v1 : Int32) (v3 : Int32) (v4 : Int32) : Option (MS × Unit) := br (decide (v1 ≤ v4)) (ck (inb (u.1 133) (ln 92)) (ck (inb (u.1 133) (ln 92)) (lt (upA u 92 (upd (u.2.2.1 92) (u.1 133).toNatClampNeg ((u.2.2.1 92 (u.1 133).toNatClampNeg) - v1))) (fun w1 => bnd (fm_M_term N w1 5 v3) (fun u2 r2 => bnd (fm_M_put N u2 r2) (fun u3 _ => some (u3, ()))))))) (bnd (fm_M_top N u ((v1 - 1) - v4)) (fun u4 r4 => ck (inb (((((u.1 133) * 500) + v3) + 1) + v4) (ln 88)) (lt (upJ u4 88 (vp_updL (u4.2.2.2 88) (((((u.1 133) * 500) + v3) + 1) + v4).toNatClampNeg r4)) (fun w5 => G.2 w5 (v1) (v3) ((v4 + 1))))))
set_option maxRecDepth 100000 in
set_option maxHeartbeats 4000000 in
theorem wb_M_tupleRun_111 {p : Program} {l : Launch} {e : Env} {R : Room} {s : State} {m : MethodId} {args : Array Value} {below : List Frame} {meth : Method} {c : Code} {D : va_G} {cl : List vw_C} {cB cI cJ cZ cS : ClassId} {A : Nat → Prop} {iM h0 : Nat} {ad : Nat → Nat} (C0 : MCx p s m args meth c b_M_tupleRun 5 none D cl cB cI cJ cZ cS iM A) (hR : R = rm_M_tupleRun) (N : Nat) (G : (MS → Int32 → Int32 → Int32 → Option (MS × Unit)) × (MS → Int32 → Int32 → Int32 → Option (MS × Unit))) (hG : (∀ (u : MS) (v1 : Int32) (v2 : Int32) (v3 : Int32) (x : MS × Unit), G.1 u v1 v2 v3 = some x → ∀ (H : Heap) (locs : List Loc), va_P D cl (wM cB cI cJ cZ cS iM h0 ad u) H → va_D A (wM cB cI cJ cZ cS iM h0 ad u) → va_S A s.heap H locs → ∀ (ls : Array Slot), lv_has ls 5 [(0, .ref h0), (1, .int v1), (2, .int v2), (3, .int v3)] → W p l e R s m args below meth c H locs 0 0 (MQ below (mQv D cl cB cI cJ cZ cS iM h0 ad A x) args s 0 0 A) (F0 m 6 ls [])) ∧ (∀ (u : MS) (v1 : Int32) (v3 : Int32) (v4 : Int32) (x : MS × Unit), G.2 u v1 v3 v4 = some x → ∀ (H : Heap) (locs : List Loc), va_P D cl (wM cB cI cJ cZ cS iM h0 ad u) H → va_D A (wM cB cI cJ cZ cS iM h0 ad u) → va_S A s.heap H locs → ∀ (ls : Array Slot), lv_has ls 5 [(0, .ref h0), (1, .int v1), (3, .int v3), (4, .int v4)] → W p l e R s m args below meth c H locs 0 0 (MQ below (mQv D cl cB cI cJ cZ cS iM h0 ad A x) args s 0 0 A) (F0 m 111 ls []))) : ∀ (u : MS) (v1 : Int32) (v3 : Int32) (v4 : Int32) (x : MS × Unit), fb_M_tupleRun_111 N G u v1 v3 v4 = some x → ∀ (H : Heap) (locs : List Loc), va_P D cl (wM cB cI cJ cZ cS iM h0 ad u) H → va_D A (wM cB cI cJ cZ cS iM h0 ad u) → va_S A s.heap H locs → ∀ (ls : Array Slot), lv_has ls 5 [(0, .ref h0), (1, .int v1), (3, .int v3), (4, .int v4)] → W p l e R s m args below meth c H locs 0 0 (MQ below (mQv D cl cB cI cJ cZ cS iM h0 ad A x) args s 0 0 A) (F0 m 111 ls []) := by
  intro u v1 v3 v4 x hf H locs hP hD hS ls hl
  obtain ⟨hx, hb, hr, hml, ht, hown, hM, hK, hA, hlocks⟩ := id C0
  unfold fb_M_tupleRun_111 at hf
  refine lv_iload hx hb d_M_tupleRun_111 (lv_at hl 3 rfl) ?_
  refine lv_iload_n hx hb d_M_tupleRun_113 rfl (lv_at hl 1 rfl) ?_
  refine lv_icmp_ge (tgt := 153) hx hb d_M_tupleRun_114 (by decide) (fun hc => ?_) (fun hc => ?_)
  · rw [br_p _ hc] at hf
    refine lv_aload_n hx hb d_M_tupleRun_153 rfl (lv_at hl 0 rfl) ?_
    refine ug_R hx hb ht hown hM hK hP 92 (by decide) lk_M_92 (by decide) d_M_tupleRun_154 ?_
    refine lv_aload_n hx hb d_M_tupleRun_157 rfl (lv_at hl 0 rfl) ?_
    refine ug_I hx hb ht hown hM hK hP 133 (by decide) lk_M_133 (by decide) d_M_tupleRun_158 ?_
    refine lv_dup2_11 hx hb d_M_tupleRun_161 rfl rfl ?_
    obtain ⟨hi9, hf⟩ := ck_some hf
    refine ul_I hx hb hK hP (by decide) (by decide) hi9 d_M_tupleRun_162 ?_
    refine lv_iload_n hx hb d_M_tupleRun_163 rfl (lv_at hl 1 rfl) ?_
    refine lv_isub hx hb d_M_tupleRun_164 ?_
    obtain ⟨hi9, hf⟩ := ck_some hf
    refine us_I hx hb hK hP hD hS (by decide) (by decide) hi9 d_M_tupleRun_165 (fun H locs hP hD hS => ?_)
    obtain ⟨w1, e1, hf⟩ := lt_some hf
    rw [← e1] at hP hD
    refine lv_aload_n hx hb d_M_tupleRun_166 rfl (lv_at hl 0 rfl) ?_
    refine lv_iconst (v := 5) hx hb d_M_tupleRun_167 (by decide) ?_
    refine lv_iload_n hx hb d_M_tupleRun_168 rfl (lv_at hl 2 rfl) ?_
    obtain ⟨u2, r2, hc2, hf⟩ := bnd_some hf
    refine mS_l (As := [.int 5, .int v3]) (rest := [.ref h0]) C0 hP hD hS (c_M_term N hM hc2) k_M_term hl_M_term ht_M_term hini_M rfl rfl hd_M_term rfl (rm_M_tupleRun_M_term hR) hl.1 (Nat.le_of_ble_eq_true rfl) d_M_tupleRun_169 rfl ⟨Nat.zero_le _, Nat.zero_le _⟩ (fun H locs hP hD hS => ?_)
    obtain ⟨u3, r3, hc3, hf⟩ := bnd_some hf
    refine mV_v (As := [.long r2]) (rest := []) C0 hP hD hS (c_M_put N hM hc3) k_M_put hl_M_put hi_M_put hs_M_put hini_M rfl rfl hd_M_put rfl (rm_M_tupleRun_M_put hR) hl.1 (Nat.le_of_ble_eq_true rfl) d_M_tupleRun_172 rfl ⟨Nat.zero_le _, Nat.zero_le _⟩ (fun H locs hP hD hS => ?_)
    exact mr_v C0 hP hD hS hf d_M_tupleRun_175
  · rw [br_n _ hc] at hf
    refine lv_aload_n hx hb d_M_tupleRun_117 rfl (lv_at hl 0 rfl) ?_
    refine ug_R hx hb ht hown hM hK hP 88 (by decide) lk_M_88 (by decide) d_M_tupleRun_118 ?_
    refine lv_aload_n hx hb d_M_tupleRun_121 rfl (lv_at hl 0 rfl) ?_
    refine ug_I hx hb ht hown hM hK hP 133 (by decide) lk_M_133 (by decide) d_M_tupleRun_122 ?_
    refine lv_sipush (v := 500) hx hb d_M_tupleRun_125 (by decide) ?_
    refine lv_imul hx hb d_M_tupleRun_128 ?_
    refine lv_iload_n hx hb d_M_tupleRun_129 rfl (lv_at hl 2 rfl) ?_
    refine lv_iadd hx hb d_M_tupleRun_130 ?_
    refine lv_iconst (v := 1) hx hb d_M_tupleRun_131 (by decide) ?_
    refine lv_iadd hx hb d_M_tupleRun_132 ?_
    refine lv_iload hx hb d_M_tupleRun_133 (lv_at hl 3 rfl) ?_
    refine lv_iadd hx hb d_M_tupleRun_135 ?_
    refine lv_aload_n hx hb d_M_tupleRun_136 rfl (lv_at hl 0 rfl) ?_
    refine lv_iload_n hx hb d_M_tupleRun_137 rfl (lv_at hl 1 rfl) ?_
    refine lv_iconst (v := 1) hx hb d_M_tupleRun_138 (by decide) ?_
    refine lv_isub hx hb d_M_tupleRun_139 ?_
    refine lv_iload hx hb d_M_tupleRun_140 (lv_at hl 3 rfl) ?_
    refine lv_isub hx hb d_M_tupleRun_142 ?_
    obtain ⟨u4, r4, hc4, hf⟩ := bnd_some hf
    refine mV_l (As := [.int ((v1 - 1) - v4)]) (rest := [.int (((((u.1 133) * 500) + v3) + 1) + v4), .ref (ad 88)]) C0 hP hD hS (c_M_top N hM hc4) k_M_top hl_M_top hi_M_top hs_M_top hini_M rfl rfl hd_M_top rfl (rm_M_tupleRun_M_top hR) hl.1 (Nat.le_of_ble_eq_true rfl) d_M_tupleRun_143 rfl ⟨Nat.zero_le _, Nat.zero_le _⟩ (fun H locs hP hD hS => ?_)
    obtain ⟨hi9, hf⟩ := ck_some hf
    refine us_J hx hb hK hP hD hS (by decide) (by decide) hi9 d_M_tupleRun_146 (fun H locs hP hD hS => ?_)
    obtain ⟨w5, e5, hf⟩ := lt_some hf
    rw [← e5] at hP hD
    refine lv_iinc (v := (v4 + 1)) (lv' := [(4, .int (v4 + 1)), (0, .ref h0), (1, .int v1), (3, .int v3)]) hx hb d_M_tupleRun_147 hl (k := 3) rfl rfl (by decide) rfl (fun ls hl => ?_)
    refine lv_goto (tgt := 111) hx hb d_M_tupleRun_150 (by decide) ?_
    exact hG.2 _ _ _ _ _ hf H locs hP hD hS ls (lv_sub hl [1, 2, 3, 0] rfl)
def fb_M_tupleRun_6 (N : Nat) (G : (MS → Int32 → Int32 → Int32 → Option (MS × Unit)) × (MS → Int32 → Int32 → Int32 → Option (MS × Unit))) (u : MS) (v1 : Int32) (v2 : Int32) (v3 : Int32) : Option (MS × Unit) := br (decide (v1 ≤ v3)) (br (decide (v2 ≤ 500)) (bnd (fm_M_wants N u (u.1 133) (1 + v1)) (fun u6 r6 => br (decide (r6 = 0)) (bnd (fm_M_noRoom N u6) (fun u10 _ => some (u10, ()))) (ck (inb (u6.1 133) (ln 89)) (lt (u6.2.2.1 89 (u6.1 133).toNatClampNeg) (fun y7 => ck (inb (u6.1 133) (ln 89)) (ck (inb (u6.1 133) (ln 89)) (lt (upA u6 89 (upd (u6.2.2.1 89) (u6.1 133).toNatClampNeg ((u6.2.2.1 89 (u6.1 133).toNatClampNeg) + (1 + v1)))) (fun w8 => ck (inb (((w8.1 133) * 500) + y7) (ln 88)) (lt (upJ w8 88 (vp_updL (w8.2.2.2 88) (((w8.1 133) * 500) + y7).toNatClampNeg (v1.toInt64))) (fun w9 => G.2 w9 (v1) (y7) (0))))))))))) (bnd (fr_M_error N u 11) (fun u11 _ => some (u11, ())))) (bnd (fm_M_top N u v3) (fun u12 r12 => bnd (fm_M_copySize N u12 (u.1 133) r12) (fun u13 r13 => G.1 u13 (v1) ((v2 + r13)) ((v3 + 1)))))
set_option maxRecDepth 100000 in
set_option maxHeartbeats 4000000 in
theorem wb_M_tupleRun_6 {p : Program} {l : Launch} {e : Env} {R : Room} {s : State} {m : MethodId} {args : Array Value} {below : List Frame} {meth : Method} {c : Code} {D : va_G} {cl : List vw_C} {cB cI cJ cZ cS : ClassId} {A : Nat → Prop} {iM h0 : Nat} {ad : Nat → Nat} (C0 : MCx p s m args meth c b_M_tupleRun 5 none D cl cB cI cJ cZ cS iM A) (hR : R = rm_M_tupleRun) (N : Nat) (G : (MS → Int32 → Int32 → Int32 → Option (MS × Unit)) × (MS → Int32 → Int32 → Int32 → Option (MS × Unit))) (hG : (∀ (u : MS) (v1 : Int32) (v2 : Int32) (v3 : Int32) (x : MS × Unit), G.1 u v1 v2 v3 = some x → ∀ (H : Heap) (locs : List Loc), va_P D cl (wM cB cI cJ cZ cS iM h0 ad u) H → va_D A (wM cB cI cJ cZ cS iM h0 ad u) → va_S A s.heap H locs → ∀ (ls : Array Slot), lv_has ls 5 [(0, .ref h0), (1, .int v1), (2, .int v2), (3, .int v3)] → W p l e R s m args below meth c H locs 0 0 (MQ below (mQv D cl cB cI cJ cZ cS iM h0 ad A x) args s 0 0 A) (F0 m 6 ls [])) ∧ (∀ (u : MS) (v1 : Int32) (v3 : Int32) (v4 : Int32) (x : MS × Unit), G.2 u v1 v3 v4 = some x → ∀ (H : Heap) (locs : List Loc), va_P D cl (wM cB cI cJ cZ cS iM h0 ad u) H → va_D A (wM cB cI cJ cZ cS iM h0 ad u) → va_S A s.heap H locs → ∀ (ls : Array Slot), lv_has ls 5 [(0, .ref h0), (1, .int v1), (3, .int v3), (4, .int v4)] → W p l e R s m args below meth c H locs 0 0 (MQ below (mQv D cl cB cI cJ cZ cS iM h0 ad A x) args s 0 0 A) (F0 m 111 ls []))) : ∀ (u : MS) (v1 : Int32) (v2 : Int32) (v3 : Int32) (x : MS × Unit), fb_M_tupleRun_6 N G u v1 v2 v3 = some x → ∀ (H : Heap) (locs : List Loc), va_P D cl (wM cB cI cJ cZ cS iM h0 ad u) H → va_D A (wM cB cI cJ cZ cS iM h0 ad u) → va_S A s.heap H locs → ∀ (ls : Array Slot), lv_has ls 5 [(0, .ref h0), (1, .int v1), (2, .int v2), (3, .int v3)] → W p l e R s m args below meth c H locs 0 0 (MQ below (mQv D cl cB cI cJ cZ cS iM h0 ad A x) args s 0 0 A) (F0 m 6 ls []) := by
  intro u v1 v2 v3 x hf H locs hP hD hS ls hl
  obtain ⟨hx, hb, hr, hml, ht, hown, hM, hK, hA, hlocks⟩ := id C0
  unfold fb_M_tupleRun_6 at hf
  refine lv_iload_n hx hb d_M_tupleRun_6 rfl (lv_at hl 3 rfl) ?_
  refine lv_iload_n hx hb d_M_tupleRun_7 rfl (lv_at hl 1 rfl) ?_
  refine lv_icmp_ge (tgt := 33) hx hb d_M_tupleRun_8 (by decide) (fun hc => ?_) (fun hc => ?_)
  · rw [br_p _ hc] at hf
    refine lv_iload_n hx hb d_M_tupleRun_33 rfl (lv_at hl 2 rfl) ?_
    refine lv_sipush (v := 500) hx hb d_M_tupleRun_34 (by decide) ?_
    refine lv_icmp_le (tgt := 47) hx hb d_M_tupleRun_37 (by decide) (fun hc => ?_) (fun hc => ?_)
    · rw [br_p _ hc] at hf
      refine lv_aload_n hx hb d_M_tupleRun_47 rfl (lv_at hl 0 rfl) ?_
      refine lv_aload_n hx hb d_M_tupleRun_48 rfl (lv_at hl 0 rfl) ?_
      refine ug_I hx hb ht hown hM hK hP 133 (by decide) lk_M_133 (by decide) d_M_tupleRun_49 ?_
      refine lv_iconst (v := 1) hx hb d_M_tupleRun_52 (by decide) ?_
      refine lv_iload_n hx hb d_M_tupleRun_53 rfl (lv_at hl 1 rfl) ?_
      refine lv_iadd hx hb d_M_tupleRun_54 ?_
      obtain ⟨u6, r6, hc6, hf⟩ := bnd_some hf
      refine mV_i (As := [.int (u.1 133), .int (1 + v1)]) (rest := []) C0 hP hD hS (c_M_wants N hM hc6) k_M_wants hl_M_wants hi_M_wants hs_M_wants hini_M rfl rfl hd_M_wants rfl (rm_M_tupleRun_M_wants hR) hl.1 (Nat.le_of_ble_eq_true rfl) d_M_tupleRun_55 rfl ⟨Nat.zero_le _, Nat.zero_le _⟩ (fun H locs hP hD hS => ?_)
      refine lv_if_ne (tgt := 66) hx hb d_M_tupleRun_58 (by decide) (fun hc => ?_) (fun hc => ?_)
      · rw [br_n _ hc] at hf
        refine lv_aload_n hx hb d_M_tupleRun_66 rfl (lv_at hl 0 rfl) ?_
        refine ug_R hx hb ht hown hM hK hP 89 (by decide) lk_M_89 (by decide) d_M_tupleRun_67 ?_
        refine lv_aload_n hx hb d_M_tupleRun_70 rfl (lv_at hl 0 rfl) ?_
        refine ug_I hx hb ht hown hM hK hP 133 (by decide) lk_M_133 (by decide) d_M_tupleRun_71 ?_
        obtain ⟨hi9, hf⟩ := ck_some hf
        refine ul_I hx hb hK hP (by decide) (by decide) hi9 d_M_tupleRun_74 ?_
        obtain ⟨y7, e7, hf⟩ := lt_some hf
        rw [← e7]
        refine lv_istore_n (lv' := [(3, .int y7), (0, .ref h0), (1, .int v1), (2, .int v2)]) hx hb d_M_tupleRun_75 rfl hl (by decide) rfl (fun ls hl => ?_)
        refine lv_aload_n hx hb d_M_tupleRun_76 rfl (lv_at hl 1 rfl) ?_
        refine ug_R hx hb ht hown hM hK hP 89 (by decide) lk_M_89 (by decide) d_M_tupleRun_77 ?_
        refine lv_aload_n hx hb d_M_tupleRun_80 rfl (lv_at hl 1 rfl) ?_
        refine ug_I hx hb ht hown hM hK hP 133 (by decide) lk_M_133 (by decide) d_M_tupleRun_81 ?_
        refine lv_dup2_11 hx hb d_M_tupleRun_84 rfl rfl ?_
        obtain ⟨hi9, hf⟩ := ck_some hf
        refine ul_I hx hb hK hP (by decide) (by decide) hi9 d_M_tupleRun_85 ?_
        refine lv_iconst (v := 1) hx hb d_M_tupleRun_86 (by decide) ?_
        refine lv_iload_n hx hb d_M_tupleRun_87 rfl (lv_at hl 2 rfl) ?_
        refine lv_iadd hx hb d_M_tupleRun_88 ?_
        refine lv_iadd hx hb d_M_tupleRun_89 ?_
        obtain ⟨hi9, hf⟩ := ck_some hf
        refine us_I hx hb hK hP hD hS (by decide) (by decide) hi9 d_M_tupleRun_90 (fun H locs hP hD hS => ?_)
        obtain ⟨w8, e8, hf⟩ := lt_some hf
        rw [← e8] at hP hD
        refine lv_aload_n hx hb d_M_tupleRun_91 rfl (lv_at hl 1 rfl) ?_
        refine ug_R hx hb ht hown hM hK hP 88 (by decide) lk_M_88 (by decide) d_M_tupleRun_92 ?_
        refine lv_aload_n hx hb d_M_tupleRun_95 rfl (lv_at hl 1 rfl) ?_
        refine ug_I hx hb ht hown hM hK hP 133 (by decide) lk_M_133 (by decide) d_M_tupleRun_96 ?_
        refine lv_sipush (v := 500) hx hb d_M_tupleRun_99 (by decide) ?_
        refine lv_imul hx hb d_M_tupleRun_102 ?_
        refine lv_iload_n hx hb d_M_tupleRun_103 rfl (lv_at hl 0 rfl) ?_
        refine lv_iadd hx hb d_M_tupleRun_104 ?_
        refine lv_iload_n hx hb d_M_tupleRun_105 rfl (lv_at hl 2 rfl) ?_
        refine lv_i2l hx hb d_M_tupleRun_106 rfl ?_
        obtain ⟨hi9, hf⟩ := ck_some hf
        refine us_J hx hb hK hP hD hS (by decide) (by decide) hi9 d_M_tupleRun_107 (fun H locs hP hD hS => ?_)
        obtain ⟨w9, e9, hf⟩ := lt_some hf
        rw [← e9] at hP hD
        refine lv_iconst (v := 0) hx hb d_M_tupleRun_108 (by decide) ?_
        refine lv_istore (lv' := [(4, .int 0), (3, .int y7), (0, .ref h0), (1, .int v1), (2, .int v2)]) hx hb d_M_tupleRun_109 hl (by decide) rfl (fun ls hl => ?_)
        exact hG.2 _ _ _ _ _ hf H locs hP hD hS ls (lv_sub hl [2, 3, 1, 0] rfl)
      · rw [br_p _ hc] at hf
        refine lv_aload_n hx hb d_M_tupleRun_61 rfl (lv_at hl 0 rfl) ?_
        obtain ⟨u10, r10, hc10, hf⟩ := bnd_some hf
        refine mV_v (As := []) (rest := []) C0 hP hD hS (c_M_noRoom N hM hc10) k_M_noRoom hl_M_noRoom hi_M_noRoom hs_M_noRoom hini_M rfl rfl hd_M_noRoom rfl (rm_M_tupleRun_M_noRoom hR) hl.1 (Nat.le_of_ble_eq_true rfl) d_M_tupleRun_62 rfl ⟨Nat.zero_le _, Nat.zero_le _⟩ (fun H locs hP hD hS => ?_)
        exact mr_v C0 hP hD hS hf d_M_tupleRun_65
    · rw [br_n _ hc] at hf
      refine lv_aload_n hx hb d_M_tupleRun_40 rfl (lv_at hl 0 rfl) ?_
      refine lv_bipush (v := 11) hx hb d_M_tupleRun_41 (by decide) ?_
      obtain ⟨u11, r11, hc11, hf⟩ := bnd_some hf
      refine mV_v (As := [.int 11]) (rest := []) C0 hP hD hS (c_M_error N hM hc11) k_M_error hl_M_error hi_M_error hs_M_error hini_M rfl rfl hd_M_error rfl (rm_M_tupleRun_M_error hR) hl.1 (Nat.le_of_ble_eq_true rfl) d_M_tupleRun_43 rfl ⟨Nat.zero_le _, Nat.zero_le _⟩ (fun H locs hP hD hS => ?_)
      exact mr_v C0 hP hD hS hf d_M_tupleRun_46
  · rw [br_n _ hc] at hf
    refine lv_iload_n hx hb d_M_tupleRun_11 rfl (lv_at hl 2 rfl) ?_
    refine lv_aload_n hx hb d_M_tupleRun_12 rfl (lv_at hl 0 rfl) ?_
    refine lv_aload_n hx hb d_M_tupleRun_13 rfl (lv_at hl 0 rfl) ?_
    refine ug_I hx hb ht hown hM hK hP 133 (by decide) lk_M_133 (by decide) d_M_tupleRun_14 ?_
    refine lv_aload_n hx hb d_M_tupleRun_17 rfl (lv_at hl 0 rfl) ?_
    refine lv_iload_n hx hb d_M_tupleRun_18 rfl (lv_at hl 3 rfl) ?_
    obtain ⟨u12, r12, hc12, hf⟩ := bnd_some hf
    refine mV_l (As := [.int v3]) (rest := [.int (u.1 133), .ref h0, .int v2]) C0 hP hD hS (c_M_top N hM hc12) k_M_top hl_M_top hi_M_top hs_M_top hini_M rfl rfl hd_M_top rfl (rm_M_tupleRun_M_top hR) hl.1 (Nat.le_of_ble_eq_true rfl) d_M_tupleRun_19 rfl ⟨Nat.zero_le _, Nat.zero_le _⟩ (fun H locs hP hD hS => ?_)
    obtain ⟨u13, r13, hc13, hf⟩ := bnd_some hf
    refine mV_i (As := [.int (u.1 133), .long r12]) (rest := [.int v2]) C0 hP hD hS (c_M_copySize N hM hc13) k_M_copySize hl_M_copySize hi_M_copySize hs_M_copySize hini_M rfl rfl hd_M_copySize rfl (rm_M_tupleRun_M_copySize hR) hl.1 (Nat.le_of_ble_eq_true rfl) d_M_tupleRun_22 rfl ⟨Nat.zero_le _, Nat.zero_le _⟩ (fun H locs hP hD hS => ?_)
    refine lv_iadd hx hb d_M_tupleRun_25 ?_
    refine lv_istore_n (lv' := [(2, .int (v2 + r13)), (0, .ref h0), (1, .int v1), (3, .int v3)]) hx hb d_M_tupleRun_26 rfl hl (by decide) rfl (fun ls hl => ?_)
    refine lv_iinc (v := (v3 + 1)) (lv' := [(3, .int (v3 + 1)), (2, .int (v2 + r13)), (0, .ref h0), (1, .int v1)]) hx hb d_M_tupleRun_27 hl (k := 3) rfl rfl (by decide) rfl (fun ls hl => ?_)
    refine lv_goto (tgt := 6) hx hb d_M_tupleRun_30 (by decide) ?_
    exact hG.1 _ _ _ _ _ hf H locs hP hD hS ls (lv_sub hl [2, 3, 1, 0] rfl)
def fb_M_tupleRun_0 (N : Nat) (G : (MS → Int32 → Int32 → Int32 → Option (MS × Unit)) × (MS → Int32 → Int32 → Int32 → Option (MS × Unit))) (u : MS) (v1 : Int32) : Option (MS × Unit) := G.1 u (v1) ((1 + v1)) (0)
set_option maxRecDepth 100000 in
set_option maxHeartbeats 4000000 in
theorem wb_M_tupleRun_0 {p : Program} {l : Launch} {e : Env} {R : Room} {s : State} {m : MethodId} {args : Array Value} {below : List Frame} {meth : Method} {c : Code} {D : va_G} {cl : List vw_C} {cB cI cJ cZ cS : ClassId} {A : Nat → Prop} {iM h0 : Nat} {ad : Nat → Nat} (C0 : MCx p s m args meth c b_M_tupleRun 5 none D cl cB cI cJ cZ cS iM A) (hR : R = rm_M_tupleRun) (N : Nat) (G : (MS → Int32 → Int32 → Int32 → Option (MS × Unit)) × (MS → Int32 → Int32 → Int32 → Option (MS × Unit))) (hG : (∀ (u : MS) (v1 : Int32) (v2 : Int32) (v3 : Int32) (x : MS × Unit), G.1 u v1 v2 v3 = some x → ∀ (H : Heap) (locs : List Loc), va_P D cl (wM cB cI cJ cZ cS iM h0 ad u) H → va_D A (wM cB cI cJ cZ cS iM h0 ad u) → va_S A s.heap H locs → ∀ (ls : Array Slot), lv_has ls 5 [(0, .ref h0), (1, .int v1), (2, .int v2), (3, .int v3)] → W p l e R s m args below meth c H locs 0 0 (MQ below (mQv D cl cB cI cJ cZ cS iM h0 ad A x) args s 0 0 A) (F0 m 6 ls [])) ∧ (∀ (u : MS) (v1 : Int32) (v3 : Int32) (v4 : Int32) (x : MS × Unit), G.2 u v1 v3 v4 = some x → ∀ (H : Heap) (locs : List Loc), va_P D cl (wM cB cI cJ cZ cS iM h0 ad u) H → va_D A (wM cB cI cJ cZ cS iM h0 ad u) → va_S A s.heap H locs → ∀ (ls : Array Slot), lv_has ls 5 [(0, .ref h0), (1, .int v1), (3, .int v3), (4, .int v4)] → W p l e R s m args below meth c H locs 0 0 (MQ below (mQv D cl cB cI cJ cZ cS iM h0 ad A x) args s 0 0 A) (F0 m 111 ls []))) : ∀ (u : MS) (v1 : Int32) (x : MS × Unit), fb_M_tupleRun_0 N G u v1 = some x → ∀ (H : Heap) (locs : List Loc), va_P D cl (wM cB cI cJ cZ cS iM h0 ad u) H → va_D A (wM cB cI cJ cZ cS iM h0 ad u) → va_S A s.heap H locs → ∀ (ls : Array Slot), lv_has ls 5 [(0, .ref h0), (1, .int v1)] → W p l e R s m args below meth c H locs 0 0 (MQ below (mQv D cl cB cI cJ cZ cS iM h0 ad A x) args s 0 0 A) (F0 m 0 ls []) := by
  intro u v1 x hf H locs hP hD hS ls hl
  obtain ⟨hx, hb, hr, hml, ht, hown, hM, hK, hA, hlocks⟩ := id C0
  unfold fb_M_tupleRun_0 at hf
  refine lv_iconst (v := 1) hx hb d_M_tupleRun_0 (by decide) ?_
  refine lv_iload_n hx hb d_M_tupleRun_1 rfl (lv_at hl 1 rfl) ?_
  refine lv_iadd hx hb d_M_tupleRun_2 ?_
  refine lv_istore_n (lv' := [(2, .int (1 + v1)), (0, .ref h0), (1, .int v1)]) hx hb d_M_tupleRun_3 rfl hl (by decide) rfl (fun ls hl => ?_)
  refine lv_iconst (v := 0) hx hb d_M_tupleRun_4 (by decide) ?_
  refine lv_istore_n (lv' := [(3, .int 0), (2, .int (1 + v1)), (0, .ref h0), (1, .int v1)]) hx hb d_M_tupleRun_5 rfl hl (by decide) rfl (fun ls hl => ?_)
  exact hG.1 _ _ _ _ _ hf H locs hP hD hS ls (lv_sub hl [2, 3, 1, 0] rfl)
def gg_M_tupleRun (N : Nat) : Nat → ((MS → Int32 → Int32 → Int32 → Option (MS × Unit)) × (MS → Int32 → Int32 → Int32 → Option (MS × Unit)))
  | 0 => (fun _ _ _ _ => none, fun _ _ _ _ => none)
  | n + 1 => (fb_M_tupleRun_6 N (gg_M_tupleRun N n), fb_M_tupleRun_111 N (gg_M_tupleRun N n))
theorem wg_M_tupleRun {p : Program} {l : Launch} {e : Env} {R : Room} {s : State} {m : MethodId} {args : Array Value} {below : List Frame} {meth : Method} {c : Code} {D : va_G} {cl : List vw_C} {cB cI cJ cZ cS : ClassId} {A : Nat → Prop} {iM h0 : Nat} {ad : Nat → Nat} (C0 : MCx p s m args meth c b_M_tupleRun 5 none D cl cB cI cJ cZ cS iM A) (hR : R = rm_M_tupleRun) (N : Nat) : ∀ n : Nat, (∀ (u : MS) (v1 : Int32) (v2 : Int32) (v3 : Int32) (x : MS × Unit), (gg_M_tupleRun N n).1 u v1 v2 v3 = some x → ∀ (H : Heap) (locs : List Loc), va_P D cl (wM cB cI cJ cZ cS iM h0 ad u) H → va_D A (wM cB cI cJ cZ cS iM h0 ad u) → va_S A s.heap H locs → ∀ (ls : Array Slot), lv_has ls 5 [(0, .ref h0), (1, .int v1), (2, .int v2), (3, .int v3)] → W p l e R s m args below meth c H locs 0 0 (MQ below (mQv D cl cB cI cJ cZ cS iM h0 ad A x) args s 0 0 A) (F0 m 6 ls [])) ∧ (∀ (u : MS) (v1 : Int32) (v3 : Int32) (v4 : Int32) (x : MS × Unit), (gg_M_tupleRun N n).2 u v1 v3 v4 = some x → ∀ (H : Heap) (locs : List Loc), va_P D cl (wM cB cI cJ cZ cS iM h0 ad u) H → va_D A (wM cB cI cJ cZ cS iM h0 ad u) → va_S A s.heap H locs → ∀ (ls : Array Slot), lv_has ls 5 [(0, .ref h0), (1, .int v1), (3, .int v3), (4, .int v4)] → W p l e R s m args below meth c H locs 0 0 (MQ below (mQv D cl cB cI cJ cZ cS iM h0 ad A x) args s 0 0 A) (F0 m 111 ls []))
  | 0 => ⟨(fun u v1 v2 v3 x hf => by cases hf), (fun u v1 v3 v4 x hf => by cases hf)⟩
  | n + 1 => ⟨wb_M_tupleRun_6 C0 hR N (gg_M_tupleRun N n) (wg_M_tupleRun C0 hR N n), wb_M_tupleRun_111 C0 hR N (gg_M_tupleRun N n) (wg_M_tupleRun C0 hR N n)⟩
def fm_M_tupleRun (N : Nat) (u : MS) (v1 : Int32) : Option (MS × Unit) := fb_M_tupleRun_0 N (gg_M_tupleRun N N) u v1
set_option maxRecDepth 100000 in
set_option maxHeartbeats 4000000 in
theorem c_M_tupleRun (N : Nat) {l : Launch} {D : va_G} {cl : List vw_C} {cB cI cJ cZ cS : ClassId} {iM h0 : Nat} {ad : Nat → Nat} {u : MS} {sz : Nat} {v1 : Int32} {x : MS × Unit} (hM : cl[iM]? = some (R_M, F_M, 171)) (hf : fm_M_tupleRun N u v1 = some x) : Met l y_M_tupleRun (wd_ws y_M_tupleRun b_M_tupleRun 5 none) rm_M_tupleRun (mPc D cl cB cI cJ cZ cS iM h0 ad u sz [.ref h0, .int v1]) (mQv D cl cB cI cJ cZ cS iM h0 ad (mA cB cI cJ cZ cS iM h0 ad u sz) x) 0 0 (mA cB cI cJ cZ cS iM h0 ad u sz) :=
  mMet (by decide) rfl hM (Nat.le_of_ble_eq_true rfl) (fun p e s m below meth c ls hsz C0 hP hD hS hl => by
    have hR : rm_M_tupleRun = rm_M_tupleRun := rfl
    exact wb_M_tupleRun_0 C0 hR N (gg_M_tupleRun N N) (wg_M_tupleRun C0 hR N N) u _ x hf s.heap [] hP hD hS ls (lv_sub hl [0, 1] rfl))
abbrev b_M_listRun : ByteArray := prog_14_method_141_code
def y_M_listRun : MethodName := ⟨R_M, "listRun", "(II)V"⟩
def w_M_listRun : List Cond := wd_ws y_M_listRun b_M_listRun 9 none
set_option maxRecDepth 100000 in
theorem k_M_listRun : Cond.code y_M_listRun b_M_listRun 9 none ∈ wd_tbl := wd_of 3197 rfl rfl
theorem d_M_listRun_0 : decode b_M_listRun 0 = .ok (.iconst 2, 1) := by decide +kernel
theorem d_M_listRun_1 : decode b_M_listRun 1 = .ok (.iload_n 1, 1) := by decide +kernel
theorem d_M_listRun_2 : decode b_M_listRun 2 = .ok (.imul, 1) := by decide +kernel
theorem d_M_listRun_3 : decode b_M_listRun 3 = .ok (.istore_n 3, 1) := by decide +kernel
theorem d_M_listRun_4 : decode b_M_listRun 4 = .ok (.iconst 0, 1) := by decide +kernel
theorem d_M_listRun_5 : decode b_M_listRun 5 = .ok (.istore 4, 2) := by decide +kernel
theorem d_M_listRun_7 : decode b_M_listRun 7 = .ok (.iload 4, 2) := by decide +kernel
theorem d_M_listRun_9 : decode b_M_listRun 9 = .ok (.iload_n 1, 1) := by decide +kernel
theorem d_M_listRun_10 : decode b_M_listRun 10 = .ok (.iload_n 2, 1) := by decide +kernel
theorem d_M_listRun_11 : decode b_M_listRun 11 = .ok (.iadd, 1) := by decide +kernel
theorem d_M_listRun_12 : decode b_M_listRun 12 = .ok (.if_icmp .ge 26, 3) := by decide +kernel
theorem d_M_listRun_15 : decode b_M_listRun 15 = .ok (.iload_n 3, 1) := by decide +kernel
theorem d_M_listRun_16 : decode b_M_listRun 16 = .ok (.aload_n 0, 1) := by decide +kernel
theorem d_M_listRun_17 : decode b_M_listRun 17 = .ok (.aload_n 0, 1) := by decide +kernel
theorem d_M_listRun_18 : decode b_M_listRun 18 = .ok (.getfield 669, 3) := by decide +kernel
theorem d_M_listRun_21 : decode b_M_listRun 21 = .ok (.aload_n 0, 1) := by decide +kernel
theorem d_M_listRun_22 : decode b_M_listRun 22 = .ok (.iload 4, 2) := by decide +kernel
theorem d_M_listRun_24 : decode b_M_listRun 24 = .ok (.invokevirtual 848, 3) := by decide +kernel
theorem d_M_listRun_27 : decode b_M_listRun 27 = .ok (.invokevirtual 770, 3) := by decide +kernel
theorem d_M_listRun_30 : decode b_M_listRun 30 = .ok (.iadd, 1) := by decide +kernel
theorem d_M_listRun_31 : decode b_M_listRun 31 = .ok (.istore_n 3, 1) := by decide +kernel
theorem d_M_listRun_32 : decode b_M_listRun 32 = .ok (.iinc 4 1, 3) := by decide +kernel
theorem d_M_listRun_35 : decode b_M_listRun 35 = .ok (.goto (-28), 3) := by decide +kernel
theorem d_M_listRun_38 : decode b_M_listRun 38 = .ok (.iload_n 3, 1) := by decide +kernel
theorem d_M_listRun_39 : decode b_M_listRun 39 = .ok (.sipush 500, 3) := by decide +kernel
theorem d_M_listRun_42 : decode b_M_listRun 42 = .ok (.if_icmp .le 10, 3) := by decide +kernel
theorem d_M_listRun_45 : decode b_M_listRun 45 = .ok (.aload_n 0, 1) := by decide +kernel
theorem d_M_listRun_46 : decode b_M_listRun 46 = .ok (.bipush 11, 2) := by decide +kernel
theorem d_M_listRun_48 : decode b_M_listRun 48 = .ok (.invokevirtual 861, 3) := by decide +kernel
theorem d_M_listRun_51 : decode b_M_listRun 51 = .ok (.return_, 1) := by decide +kernel
theorem d_M_listRun_52 : decode b_M_listRun 52 = .ok (.aload_n 0, 1) := by decide +kernel
theorem d_M_listRun_53 : decode b_M_listRun 53 = .ok (.aload_n 0, 1) := by decide +kernel
theorem d_M_listRun_54 : decode b_M_listRun 54 = .ok (.getfield 669, 3) := by decide +kernel
theorem d_M_listRun_57 : decode b_M_listRun 57 = .ok (.iconst 2, 1) := by decide +kernel
theorem d_M_listRun_58 : decode b_M_listRun 58 = .ok (.iload_n 1, 1) := by decide +kernel
theorem d_M_listRun_59 : decode b_M_listRun 59 = .ok (.imul, 1) := by decide +kernel
theorem d_M_listRun_60 : decode b_M_listRun 60 = .ok (.invokevirtual 776, 3) := by decide +kernel
theorem d_M_listRun_63 : decode b_M_listRun 63 = .ok (.ifCond .ne 8, 3) := by decide +kernel
theorem d_M_listRun_66 : decode b_M_listRun 66 = .ok (.aload_n 0, 1) := by decide +kernel
theorem d_M_listRun_67 : decode b_M_listRun 67 = .ok (.invokevirtual 805, 3) := by decide +kernel
theorem d_M_listRun_70 : decode b_M_listRun 70 = .ok (.return_, 1) := by decide +kernel
theorem d_M_listRun_71 : decode b_M_listRun 71 = .ok (.iload_n 2, 1) := by decide +kernel
theorem d_M_listRun_72 : decode b_M_listRun 72 = .ok (.iconst 1, 1) := by decide +kernel
theorem d_M_listRun_73 : decode b_M_listRun 73 = .ok (.if_icmp .ne 10, 3) := by decide +kernel
theorem d_M_listRun_76 : decode b_M_listRun 76 = .ok (.aload_n 0, 1) := by decide +kernel
theorem d_M_listRun_77 : decode b_M_listRun 77 = .ok (.invokevirtual 930, 3) := by decide +kernel
theorem d_M_listRun_80 : decode b_M_listRun 80 = .ok (.goto 9, 3) := by decide +kernel
theorem d_M_listRun_83 : decode b_M_listRun 83 = .ok (.bipush 6, 2) := by decide +kernel
theorem d_M_listRun_85 : decode b_M_listRun 85 = .ok (.iconst 0, 1) := by decide +kernel
theorem d_M_listRun_86 : decode b_M_listRun 86 = .ok (.invokestatic 315, 3) := by decide +kernel
theorem d_M_listRun_89 : decode b_M_listRun 89 = .ok (.lstore 4, 2) := by decide +kernel
theorem d_M_listRun_91 : decode b_M_listRun 91 = .ok (.iconst 0, 1) := by decide +kernel
theorem d_M_listRun_92 : decode b_M_listRun 92 = .ok (.istore 6, 2) := by decide +kernel
theorem d_M_listRun_94 : decode b_M_listRun 94 = .ok (.iload 6, 2) := by decide +kernel
theorem d_M_listRun_96 : decode b_M_listRun 96 = .ok (.iload_n 1, 1) := by decide +kernel
theorem d_M_listRun_97 : decode b_M_listRun 97 = .ok (.if_icmp .ge 30, 3) := by decide +kernel
theorem d_M_listRun_100 : decode b_M_listRun 100 = .ok (.aload_n 0, 1) := by decide +kernel
theorem d_M_listRun_101 : decode b_M_listRun 101 = .ok (.invokevirtual 930, 3) := by decide +kernel
theorem d_M_listRun_104 : decode b_M_listRun 104 = .ok (.lstore 7, 2) := by decide +kernel
theorem d_M_listRun_106 : decode b_M_listRun 106 = .ok (.bipush 7, 2) := by decide +kernel
theorem d_M_listRun_108 : decode b_M_listRun 108 = .ok (.aload_n 0, 1) := by decide +kernel
theorem d_M_listRun_109 : decode b_M_listRun 109 = .ok (.lload 7, 2) := by decide +kernel
theorem d_M_listRun_111 : decode b_M_listRun 111 = .ok (.lload 4, 2) := by decide +kernel
theorem d_M_listRun_113 : decode b_M_listRun 113 = .ok (.invokevirtual 968, 3) := by decide +kernel
theorem d_M_listRun_116 : decode b_M_listRun 116 = .ok (.invokestatic 315, 3) := by decide +kernel
theorem d_M_listRun_119 : decode b_M_listRun 119 = .ok (.lstore 4, 2) := by decide +kernel
theorem d_M_listRun_121 : decode b_M_listRun 121 = .ok (.iinc 6 1, 3) := by decide +kernel
theorem d_M_listRun_124 : decode b_M_listRun 124 = .ok (.goto (-30), 3) := by decide +kernel
theorem d_M_listRun_127 : decode b_M_listRun 127 = .ok (.aload_n 0, 1) := by decide +kernel
theorem d_M_listRun_128 : decode b_M_listRun 128 = .ok (.lload 4, 2) := by decide +kernel
theorem d_M_listRun_130 : decode b_M_listRun 130 = .ok (.invokevirtual 801, 3) := by decide +kernel
theorem d_M_listRun_133 : decode b_M_listRun 133 = .ok (.return_, 1) := by decide +kernel
set_option maxRecDepth 100000 in
theorem hl_M_listRun : Cond.methodLink R_M 924 y_M_listRun ∈ wd_tbl := wd_of 3194 (by decide +kernel) rfl
set_option maxRecDepth 100000 in
theorem hi_M_listRun : Cond.instanceMethod y_M_listRun ∈ wd_tbl := wd_of 3196 (by decide +kernel) rfl
set_option maxRecDepth 100000 in
theorem hs_M_listRun : Cond.selects R_M y_M_listRun y_M_listRun ∈ wd_tbl := wd_of 253 (by decide +kernel) rfl
theorem hd_M_listRun : y_M_listRun.cls = R_M ∧ y_M_listRun.cls ≠ "java/lang/invoke/MethodHandle" ∧ y_M_listRun.cls ≠ "java/lang/invoke/VarHandle" ∧ (parseMethodDescriptor y_M_listRun.desc).map (fun d => d.parameters.length) = some 2 := by decide +kernel
def rm_M_listRun : Room := { frames := 27, cells := 0, slots := 0, locals := 704 }
theorem rm_M_listRun_M_top {R : Room} (hR : R = rm_M_listRun) : (rm_M_top).frames + 1 ≤ R.frames ∧ 8 + (2 + 11) + (rm_M_top).locals ≤ R.locals := by subst hR; decide
theorem rm_M_listRun_M_copySize {R : Room} (hR : R = rm_M_listRun) : (rm_M_copySize).frames + 1 ≤ R.frames ∧ 8 + (10 + 11) + (rm_M_copySize).locals ≤ R.locals := by subst hR; decide
theorem rm_M_listRun_M_error {R : Room} (hR : R = rm_M_listRun) : (rm_M_error).frames + 1 ≤ R.frames ∧ 8 + (2 + 11) + (rm_M_error).locals ≤ R.locals := by subst hR; decide
theorem rm_M_listRun_M_wants {R : Room} (hR : R = rm_M_listRun) : (rm_M_wants).frames + 1 ≤ R.frames ∧ 8 + (3 + 11) + (rm_M_wants).locals ≤ R.locals := by subst hR; decide
theorem rm_M_listRun_M_noRoom {R : Room} (hR : R = rm_M_listRun) : (rm_M_noRoom).frames + 1 ≤ R.frames ∧ 8 + (1 + 11) + (rm_M_noRoom).locals ≤ R.locals := by subst hR; decide
theorem rm_M_listRun_M_take {R : Room} (hR : R = rm_M_listRun) : (rm_M_take).frames + 1 ≤ R.frames ∧ 8 + (1 + 11) + (rm_M_take).locals ≤ R.locals := by subst hR; decide
theorem rm_M_listRun_M_term {R : Room} (hR : R = rm_M_listRun) : (rm_M_term).frames + 1 ≤ R.frames ∧ 8 + (2 + 11) + (rm_M_term).locals ≤ R.locals := by subst hR; decide
theorem rm_M_listRun_M_pair {R : Room} (hR : R = rm_M_listRun) : (rm_M_pair).frames + 1 ≤ R.frames ∧ 8 + (6 + 11) + (rm_M_pair).locals ≤ R.locals := by subst hR; decide
theorem rm_M_listRun_M_put {R : Room} (hR : R = rm_M_listRun) : (rm_M_put).frames + 1 ≤ R.frames ∧ 8 + (3 + 11) + (rm_M_put).locals ≤ R.locals := by subst hR; decide
