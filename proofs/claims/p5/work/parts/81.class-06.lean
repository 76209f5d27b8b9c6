abbrev b_Ma_fit : ByteArray := prog_5_method_35_code
def y_Ma_fit : MethodName := ⟨R_Ma, "fit", "(II)I"⟩
def w_Ma_fit : List Cond := wd_ws y_Ma_fit b_Ma_fit 11 (some .int)
set_option maxRecDepth 100000 in
theorem k_Ma_fit : Cond.code y_Ma_fit b_Ma_fit 11 (some .int) ∈ wd_tbl := wd_of 1962 rfl rfl
theorem d_Ma_fit_0 : decode b_Ma_fit 0 = .ok (.aload_n 0, 1) := by decide +kernel
theorem d_Ma_fit_1 : decode b_Ma_fit 1 = .ok (.getfield 19, 3) := by decide +kernel
theorem d_Ma_fit_4 : decode b_Ma_fit 4 = .ok (.getfield 267, 3) := by decide +kernel
theorem d_Ma_fit_7 : decode b_Ma_fit 7 = .ok (.astore_n 3, 1) := by decide +kernel
theorem d_Ma_fit_8 : decode b_Ma_fit 8 = .ok (.iload_n 1, 1) := by decide +kernel
theorem d_Ma_fit_9 : decode b_Ma_fit 9 = .ok (.istore 4, 2) := by decide +kernel
theorem d_Ma_fit_11 : decode b_Ma_fit 11 = .ok (.iload_n 2, 1) := by decide +kernel
theorem d_Ma_fit_12 : decode b_Ma_fit 12 = .ok (.istore 5, 2) := by decide +kernel
theorem d_Ma_fit_14 : decode b_Ma_fit 14 = .ok (.iconst 0, 1) := by decide +kernel
theorem d_Ma_fit_15 : decode b_Ma_fit 15 = .ok (.istore 6, 2) := by decide +kernel
theorem d_Ma_fit_17 : decode b_Ma_fit 17 = .ok (.iload 6, 2) := by decide +kernel
theorem d_Ma_fit_19 : decode b_Ma_fit 19 = .ok (.ldc 66, 2) := by decide +kernel
theorem d_Ma_fit_21 : decode b_Ma_fit 21 = .ok (.if_icmp .ge 349, 3) := by decide +kernel
theorem d_Ma_fit_24 : decode b_Ma_fit 24 = .ok (.aload_n 0, 1) := by decide +kernel
theorem d_Ma_fit_25 : decode b_Ma_fit 25 = .ok (.getfield 9, 3) := by decide +kernel
theorem d_Ma_fit_28 : decode b_Ma_fit 28 = .ok (.iload 4, 2) := by decide +kernel
theorem d_Ma_fit_30 : decode b_Ma_fit 30 = .ok (.invokevirtual 67, 3) := by decide +kernel
theorem d_Ma_fit_33 : decode b_Ma_fit 33 = .ok (.bipush 8, 2) := by decide +kernel
theorem d_Ma_fit_35 : decode b_Ma_fit 35 = .ok (.if_icmp .eq 335, 3) := by decide +kernel
theorem d_Ma_fit_38 : decode b_Ma_fit 38 = .ok (.iinc 5 (-1), 3) := by decide +kernel
theorem d_Ma_fit_41 : decode b_Ma_fit 41 = .ok (.iload 5, 2) := by decide +kernel
theorem d_Ma_fit_43 : decode b_Ma_fit 43 = .ok (.ifCond .lt 14, 3) := by decide +kernel
theorem d_Ma_fit_46 : decode b_Ma_fit 46 = .ok (.iload 5, 2) := by decide +kernel
theorem d_Ma_fit_48 : decode b_Ma_fit 48 = .ok (.bipush 8, 2) := by decide +kernel
theorem d_Ma_fit_50 : decode b_Ma_fit 50 = .ok (.iadd, 1) := by decide +kernel
theorem d_Ma_fit_51 : decode b_Ma_fit 51 = .ok (.sipush 2048, 3) := by decide +kernel
theorem d_Ma_fit_54 : decode b_Ma_fit 54 = .ok (.if_icmp .lt 5, 3) := by decide +kernel
theorem d_Ma_fit_57 : decode b_Ma_fit 57 = .ok (.iconst (-1), 1) := by decide +kernel
theorem d_Ma_fit_58 : decode b_Ma_fit 58 = .ok (.ireturn, 1) := by decide +kernel
theorem d_Ma_fit_59 : decode b_Ma_fit 59 = .ok (.aload_n 3, 1) := by decide +kernel
theorem d_Ma_fit_60 : decode b_Ma_fit 60 = .ok (.iload 5, 2) := by decide +kernel
theorem d_Ma_fit_62 : decode b_Ma_fit 62 = .ok (.laload, 1) := by decide +kernel
theorem d_Ma_fit_63 : decode b_Ma_fit 63 = .ok (.lstore 7, 2) := by decide +kernel
theorem d_Ma_fit_65 : decode b_Ma_fit 65 = .ok (.aload_n 0, 1) := by decide +kernel
theorem d_Ma_fit_66 : decode b_Ma_fit 66 = .ok (.getfield 9, 3) := by decide +kernel
theorem d_Ma_fit_69 : decode b_Ma_fit 69 = .ok (.iload 4, 2) := by decide +kernel
theorem d_Ma_fit_71 : decode b_Ma_fit 71 = .ok (.iconst 1, 1) := by decide +kernel
theorem d_Ma_fit_72 : decode b_Ma_fit 72 = .ok (.iadd, 1) := by decide +kernel
theorem d_Ma_fit_73 : decode b_Ma_fit 73 = .ok (.invokevirtual 67, 3) := by decide +kernel
theorem d_Ma_fit_76 : decode b_Ma_fit 76 = .ok (.istore 9, 2) := by decide +kernel
theorem d_Ma_fit_78 : decode b_Ma_fit 78 = .ok (.aload_n 0, 1) := by decide +kernel
theorem d_Ma_fit_79 : decode b_Ma_fit 79 = .ok (.getfield 9, 3) := by decide +kernel
theorem d_Ma_fit_82 : decode b_Ma_fit 82 = .ok (.iload 4, 2) := by decide +kernel
theorem d_Ma_fit_84 : decode b_Ma_fit 84 = .ok (.invokevirtual 67, 3) := by decide +kernel
theorem d_Ma_fit_87 : decode b_Ma_fit 87 = .ok (.tableswitch 274 1 7 #[41, 71, 96, 132, 274, 149, 219], 41) := by decide +kernel
theorem d_Ma_fit_128 : decode b_Ma_fit 128 = .ok (.lload 7, 2) := by decide +kernel
theorem d_Ma_fit_130 : decode b_Ma_fit 130 = .ok (.iload 9, 2) := by decide +kernel
theorem d_Ma_fit_132 : decode b_Ma_fit 132 = .ok (.aload_n 0, 1) := by decide +kernel
theorem d_Ma_fit_133 : decode b_Ma_fit 133 = .ok (.getfield 9, 3) := by decide +kernel
theorem d_Ma_fit_136 : decode b_Ma_fit 136 = .ok (.iload 4, 2) := by decide +kernel
theorem d_Ma_fit_138 : decode b_Ma_fit 138 = .ok (.iconst 2, 1) := by decide +kernel
theorem d_Ma_fit_139 : decode b_Ma_fit 139 = .ok (.iadd, 1) := by decide +kernel
theorem d_Ma_fit_140 : decode b_Ma_fit 140 = .ok (.invokevirtual 67, 3) := by decide +kernel
theorem d_Ma_fit_143 : decode b_Ma_fit 143 = .ok (.invokestatic 101, 3) := by decide +kernel
theorem d_Ma_fit_146 : decode b_Ma_fit 146 = .ok (.lcmp, 1) := by decide +kernel
theorem d_Ma_fit_147 : decode b_Ma_fit 147 = .ok (.ifCond .eq 5, 3) := by decide +kernel
theorem d_Ma_fit_150 : decode b_Ma_fit 150 = .ok (.iconst (-1), 1) := by decide +kernel
theorem d_Ma_fit_151 : decode b_Ma_fit 151 = .ok (.ireturn, 1) := by decide +kernel
theorem d_Ma_fit_152 : decode b_Ma_fit 152 = .ok (.iinc 4 3, 3) := by decide +kernel
theorem d_Ma_fit_155 : decode b_Ma_fit 155 = .ok (.goto 209, 3) := by decide +kernel
theorem d_Ma_fit_158 : decode b_Ma_fit 158 = .ok (.aload_n 0, 1) := by decide +kernel
theorem d_Ma_fit_159 : decode b_Ma_fit 159 = .ok (.iload 4, 2) := by decide +kernel
theorem d_Ma_fit_161 : decode b_Ma_fit 161 = .ok (.lload 7, 2) := by decide +kernel
theorem d_Ma_fit_163 : decode b_Ma_fit 163 = .ok (.invokevirtual 336, 3) := by decide +kernel
theorem d_Ma_fit_166 : decode b_Ma_fit 166 = .ok (.ifCond .ne 5, 3) := by decide +kernel
theorem d_Ma_fit_169 : decode b_Ma_fit 169 = .ok (.iconst (-1), 1) := by decide +kernel
theorem d_Ma_fit_170 : decode b_Ma_fit 170 = .ok (.ireturn, 1) := by decide +kernel
theorem d_Ma_fit_171 : decode b_Ma_fit 171 = .ok (.iload 4, 2) := by decide +kernel
theorem d_Ma_fit_173 : decode b_Ma_fit 173 = .ok (.iconst 2, 1) := by decide +kernel
theorem d_Ma_fit_174 : decode b_Ma_fit 174 = .ok (.iload 9, 2) := by decide +kernel
theorem d_Ma_fit_176 : decode b_Ma_fit 176 = .ok (.iadd, 1) := by decide +kernel
theorem d_Ma_fit_177 : decode b_Ma_fit 177 = .ok (.iadd, 1) := by decide +kernel
theorem d_Ma_fit_178 : decode b_Ma_fit 178 = .ok (.istore 4, 2) := by decide +kernel
theorem d_Ma_fit_180 : decode b_Ma_fit 180 = .ok (.goto 184, 3) := by decide +kernel
theorem d_Ma_fit_183 : decode b_Ma_fit 183 = .ok (.aload_n 0, 1) := by decide +kernel
theorem d_Ma_fit_184 : decode b_Ma_fit 184 = .ok (.getfield 19, 3) := by decide +kernel
theorem d_Ma_fit_187 : decode b_Ma_fit 187 = .ok (.aload_n 0, 1) := by decide +kernel
theorem d_Ma_fit_188 : decode b_Ma_fit 188 = .ok (.getfield 23, 3) := by decide +kernel
theorem d_Ma_fit_191 : decode b_Ma_fit 191 = .ok (.getfield 195, 3) := by decide +kernel
theorem d_Ma_fit_194 : decode b_Ma_fit 194 = .ok (.aload_n 0, 1) := by decide +kernel
theorem d_Ma_fit_195 : decode b_Ma_fit 195 = .ok (.getfield 33, 3) := by decide +kernel
theorem d_Ma_fit_198 : decode b_Ma_fit 198 = .ok (.iload 9, 2) := by decide +kernel
theorem d_Ma_fit_200 : decode b_Ma_fit 200 = .ok (.invokevirtual 180, 3) := by decide +kernel
theorem d_Ma_fit_203 : decode b_Ma_fit 203 = .ok (.lload 7, 2) := by decide +kernel
theorem d_Ma_fit_205 : decode b_Ma_fit 205 = .ok (.invokevirtual 199, 3) := by decide +kernel
theorem d_Ma_fit_208 : decode b_Ma_fit 208 = .ok (.ifCond .eq 5, 3) := by decide +kernel
theorem d_Ma_fit_211 : decode b_Ma_fit 211 = .ok (.iconst (-1), 1) := by decide +kernel
theorem d_Ma_fit_212 : decode b_Ma_fit 212 = .ok (.ireturn, 1) := by decide +kernel
theorem d_Ma_fit_213 : decode b_Ma_fit 213 = .ok (.iinc 4 2, 3) := by decide +kernel
theorem d_Ma_fit_216 : decode b_Ma_fit 216 = .ok (.goto 148, 3) := by decide +kernel
theorem d_Ma_fit_219 : decode b_Ma_fit 219 = .ok (.aload_n 0, 1) := by decide +kernel
theorem d_Ma_fit_220 : decode b_Ma_fit 220 = .ok (.getfield 33, 3) := by decide +kernel
theorem d_Ma_fit_223 : decode b_Ma_fit 223 = .ok (.iload 9, 2) := by decide +kernel
theorem d_Ma_fit_225 : decode b_Ma_fit 225 = .ok (.lload 7, 2) := by decide +kernel
theorem d_Ma_fit_227 : decode b_Ma_fit 227 = .ok (.invokevirtual 340, 3) := by decide +kernel
theorem d_Ma_fit_230 : decode b_Ma_fit 230 = .ok (.iinc 4 2, 3) := by decide +kernel
theorem d_Ma_fit_233 : decode b_Ma_fit 233 = .ok (.goto 131, 3) := by decide +kernel
theorem d_Ma_fit_236 : decode b_Ma_fit 236 = .ok (.lload 7, 2) := by decide +kernel
theorem d_Ma_fit_238 : decode b_Ma_fit 238 = .ok (.invokestatic 253, 3) := by decide +kernel
theorem d_Ma_fit_241 : decode b_Ma_fit 241 = .ok (.iconst 5, 1) := by decide +kernel
theorem d_Ma_fit_242 : decode b_Ma_fit 242 = .ok (.if_icmp .ne 20, 3) := by decide +kernel
theorem d_Ma_fit_245 : decode b_Ma_fit 245 = .ok (.aload_n 0, 1) := by decide +kernel
theorem d_Ma_fit_246 : decode b_Ma_fit 246 = .ok (.getfield 23, 3) := by decide +kernel
theorem d_Ma_fit_249 : decode b_Ma_fit 249 = .ok (.getfield 195, 3) := by decide +kernel
theorem d_Ma_fit_252 : decode b_Ma_fit 252 = .ok (.lload 7, 2) := by decide +kernel
theorem d_Ma_fit_254 : decode b_Ma_fit 254 = .ok (.l2i, 1) := by decide +kernel
theorem d_Ma_fit_255 : decode b_Ma_fit 255 = .ok (.laload, 1) := by decide +kernel
theorem d_Ma_fit_256 : decode b_Ma_fit 256 = .ok (.l2i, 1) := by decide +kernel
theorem d_Ma_fit_257 : decode b_Ma_fit 257 = .ok (.iload 9, 2) := by decide +kernel
theorem d_Ma_fit_259 : decode b_Ma_fit 259 = .ok (.if_icmp .eq 5, 3) := by decide +kernel
theorem d_Ma_fit_262 : decode b_Ma_fit 262 = .ok (.iconst (-1), 1) := by decide +kernel
theorem d_Ma_fit_263 : decode b_Ma_fit 263 = .ok (.ireturn, 1) := by decide +kernel
theorem d_Ma_fit_264 : decode b_Ma_fit 264 = .ok (.iload 9, 2) := by decide +kernel
theorem d_Ma_fit_266 : decode b_Ma_fit 266 = .ok (.istore 10, 2) := by decide +kernel
theorem d_Ma_fit_268 : decode b_Ma_fit 268 = .ok (.iload 10, 2) := by decide +kernel
theorem d_Ma_fit_270 : decode b_Ma_fit 270 = .ok (.ifCond .le 30, 3) := by decide +kernel
theorem d_Ma_fit_273 : decode b_Ma_fit 273 = .ok (.aload_n 3, 1) := by decide +kernel
theorem d_Ma_fit_274 : decode b_Ma_fit 274 = .ok (.iload 5, 2) := by decide +kernel
theorem d_Ma_fit_276 : decode b_Ma_fit 276 = .ok (.aload_n 0, 1) := by decide +kernel
theorem d_Ma_fit_277 : decode b_Ma_fit 277 = .ok (.getfield 23, 3) := by decide +kernel
theorem d_Ma_fit_280 : decode b_Ma_fit 280 = .ok (.getfield 195, 3) := by decide +kernel
theorem d_Ma_fit_283 : decode b_Ma_fit 283 = .ok (.lload 7, 2) := by decide +kernel
theorem d_Ma_fit_285 : decode b_Ma_fit 285 = .ok (.l2i, 1) := by decide +kernel
theorem d_Ma_fit_286 : decode b_Ma_fit 286 = .ok (.iload 10, 2) := by decide +kernel
theorem d_Ma_fit_288 : decode b_Ma_fit 288 = .ok (.iadd, 1) := by decide +kernel
theorem d_Ma_fit_289 : decode b_Ma_fit 289 = .ok (.laload, 1) := by decide +kernel
theorem d_Ma_fit_290 : decode b_Ma_fit 290 = .ok (.lastore, 1) := by decide +kernel
theorem d_Ma_fit_291 : decode b_Ma_fit 291 = .ok (.iinc 5 1, 3) := by decide +kernel
theorem d_Ma_fit_294 : decode b_Ma_fit 294 = .ok (.iinc 10 (-1), 3) := by decide +kernel
theorem d_Ma_fit_297 : decode b_Ma_fit 297 = .ok (.goto (-29), 3) := by decide +kernel
theorem d_Ma_fit_300 : decode b_Ma_fit 300 = .ok (.iinc 4 2, 3) := by decide +kernel
theorem d_Ma_fit_303 : decode b_Ma_fit 303 = .ok (.goto 61, 3) := by decide +kernel
theorem d_Ma_fit_306 : decode b_Ma_fit 306 = .ok (.lload 7, 2) := by decide +kernel
theorem d_Ma_fit_308 : decode b_Ma_fit 308 = .ok (.invokestatic 253, 3) := by decide +kernel
theorem d_Ma_fit_311 : decode b_Ma_fit 311 = .ok (.bipush 7, 2) := by decide +kernel
theorem d_Ma_fit_313 : decode b_Ma_fit 313 = .ok (.if_icmp .eq 5, 3) := by decide +kernel
theorem d_Ma_fit_316 : decode b_Ma_fit 316 = .ok (.iconst (-1), 1) := by decide +kernel
theorem d_Ma_fit_317 : decode b_Ma_fit 317 = .ok (.ireturn, 1) := by decide +kernel
theorem d_Ma_fit_318 : decode b_Ma_fit 318 = .ok (.aload_n 3, 1) := by decide +kernel
theorem d_Ma_fit_319 : decode b_Ma_fit 319 = .ok (.iload 5, 2) := by decide +kernel
theorem d_Ma_fit_321 : decode b_Ma_fit 321 = .ok (.aload_n 0, 1) := by decide +kernel
theorem d_Ma_fit_322 : decode b_Ma_fit 322 = .ok (.getfield 23, 3) := by decide +kernel
theorem d_Ma_fit_325 : decode b_Ma_fit 325 = .ok (.getfield 195, 3) := by decide +kernel
theorem d_Ma_fit_328 : decode b_Ma_fit 328 = .ok (.lload 7, 2) := by decide +kernel
theorem d_Ma_fit_330 : decode b_Ma_fit 330 = .ok (.l2i, 1) := by decide +kernel
theorem d_Ma_fit_331 : decode b_Ma_fit 331 = .ok (.iconst 1, 1) := by decide +kernel
theorem d_Ma_fit_332 : decode b_Ma_fit 332 = .ok (.iadd, 1) := by decide +kernel
theorem d_Ma_fit_333 : decode b_Ma_fit 333 = .ok (.laload, 1) := by decide +kernel
theorem d_Ma_fit_334 : decode b_Ma_fit 334 = .ok (.lastore, 1) := by decide +kernel
theorem d_Ma_fit_335 : decode b_Ma_fit 335 = .ok (.aload_n 3, 1) := by decide +kernel
theorem d_Ma_fit_336 : decode b_Ma_fit 336 = .ok (.iload 5, 2) := by decide +kernel
theorem d_Ma_fit_338 : decode b_Ma_fit 338 = .ok (.iconst 1, 1) := by decide +kernel
theorem d_Ma_fit_339 : decode b_Ma_fit 339 = .ok (.iadd, 1) := by decide +kernel
theorem d_Ma_fit_340 : decode b_Ma_fit 340 = .ok (.aload_n 0, 1) := by decide +kernel
theorem d_Ma_fit_341 : decode b_Ma_fit 341 = .ok (.getfield 23, 3) := by decide +kernel
theorem d_Ma_fit_344 : decode b_Ma_fit 344 = .ok (.getfield 195, 3) := by decide +kernel
theorem d_Ma_fit_347 : decode b_Ma_fit 347 = .ok (.lload 7, 2) := by decide +kernel
theorem d_Ma_fit_349 : decode b_Ma_fit 349 = .ok (.l2i, 1) := by decide +kernel
theorem d_Ma_fit_350 : decode b_Ma_fit 350 = .ok (.laload, 1) := by decide +kernel
theorem d_Ma_fit_351 : decode b_Ma_fit 351 = .ok (.lastore, 1) := by decide +kernel
theorem d_Ma_fit_352 : decode b_Ma_fit 352 = .ok (.iinc 5 2, 3) := by decide +kernel
theorem d_Ma_fit_355 : decode b_Ma_fit 355 = .ok (.iinc 4 1, 3) := by decide +kernel
theorem d_Ma_fit_358 : decode b_Ma_fit 358 = .ok (.goto 6, 3) := by decide +kernel
theorem d_Ma_fit_361 : decode b_Ma_fit 361 = .ok (.iinc 4 1, 3) := by decide +kernel
theorem d_Ma_fit_364 : decode b_Ma_fit 364 = .ok (.iinc 6 1, 3) := by decide +kernel
theorem d_Ma_fit_367 : decode b_Ma_fit 367 = .ok (.goto (-350), 3) := by decide +kernel
theorem d_Ma_fit_370 : decode b_Ma_fit 370 = .ok (.iload 4, 2) := by decide +kernel
theorem d_Ma_fit_372 : decode b_Ma_fit 372 = .ok (.iconst 1, 1) := by decide +kernel
theorem d_Ma_fit_373 : decode b_Ma_fit 373 = .ok (.iadd, 1) := by decide +kernel
theorem d_Ma_fit_374 : decode b_Ma_fit 374 = .ok (.ireturn, 1) := by decide +kernel
set_option maxRecDepth 100000 in
theorem hl_Ma_fit : Cond.methodLink R_Ma 333 y_Ma_fit ∈ wd_tbl := wd_of 1959 (by decide +kernel) rfl
set_option maxRecDepth 100000 in
theorem hi_Ma_fit : Cond.instanceMethod y_Ma_fit ∈ wd_tbl := wd_of 1961 (by decide +kernel) rfl
set_option maxRecDepth 100000 in
theorem hs_Ma_fit : Cond.selects R_Ma y_Ma_fit y_Ma_fit ∈ wd_tbl := wd_of 112 (by decide +kernel) rfl
theorem hd_Ma_fit : y_Ma_fit.cls = R_Ma ∧ y_Ma_fit.cls ≠ "java/lang/invoke/MethodHandle" ∧ y_Ma_fit.cls ≠ "java/lang/invoke/VarHandle" ∧ (parseMethodDescriptor y_Ma_fit.desc).map (fun d => d.parameters.length) = some 2 := by decide +kernel
def rm_Ma_fit (mc ms : Nat) : Room := { frames := 3, cells := mc, slots := ms, locals := 121 }
theorem rm_Ma_fit_Co_at {mc ms : Nat} : (rm_Co_at).frames + 1 ≤ (rm_Ma_fit mc ms).frames ∧ 8 + (2 + 11) + (rm_Co_at).locals ≤ (rm_Ma_fit mc ms).locals := by
  show 0 + 1 ≤ 3 ∧ 8 + (2 + 11) + 0 ≤ 121
  decide
theorem rm_Ma_fit_Te_make {mc ms : Nat} : (rm_Te_make).frames + 1 ≤ (rm_Ma_fit mc ms).frames ∧ 8 + (2 + 11) + (rm_Te_make).locals ≤ (rm_Ma_fit mc ms).locals := by
  show 0 + 1 ≤ 3 ∧ 8 + (2 + 11) + 0 ≤ 121
  decide
theorem rm_Ma_fit_Ma_fitsString {mc ms : Nat} : (rm_Ma_fitsString).frames + 1 ≤ (rm_Ma_fit mc ms).frames ∧ 8 + (8 + 11) + (rm_Ma_fitsString).locals ≤ (rm_Ma_fit mc ms).locals := by
  show 1 + 1 ≤ 3 ∧ 8 + (8 + 11) + 21 ≤ 121
  decide
theorem rm_Ma_fit_Fr_termOf {mc ms : Nat} : (rm_Fr_termOf).frames + 1 ≤ (rm_Ma_fit mc ms).frames ∧ 8 + (3 + 11) + (rm_Fr_termOf).locals ≤ (rm_Ma_fit mc ms).locals := by
  show 0 + 1 ≤ 3 ∧ 8 + (3 + 11) + 0 ≤ 121
  decide
theorem rm_Ma_fit_Te_order {mc ms : Nat} : (rm_Te_order).frames + 1 ≤ (rm_Ma_fit mc ms).frames ∧ 8 + (14 + 11) + (rm_Te_order).locals ≤ (rm_Ma_fit mc ms).locals := by
  show 2 + 1 ≤ 3 ∧ 8 + (14 + 11) + 88 ≤ 121
  decide
theorem rm_Ma_fit_Fr_bind {mc ms : Nat} {mc2 ms2 : Nat} : (rm_Fr_bind mc2 ms2).frames + 1 ≤ (rm_Ma_fit mc ms).frames ∧ 8 + (4 + 11) + (rm_Fr_bind mc2 ms2).locals ≤ (rm_Ma_fit mc ms).locals := by
  show 2 + 1 ≤ 3 ∧ 8 + (4 + 11) + 82 ≤ 121
  decide
theorem rm_Ma_fit_Te_tag {mc ms : Nat} : (rm_Te_tag).frames + 1 ≤ (rm_Ma_fit mc ms).frames ∧ 8 + (2 + 11) + (rm_Te_tag).locals ≤ (rm_Ma_fit mc ms).locals := by
  show 0 + 1 ≤ 3 ∧ 8 + (2 + 11) + 0 ≤ 121
  decide
def fb_Ma_fit_370 (N : Nat) (G : (CS → Nat → Option Nat → Int32 → Int32 → Int32 → Option (CS × Int32)) × (CS → Nat → Option Nat → Int32 → Int32 → Int32 → Int64 → Int32 → Option (CS × Int32))) (u : CS) (v4 : Int32) : Option (CS × Int32) := some (u, (v4 + 1))
set_option maxRecDepth 100000 in
set_option maxHeartbeats 4000000 in
theorem wb_Ma_fit_370 {p : Program} {l : Launch} {e : Env} {s : State} {m : MethodId} {args : Array Value} {below : List Frame} {meth : Method} {c : Code} {s0 : State} {b0 : Nat} {D : va_G} {cB cI cJ cZ cS cP : ClassId} {A : Nat → Prop} {sk sv : Nat → Nat} {uN uS mc ms : Nat} {ad0 : Nat → Nat} (C0 : XCx p s s0 b0 m args meth c R_Ma b_Ma_fit 11 (some .int) D cB cI cJ cZ cS cP A) (hE : ENV s0 b0 sk sv) (N : Nat) (G : (CS → Nat → Option Nat → Int32 → Int32 → Int32 → Option (CS × Int32)) × (CS → Nat → Option Nat → Int32 → Int32 → Int32 → Int64 → Int32 → Option (CS × Int32))) (hG : (∀ (u : CS) (v0 : Nat) (v3 : Option Nat) (v4 : Int32) (v5 : Int32) (v6 : Int32) (x : CS × Int32), G.1 u v0 v3 v4 v5 v6 = some x → (uN + mc = x.1.1.1 ∧ uS + ms = x.1.1.2) → ∀ (ad : Nat → Nat) (ce sl : Nat), AB uN uS ad0 u ad ce sl → ∀ (H : Heap) (locs : List Loc), va_P D cls (wC cB cI cJ cZ cS cP ad u) H → va_D A (wC cB cI cJ cZ cS cP ad u) → va_S A s.heap H locs → ∀ (ls : Array Slot), lv_has ls 11 [(0, .ref (ad v0)), (3, va_rf (Option.map ad v3)), (4, .int v4), (5, .int v5), (6, .int v6)] → W p l e (rm_Ma_fit mc ms) s m args below meth c H locs ce sl (MQ below (xQ D cB cI cJ cZ cS cP A ad0 uN x.1 (some (.inl x.2))) args s mc ms A) (F0 m 17 ls [])) ∧ (∀ (u : CS) (v0 : Nat) (v3 : Option Nat) (v4 : Int32) (v5 : Int32) (v6 : Int32) (v7 : Int64) (v10 : Int32) (x : CS × Int32), G.2 u v0 v3 v4 v5 v6 v7 v10 = some x → (uN + mc = x.1.1.1 ∧ uS + ms = x.1.1.2) → ∀ (ad : Nat → Nat) (ce sl : Nat), AB uN uS ad0 u ad ce sl → ∀ (H : Heap) (locs : List Loc), va_P D cls (wC cB cI cJ cZ cS cP ad u) H → va_D A (wC cB cI cJ cZ cS cP ad u) → va_S A s.heap H locs → ∀ (ls : Array Slot), lv_has ls 11 [(0, .ref (ad v0)), (3, va_rf (Option.map ad v3)), (4, .int v4), (5, .int v5), (6, .int v6), (7, .long v7), (10, .int v10)] → W p l e (rm_Ma_fit mc ms) s m args below meth c H locs ce sl (MQ below (xQ D cB cI cJ cZ cS cP A ad0 uN x.1 (some (.inl x.2))) args s mc ms A) (F0 m 268 ls []))) : ∀ (u : CS) (v4 : Int32) (x : CS × Int32), fb_Ma_fit_370 N G u v4 = some x → (uN + mc = x.1.1.1 ∧ uS + ms = x.1.1.2) → ∀ (ad : Nat → Nat) (ce sl : Nat), AB uN uS ad0 u ad ce sl → ∀ (H : Heap) (locs : List Loc), va_P D cls (wC cB cI cJ cZ cS cP ad u) H → va_D A (wC cB cI cJ cZ cS cP ad u) → va_S A s.heap H locs → ∀ (ls : Array Slot), lv_has ls 11 [(4, .int v4)] → W p l e (rm_Ma_fit mc ms) s m args below meth c H locs ce sl (MQ below (xQ D cB cI cJ cZ cS cP A ad0 uN x.1 (some (.inl x.2))) args s mc ms A) (F0 m 370 ls []) := by
  intro u v4 x hf hm ad ce sl hB H locs hP hD hS ls hl
  obtain ⟨hx, hb, hr, hml, ht, hown, hK, hA, hlocks, hA0, hO, hbs⟩ := id C0
  unfold fb_Ma_fit_370 at hf
  refine lv_iload hx hb d_Ma_fit_370 (lv_at hl 0 rfl) ?_
  refine lv_iconst (v := 1) hx hb d_Ma_fit_372 (by decide) ?_
  refine lv_iadd hx hb d_Ma_fit_373 ?_
  exact yr_i C0 hP hD hS hB hm hf d_Ma_fit_374
def fb_Ma_fit_364 (N : Nat) (G : (CS → Nat → Option Nat → Int32 → Int32 → Int32 → Option (CS × Int32)) × (CS → Nat → Option Nat → Int32 → Int32 → Int32 → Int64 → Int32 → Option (CS × Int32))) (u : CS) (v0 : Nat) (v3 : Option Nat) (v4 : Int32) (v5 : Int32) (v6 : Int32) : Option (CS × Int32) := G.1 u (v0) (v3) (v4) (v5) ((v6 + 1))
set_option maxRecDepth 100000 in
set_option maxHeartbeats 4000000 in
theorem wb_Ma_fit_364 {p : Program} {l : Launch} {e : Env} {s : State} {m : MethodId} {args : Array Value} {below : List Frame} {meth : Method} {c : Code} {s0 : State} {b0 : Nat} {D : va_G} {cB cI cJ cZ cS cP : ClassId} {A : Nat → Prop} {sk sv : Nat → Nat} {uN uS mc ms : Nat} {ad0 : Nat → Nat} (C0 : XCx p s s0 b0 m args meth c R_Ma b_Ma_fit 11 (some .int) D cB cI cJ cZ cS cP A) (hE : ENV s0 b0 sk sv) (N : Nat) (G : (CS → Nat → Option Nat → Int32 → Int32 → Int32 → Option (CS × Int32)) × (CS → Nat → Option Nat → Int32 → Int32 → Int32 → Int64 → Int32 → Option (CS × Int32))) (hG : (∀ (u : CS) (v0 : Nat) (v3 : Option Nat) (v4 : Int32) (v5 : Int32) (v6 : Int32) (x : CS × Int32), G.1 u v0 v3 v4 v5 v6 = some x → (uN + mc = x.1.1.1 ∧ uS + ms = x.1.1.2) → ∀ (ad : Nat → Nat) (ce sl : Nat), AB uN uS ad0 u ad ce sl → ∀ (H : Heap) (locs : List Loc), va_P D cls (wC cB cI cJ cZ cS cP ad u) H → va_D A (wC cB cI cJ cZ cS cP ad u) → va_S A s.heap H locs → ∀ (ls : Array Slot), lv_has ls 11 [(0, .ref (ad v0)), (3, va_rf (Option.map ad v3)), (4, .int v4), (5, .int v5), (6, .int v6)] → W p l e (rm_Ma_fit mc ms) s m args below meth c H locs ce sl (MQ below (xQ D cB cI cJ cZ cS cP A ad0 uN x.1 (some (.inl x.2))) args s mc ms A) (F0 m 17 ls [])) ∧ (∀ (u : CS) (v0 : Nat) (v3 : Option Nat) (v4 : Int32) (v5 : Int32) (v6 : Int32) (v7 : Int64) (v10 : Int32) (x : CS × Int32), G.2 u v0 v3 v4 v5 v6 v7 v10 = some x → (uN + mc = x.1.1.1 ∧ uS + ms = x.1.1.2) → ∀ (ad : Nat → Nat) (ce sl : Nat), AB uN uS ad0 u ad ce sl → ∀ (H : Heap) (locs : List Loc), va_P D cls (wC cB cI cJ cZ cS cP ad u) H → va_D A (wC cB cI cJ cZ cS cP ad u) → va_S A s.heap H locs → ∀ (ls : Array Slot), lv_has ls 11 [(0, .ref (ad v0)), (3, va_rf (Option.map ad v3)), (4, .int v4), (5, .int v5), (6, .int v6), (7, .long v7), (10, .int v10)] → W p l e (rm_Ma_fit mc ms) s m args below meth c H locs ce sl (MQ below (xQ D cB cI cJ cZ cS cP A ad0 uN x.1 (some (.inl x.2))) args s mc ms A) (F0 m 268 ls []))) : ∀ (u : CS) (v0 : Nat) (v3 : Option Nat) (v4 : Int32) (v5 : Int32) (v6 : Int32) (x : CS × Int32), fb_Ma_fit_364 N G u v0 v3 v4 v5 v6 = some x → (uN + mc = x.1.1.1 ∧ uS + ms = x.1.1.2) → ∀ (ad : Nat → Nat) (ce sl : Nat), AB uN uS ad0 u ad ce sl → ∀ (H : Heap) (locs : List Loc), va_P D cls (wC cB cI cJ cZ cS cP ad u) H → va_D A (wC cB cI cJ cZ cS cP ad u) → va_S A s.heap H locs → ∀ (ls : Array Slot), lv_has ls 11 [(0, .ref (ad v0)), (3, va_rf (Option.map ad v3)), (4, .int v4), (5, .int v5), (6, .int v6)] → W p l e (rm_Ma_fit mc ms) s m args below meth c H locs ce sl (MQ below (xQ D cB cI cJ cZ cS cP A ad0 uN x.1 (some (.inl x.2))) args s mc ms A) (F0 m 364 ls []) := by
  intro u v0 v3 v4 v5 v6 x hf hm ad ce sl hB H locs hP hD hS ls hl
  obtain ⟨hx, hb, hr, hml, ht, hown, hK, hA, hlocks, hA0, hO, hbs⟩ := id C0
  unfold fb_Ma_fit_364 at hf
  refine lv_iinc (v := (v6 + 1)) (lv' := [(6, .int (v6 + 1)), (0, .ref (ad v0)), (3, va_rf (Option.map ad v3)), (4, .int v4), (5, .int v5)]) hx hb d_Ma_fit_364 hl (k := 4) rfl rfl (by decide) (by first | rfl | simp [List.filter, cat_rf]) (fun ls hl => ?_)
  refine lv_goto (tgt := 17) hx hb d_Ma_fit_367 (by decide) ?_
  exact hG.1 _ _ _ _ _ _ _ hf hm _ _ _ hB H locs hP hD hS ls (lv_sub hl [1, 2, 3, 4, 0] rfl)
def fb_Ma_fit_268 (N : Nat) (G : (CS → Nat → Option Nat → Int32 → Int32 → Int32 → Option (CS × Int32)) × (CS → Nat → Option Nat → Int32 → Int32 → Int32 → Int64 → Int32 → Option (CS × Int32))) (u : CS) (v0 : Nat) (v3 : Option Nat) (v4 : Int32) (v5 : Int32) (v6 : Int32) (v7 : Int64) (v10 : Int32) : Option (CS × Int32) := br (decide (v10 ≤ 0)) (fb_Ma_fit_364 N G u (v0) (v3) ((v4 + 2)) (v5) (v6)) (bo (gR u v0 5 3) (fun r1 => bo r1 (fun j2 => bo (gR u j2 7 2) (fun r3 => bo r3 (fun j4 => bo (aJ u j4 (v7.toInt32 + v10)) (fun r5 => bo v3 (fun j6 => bo (sJ u j6 v5 r5) (fun w7 => G.2 w7 (v0) (v3) (v4) ((v5 + 1)) (v6) (v7) ((v10 + (-1)))))))))))
set_option maxRecDepth 100000 in
set_option maxHeartbeats 4000000 in
theorem wb_Ma_fit_268 {p : Program} {l : Launch} {e : Env} {s : State} {m : MethodId} {args : Array Value} {below : List Frame} {meth : Method} {c : Code} {s0 : State} {b0 : Nat} {D : va_G} {cB cI cJ cZ cS cP : ClassId} {A : Nat → Prop} {sk sv : Nat → Nat} {uN uS mc ms : Nat} {ad0 : Nat → Nat} (C0 : XCx p s s0 b0 m args meth c R_Ma b_Ma_fit 11 (some .int) D cB cI cJ cZ cS cP A) (hE : ENV s0 b0 sk sv) (N : Nat) (G : (CS → Nat → Option Nat → Int32 → Int32 → Int32 → Option (CS × Int32)) × (CS → Nat → Option Nat → Int32 → Int32 → Int32 → Int64 → Int32 → Option (CS × Int32))) (hG : (∀ (u : CS) (v0 : Nat) (v3 : Option Nat) (v4 : Int32) (v5 : Int32) (v6 : Int32) (x : CS × Int32), G.1 u v0 v3 v4 v5 v6 = some x → (uN + mc = x.1.1.1 ∧ uS + ms = x.1.1.2) → ∀ (ad : Nat → Nat) (ce sl : Nat), AB uN uS ad0 u ad ce sl → ∀ (H : Heap) (locs : List Loc), va_P D cls (wC cB cI cJ cZ cS cP ad u) H → va_D A (wC cB cI cJ cZ cS cP ad u) → va_S A s.heap H locs → ∀ (ls : Array Slot), lv_has ls 11 [(0, .ref (ad v0)), (3, va_rf (Option.map ad v3)), (4, .int v4), (5, .int v5), (6, .int v6)] → W p l e (rm_Ma_fit mc ms) s m args below meth c H locs ce sl (MQ below (xQ D cB cI cJ cZ cS cP A ad0 uN x.1 (some (.inl x.2))) args s mc ms A) (F0 m 17 ls [])) ∧ (∀ (u : CS) (v0 : Nat) (v3 : Option Nat) (v4 : Int32) (v5 : Int32) (v6 : Int32) (v7 : Int64) (v10 : Int32) (x : CS × Int32), G.2 u v0 v3 v4 v5 v6 v7 v10 = some x → (uN + mc = x.1.1.1 ∧ uS + ms = x.1.1.2) → ∀ (ad : Nat → Nat) (ce sl : Nat), AB uN uS ad0 u ad ce sl → ∀ (H : Heap) (locs : List Loc), va_P D cls (wC cB cI cJ cZ cS cP ad u) H → va_D A (wC cB cI cJ cZ cS cP ad u) → va_S A s.heap H locs → ∀ (ls : Array Slot), lv_has ls 11 [(0, .ref (ad v0)), (3, va_rf (Option.map ad v3)), (4, .int v4), (5, .int v5), (6, .int v6), (7, .long v7), (10, .int v10)] → W p l e (rm_Ma_fit mc ms) s m args below meth c H locs ce sl (MQ below (xQ D cB cI cJ cZ cS cP A ad0 uN x.1 (some (.inl x.2))) args s mc ms A) (F0 m 268 ls []))) : ∀ (u : CS) (v0 : Nat) (v3 : Option Nat) (v4 : Int32) (v5 : Int32) (v6 : Int32) (v7 : Int64) (v10 : Int32) (x : CS × Int32), fb_Ma_fit_268 N G u v0 v3 v4 v5 v6 v7 v10 = some x → (uN + mc = x.1.1.1 ∧ uS + ms = x.1.1.2) → ∀ (ad : Nat → Nat) (ce sl : Nat), AB uN uS ad0 u ad ce sl → ∀ (H : Heap) (locs : List Loc), va_P D cls (wC cB cI cJ cZ cS cP ad u) H → va_D A (wC cB cI cJ cZ cS cP ad u) → va_S A s.heap H locs → ∀ (ls : Array Slot), lv_has ls 11 [(0, .ref (ad v0)), (3, va_rf (Option.map ad v3)), (4, .int v4), (5, .int v5), (6, .int v6), (7, .long v7), (10, .int v10)] → W p l e (rm_Ma_fit mc ms) s m args below meth c H locs ce sl (MQ below (xQ D cB cI cJ cZ cS cP A ad0 uN x.1 (some (.inl x.2))) args s mc ms A) (F0 m 268 ls []) := by
  intro u v0 v3 v4 v5 v6 v7 v10 x hf hm ad ce sl hB H locs hP hD hS ls hl
  obtain ⟨hx, hb, hr, hml, ht, hown, hK, hA, hlocks, hA0, hO, hbs⟩ := id C0
  unfold fb_Ma_fit_268 at hf
  refine lv_iload hx hb d_Ma_fit_268 (lv_at hl 6 rfl) ?_
  refine lv_if_le (tgt := 300) hx hb d_Ma_fit_270 (by decide) (fun hc => ?_) (fun hc => ?_)
  · rw [br_p _ hc] at hf
    refine lv_iinc (v := (v4 + 2)) (lv' := [(4, .int (v4 + 2)), (0, .ref (ad v0)), (3, va_rf (Option.map ad v3)), (5, .int v5), (6, .int v6), (7, .long v7), (10, .int v10)]) hx hb d_Ma_fit_300 hl (k := 2) rfl rfl (by decide) (by first | rfl | simp [List.filter, cat_rf]) (fun ls hl => ?_)
    refine lv_goto (tgt := 364) hx hb d_Ma_fit_303 (by decide) ?_
    exact wb_Ma_fit_364 C0 hE N G hG _ _ _ _ _ _ _ hf hm _ _ _ hB H locs hP hD hS ls (lv_sub hl [1, 2, 0, 3, 4] rfl)
  · rw [br_n _ hc] at hf
    refine x_aload_n hx hb d_Ma_fit_273 rfl (lv_at hl 1 rfl) ?_
    refine lv_iload hx hb d_Ma_fit_274 (lv_at hl 3 rfl) ?_
    refine lv_aload_n hx hb d_Ma_fit_276 rfl (lv_at hl 0 rfl) ?_
    obtain ⟨r1, g1, hf⟩ := bo_some hf
    refine xg_R (i := v0) (k := 3) hx hb ht hown ck_Ma hK hP (by decide) fk_Ma_23 g1 d_Ma_fit_277 ?_
    obtain ⟨j2, ej2, hf⟩ := bo_some hf
    rw [ej2]
    obtain ⟨r3, g3, hf⟩ := bo_some hf
    refine xg_R (i := j2) (k := 2) hx hb ht hown ck_Pr hK hP (by decide) fk_Ma_195 g3 d_Ma_fit_280 ?_
    refine lv_lload hx hb d_Ma_fit_283 (lv_at hl 5 rfl) ?_
    refine lv_l2i hx hb d_Ma_fit_285 rfl ?_
    refine lv_iload hx hb d_Ma_fit_286 (lv_at hl 6 rfl) ?_
    refine lv_iadd hx hb d_Ma_fit_288 ?_
    obtain ⟨j4, ej4, hf⟩ := bo_some hf
    rw [ej4]
    obtain ⟨r5, g5, hf⟩ := bo_some hf
    refine xl_J (i := j4) hx hb hK hP g5 d_Ma_fit_289 ?_
    obtain ⟨j6, ej6, hf⟩ := bo_some hf
    rw [ej6]
    obtain ⟨w7, g7, hf⟩ := bo_some hf
    refine xs_J (i := j6) hx hb hK hP hD hS g7 d_Ma_fit_290 (fun H locs hP hD hS => ?_)
    have hB := hB.same (sJ_c g7)
    refine lv_iinc (v := (v5 + 1)) (lv' := [(5, .int (v5 + 1)), (0, .ref (ad v0)), (3, va_rf (Option.map ad v3)), (4, .int v4), (6, .int v6), (7, .long v7), (10, .int v10)]) hx hb d_Ma_fit_291 hl (k := 3) rfl rfl (by decide) (by first | rfl | simp [List.filter, cat_rf]) (fun ls hl => ?_)
    refine lv_iinc (v := (v10 + (-1))) (lv' := [(10, .int (v10 + (-1))), (5, .int (v5 + 1)), (0, .ref (ad v0)), (3, va_rf (Option.map ad v3)), (4, .int v4), (6, .int v6), (7, .long v7)]) hx hb d_Ma_fit_294 hl (k := 6) rfl rfl (by decide) (by first | rfl | simp [List.filter, cat_rf]) (fun ls hl => ?_)
    refine lv_goto (tgt := 268) hx hb d_Ma_fit_297 (by decide) ?_
    exact hG.2 _ _ _ _ _ _ _ _ _ hf hm _ _ _ hB H locs hP hD hS ls (lv_sub hl [2, 3, 4, 1, 5, 6, 0] rfl)
def fb_Ma_fit_262 (N : Nat) (G : (CS → Nat → Option Nat → Int32 → Int32 → Int32 → Option (CS × Int32)) × (CS → Nat → Option Nat → Int32 → Int32 → Int32 → Int64 → Int32 → Option (CS × Int32))) (u : CS) : Option (CS × Int32) := some (u, (-1))
set_option maxRecDepth 100000 in
set_option maxHeartbeats 4000000 in
theorem wb_Ma_fit_262 {p : Program} {l : Launch} {e : Env} {s : State} {m : MethodId} {args : Array Value} {below : List Frame} {meth : Method} {c : Code} {s0 : State} {b0 : Nat} {D : va_G} {cB cI cJ cZ cS cP : ClassId} {A : Nat → Prop} {sk sv : Nat → Nat} {uN uS mc ms : Nat} {ad0 : Nat → Nat} (C0 : XCx p s s0 b0 m args meth c R_Ma b_Ma_fit 11 (some .int) D cB cI cJ cZ cS cP A) (hE : ENV s0 b0 sk sv) (N : Nat) (G : (CS → Nat → Option Nat → Int32 → Int32 → Int32 → Option (CS × Int32)) × (CS → Nat → Option Nat → Int32 → Int32 → Int32 → Int64 → Int32 → Option (CS × Int32))) (hG : (∀ (u : CS) (v0 : Nat) (v3 : Option Nat) (v4 : Int32) (v5 : Int32) (v6 : Int32) (x : CS × Int32), G.1 u v0 v3 v4 v5 v6 = some x → (uN + mc = x.1.1.1 ∧ uS + ms = x.1.1.2) → ∀ (ad : Nat → Nat) (ce sl : Nat), AB uN uS ad0 u ad ce sl → ∀ (H : Heap) (locs : List Loc), va_P D cls (wC cB cI cJ cZ cS cP ad u) H → va_D A (wC cB cI cJ cZ cS cP ad u) → va_S A s.heap H locs → ∀ (ls : Array Slot), lv_has ls 11 [(0, .ref (ad v0)), (3, va_rf (Option.map ad v3)), (4, .int v4), (5, .int v5), (6, .int v6)] → W p l e (rm_Ma_fit mc ms) s m args below meth c H locs ce sl (MQ below (xQ D cB cI cJ cZ cS cP A ad0 uN x.1 (some (.inl x.2))) args s mc ms A) (F0 m 17 ls [])) ∧ (∀ (u : CS) (v0 : Nat) (v3 : Option Nat) (v4 : Int32) (v5 : Int32) (v6 : Int32) (v7 : Int64) (v10 : Int32) (x : CS × Int32), G.2 u v0 v3 v4 v5 v6 v7 v10 = some x → (uN + mc = x.1.1.1 ∧ uS + ms = x.1.1.2) → ∀ (ad : Nat → Nat) (ce sl : Nat), AB uN uS ad0 u ad ce sl → ∀ (H : Heap) (locs : List Loc), va_P D cls (wC cB cI cJ cZ cS cP ad u) H → va_D A (wC cB cI cJ cZ cS cP ad u) → va_S A s.heap H locs → ∀ (ls : Array Slot), lv_has ls 11 [(0, .ref (ad v0)), (3, va_rf (Option.map ad v3)), (4, .int v4), (5, .int v5), (6, .int v6), (7, .long v7), (10, .int v10)] → W p l e (rm_Ma_fit mc ms) s m args below meth c H locs ce sl (MQ below (xQ D cB cI cJ cZ cS cP A ad0 uN x.1 (some (.inl x.2))) args s mc ms A) (F0 m 268 ls []))) : ∀ (u : CS) (x : CS × Int32), fb_Ma_fit_262 N G u = some x → (uN + mc = x.1.1.1 ∧ uS + ms = x.1.1.2) → ∀ (ad : Nat → Nat) (ce sl : Nat), AB uN uS ad0 u ad ce sl → ∀ (H : Heap) (locs : List Loc), va_P D cls (wC cB cI cJ cZ cS cP ad u) H → va_D A (wC cB cI cJ cZ cS cP ad u) → va_S A s.heap H locs → ∀ (ls : Array Slot), lv_has ls 11 [] → W p l e (rm_Ma_fit mc ms) s m args below meth c H locs ce sl (MQ below (xQ D cB cI cJ cZ cS cP A ad0 uN x.1 (some (.inl x.2))) args s mc ms A) (F0 m 262 ls []) := by
  intro u x hf hm ad ce sl hB H locs hP hD hS ls hl
  obtain ⟨hx, hb, hr, hml, ht, hown, hK, hA, hlocks, hA0, hO, hbs⟩ := id C0
  unfold fb_Ma_fit_262 at hf
  refine lv_iconst (v := (-1)) hx hb d_Ma_fit_262 (by decide) ?_
  exact yr_i C0 hP hD hS hB hm hf d_Ma_fit_263
def fb_Ma_fit_57 (N : Nat) (G : (CS → Nat → Option Nat → Int32 → Int32 → Int32 → Option (CS × Int32)) × (CS → Nat → Option Nat → Int32 → Int32 → Int32 → Int64 → Int32 → Option (CS × Int32))) (u : CS) : Option (CS × Int32) := some (u, (-1))
set_option maxRecDepth 100000 in
set_option maxHeartbeats 4000000 in
theorem wb_Ma_fit_57 {p : Program} {l : Launch} {e : Env} {s : State} {m : MethodId} {args : Array Value} {below : List Frame} {meth : Method} {c : Code} {s0 : State} {b0 : Nat} {D : va_G} {cB cI cJ cZ cS cP : ClassId} {A : Nat → Prop} {sk sv : Nat → Nat} {uN uS mc ms : Nat} {ad0 : Nat → Nat} (C0 : XCx p s s0 b0 m args meth c R_Ma b_Ma_fit 11 (some .int) D cB cI cJ cZ cS cP A) (hE : ENV s0 b0 sk sv) (N : Nat) (G : (CS → Nat → Option Nat → Int32 → Int32 → Int32 → Option (CS × Int32)) × (CS → Nat → Option Nat → Int32 → Int32 → Int32 → Int64 → Int32 → Option (CS × Int32))) (hG : (∀ (u : CS) (v0 : Nat) (v3 : Option Nat) (v4 : Int32) (v5 : Int32) (v6 : Int32) (x : CS × Int32), G.1 u v0 v3 v4 v5 v6 = some x → (uN + mc = x.1.1.1 ∧ uS + ms = x.1.1.2) → ∀ (ad : Nat → Nat) (ce sl : Nat), AB uN uS ad0 u ad ce sl → ∀ (H : Heap) (locs : List Loc), va_P D cls (wC cB cI cJ cZ cS cP ad u) H → va_D A (wC cB cI cJ cZ cS cP ad u) → va_S A s.heap H locs → ∀ (ls : Array Slot), lv_has ls 11 [(0, .ref (ad v0)), (3, va_rf (Option.map ad v3)), (4, .int v4), (5, .int v5), (6, .int v6)] → W p l e (rm_Ma_fit mc ms) s m args below meth c H locs ce sl (MQ below (xQ D cB cI cJ cZ cS cP A ad0 uN x.1 (some (.inl x.2))) args s mc ms A) (F0 m 17 ls [])) ∧ (∀ (u : CS) (v0 : Nat) (v3 : Option Nat) (v4 : Int32) (v5 : Int32) (v6 : Int32) (v7 : Int64) (v10 : Int32) (x : CS × Int32), G.2 u v0 v3 v4 v5 v6 v7 v10 = some x → (uN + mc = x.1.1.1 ∧ uS + ms = x.1.1.2) → ∀ (ad : Nat → Nat) (ce sl : Nat), AB uN uS ad0 u ad ce sl → ∀ (H : Heap) (locs : List Loc), va_P D cls (wC cB cI cJ cZ cS cP ad u) H → va_D A (wC cB cI cJ cZ cS cP ad u) → va_S A s.heap H locs → ∀ (ls : Array Slot), lv_has ls 11 [(0, .ref (ad v0)), (3, va_rf (Option.map ad v3)), (4, .int v4), (5, .int v5), (6, .int v6), (7, .long v7), (10, .int v10)] → W p l e (rm_Ma_fit mc ms) s m args below meth c H locs ce sl (MQ below (xQ D cB cI cJ cZ cS cP A ad0 uN x.1 (some (.inl x.2))) args s mc ms A) (F0 m 268 ls []))) : ∀ (u : CS) (x : CS × Int32), fb_Ma_fit_57 N G u = some x → (uN + mc = x.1.1.1 ∧ uS + ms = x.1.1.2) → ∀ (ad : Nat → Nat) (ce sl : Nat), AB uN uS ad0 u ad ce sl → ∀ (H : Heap) (locs : List Loc), va_P D cls (wC cB cI cJ cZ cS cP ad u) H → va_D A (wC cB cI cJ cZ cS cP ad u) → va_S A s.heap H locs → ∀ (ls : Array Slot), lv_has ls 11 [] → W p l e (rm_Ma_fit mc ms) s m args below meth c H locs ce sl (MQ below (xQ D cB cI cJ cZ cS cP A ad0 uN x.1 (some (.inl x.2))) args s mc ms A) (F0 m 57 ls []) := by
  intro u x hf hm ad ce sl hB H locs hP hD hS ls hl
  obtain ⟨hx, hb, hr, hml, ht, hown, hK, hA, hlocks, hA0, hO, hbs⟩ := id C0
  unfold fb_Ma_fit_57 at hf
  refine lv_iconst (v := (-1)) hx hb d_Ma_fit_57 (by decide) ?_
  exact yr_i C0 hP hD hS hB hm hf d_Ma_fit_58
def fb_Ma_fit_17 (N : Nat) (G : (CS → Nat → Option Nat → Int32 → Int32 → Int32 → Option (CS × Int32)) × (CS → Nat → Option Nat → Int32 → Int32 → Int32 → Int64 → Int32 → Option (CS × Int32))) (u : CS) (v0 : Nat) (v3 : Option Nat) (v4 : Int32) (v5 : Int32) (v6 : Int32) : Option (CS × Int32) := br (decide (1000000000 ≤ v6)) (fb_Ma_fit_370 N G u (v4)) (bo (gR u v0 5 0) (fun r8 => bo r8 (fun j10 => ck (isO u j10 2) (bx (gz u (fm_Co_at N u j10 v4)) (fun u9 r9 => gw u9 (br (decide (r9 = 8)) (fb_Ma_fit_370 N G u9 (v4)) (br (decide ((v5 + (-1)) < 0)) (fb_Ma_fit_57 N G u9) (br (decide (((v5 + (-1)) + 8) < 2048)) (bo v3 (fun j11 => bo (aJ u9 j11 (v5 + (-1))) (fun r12 => bo (gR u9 v0 5 0) (fun r13 => bo r13 (fun j15 => ck (isO u9 j15 2) (bx (gz u9 (fm_Co_at N u9 j15 (v4 + 1))) (fun u14 r14 => gw u14 (bo (gR u14 v0 5 0) (fun r16 => bo r16 (fun j18 => ck (isO u14 j18 2) (bx (gz u14 (fm_Co_at N u14 j18 v4)) (fun u17 r17 => gw u17 (br (decide (r17 = 1)) (bo (gR u17 v0 5 0) (fun r19 => bo r19 (fun j21 => ck (isO u17 j21 2) (bx (gz u17 (fm_Co_at N u17 j21 (v4 + 2))) (fun u20 r20 => gw u20 (bx (gz u20 (fm_Te_make N u20 r14 r20)) (fun u22 r22 => gw u22 (br (decide ((lg_cmp r12 r22) = 0)) (fb_Ma_fit_364 N G u22 (v0) (v3) ((v4 + 3)) ((v5 + (-1))) (v6)) (some (u22, (-1))))))))))) (br (decide (r17 = 2)) (ck (isO u17 v0 5) (bx (gz u17 (fm_Ma_fitsString N u17 v0 v4 r12)) (fun u23 r23 => gw u23 (br (decide (r23 = 0)) (some (u23, (-1))) (fb_Ma_fit_364 N G u23 (v0) (v3) ((v4 + (2 + r14))) ((v5 + (-1))) (v6)))))) (br (decide (r17 = 3)) (bo (gR u17 v0 5 2) (fun r24 => bo (gR u17 v0 5 3) (fun r25 => bo r25 (fun j26 => bo (gR u17 j26 7 2) (fun r27 => bo (gR u17 v0 5 4) (fun r28 => bo r28 (fun j30 => ck (isO u17 j30 4) (bx (gz u17 (fm_Fr_termOf N u17 j30 r14)) (fun u29 r29 => gw u29 (bo r24 (fun j32 => ck (isO u29 j32 8) (bx (gz u29 (fm_Te_order N u29 j32 r27 r29 r12)) (fun u31 r31 => gw u31 (br (decide (r31 = 0)) (fb_Ma_fit_364 N G u31 (v0) (v3) ((v4 + 2)) ((v5 + (-1))) (v6)) (some (u31, (-1))))))))))))))))) (br (decide (r17 = 4)) (bo (gR u17 v0 5 4) (fun r33 => bo r33 (fun j35 => ck (isO u17 j35 4) (ck (List.all [some v0, v3] (okR u17.1.1)) (bx (gw u17 (fm_Fr_bind N u17 j35 r14 r12)) (fun u34 r34 => gw u34 (fb_Ma_fit_364 N G u34 (v0) (v3) ((v4 + 2)) ((v5 + (-1))) (v6)))))))) (br (decide (r17 = 5)) (fb_Ma_fit_364 N G u17 (v0) (v3) ((v4 + 1)) ((v5 + (-1))) (v6)) (br (decide (r17 = 6)) (bx (gz u17 (fm_Te_tag N u17 r12)) (fun u36 r36 => gw u36 (br (decide (r36 = 5)) (bo (gR u36 v0 5 3) (fun r37 => bo r37 (fun j38 => bo (gR u36 j38 7 2) (fun r39 => bo r39 (fun j40 => bo (aJ u36 j40 (r12.toInt32)) (fun r41 => br (decide (r41.toInt32 = r14)) (G.2 u36 (v0) (v3) (v4) ((v5 + (-1))) (v6) (r12) (r14)) (fb_Ma_fit_262 N G u36))))))) (fb_Ma_fit_262 N G u36)))) (br (decide (r17 = 7)) (bx (gz u17 (fm_Te_tag N u17 r12)) (fun u42 r42 => gw u42 (br (decide (r42 = 7)) (bo (gR u42 v0 5 3) (fun r43 => bo r43 (fun j44 => bo (gR u42 j44 7 2) (fun r45 => bo r45 (fun j46 => bo (aJ u42 j46 (r12.toInt32 + 1)) (fun r47 => bo v3 (fun j48 => bo (sJ u42 j48 (v5 + (-1)) r47) (fun w49 => bo (gR w49 v0 5 3) (fun r50 => bo r50 (fun j51 => bo (gR w49 j51 7 2) (fun r52 => bo r52 (fun j53 => bo (aJ w49 j53 (r12.toInt32)) (fun r54 => bo v3 (fun j55 => bo (sJ w49 j55 ((v5 + (-1)) + 1) r54) (fun w56 => fb_Ma_fit_364 N G w56 (v0) (v3) ((v4 + 1)) (((v5 + (-1)) + 2)) (v6)))))))))))))))) (some (u42, (-1)))))) (fb_Ma_fit_364 N G u17 (v0) (v3) ((v4 + 1)) ((v5 + (-1))) (v6))))))))))))))))))))) (fb_Ma_fit_57 N G u9)))))))))
set_option maxRecDepth 100000 in
set_option maxHeartbeats 4000000 in
theorem wb_Ma_fit_17 {p : Program} {l : Launch} {e : Env} {s : State} {m : MethodId} {args : Array Value} {below : List Frame} {meth : Method} {c : Code} {s0 : State} {b0 : Nat} {D : va_G} {cB cI cJ cZ cS cP : ClassId} {A : Nat → Prop} {sk sv : Nat → Nat} {uN uS mc ms : Nat} {ad0 : Nat → Nat} (C0 : XCx p s s0 b0 m args meth c R_Ma b_Ma_fit 11 (some .int) D cB cI cJ cZ cS cP A) (hE : ENV s0 b0 sk sv) (N : Nat) (G : (CS → Nat → Option Nat → Int32 → Int32 → Int32 → Option (CS × Int32)) × (CS → Nat → Option Nat → Int32 → Int32 → Int32 → Int64 → Int32 → Option (CS × Int32))) (hG : (∀ (u : CS) (v0 : Nat) (v3 : Option Nat) (v4 : Int32) (v5 : Int32) (v6 : Int32) (x : CS × Int32), G.1 u v0 v3 v4 v5 v6 = some x → (uN + mc = x.1.1.1 ∧ uS + ms = x.1.1.2) → ∀ (ad : Nat → Nat) (ce sl : Nat), AB uN uS ad0 u ad ce sl → ∀ (H : Heap) (locs : List Loc), va_P D cls (wC cB cI cJ cZ cS cP ad u) H → va_D A (wC cB cI cJ cZ cS cP ad u) → va_S A s.heap H locs → ∀ (ls : Array Slot), lv_has ls 11 [(0, .ref (ad v0)), (3, va_rf (Option.map ad v3)), (4, .int v4), (5, .int v5), (6, .int v6)] → W p l e (rm_Ma_fit mc ms) s m args below meth c H locs ce sl (MQ below (xQ D cB cI cJ cZ cS cP A ad0 uN x.1 (some (.inl x.2))) args s mc ms A) (F0 m 17 ls [])) ∧ (∀ (u : CS) (v0 : Nat) (v3 : Option Nat) (v4 : Int32) (v5 : Int32) (v6 : Int32) (v7 : Int64) (v10 : Int32) (x : CS × Int32), G.2 u v0 v3 v4 v5 v6 v7 v10 = some x → (uN + mc = x.1.1.1 ∧ uS + ms = x.1.1.2) → ∀ (ad : Nat → Nat) (ce sl : Nat), AB uN uS ad0 u ad ce sl → ∀ (H : Heap) (locs : List Loc), va_P D cls (wC cB cI cJ cZ cS cP ad u) H → va_D A (wC cB cI cJ cZ cS cP ad u) → va_S A s.heap H locs → ∀ (ls : Array Slot), lv_has ls 11 [(0, .ref (ad v0)), (3, va_rf (Option.map ad v3)), (4, .int v4), (5, .int v5), (6, .int v6), (7, .long v7), (10, .int v10)] → W p l e (rm_Ma_fit mc ms) s m args below meth c H locs ce sl (MQ below (xQ D cB cI cJ cZ cS cP A ad0 uN x.1 (some (.inl x.2))) args s mc ms A) (F0 m 268 ls []))) : ∀ (u : CS) (v0 : Nat) (v3 : Option Nat) (v4 : Int32) (v5 : Int32) (v6 : Int32) (x : CS × Int32), fb_Ma_fit_17 N G u v0 v3 v4 v5 v6 = some x → (uN + mc = x.1.1.1 ∧ uS + ms = x.1.1.2) → ∀ (ad : Nat → Nat) (ce sl : Nat), AB uN uS ad0 u ad ce sl → ∀ (H : Heap) (locs : List Loc), va_P D cls (wC cB cI cJ cZ cS cP ad u) H → va_D A (wC cB cI cJ cZ cS cP ad u) → va_S A s.heap H locs → ∀ (ls : Array Slot), lv_has ls 11 [(0, .ref (ad v0)), (3, va_rf (Option.map ad v3)), (4, .int v4), (5, .int v5), (6, .int v6)] → W p l e (rm_Ma_fit mc ms) s m args below meth c H locs ce sl (MQ below (xQ D cB cI cJ cZ cS cP A ad0 uN x.1 (some (.inl x.2))) args s mc ms A) (F0 m 17 ls []) := by
  intro u v0 v3 v4 v5 v6 x hf hm ad ce sl hB H locs hP hD hS ls hl
  obtain ⟨hx, hb, hr, hml, ht, hown, hK, hA, hlocks, hA0, hO, hbs⟩ := id C0
  unfold fb_Ma_fit_17 at hf
  refine lv_iload hx hb d_Ma_fit_17 (lv_at hl 4 rfl) ?_
  refine lv_ldc (v := 1000000000) hx hb hown (ht _ (wd_of 1643 (by decide +kernel) rfl)) d_Ma_fit_19 ?_
  refine lv_icmp_ge (tgt := 370) hx hb d_Ma_fit_21 (by decide) (fun hc => ?_) (fun hc => ?_)
  · rw [br_p _ hc] at hf
    exact wb_Ma_fit_370 C0 hE N G hG _ _ _ hf hm _ _ _ hB H locs hP hD hS ls (lv_sub hl [2] rfl)
  · rw [br_n _ hc] at hf
    refine lv_aload_n hx hb d_Ma_fit_24 rfl (lv_at hl 0 rfl) ?_
    obtain ⟨r8, g8, hf⟩ := bo_some hf
    refine xg_R (i := v0) (k := 0) hx hb ht hown ck_Ma hK hP (by decide) fk_Ma_9 g8 d_Ma_fit_25 ?_
    refine lv_iload hx hb d_Ma_fit_28 (lv_at hl 2 rfl) ?_
    obtain ⟨j10, ej10, hf⟩ := bo_some hf
    rw [ej10]
    obtain ⟨hO9, hf⟩ := ck_some hf
    obtain ⟨u9, r9, hc9, hf⟩ := bx_some hf
    obtain ⟨hc9, hz9⟩ := gz_some hc9
    obtain ⟨hf, hw9⟩ := gw_some hf
    refine xV0 (i := j10) (As := [.int v4]) (rest := []) C0 hP hD hS ck_Co hO9 (c_Co_at N hc9) k_Co_at (wd_of 1644 (by decide +kernel) rfl) hi_Co_at hs_Co_at hini_Co rfl rfl hd_Co_at rfl rm_Ma_fit_Co_at hl.1 (Nat.le_of_ble_eq_true rfl) d_Ma_fit_30 rfl (hB.fit hm hz9 hw9) (fun H locs hP hD hS => ?_)
    have hB := hB.same2 hz9
    refine lv_bipush (v := 8) hx hb d_Ma_fit_33 (by decide) ?_
    refine lv_icmp_eq (tgt := 370) hx hb d_Ma_fit_35 (by decide) (fun hc => ?_) (fun hc => ?_)
    · rw [br_p _ hc] at hf
      exact wb_Ma_fit_370 C0 hE N G hG _ _ _ hf hm _ _ _ hB H locs hP hD hS ls (lv_sub hl [2] rfl)
    · rw [br_n _ hc] at hf
      refine lv_iinc (v := (v5 + (-1))) (lv' := [(5, .int (v5 + (-1))), (0, .ref (ad v0)), (3, va_rf (Option.map ad v3)), (4, .int v4), (6, .int v6)]) hx hb d_Ma_fit_38 hl (k := 3) rfl rfl (by decide) (by first | rfl | simp [List.filter, cat_rf]) (fun ls hl => ?_)
      refine lv_iload hx hb d_Ma_fit_41 (lv_at hl 0 rfl) ?_
      refine lv_if_lt (tgt := 57) hx hb d_Ma_fit_43 (by decide) (fun hc => ?_) (fun hc => ?_)
      · rw [br_p _ hc] at hf
        exact wb_Ma_fit_57 C0 hE N G hG _ _ hf hm _ _ _ hB H locs hP hD hS ls (lv_sub hl [] rfl)
      · rw [br_n _ hc] at hf
        refine lv_iload hx hb d_Ma_fit_46 (lv_at hl 0 rfl) ?_
        refine lv_bipush (v := 8) hx hb d_Ma_fit_48 (by decide) ?_
        refine lv_iadd hx hb d_Ma_fit_50 ?_
        refine lv_sipush (v := 2048) hx hb d_Ma_fit_51 (by decide) ?_
        refine lv_icmp_lt (tgt := 59) hx hb d_Ma_fit_54 (by decide) (fun hc => ?_) (fun hc => ?_)
        · rw [br_p _ hc] at hf
          refine x_aload_n hx hb d_Ma_fit_59 rfl (lv_at hl 2 rfl) ?_
          refine lv_iload hx hb d_Ma_fit_60 (lv_at hl 0 rfl) ?_
          obtain ⟨j11, ej11, hf⟩ := bo_some hf
          rw [ej11]
          obtain ⟨r12, g12, hf⟩ := bo_some hf
          refine xl_J (i := j11) hx hb hK hP g12 d_Ma_fit_62 ?_
          refine lv_lstore (lv' := [(7, .long r12), (5, .int (v5 + (-1))), (0, .ref (ad v0)), (3, va_rf (Option.map ad v3)), (4, .int v4), (6, .int v6)]) hx hb d_Ma_fit_63 hl (by decide) (by first | rfl | simp [List.filter, cat_rf]) (fun ls hl => ?_)
          refine lv_aload_n hx hb d_Ma_fit_65 rfl (lv_at hl 2 rfl) ?_
          obtain ⟨r13, g13, hf⟩ := bo_some hf
          refine xg_R (i := v0) (k := 0) hx hb ht hown ck_Ma hK hP (by decide) fk_Ma_9 g13 d_Ma_fit_66 ?_
          refine lv_iload hx hb d_Ma_fit_69 (lv_at hl 4 rfl) ?_
          refine lv_iconst (v := 1) hx hb d_Ma_fit_71 (by decide) ?_
          refine lv_iadd hx hb d_Ma_fit_72 ?_
          obtain ⟨j15, ej15, hf⟩ := bo_some hf
          rw [ej15]
          obtain ⟨hO9, hf⟩ := ck_some hf
          obtain ⟨u14, r14, hc14, hf⟩ := bx_some hf
          obtain ⟨hc14, hz14⟩ := gz_some hc14
          obtain ⟨hf, hw14⟩ := gw_some hf
          refine xV0 (i := j15) (As := [.int (v4 + 1)]) (rest := []) C0 hP hD hS ck_Co hO9 (c_Co_at N hc14) k_Co_at (wd_of 1644 (by decide +kernel) rfl) hi_Co_at hs_Co_at hini_Co rfl rfl hd_Co_at rfl rm_Ma_fit_Co_at hl.1 (Nat.le_of_ble_eq_true rfl) d_Ma_fit_73 rfl (hB.fit hm hz14 hw14) (fun H locs hP hD hS => ?_)
          have hB := hB.same2 hz14
          refine lv_istore (lv' := [(9, .int r14), (7, .long r12), (5, .int (v5 + (-1))), (0, .ref (ad v0)), (3, va_rf (Option.map ad v3)), (4, .int v4), (6, .int v6)]) hx hb d_Ma_fit_76 hl (by decide) (by first | rfl | simp [List.filter, cat_rf]) (fun ls hl => ?_)
          refine lv_aload_n hx hb d_Ma_fit_78 rfl (lv_at hl 3 rfl) ?_
          obtain ⟨r16, g16, hf⟩ := bo_some hf
          refine xg_R (i := v0) (k := 0) hx hb ht hown ck_Ma hK hP (by decide) fk_Ma_9 g16 d_Ma_fit_79 ?_
          refine lv_iload hx hb d_Ma_fit_82 (lv_at hl 5 rfl) ?_
          obtain ⟨j18, ej18, hf⟩ := bo_some hf
          rw [ej18]
          obtain ⟨hO9, hf⟩ := ck_some hf
          obtain ⟨u17, r17, hc17, hf⟩ := bx_some hf
          obtain ⟨hc17, hz17⟩ := gz_some hc17
          obtain ⟨hf, hw17⟩ := gw_some hf
          refine xV0 (i := j18) (As := [.int v4]) (rest := []) C0 hP hD hS ck_Co hO9 (c_Co_at N hc17) k_Co_at (wd_of 1644 (by decide +kernel) rfl) hi_Co_at hs_Co_at hini_Co rfl rfl hd_Co_at rfl rm_Ma_fit_Co_at hl.1 (Nat.le_of_ble_eq_true rfl) d_Ma_fit_84 rfl (hB.fit hm hz17 hw17) (fun H locs hP hD hS => ?_)
          have hB := hB.same2 hz17
          refine W.eq (g2 := F0 m 87 ls [.int r17]) rfl ?_
          by_cases hc1 : r17 = 1
          · rw [br_p _ hc1] at hf
            refine lv_tableIn (tgt := 128) hx hb d_Ma_fit_87 (by rw [hc1]; decide) (by rw [hc1]; decide) (by rw [hc1]; rfl) (by decide) ?_
            refine lv_lload hx hb d_Ma_fit_128 (lv_at hl 1 rfl) ?_
            refine lv_iload hx hb d_Ma_fit_130 (lv_at hl 0 rfl) ?_
            refine lv_aload_n hx hb d_Ma_fit_132 rfl (lv_at hl 3 rfl) ?_
            obtain ⟨r19, g19, hf⟩ := bo_some hf
            refine xg_R (i := v0) (k := 0) hx hb ht hown ck_Ma hK hP (by decide) fk_Ma_9 g19 d_Ma_fit_133 ?_
            refine lv_iload hx hb d_Ma_fit_136 (lv_at hl 5 rfl) ?_
            refine lv_iconst (v := 2) hx hb d_Ma_fit_138 (by decide) ?_
            refine lv_iadd hx hb d_Ma_fit_139 ?_
            obtain ⟨j21, ej21, hf⟩ := bo_some hf
            rw [ej21]
            obtain ⟨hO9, hf⟩ := ck_some hf
            obtain ⟨u20, r20, hc20, hf⟩ := bx_some hf
            obtain ⟨hc20, hz20⟩ := gz_some hc20
            obtain ⟨hf, hw20⟩ := gw_some hf
            refine xV0 (i := j21) (As := [.int (v4 + 2)]) (rest := [.int r14, .long r12]) C0 hP hD hS ck_Co hO9 (c_Co_at N hc20) k_Co_at (wd_of 1644 (by decide +kernel) rfl) hi_Co_at hs_Co_at hini_Co rfl rfl hd_Co_at rfl rm_Ma_fit_Co_at hl.1 (Nat.le_of_ble_eq_true rfl) d_Ma_fit_140 rfl (hB.fit hm hz20 hw20) (fun H locs hP hD hS => ?_)
            have hB := hB.same2 hz20
            obtain ⟨u22, r22, hc22, hf⟩ := bx_some hf
            obtain ⟨hc22, hz22⟩ := gz_some hc22
            obtain ⟨hf, hw22⟩ := gw_some hf
            refine xS0 (As := [.int r14, .int r20]) (rest := [.long r12]) C0 hP hD hS (c_Te_make N hc22) k_Te_make (wd_of 1671 (by decide +kernel) rfl) ht_Te_make hini_Te rfl rfl hd_Te_make rfl rm_Ma_fit_Te_make hl.1 (Nat.le_of_ble_eq_true rfl) d_Ma_fit_143 rfl (hB.fit hm hz22 hw22) (fun H locs hP hD hS => ?_)
            have hB := hB.same2 hz22
            refine W.lcmp hx hb d_Ma_fit_146 ?_
            refine lv_if_eq (tgt := 152) hx hb d_Ma_fit_147 (by decide) (fun hc => ?_) (fun hc => ?_)
            · rw [br_p _ hc] at hf
              refine lv_iinc (v := (v4 + 3)) (lv' := [(4, .int (v4 + 3)), (9, .int r14), (7, .long r12), (5, .int (v5 + (-1))), (0, .ref (ad v0)), (3, va_rf (Option.map ad v3)), (6, .int v6)]) hx hb d_Ma_fit_152 hl (k := 5) rfl rfl (by decide) (by first | rfl | simp [List.filter, cat_rf]) (fun ls hl => ?_)
              refine lv_goto (tgt := 364) hx hb d_Ma_fit_155 (by decide) ?_
              exact wb_Ma_fit_364 C0 hE N G hG _ _ _ _ _ _ _ hf hm _ _ _ hB H locs hP hD hS ls (lv_sub hl [4, 5, 0, 3, 6] rfl)
            · rw [br_n _ hc] at hf
              refine lv_iconst (v := (-1)) hx hb d_Ma_fit_150 (by decide) ?_
              exact yr_i C0 hP hD hS hB hm hf d_Ma_fit_151
          · rw [br_n _ hc1] at hf
            by_cases hc2 : r17 = 2
            · rw [br_p _ hc2] at hf
              refine lv_tableIn (tgt := 158) hx hb d_Ma_fit_87 (by rw [hc2]; decide) (by rw [hc2]; decide) (by rw [hc2]; rfl) (by decide) ?_
              refine lv_aload_n hx hb d_Ma_fit_158 rfl (lv_at hl 3 rfl) ?_
              refine lv_iload hx hb d_Ma_fit_159 (lv_at hl 5 rfl) ?_
              refine lv_lload hx hb d_Ma_fit_161 (lv_at hl 1 rfl) ?_
              obtain ⟨hO9, hf⟩ := ck_some hf
              obtain ⟨u23, r23, hc23, hf⟩ := bx_some hf
              obtain ⟨hc23, hz23⟩ := gz_some hc23
              obtain ⟨hf, hw23⟩ := gw_some hf
              refine xV0 (i := v0) (As := [.int v4, .long r12]) (rest := []) C0 hP hD hS ck_Ma hO9 (c_Ma_fitsString N hc23) k_Ma_fitsString (wd_of 1963 (by decide +kernel) rfl) hi_Ma_fitsString hs_Ma_fitsString hini_Ma rfl rfl hd_Ma_fitsString rfl rm_Ma_fit_Ma_fitsString hl.1 (Nat.le_of_ble_eq_true rfl) d_Ma_fit_163 rfl (hB.fit hm hz23 hw23) (fun H locs hP hD hS => ?_)
              have hB := hB.same2 hz23
              refine lv_if_ne (tgt := 171) hx hb d_Ma_fit_166 (by decide) (fun hc => ?_) (fun hc => ?_)
              · rw [br_n _ hc] at hf
                refine lv_iload hx hb d_Ma_fit_171 (lv_at hl 5 rfl) ?_
                refine lv_iconst (v := 2) hx hb d_Ma_fit_173 (by decide) ?_
                refine lv_iload hx hb d_Ma_fit_174 (lv_at hl 0 rfl) ?_
                refine lv_iadd hx hb d_Ma_fit_176 ?_
                refine lv_iadd hx hb d_Ma_fit_177 ?_
                refine lv_istore (lv' := [(4, .int (v4 + (2 + r14))), (9, .int r14), (7, .long r12), (5, .int (v5 + (-1))), (0, .ref (ad v0)), (3, va_rf (Option.map ad v3)), (6, .int v6)]) hx hb d_Ma_fit_178 hl (by decide) (by first | rfl | simp [List.filter, cat_rf]) (fun ls hl => ?_)
                refine lv_goto (tgt := 364) hx hb d_Ma_fit_180 (by decide) ?_
                exact wb_Ma_fit_364 C0 hE N G hG _ _ _ _ _ _ _ hf hm _ _ _ hB H locs hP hD hS ls (lv_sub hl [4, 5, 0, 3, 6] rfl)
              · rw [br_p _ hc] at hf
                refine lv_iconst (v := (-1)) hx hb d_Ma_fit_169 (by decide) ?_
                exact yr_i C0 hP hD hS hB hm hf d_Ma_fit_170
            · rw [br_n _ hc2] at hf
              by_cases hc3 : r17 = 3
              · rw [br_p _ hc3] at hf
                refine lv_tableIn (tgt := 183) hx hb d_Ma_fit_87 (by rw [hc3]; decide) (by rw [hc3]; decide) (by rw [hc3]; rfl) (by decide) ?_
                refine lv_aload_n hx hb d_Ma_fit_183 rfl (lv_at hl 3 rfl) ?_
                obtain ⟨r24, g24, hf⟩ := bo_some hf
                refine xg_R (i := v0) (k := 2) hx hb ht hown ck_Ma hK hP (by decide) fk_Ma_19 g24 d_Ma_fit_184 ?_
                refine lv_aload_n hx hb d_Ma_fit_187 rfl (lv_at hl 3 rfl) ?_
                obtain ⟨r25, g25, hf⟩ := bo_some hf
                refine xg_R (i := v0) (k := 3) hx hb ht hown ck_Ma hK hP (by decide) fk_Ma_23 g25 d_Ma_fit_188 ?_
                obtain ⟨j26, ej26, hf⟩ := bo_some hf
                rw [ej26]
                obtain ⟨r27, g27, hf⟩ := bo_some hf
                refine xg_R (i := j26) (k := 2) hx hb ht hown ck_Pr hK hP (by decide) fk_Ma_195 g27 d_Ma_fit_191 ?_
                refine lv_aload_n hx hb d_Ma_fit_194 rfl (lv_at hl 3 rfl) ?_
                obtain ⟨r28, g28, hf⟩ := bo_some hf
                refine xg_R (i := v0) (k := 4) hx hb ht hown ck_Ma hK hP (by decide) fk_Ma_33 g28 d_Ma_fit_195 ?_
                refine lv_iload hx hb d_Ma_fit_198 (lv_at hl 0 rfl) ?_
                obtain ⟨j30, ej30, hf⟩ := bo_some hf
                rw [ej30]
                obtain ⟨hO9, hf⟩ := ck_some hf
                obtain ⟨u29, r29, hc29, hf⟩ := bx_some hf
                obtain ⟨hc29, hz29⟩ := gz_some hc29
                obtain ⟨hf, hw29⟩ := gw_some hf
                refine xV0 (i := j30) (As := [.int r14]) (rest := [va_rf (Option.map ad r27), va_rf (Option.map ad r24)]) C0 hP hD hS ck_Fr hO9 (c_Fr_termOf N hc29) k_Fr_termOf (wd_of 1861 (by decide +kernel) rfl) hi_Fr_termOf hs_Fr_termOf hini_Fr rfl rfl hd_Fr_termOf rfl rm_Ma_fit_Fr_termOf hl.1 (c8 (Nat.le_of_ble_eq_true rfl)) d_Ma_fit_200 rfl (hB.fit hm hz29 hw29) (fun H locs hP hD hS => ?_)
                have hB := hB.same2 hz29
                refine lv_lload hx hb d_Ma_fit_203 (lv_at hl 1 rfl) ?_
                obtain ⟨j32, ej32, hf⟩ := bo_some hf
                rw [ej32]
                obtain ⟨hO9, hf⟩ := ck_some hf
                obtain ⟨u31, r31, hc31, hf⟩ := bx_some hf
                obtain ⟨hc31, hz31⟩ := gz_some hc31
                obtain ⟨hf, hw31⟩ := gw_some hf
                refine xV0 (i := j32) (As := [va_rf (Option.map ad r27), .long r29, .long r12]) (rest := []) C0 hP hD hS ck_Te hO9 (c_Te_order N hE hc31) k_Te_order (wd_of 1889 (by decide +kernel) rfl) hi_Te_order hs_Te_order hini_Te rfl rfl hd_Te_order rfl rm_Ma_fit_Te_order hl.1 (Nat.le_of_ble_eq_true rfl) d_Ma_fit_205 rfl (hB.fit hm hz31 hw31) (fun H locs hP hD hS => ?_)
                have hB := hB.same2 hz31
                refine lv_if_eq (tgt := 213) hx hb d_Ma_fit_208 (by decide) (fun hc => ?_) (fun hc => ?_)
                · rw [br_p _ hc] at hf
                  refine lv_iinc (v := (v4 + 2)) (lv' := [(4, .int (v4 + 2)), (9, .int r14), (7, .long r12), (5, .int (v5 + (-1))), (0, .ref (ad v0)), (3, va_rf (Option.map ad v3)), (6, .int v6)]) hx hb d_Ma_fit_213 hl (k := 5) rfl rfl (by decide) (by first | rfl | simp [List.filter, cat_rf]) (fun ls hl => ?_)
                  refine lv_goto (tgt := 364) hx hb d_Ma_fit_216 (by decide) ?_
                  exact wb_Ma_fit_364 C0 hE N G hG _ _ _ _ _ _ _ hf hm _ _ _ hB H locs hP hD hS ls (lv_sub hl [4, 5, 0, 3, 6] rfl)
                · rw [br_n _ hc] at hf
                  refine lv_iconst (v := (-1)) hx hb d_Ma_fit_211 (by decide) ?_
                  exact yr_i C0 hP hD hS hB hm hf d_Ma_fit_212
              · rw [br_n _ hc3] at hf
                by_cases hc4 : r17 = 4
                · rw [br_p _ hc4] at hf
                  refine lv_tableIn (tgt := 219) hx hb d_Ma_fit_87 (by rw [hc4]; decide) (by rw [hc4]; decide) (by rw [hc4]; rfl) (by decide) ?_
                  refine lv_aload_n hx hb d_Ma_fit_219 rfl (lv_at hl 3 rfl) ?_
                  obtain ⟨r33, g33, hf⟩ := bo_some hf
                  refine xg_R (i := v0) (k := 4) hx hb ht hown ck_Ma hK hP (by decide) fk_Ma_33 g33 d_Ma_fit_220 ?_
                  refine lv_iload hx hb d_Ma_fit_223 (lv_at hl 0 rfl) ?_
                  refine lv_lload hx hb d_Ma_fit_225 (lv_at hl 1 rfl) ?_
                  obtain ⟨j35, ej35, hf⟩ := bo_some hf
                  rw [ej35]
                  obtain ⟨hO9, hf⟩ := ck_some hf
                  obtain ⟨hk34, hf⟩ := ck_some hf
                  obtain ⟨u34, r34, hc34, hf⟩ := bx_some hf
                  obtain ⟨hc34, hq34⟩ := gw_some hc34
                  obtain ⟨hf, hw34⟩ := gw_some hf
                  refine yV (i := j35) (As := [.int r14, .long r12]) (rest := []) C0 hP hD hS ck_Fr hO9 (c_Fr_bind N hE hc34 (gm hq34)) k_Fr_bind (wd_of 1711 (by decide +kernel) rfl) hi_Fr_bind hs_Fr_bind hini_Fr rfl rfl hd_Fr_bind rfl rm_Ma_fit_Fr_bind hl.1 (Nat.le_of_ble_eq_true rfl) d_Ma_fit_227 rfl (gm hq34) hB hm hw34 (fun ad34 H locs ce sl hg34 hB hP hD hS => ?_)
                  have q34_0 : ad34 v0 = ad v0 := ko_O (k := 0) hk34 rfl hg34
                  have q34_1 : Option.map ad34 v3 = Option.map ad v3 := ko_N (k := 1) hk34 rfl hg34
                  have hl : lv_has ls 11 [(9, .int r14), (7, .long r12), (5, .int (v5 + (-1))), (0, .ref (ad34 v0)), (3, va_rf (Option.map ad34 v3)), (4, .int v4), (6, .int v6)] := by simp only [q34_0, q34_1]; exact hl
                  refine lv_iinc (v := (v4 + 2)) (lv' := [(4, .int (v4 + 2)), (9, .int r14), (7, .long r12), (5, .int (v5 + (-1))), (0, .ref (ad34 v0)), (3, va_rf (Option.map ad34 v3)), (6, .int v6)]) hx hb d_Ma_fit_230 hl (k := 5) rfl rfl (by decide) (by first | rfl | simp [List.filter, cat_rf]) (fun ls hl => ?_)
                  refine lv_goto (tgt := 364) hx hb d_Ma_fit_233 (by decide) ?_
                  exact wb_Ma_fit_364 C0 hE N G hG _ _ _ _ _ _ _ hf hm _ _ _ hB H locs hP hD hS ls (lv_sub hl [4, 5, 0, 3, 6] rfl)
                · rw [br_n _ hc4] at hf
                  by_cases hc5 : r17 = 5
                  · rw [br_p _ hc5] at hf
                    refine lv_tableIn (tgt := 361) hx hb d_Ma_fit_87 (by rw [hc5]; decide) (by rw [hc5]; decide) (by rw [hc5]; rfl) (by decide) ?_
                    refine lv_iinc (v := (v4 + 1)) (lv' := [(4, .int (v4 + 1)), (9, .int r14), (7, .long r12), (5, .int (v5 + (-1))), (0, .ref (ad v0)), (3, va_rf (Option.map ad v3)), (6, .int v6)]) hx hb d_Ma_fit_361 hl (k := 5) rfl rfl (by decide) (by first | rfl | simp [List.filter, cat_rf]) (fun ls hl => ?_)
                    exact wb_Ma_fit_364 C0 hE N G hG _ _ _ _ _ _ _ hf hm _ _ _ hB H locs hP hD hS ls (lv_sub hl [4, 5, 0, 3, 6] rfl)
                  · rw [br_n _ hc5] at hf
                    by_cases hc6 : r17 = 6
                    · rw [br_p _ hc6] at hf
                      refine lv_tableIn (tgt := 236) hx hb d_Ma_fit_87 (by rw [hc6]; decide) (by rw [hc6]; decide) (by rw [hc6]; rfl) (by decide) ?_
                      refine lv_lload hx hb d_Ma_fit_236 (lv_at hl 1 rfl) ?_
                      obtain ⟨u36, r36, hc36, hf⟩ := bx_some hf
                      obtain ⟨hc36, hz36⟩ := gz_some hc36
                      obtain ⟨hf, hw36⟩ := gw_some hf
                      refine xS0 (As := [.long r12]) (rest := []) C0 hP hD hS (c_Te_tag N hc36) k_Te_tag (wd_of 1657 (by decide +kernel) rfl) ht_Te_tag hini_Te rfl rfl hd_Te_tag rfl rm_Ma_fit_Te_tag hl.1 (Nat.le_of_ble_eq_true rfl) d_Ma_fit_238 rfl (hB.fit hm hz36 hw36) (fun H locs hP hD hS => ?_)
                      have hB := hB.same2 hz36
                      refine lv_iconst (v := 5) hx hb d_Ma_fit_241 (by decide) ?_
                      refine lv_icmp_ne (tgt := 262) hx hb d_Ma_fit_242 (by decide) (fun hc => ?_) (fun hc => ?_)
                      · rw [br_n _ hc] at hf
                        exact wb_Ma_fit_262 C0 hE N G hG _ _ hf hm _ _ _ hB H locs hP hD hS ls (lv_sub hl [] rfl)
                      · rw [br_p _ hc] at hf
                        refine lv_aload_n hx hb d_Ma_fit_245 rfl (lv_at hl 3 rfl) ?_
                        obtain ⟨r37, g37, hf⟩ := bo_some hf
                        refine xg_R (i := v0) (k := 3) hx hb ht hown ck_Ma hK hP (by decide) fk_Ma_23 g37 d_Ma_fit_246 ?_
                        obtain ⟨j38, ej38, hf⟩ := bo_some hf
                        rw [ej38]
                        obtain ⟨r39, g39, hf⟩ := bo_some hf
                        refine xg_R (i := j38) (k := 2) hx hb ht hown ck_Pr hK hP (by decide) fk_Ma_195 g39 d_Ma_fit_249 ?_
                        refine lv_lload hx hb d_Ma_fit_252 (lv_at hl 1 rfl) ?_
                        refine lv_l2i hx hb d_Ma_fit_254 rfl ?_
                        obtain ⟨j40, ej40, hf⟩ := bo_some hf
                        rw [ej40]
                        obtain ⟨r41, g41, hf⟩ := bo_some hf
                        refine xl_J (i := j40) hx hb hK hP g41 d_Ma_fit_255 ?_
                        refine lv_l2i hx hb d_Ma_fit_256 rfl ?_
                        refine lv_iload hx hb d_Ma_fit_257 (lv_at hl 0 rfl) ?_
                        refine lv_icmp_eq (tgt := 264) hx hb d_Ma_fit_259 (by decide) (fun hc => ?_) (fun hc => ?_)
                        · rw [br_p _ hc] at hf
                          refine lv_iload hx hb d_Ma_fit_264 (lv_at hl 0 rfl) ?_
                          refine lv_istore (lv' := [(10, .int r14), (9, .int r14), (7, .long r12), (5, .int (v5 + (-1))), (0, .ref (ad v0)), (3, va_rf (Option.map ad v3)), (4, .int v4), (6, .int v6)]) hx hb d_Ma_fit_266 hl (by decide) (by first | rfl | simp [List.filter, cat_rf]) (fun ls hl => ?_)
                          exact hG.2 _ _ _ _ _ _ _ _ _ hf hm _ _ _ hB H locs hP hD hS ls (lv_sub hl [4, 5, 6, 3, 7, 2, 0] rfl)
                        · rw [br_n _ hc] at hf
                          exact wb_Ma_fit_262 C0 hE N G hG _ _ hf hm _ _ _ hB H locs hP hD hS ls (lv_sub hl [] rfl)
                    · rw [br_n _ hc6] at hf
                      by_cases hc7 : r17 = 7
                      · rw [br_p _ hc7] at hf
                        refine lv_tableIn (tgt := 306) hx hb d_Ma_fit_87 (by rw [hc7]; decide) (by rw [hc7]; decide) (by rw [hc7]; rfl) (by decide) ?_
                        refine lv_lload hx hb d_Ma_fit_306 (lv_at hl 1 rfl) ?_
                        obtain ⟨u42, r42, hc42, hf⟩ := bx_some hf
                        obtain ⟨hc42, hz42⟩ := gz_some hc42
                        obtain ⟨hf, hw42⟩ := gw_some hf
                        refine xS0 (As := [.long r12]) (rest := []) C0 hP hD hS (c_Te_tag N hc42) k_Te_tag (wd_of 1657 (by decide +kernel) rfl) ht_Te_tag hini_Te rfl rfl hd_Te_tag rfl rm_Ma_fit_Te_tag hl.1 (Nat.le_of_ble_eq_true rfl) d_Ma_fit_308 rfl (hB.fit hm hz42 hw42) (fun H locs hP hD hS => ?_)
                        have hB := hB.same2 hz42
                        refine lv_bipush (v := 7) hx hb d_Ma_fit_311 (by decide) ?_
                        refine lv_icmp_eq (tgt := 318) hx hb d_Ma_fit_313 (by decide) (fun hc => ?_) (fun hc => ?_)
                        · rw [br_p _ hc] at hf
                          refine x_aload_n hx hb d_Ma_fit_318 rfl (lv_at hl 4 rfl) ?_
                          refine lv_iload hx hb d_Ma_fit_319 (lv_at hl 2 rfl) ?_
                          refine lv_aload_n hx hb d_Ma_fit_321 rfl (lv_at hl 3 rfl) ?_
                          obtain ⟨r43, g43, hf⟩ := bo_some hf
                          refine xg_R (i := v0) (k := 3) hx hb ht hown ck_Ma hK hP (by decide) fk_Ma_23 g43 d_Ma_fit_322 ?_
                          obtain ⟨j44, ej44, hf⟩ := bo_some hf
                          rw [ej44]
                          obtain ⟨r45, g45, hf⟩ := bo_some hf
                          refine xg_R (i := j44) (k := 2) hx hb ht hown ck_Pr hK hP (by decide) fk_Ma_195 g45 d_Ma_fit_325 ?_
                          refine lv_lload hx hb d_Ma_fit_328 (lv_at hl 1 rfl) ?_
                          refine lv_l2i hx hb d_Ma_fit_330 rfl ?_
                          refine lv_iconst (v := 1) hx hb d_Ma_fit_331 (by decide) ?_
                          refine lv_iadd hx hb d_Ma_fit_332 ?_
                          obtain ⟨j46, ej46, hf⟩ := bo_some hf
                          rw [ej46]
                          obtain ⟨r47, g47, hf⟩ := bo_some hf
                          refine xl_J (i := j46) hx hb hK hP g47 d_Ma_fit_333 ?_
                          obtain ⟨j48, ej48, hf⟩ := bo_some hf
                          rw [ej48]
                          obtain ⟨w49, g49, hf⟩ := bo_some hf
                          refine xs_J (i := j48) hx hb hK hP hD hS g49 d_Ma_fit_334 (fun H locs hP hD hS => ?_)
                          have hB := hB.same (sJ_c g49)
                          refine x_aload_n hx hb d_Ma_fit_335 rfl (lv_at hl 4 rfl) ?_
                          refine lv_iload hx hb d_Ma_fit_336 (lv_at hl 2 rfl) ?_
                          refine lv_iconst (v := 1) hx hb d_Ma_fit_338 (by decide) ?_
                          refine lv_iadd hx hb d_Ma_fit_339 ?_
                          refine lv_aload_n hx hb d_Ma_fit_340 rfl (lv_at hl 3 rfl) ?_
                          obtain ⟨r50, g50, hf⟩ := bo_some hf
                          refine xg_R (i := v0) (k := 3) hx hb ht hown ck_Ma hK hP (by decide) fk_Ma_23 g50 d_Ma_fit_341 ?_
                          obtain ⟨j51, ej51, hf⟩ := bo_some hf
                          rw [ej51]
                          obtain ⟨r52, g52, hf⟩ := bo_some hf
                          refine xg_R (i := j51) (k := 2) hx hb ht hown ck_Pr hK hP (by decide) fk_Ma_195 g52 d_Ma_fit_344 ?_
                          refine lv_lload hx hb d_Ma_fit_347 (lv_at hl 1 rfl) ?_
                          refine lv_l2i hx hb d_Ma_fit_349 rfl ?_
                          obtain ⟨j53, ej53, hf⟩ := bo_some hf
                          rw [ej53]
                          obtain ⟨r54, g54, hf⟩ := bo_some hf
                          refine xl_J (i := j53) hx hb hK hP g54 d_Ma_fit_350 ?_
                          obtain ⟨j55, ej55, hf⟩ := bo_some hf
                          rw [ej55]
                          obtain ⟨w56, g56, hf⟩ := bo_some hf
                          refine xs_J (i := j55) hx hb hK hP hD hS g56 d_Ma_fit_351 (fun H locs hP hD hS => ?_)
                          have hB := hB.same (sJ_c g56)
                          refine lv_iinc (v := ((v5 + (-1)) + 2)) (lv' := [(5, .int ((v5 + (-1)) + 2)), (9, .int r14), (7, .long r12), (0, .ref (ad v0)), (3, va_rf (Option.map ad v3)), (4, .int v4), (6, .int v6)]) hx hb d_Ma_fit_352 hl (k := 2) rfl rfl (by decide) (by first | rfl | simp [List.filter, cat_rf]) (fun ls hl => ?_)
                          refine lv_iinc (v := (v4 + 1)) (lv' := [(4, .int (v4 + 1)), (5, .int ((v5 + (-1)) + 2)), (9, .int r14), (7, .long r12), (0, .ref (ad v0)), (3, va_rf (Option.map ad v3)), (6, .int v6)]) hx hb d_Ma_fit_355 hl (k := 5) rfl rfl (by decide) (by first | rfl | simp [List.filter, cat_rf]) (fun ls hl => ?_)
                          refine lv_goto (tgt := 364) hx hb d_Ma_fit_358 (by decide) ?_
                          exact wb_Ma_fit_364 C0 hE N G hG _ _ _ _ _ _ _ hf hm _ _ _ hB H locs hP hD hS ls (lv_sub hl [4, 5, 0, 1, 6] rfl)
                        · rw [br_n _ hc] at hf
                          refine lv_iconst (v := (-1)) hx hb d_Ma_fit_316 (by decide) ?_
                          exact yr_i C0 hP hD hS hB hm hf d_Ma_fit_317
                      · rw [br_n _ hc7] at hf
                        refine lv_tableOut (tgt := 361) hx hb d_Ma_fit_87 (by have z0 := tiN hc1; have z1 := tiN hc2; have z2 := tiN hc3; have z3 := tiN hc4; have z4 := tiN hc5; have z5 := tiN hc6; have z6 := tiN hc7; rw [show (1 : Int32).toInt = 1 from by decide] at z0; rw [show (2 : Int32).toInt = 2 from by decide] at z1; rw [show (3 : Int32).toInt = 3 from by decide] at z2; rw [show (4 : Int32).toInt = 4 from by decide] at z3; rw [show (5 : Int32).toInt = 5 from by decide] at z4; rw [show (6 : Int32).toInt = 6 from by decide] at z5; rw [show (7 : Int32).toInt = 7 from by decide] at z6; omega) (by decide) ?_
                        refine lv_iinc (v := (v4 + 1)) (lv' := [(4, .int (v4 + 1)), (9, .int r14), (7, .long r12), (5, .int (v5 + (-1))), (0, .ref (ad v0)), (3, va_rf (Option.map ad v3)), (6, .int v6)]) hx hb d_Ma_fit_361 hl (k := 5) rfl rfl (by decide) (by first | rfl | simp [List.filter, cat_rf]) (fun ls hl => ?_)
                        exact wb_Ma_fit_364 C0 hE N G hG _ _ _ _ _ _ _ hf hm _ _ _ hB H locs hP hD hS ls (lv_sub hl [4, 5, 0, 3, 6] rfl)
        · rw [br_n _ hc] at hf
          exact wb_Ma_fit_57 C0 hE N G hG _ _ hf hm _ _ _ hB H locs hP hD hS ls (lv_sub hl [] rfl)
def fb_Ma_fit_0 (N : Nat) (G : (CS → Nat → Option Nat → Int32 → Int32 → Int32 → Option (CS × Int32)) × (CS → Nat → Option Nat → Int32 → Int32 → Int32 → Int64 → Int32 → Option (CS × Int32))) (u : CS) (v0 : Nat) (v1 : Int32) (v2 : Int32) : Option (CS × Int32) := bo (gR u v0 5 2) (fun r57 => bo r57 (fun j58 => bo (gR u j58 8 0) (fun r59 => G.1 u (v0) (r59) (v1) (v2) (0))))
set_option maxRecDepth 100000 in
set_option maxHeartbeats 4000000 in
theorem wb_Ma_fit_0 {p : Program} {l : Launch} {e : Env} {s : State} {m : MethodId} {args : Array Value} {below : List Frame} {meth : Method} {c : Code} {s0 : State} {b0 : Nat} {D : va_G} {cB cI cJ cZ cS cP : ClassId} {A : Nat → Prop} {sk sv : Nat → Nat} {uN uS mc ms : Nat} {ad0 : Nat → Nat} (C0 : XCx p s s0 b0 m args meth c R_Ma b_Ma_fit 11 (some .int) D cB cI cJ cZ cS cP A) (hE : ENV s0 b0 sk sv) (N : Nat) (G : (CS → Nat → Option Nat → Int32 → Int32 → Int32 → Option (CS × Int32)) × (CS → Nat → Option Nat → Int32 → Int32 → Int32 → Int64 → Int32 → Option (CS × Int32))) (hG : (∀ (u : CS) (v0 : Nat) (v3 : Option Nat) (v4 : Int32) (v5 : Int32) (v6 : Int32) (x : CS × Int32), G.1 u v0 v3 v4 v5 v6 = some x → (uN + mc = x.1.1.1 ∧ uS + ms = x.1.1.2) → ∀ (ad : Nat → Nat) (ce sl : Nat), AB uN uS ad0 u ad ce sl → ∀ (H : Heap) (locs : List Loc), va_P D cls (wC cB cI cJ cZ cS cP ad u) H → va_D A (wC cB cI cJ cZ cS cP ad u) → va_S A s.heap H locs → ∀ (ls : Array Slot), lv_has ls 11 [(0, .ref (ad v0)), (3, va_rf (Option.map ad v3)), (4, .int v4), (5, .int v5), (6, .int v6)] → W p l e (rm_Ma_fit mc ms) s m args below meth c H locs ce sl (MQ below (xQ D cB cI cJ cZ cS cP A ad0 uN x.1 (some (.inl x.2))) args s mc ms A) (F0 m 17 ls [])) ∧ (∀ (u : CS) (v0 : Nat) (v3 : Option Nat) (v4 : Int32) (v5 : Int32) (v6 : Int32) (v7 : Int64) (v10 : Int32) (x : CS × Int32), G.2 u v0 v3 v4 v5 v6 v7 v10 = some x → (uN + mc = x.1.1.1 ∧ uS + ms = x.1.1.2) → ∀ (ad : Nat → Nat) (ce sl : Nat), AB uN uS ad0 u ad ce sl → ∀ (H : Heap) (locs : List Loc), va_P D cls (wC cB cI cJ cZ cS cP ad u) H → va_D A (wC cB cI cJ cZ cS cP ad u) → va_S A s.heap H locs → ∀ (ls : Array Slot), lv_has ls 11 [(0, .ref (ad v0)), (3, va_rf (Option.map ad v3)), (4, .int v4), (5, .int v5), (6, .int v6), (7, .long v7), (10, .int v10)] → W p l e (rm_Ma_fit mc ms) s m args below meth c H locs ce sl (MQ below (xQ D cB cI cJ cZ cS cP A ad0 uN x.1 (some (.inl x.2))) args s mc ms A) (F0 m 268 ls []))) : ∀ (u : CS) (v0 : Nat) (v1 : Int32) (v2 : Int32) (x : CS × Int32), fb_Ma_fit_0 N G u v0 v1 v2 = some x → (uN + mc = x.1.1.1 ∧ uS + ms = x.1.1.2) → ∀ (ad : Nat → Nat) (ce sl : Nat), AB uN uS ad0 u ad ce sl → ∀ (H : Heap) (locs : List Loc), va_P D cls (wC cB cI cJ cZ cS cP ad u) H → va_D A (wC cB cI cJ cZ cS cP ad u) → va_S A s.heap H locs → ∀ (ls : Array Slot), lv_has ls 11 [(0, .ref (ad v0)), (1, .int v1), (2, .int v2)] → W p l e (rm_Ma_fit mc ms) s m args below meth c H locs ce sl (MQ below (xQ D cB cI cJ cZ cS cP A ad0 uN x.1 (some (.inl x.2))) args s mc ms A) (F0 m 0 ls []) := by
  intro u v0 v1 v2 x hf hm ad ce sl hB H locs hP hD hS ls hl
  obtain ⟨hx, hb, hr, hml, ht, hown, hK, hA, hlocks, hA0, hO, hbs⟩ := id C0
  unfold fb_Ma_fit_0 at hf
  refine lv_aload_n hx hb d_Ma_fit_0 rfl (lv_at hl 0 rfl) ?_
  obtain ⟨r57, g57, hf⟩ := bo_some hf
  refine xg_R (i := v0) (k := 2) hx hb ht hown ck_Ma hK hP (by decide) fk_Ma_19 g57 d_Ma_fit_1 ?_
  obtain ⟨j58, ej58, hf⟩ := bo_some hf
  rw [ej58]
  obtain ⟨r59, g59, hf⟩ := bo_some hf
  refine xg_R (i := j58) (k := 0) hx hb ht hown ck_Te hK hP (by decide) fk_Ma_267 g59 d_Ma_fit_4 ?_
  refine x_astore_n (lv' := [(3, va_rf (Option.map ad r59)), (0, .ref (ad v0)), (1, .int v1), (2, .int v2)]) hx hb d_Ma_fit_7 rfl hl (by decide) (by first | rfl | simp [List.filter, cat_rf]) (fun ls hl => ?_)
  refine lv_iload_n hx hb d_Ma_fit_8 rfl (lv_at hl 2 rfl) ?_
  refine lv_istore (lv' := [(4, .int v1), (3, va_rf (Option.map ad r59)), (0, .ref (ad v0)), (1, .int v1), (2, .int v2)]) hx hb d_Ma_fit_9 hl (by decide) (by first | rfl | simp [List.filter, cat_rf]) (fun ls hl => ?_)
  refine lv_iload_n hx hb d_Ma_fit_11 rfl (lv_at hl 4 rfl) ?_
  refine lv_istore (lv' := [(5, .int v2), (4, .int v1), (3, va_rf (Option.map ad r59)), (0, .ref (ad v0)), (1, .int v1), (2, .int v2)]) hx hb d_Ma_fit_12 hl (by decide) (by first | rfl | simp [List.filter, cat_rf]) (fun ls hl => ?_)
  refine lv_iconst (v := 0) hx hb d_Ma_fit_14 (by decide) ?_
  refine lv_istore (lv' := [(6, .int 0), (5, .int v2), (4, .int v1), (3, va_rf (Option.map ad r59)), (0, .ref (ad v0)), (1, .int v1), (2, .int v2)]) hx hb d_Ma_fit_15 hl (by decide) (by first | rfl | simp [List.filter, cat_rf]) (fun ls hl => ?_)
  exact hG.1 _ _ _ _ _ _ _ hf hm _ _ _ hB H locs hP hD hS ls (lv_sub hl [4, 3, 2, 1, 0] rfl)
def gg_Ma_fit (N : Nat) : Nat → ((CS → Nat → Option Nat → Int32 → Int32 → Int32 → Option (CS × Int32)) × (CS → Nat → Option Nat → Int32 → Int32 → Int32 → Int64 → Int32 → Option (CS × Int32)))
  | 0 => (fun _ _ _ _ _ _ => none, fun _ _ _ _ _ _ _ _ => none)
  | n + 1 => (fb_Ma_fit_17 N (gg_Ma_fit N n), fb_Ma_fit_268 N (gg_Ma_fit N n))
theorem wg_Ma_fit {p : Program} {l : Launch} {e : Env} {s : State} {m : MethodId} {args : Array Value} {below : List Frame} {meth : Method} {c : Code} {s0 : State} {b0 : Nat} {D : va_G} {cB cI cJ cZ cS cP : ClassId} {A : Nat → Prop} {sk sv : Nat → Nat} {uN uS mc ms : Nat} {ad0 : Nat → Nat} (C0 : XCx p s s0 b0 m args meth c R_Ma b_Ma_fit 11 (some .int) D cB cI cJ cZ cS cP A) (hE : ENV s0 b0 sk sv) (N : Nat) : ∀ n : Nat, (∀ (u : CS) (v0 : Nat) (v3 : Option Nat) (v4 : Int32) (v5 : Int32) (v6 : Int32) (x : CS × Int32), (gg_Ma_fit N n).1 u v0 v3 v4 v5 v6 = some x → (uN + mc = x.1.1.1 ∧ uS + ms = x.1.1.2) → ∀ (ad : Nat → Nat) (ce sl : Nat), AB uN uS ad0 u ad ce sl → ∀ (H : Heap) (locs : List Loc), va_P D cls (wC cB cI cJ cZ cS cP ad u) H → va_D A (wC cB cI cJ cZ cS cP ad u) → va_S A s.heap H locs → ∀ (ls : Array Slot), lv_has ls 11 [(0, .ref (ad v0)), (3, va_rf (Option.map ad v3)), (4, .int v4), (5, .int v5), (6, .int v6)] → W p l e (rm_Ma_fit mc ms) s m args below meth c H locs ce sl (MQ below (xQ D cB cI cJ cZ cS cP A ad0 uN x.1 (some (.inl x.2))) args s mc ms A) (F0 m 17 ls [])) ∧ (∀ (u : CS) (v0 : Nat) (v3 : Option Nat) (v4 : Int32) (v5 : Int32) (v6 : Int32) (v7 : Int64) (v10 : Int32) (x : CS × Int32), (gg_Ma_fit N n).2 u v0 v3 v4 v5 v6 v7 v10 = some x → (uN + mc = x.1.1.1 ∧ uS + ms = x.1.1.2) → ∀ (ad : Nat → Nat) (ce sl : Nat), AB uN uS ad0 u ad ce sl → ∀ (H : Heap) (locs : List Loc), va_P D cls (wC cB cI cJ cZ cS cP ad u) H → va_D A (wC cB cI cJ cZ cS cP ad u) → va_S A s.heap H locs → ∀ (ls : Array Slot), lv_has ls 11 [(0, .ref (ad v0)), (3, va_rf (Option.map ad v3)), (4, .int v4), (5, .int v5), (6, .int v6), (7, .long v7), (10, .int v10)] → W p l e (rm_Ma_fit mc ms) s m args below meth c H locs ce sl (MQ below (xQ D cB cI cJ cZ cS cP A ad0 uN x.1 (some (.inl x.2))) args s mc ms A) (F0 m 268 ls []))
  | 0 => ⟨(fun u v0 v3 v4 v5 v6 x hf => by cases hf), (fun u v0 v3 v4 v5 v6 v7 v10 x hf => by cases hf)⟩
  | n + 1 => ⟨wb_Ma_fit_17 C0 hE N (gg_Ma_fit N n) (wg_Ma_fit C0 hE N n), wb_Ma_fit_268 C0 hE N (gg_Ma_fit N n) (wg_Ma_fit C0 hE N n)⟩
def fm_Ma_fit (N : Nat) (u : CS) (v0 : Nat) (v1 : Int32) (v2 : Int32) : Option (CS × Int32) := fb_Ma_fit_0 N (gg_Ma_fit N N) u v0 v1 v2
set_option maxRecDepth 100000 in
set_option maxHeartbeats 4000000 in
theorem c_Ma_fit (N : Nat) {l : Launch} {s0 : State} {b0 : Nat} {D : va_G} {cB cI cJ cZ cS cP : ClassId} {sk sv : Nat → Nat} {ad : Nat → Nat} {u : CS} {sz mc ms : Nat} {v0 : Nat} {v1 : Int32} {v2 : Int32} {x : CS × Int32} (hE : ENV s0 b0 sk sv) (hf : fm_Ma_fit N u v0 v1 v2 = some x) (hm : u.1.1 + mc = x.1.1.1 ∧ u.1.2 + ms = x.1.1.2) : Met l y_Ma_fit (wd_ws y_Ma_fit b_Ma_fit 11 (some .int)) (rm_Ma_fit mc ms) (xPc s0 b0 D cB cI cJ cZ cS cP ad u sz [.ref (ad v0), .int v1, .int v2]) (xQ D cB cI cJ cZ cS cP (xA cB cI cJ cZ cS cP ad u sz) ad u.1.1 x.1 (some (.inl x.2))) mc ms (xA cB cI cJ cZ cS cP ad u sz) :=
  xMet (by decide) rfl (Nat.le_of_ble_eq_true rfl) (fun p e s m below meth c ls hsz hnm C0 hP hD hS hl =>
    wb_Ma_fit_0 C0 hE N (gg_Ma_fit N N) (wg_Ma_fit C0 hE N N) u _ _ _ x hf hm ad 0 0 ⟨rfl, rfl, fun _ _ => rfl⟩ s.heap [] hP hD hS ls (lv_sub hl [0, 1, 2] rfl))
abbrev b_Ma_tries : ByteArray := prog_5_method_33_code
def y_Ma_tries : MethodName := ⟨R_Ma, "tries", "(I)V"⟩
def w_Ma_tries : List Cond := wd_ws y_Ma_tries b_Ma_tries 6 none
set_option maxRecDepth 100000 in
theorem k_Ma_tries : Cond.code y_Ma_tries b_Ma_tries 6 none ∈ wd_tbl := wd_of 1958 rfl rfl
theorem d_Ma_tries_0 : decode b_Ma_tries 0 = .ok (.aload_n 0, 1) := by decide +kernel
theorem d_Ma_tries_1 : decode b_Ma_tries 1 = .ok (.getfield 33, 3) := by decide +kernel
theorem d_Ma_tries_4 : decode b_Ma_tries 4 = .ok (.getfield 327, 3) := by decide +kernel
theorem d_Ma_tries_7 : decode b_Ma_tries 7 = .ok (.istore_n 2, 1) := by decide +kernel
theorem d_Ma_tries_8 : decode b_Ma_tries 8 = .ok (.iload_n 1, 1) := by decide +kernel
theorem d_Ma_tries_9 : decode b_Ma_tries 9 = .ok (.ifCond .lt 7, 3) := by decide +kernel
theorem d_Ma_tries_12 : decode b_Ma_tries 12 = .ok (.iload_n 1, 1) := by decide +kernel
theorem d_Ma_tries_13 : decode b_Ma_tries 13 = .ok (.goto 4, 3) := by decide +kernel
theorem d_Ma_tries_16 : decode b_Ma_tries 16 = .ok (.iconst 1, 1) := by decide +kernel
theorem d_Ma_tries_17 : decode b_Ma_tries 17 = .ok (.istore_n 3, 1) := by decide +kernel
theorem d_Ma_tries_18 : decode b_Ma_tries 18 = .ok (.iconst 0, 1) := by decide +kernel
theorem d_Ma_tries_19 : decode b_Ma_tries 19 = .ok (.istore 4, 2) := by decide +kernel
theorem d_Ma_tries_21 : decode b_Ma_tries 21 = .ok (.iload 4, 2) := by decide +kernel
theorem d_Ma_tries_23 : decode b_Ma_tries 23 = .ok (.iload_n 3, 1) := by decide +kernel
theorem d_Ma_tries_24 : decode b_Ma_tries 24 = .ok (.if_icmp .ge 76, 3) := by decide +kernel
theorem d_Ma_tries_27 : decode b_Ma_tries 27 = .ok (.iload_n 1, 1) := by decide +kernel
theorem d_Ma_tries_28 : decode b_Ma_tries 28 = .ok (.bipush (-2), 2) := by decide +kernel
theorem d_Ma_tries_30 : decode b_Ma_tries 30 = .ok (.if_icmp .ne 19, 3) := by decide +kernel
theorem d_Ma_tries_33 : decode b_Ma_tries 33 = .ok (.aload_n 0, 1) := by decide +kernel
theorem d_Ma_tries_34 : decode b_Ma_tries 34 = .ok (.getfield 23, 3) := by decide +kernel
theorem d_Ma_tries_37 : decode b_Ma_tries 37 = .ok (.getfield 321, 3) := by decide +kernel
theorem d_Ma_tries_40 : decode b_Ma_tries 40 = .ok (.bipush 30, 2) := by decide +kernel
theorem d_Ma_tries_42 : decode b_Ma_tries 42 = .ok (.if_icmp .ge 7, 3) := by decide +kernel
theorem d_Ma_tries_45 : decode b_Ma_tries 45 = .ok (.iconst 1, 1) := by decide +kernel
theorem d_Ma_tries_46 : decode b_Ma_tries 46 = .ok (.goto 4, 3) := by decide +kernel
theorem d_Ma_tries_49 : decode b_Ma_tries 49 = .ok (.iconst 0, 1) := by decide +kernel
theorem d_Ma_tries_50 : decode b_Ma_tries 50 = .ok (.istore 5, 2) := by decide +kernel
theorem d_Ma_tries_52 : decode b_Ma_tries 52 = .ok (.aload_n 0, 1) := by decide +kernel
theorem d_Ma_tries_53 : decode b_Ma_tries 53 = .ok (.getfield 19, 3) := by decide +kernel
theorem d_Ma_tries_56 : decode b_Ma_tries 56 = .ok (.getfield 267, 3) := by decide +kernel
theorem d_Ma_tries_59 : decode b_Ma_tries 59 = .ok (.iload 4, 2) := by decide +kernel
theorem d_Ma_tries_61 : decode b_Ma_tries 61 = .ok (.iload 5, 2) := by decide +kernel
theorem d_Ma_tries_63 : decode b_Ma_tries 63 = .ok (.ifCond .eq 21, 3) := by decide +kernel
theorem d_Ma_tries_66 : decode b_Ma_tries 66 = .ok (.aload_n 0, 1) := by decide +kernel
theorem d_Ma_tries_67 : decode b_Ma_tries 67 = .ok (.getfield 23, 3) := by decide +kernel
theorem d_Ma_tries_70 : decode b_Ma_tries 70 = .ok (.getfield 330, 3) := by decide +kernel
theorem d_Ma_tries_73 : decode b_Ma_tries 73 = .ok (.aload_n 0, 1) := by decide +kernel
theorem d_Ma_tries_74 : decode b_Ma_tries 74 = .ok (.getfield 23, 3) := by decide +kernel
theorem d_Ma_tries_77 : decode b_Ma_tries 77 = .ok (.getfield 321, 3) := by decide +kernel
theorem d_Ma_tries_80 : decode b_Ma_tries 80 = .ok (.laload, 1) := by decide +kernel
theorem d_Ma_tries_81 : decode b_Ma_tries 81 = .ok (.goto 12, 3) := by decide +kernel
theorem d_Ma_tries_84 : decode b_Ma_tries 84 = .ok (.aload_n 0, 1) := by decide +kernel
theorem d_Ma_tries_85 : decode b_Ma_tries 85 = .ok (.getfield 33, 3) := by decide +kernel
theorem d_Ma_tries_88 : decode b_Ma_tries 88 = .ok (.iload 4, 2) := by decide +kernel
theorem d_Ma_tries_90 : decode b_Ma_tries 90 = .ok (.invokevirtual 138, 3) := by decide +kernel
theorem d_Ma_tries_93 : decode b_Ma_tries 93 = .ok (.lastore, 1) := by decide +kernel
theorem d_Ma_tries_94 : decode b_Ma_tries 94 = .ok (.iinc 4 1, 3) := by decide +kernel
theorem d_Ma_tries_97 : decode b_Ma_tries 97 = .ok (.goto (-76), 3) := by decide +kernel
theorem d_Ma_tries_100 : decode b_Ma_tries 100 = .ok (.aload_n 0, 1) := by decide +kernel
theorem d_Ma_tries_101 : decode b_Ma_tries 101 = .ok (.aload_n 0, 1) := by decide +kernel
theorem d_Ma_tries_102 : decode b_Ma_tries 102 = .ok (.getfield 40, 3) := by decide +kernel
theorem d_Ma_tries_105 : decode b_Ma_tries 105 = .ok (.iconst 3, 1) := by decide +kernel
theorem d_Ma_tries_106 : decode b_Ma_tries 106 = .ok (.iadd, 1) := by decide +kernel
theorem d_Ma_tries_107 : decode b_Ma_tries 107 = .ok (.iload_n 3, 1) := by decide +kernel
theorem d_Ma_tries_108 : decode b_Ma_tries 108 = .ok (.invokevirtual 333, 3) := by decide +kernel
theorem d_Ma_tries_111 : decode b_Ma_tries 111 = .ok (.istore 4, 2) := by decide +kernel
theorem d_Ma_tries_113 : decode b_Ma_tries 113 = .ok (.iload 4, 2) := by decide +kernel
theorem d_Ma_tries_115 : decode b_Ma_tries 115 = .ok (.iconst (-1), 1) := by decide +kernel
theorem d_Ma_tries_116 : decode b_Ma_tries 116 = .ok (.if_icmp .ne 31, 3) := by decide +kernel
theorem d_Ma_tries_119 : decode b_Ma_tries 119 = .ok (.aload_n 0, 1) := by decide +kernel
theorem d_Ma_tries_120 : decode b_Ma_tries 120 = .ok (.getfield 33, 3) := by decide +kernel
theorem d_Ma_tries_123 : decode b_Ma_tries 123 = .ok (.iload_n 2, 1) := by decide +kernel
theorem d_Ma_tries_124 : decode b_Ma_tries 124 = .ok (.putfield 327, 3) := by decide +kernel
theorem d_Ma_tries_127 : decode b_Ma_tries 127 = .ok (.aload_n 0, 1) := by decide +kernel
theorem d_Ma_tries_128 : decode b_Ma_tries 128 = .ok (.aload_n 0, 1) := by decide +kernel
theorem d_Ma_tries_129 : decode b_Ma_tries 129 = .ok (.getfield 9, 3) := by decide +kernel
theorem d_Ma_tries_132 : decode b_Ma_tries 132 = .ok (.aload_n 0, 1) := by decide +kernel
theorem d_Ma_tries_133 : decode b_Ma_tries 133 = .ok (.getfield 40, 3) := by decide +kernel
theorem d_Ma_tries_136 : decode b_Ma_tries 136 = .ok (.iconst 2, 1) := by decide +kernel
theorem d_Ma_tries_137 : decode b_Ma_tries 137 = .ok (.iadd, 1) := by decide +kernel
theorem d_Ma_tries_138 : decode b_Ma_tries 138 = .ok (.invokevirtual 67, 3) := by decide +kernel
theorem d_Ma_tries_141 : decode b_Ma_tries 141 = .ok (.putfield 40, 3) := by decide +kernel
theorem d_Ma_tries_144 : decode b_Ma_tries 144 = .ok (.goto 9, 3) := by decide +kernel
theorem d_Ma_tries_147 : decode b_Ma_tries 147 = .ok (.aload_n 0, 1) := by decide +kernel
theorem d_Ma_tries_148 : decode b_Ma_tries 148 = .ok (.iload 4, 2) := by decide +kernel
theorem d_Ma_tries_150 : decode b_Ma_tries 150 = .ok (.putfield 40, 3) := by decide +kernel
theorem d_Ma_tries_153 : decode b_Ma_tries 153 = .ok (.return_, 1) := by decide +kernel
set_option maxRecDepth 100000 in
theorem hl_Ma_tries : Cond.methodLink R_Ma 288 y_Ma_tries ∈ wd_tbl := wd_of 1955 (by decide +kernel) rfl
set_option maxRecDepth 100000 in
theorem hi_Ma_tries : Cond.instanceMethod y_Ma_tries ∈ wd_tbl := wd_of 1957 (by decide +kernel) rfl
set_option maxRecDepth 100000 in
theorem hs_Ma_tries : Cond.selects R_Ma y_Ma_tries y_Ma_tries ∈ wd_tbl := wd_of 111 (by decide +kernel) rfl
theorem hd_Ma_tries : y_Ma_tries.cls = R_Ma ∧ y_Ma_tries.cls ≠ "java/lang/invoke/MethodHandle" ∧ y_Ma_tries.cls ≠ "java/lang/invoke/VarHandle" ∧ (parseMethodDescriptor y_Ma_tries.desc).map (fun d => d.parameters.length) = some 1 := by decide +kernel
def rm_Ma_tries (mc ms : Nat) : Room := { frames := 4, cells := mc, slots := ms, locals := 151 }
theorem rm_Ma_tries_Fr_below {mc ms : Nat} : (rm_Fr_below).frames + 1 ≤ (rm_Ma_tries mc ms).frames ∧ 8 + (3 + 11) + (rm_Fr_below).locals ≤ (rm_Ma_tries mc ms).locals := by
  show 0 + 1 ≤ 4 ∧ 8 + (3 + 11) + 0 ≤ 151
  decide
theorem rm_Ma_tries_Ma_fit {mc ms : Nat} {mc2 ms2 : Nat} : (rm_Ma_fit mc2 ms2).frames + 1 ≤ (rm_Ma_tries mc ms).frames ∧ 8 + (11 + 11) + (rm_Ma_fit mc2 ms2).locals ≤ (rm_Ma_tries mc ms).locals := by
  show 3 + 1 ≤ 4 ∧ 8 + (11 + 11) + 121 ≤ 151
  decide
theorem rm_Ma_tries_Co_at {mc ms : Nat} : (rm_Co_at).frames + 1 ≤ (rm_Ma_tries mc ms).frames ∧ 8 + (2 + 11) + (rm_Co_at).locals ≤ (rm_Ma_tries mc ms).locals := by
  show 0 + 1 ≤ 4 ∧ 8 + (2 + 11) + 0 ≤ 151
  decide
def fb_Ma_tries_153 (N : Nat) (G : (CS → Nat → Int32 → Int32 → Int32 → Int32 → Option (CS × Unit))) (u : CS) : Option (CS × Unit) := some (u, ())
set_option maxRecDepth 100000 in
set_option maxHeartbeats 4000000 in
theorem wb_Ma_tries_153 {p : Program} {l : Launch} {e : Env} {s : State} {m : MethodId} {args : Array Value} {below : List Frame} {meth : Method} {c : Code} {s0 : State} {b0 : Nat} {D : va_G} {cB cI cJ cZ cS cP : ClassId} {A : Nat → Prop} {sk sv : Nat → Nat} {uN uS mc ms : Nat} {ad0 : Nat → Nat} (C0 : XCx p s s0 b0 m args meth c R_Ma b_Ma_tries 6 none D cB cI cJ cZ cS cP A) (hE : ENV s0 b0 sk sv) (N : Nat) (G : (CS → Nat → Int32 → Int32 → Int32 → Int32 → Option (CS × Unit))) (hG : (∀ (u : CS) (v0 : Nat) (v1 : Int32) (v2 : Int32) (v3 : Int32) (v4 : Int32) (x : CS × Unit), G u v0 v1 v2 v3 v4 = some x → (uN + mc = x.1.1.1 ∧ uS + ms = x.1.1.2) → ∀ (ad : Nat → Nat) (ce sl : Nat), AB uN uS ad0 u ad ce sl → ∀ (H : Heap) (locs : List Loc), va_P D cls (wC cB cI cJ cZ cS cP ad u) H → va_D A (wC cB cI cJ cZ cS cP ad u) → va_S A s.heap H locs → ∀ (ls : Array Slot), lv_has ls 6 [(0, .ref (ad v0)), (1, .int v1), (2, .int v2), (3, .int v3), (4, .int v4)] → W p l e (rm_Ma_tries mc ms) s m args below meth c H locs ce sl (MQ below (xQ D cB cI cJ cZ cS cP A ad0 uN x.1 none) args s mc ms A) (F0 m 21 ls []))) : ∀ (u : CS) (x : CS × Unit), fb_Ma_tries_153 N G u = some x → (uN + mc = x.1.1.1 ∧ uS + ms = x.1.1.2) → ∀ (ad : Nat → Nat) (ce sl : Nat), AB uN uS ad0 u ad ce sl → ∀ (H : Heap) (locs : List Loc), va_P D cls (wC cB cI cJ cZ cS cP ad u) H → va_D A (wC cB cI cJ cZ cS cP ad u) → va_S A s.heap H locs → ∀ (ls : Array Slot), lv_has ls 6 [] → W p l e (rm_Ma_tries mc ms) s m args below meth c H locs ce sl (MQ below (xQ D cB cI cJ cZ cS cP A ad0 uN x.1 none) args s mc ms A) (F0 m 153 ls []) := by
  intro u x hf hm ad ce sl hB H locs hP hD hS ls hl
  obtain ⟨hx, hb, hr, hml, ht, hown, hK, hA, hlocks, hA0, hO, hbs⟩ := id C0
  unfold fb_Ma_tries_153 at hf
  exact yr_v C0 hP hD hS hB hm hf d_Ma_tries_153
def fb_Ma_tries_93 (N : Nat) (G : (CS → Nat → Int32 → Int32 → Int32 → Int32 → Option (CS × Unit))) (u : CS) (v0 : Nat) (v1 : Int32) (v2 : Int32) (v3 : Int32) (v4 : Int32) (t0 : Option Nat) (t1 : Int32) (t2 : Int64) : Option (CS × Unit) := bo t0 (fun j1 => bo (sJ u j1 t1 t2) (fun w2 => G w2 (v0) (v1) (v2) (v3) ((v4 + 1))))
set_option maxRecDepth 100000 in
set_option maxHeartbeats 4000000 in
theorem wb_Ma_tries_93 {p : Program} {l : Launch} {e : Env} {s : State} {m : MethodId} {args : Array Value} {below : List Frame} {meth : Method} {c : Code} {s0 : State} {b0 : Nat} {D : va_G} {cB cI cJ cZ cS cP : ClassId} {A : Nat → Prop} {sk sv : Nat → Nat} {uN uS mc ms : Nat} {ad0 : Nat → Nat} (C0 : XCx p s s0 b0 m args meth c R_Ma b_Ma_tries 6 none D cB cI cJ cZ cS cP A) (hE : ENV s0 b0 sk sv) (N : Nat) (G : (CS → Nat → Int32 → Int32 → Int32 → Int32 → Option (CS × Unit))) (hG : (∀ (u : CS) (v0 : Nat) (v1 : Int32) (v2 : Int32) (v3 : Int32) (v4 : Int32) (x : CS × Unit), G u v0 v1 v2 v3 v4 = some x → (uN + mc = x.1.1.1 ∧ uS + ms = x.1.1.2) → ∀ (ad : Nat → Nat) (ce sl : Nat), AB uN uS ad0 u ad ce sl → ∀ (H : Heap) (locs : List Loc), va_P D cls (wC cB cI cJ cZ cS cP ad u) H → va_D A (wC cB cI cJ cZ cS cP ad u) → va_S A s.heap H locs → ∀ (ls : Array Slot), lv_has ls 6 [(0, .ref (ad v0)), (1, .int v1), (2, .int v2), (3, .int v3), (4, .int v4)] → W p l e (rm_Ma_tries mc ms) s m args below meth c H locs ce sl (MQ below (xQ D cB cI cJ cZ cS cP A ad0 uN x.1 none) args s mc ms A) (F0 m 21 ls []))) : ∀ (u : CS) (v0 : Nat) (v1 : Int32) (v2 : Int32) (v3 : Int32) (v4 : Int32) (t0 : Option Nat) (t1 : Int32) (t2 : Int64) (x : CS × Unit), fb_Ma_tries_93 N G u v0 v1 v2 v3 v4 t0 t1 t2 = some x → (uN + mc = x.1.1.1 ∧ uS + ms = x.1.1.2) → ∀ (ad : Nat → Nat) (ce sl : Nat), AB uN uS ad0 u ad ce sl → ∀ (H : Heap) (locs : List Loc), va_P D cls (wC cB cI cJ cZ cS cP ad u) H → va_D A (wC cB cI cJ cZ cS cP ad u) → va_S A s.heap H locs → ∀ (ls : Array Slot), lv_has ls 6 [(0, .ref (ad v0)), (1, .int v1), (2, .int v2), (3, .int v3), (4, .int v4)] → W p l e (rm_Ma_tries mc ms) s m args below meth c H locs ce sl (MQ below (xQ D cB cI cJ cZ cS cP A ad0 uN x.1 none) args s mc ms A) (F0 m 93 ls [.long t2, .int t1, va_rf (Option.map ad t0)]) := by
  intro u v0 v1 v2 v3 v4 t0 t1 t2 x hf hm ad ce sl hB H locs hP hD hS ls hl
  obtain ⟨hx, hb, hr, hml, ht, hown, hK, hA, hlocks, hA0, hO, hbs⟩ := id C0
  unfold fb_Ma_tries_93 at hf
  obtain ⟨j1, ej1, hf⟩ := bo_some hf
  rw [ej1]
  obtain ⟨w2, g2, hf⟩ := bo_some hf
  refine xs_J (i := j1) hx hb hK hP hD hS g2 d_Ma_tries_93 (fun H locs hP hD hS => ?_)
  have hB := hB.same (sJ_c g2)
  refine lv_iinc (v := (v4 + 1)) (lv' := [(4, .int (v4 + 1)), (0, .ref (ad v0)), (1, .int v1), (2, .int v2), (3, .int v3)]) hx hb d_Ma_tries_94 hl (k := 4) rfl rfl (by decide) (by first | rfl | simp [List.filter, cat_rf]) (fun ls hl => ?_)
  refine lv_goto (tgt := 21) hx hb d_Ma_tries_97 (by decide) ?_
  exact hG _ _ _ _ _ _ _ hf hm _ _ _ hB H locs hP hD hS ls (lv_sub hl [1, 2, 3, 4, 0] rfl)
def fb_Ma_tries_50 (N : Nat) (G : (CS → Nat → Int32 → Int32 → Int32 → Int32 → Option (CS × Unit))) (u : CS) (v0 : Nat) (v1 : Int32) (v2 : Int32) (v3 : Int32) (v4 : Int32) (t0 : Int32) : Option (CS × Unit) := bo (gR u v0 5 2) (fun r3 => bo r3 (fun j4 => bo (gR u j4 8 0) (fun r5 => br (decide (t0 = 0)) (bo (gR u v0 5 4) (fun r6 => bo r6 (fun j8 => ck (isO u j8 4) (bx (gz u (fm_Fr_below N u j8 v4)) (fun u7 r7 => gw u7 (fb_Ma_tries_93 N G u7 (v0) (v1) (v2) (v3) (v4) (r5) (v4) (r7))))))) (bo (gR u v0 5 3) (fun r9 => bo r9 (fun j10 => bo (gR u j10 7 6) (fun r11 => bo (gR u v0 5 3) (fun r12 => bo r12 (fun j13 => bo (gI u j13 7 8) (fun r14 => bo r11 (fun j15 => bo (aJ u j15 r14) (fun r16 => fb_Ma_tries_93 N G u (v0) (v1) (v2) (v3) (v4) (r5) (v4) (r16)))))))))))))
set_option maxRecDepth 100000 in
set_option maxHeartbeats 4000000 in
theorem wb_Ma_tries_50 {p : Program} {l : Launch} {e : Env} {s : State} {m : MethodId} {args : Array Value} {below : List Frame} {meth : Method} {c : Code} {s0 : State} {b0 : Nat} {D : va_G} {cB cI cJ cZ cS cP : ClassId} {A : Nat → Prop} {sk sv : Nat → Nat} {uN uS mc ms : Nat} {ad0 : Nat → Nat} (C0 : XCx p s s0 b0 m args meth c R_Ma b_Ma_tries 6 none D cB cI cJ cZ cS cP A) (hE : ENV s0 b0 sk sv) (N : Nat) (G : (CS → Nat → Int32 → Int32 → Int32 → Int32 → Option (CS × Unit))) (hG : (∀ (u : CS) (v0 : Nat) (v1 : Int32) (v2 : Int32) (v3 : Int32) (v4 : Int32) (x : CS × Unit), G u v0 v1 v2 v3 v4 = some x → (uN + mc = x.1.1.1 ∧ uS + ms = x.1.1.2) → ∀ (ad : Nat → Nat) (ce sl : Nat), AB uN uS ad0 u ad ce sl → ∀ (H : Heap) (locs : List Loc), va_P D cls (wC cB cI cJ cZ cS cP ad u) H → va_D A (wC cB cI cJ cZ cS cP ad u) → va_S A s.heap H locs → ∀ (ls : Array Slot), lv_has ls 6 [(0, .ref (ad v0)), (1, .int v1), (2, .int v2), (3, .int v3), (4, .int v4)] → W p l e (rm_Ma_tries mc ms) s m args below meth c H locs ce sl (MQ below (xQ D cB cI cJ cZ cS cP A ad0 uN x.1 none) args s mc ms A) (F0 m 21 ls []))) : ∀ (u : CS) (v0 : Nat) (v1 : Int32) (v2 : Int32) (v3 : Int32) (v4 : Int32) (t0 : Int32) (x : CS × Unit), fb_Ma_tries_50 N G u v0 v1 v2 v3 v4 t0 = some x → (uN + mc = x.1.1.1 ∧ uS + ms = x.1.1.2) → ∀ (ad : Nat → Nat) (ce sl : Nat), AB uN uS ad0 u ad ce sl → ∀ (H : Heap) (locs : List Loc), va_P D cls (wC cB cI cJ cZ cS cP ad u) H → va_D A (wC cB cI cJ cZ cS cP ad u) → va_S A s.heap H locs → ∀ (ls : Array Slot), lv_has ls 6 [(0, .ref (ad v0)), (1, .int v1), (2, .int v2), (3, .int v3), (4, .int v4)] → W p l e (rm_Ma_tries mc ms) s m args below meth c H locs ce sl (MQ below (xQ D cB cI cJ cZ cS cP A ad0 uN x.1 none) args s mc ms A) (F0 m 50 ls [.int t0]) := by
  intro u v0 v1 v2 v3 v4 t0 x hf hm ad ce sl hB H locs hP hD hS ls hl
  obtain ⟨hx, hb, hr, hml, ht, hown, hK, hA, hlocks, hA0, hO, hbs⟩ := id C0
  unfold fb_Ma_tries_50 at hf
  refine lv_istore (lv' := [(5, .int t0), (0, .ref (ad v0)), (1, .int v1), (2, .int v2), (3, .int v3), (4, .int v4)]) hx hb d_Ma_tries_50 hl (by decide) (by first | rfl | simp [List.filter, cat_rf]) (fun ls hl => ?_)
  refine lv_aload_n hx hb d_Ma_tries_52 rfl (lv_at hl 1 rfl) ?_
  obtain ⟨r3, g3, hf⟩ := bo_some hf
  refine xg_R (i := v0) (k := 2) hx hb ht hown ck_Ma hK hP (by decide) fk_Ma_19 g3 d_Ma_tries_53 ?_
  obtain ⟨j4, ej4, hf⟩ := bo_some hf
  rw [ej4]
  obtain ⟨r5, g5, hf⟩ := bo_some hf
  refine xg_R (i := j4) (k := 0) hx hb ht hown ck_Te hK hP (by decide) fk_Ma_267 g5 d_Ma_tries_56 ?_
  refine lv_iload hx hb d_Ma_tries_59 (lv_at hl 5 rfl) ?_
  refine lv_iload hx hb d_Ma_tries_61 (lv_at hl 0 rfl) ?_
  refine lv_if_eq (tgt := 84) hx hb d_Ma_tries_63 (by decide) (fun hc => ?_) (fun hc => ?_)
  · rw [br_p _ hc] at hf
    refine lv_aload_n hx hb d_Ma_tries_84 rfl (lv_at hl 1 rfl) ?_
    obtain ⟨r6, g6, hf⟩ := bo_some hf
    refine xg_R (i := v0) (k := 4) hx hb ht hown ck_Ma hK hP (by decide) fk_Ma_33 g6 d_Ma_tries_85 ?_
    refine lv_iload hx hb d_Ma_tries_88 (lv_at hl 5 rfl) ?_
    obtain ⟨j8, ej8, hf⟩ := bo_some hf
    rw [ej8]
    obtain ⟨hO9, hf⟩ := ck_some hf
    obtain ⟨u7, r7, hc7, hf⟩ := bx_some hf
    obtain ⟨hc7, hz7⟩ := gz_some hc7
    obtain ⟨hf, hw7⟩ := gw_some hf
    refine xV0 (i := j8) (As := [.int v4]) (rest := [.int v4, va_rf (Option.map ad r5)]) C0 hP hD hS ck_Fr hO9 (c_Fr_below N hc7) k_Fr_below (wd_of 1653 (by decide +kernel) rfl) hi_Fr_below hs_Fr_below hini_Fr rfl rfl hd_Fr_below rfl rm_Ma_tries_Fr_below hl.1 (c8 (Nat.le_of_ble_eq_true rfl)) d_Ma_tries_90 rfl (hB.fit hm hz7 hw7) (fun H locs hP hD hS => ?_)
    have hB := hB.same2 hz7
    exact wb_Ma_tries_93 C0 hE N G hG _ _ _ _ _ _ _ _ _ _ hf hm _ _ _ hB H locs hP hD hS ls (lv_sub hl [1, 2, 3, 4, 5] rfl)
  · rw [br_n _ hc] at hf
    refine lv_aload_n hx hb d_Ma_tries_66 rfl (lv_at hl 1 rfl) ?_
    obtain ⟨r9, g9, hf⟩ := bo_some hf
    refine xg_R (i := v0) (k := 3) hx hb ht hown ck_Ma hK hP (by decide) fk_Ma_23 g9 d_Ma_tries_67 ?_
    obtain ⟨j10, ej10, hf⟩ := bo_some hf
    rw [ej10]
    obtain ⟨r11, g11, hf⟩ := bo_some hf
    refine xg_R (i := j10) (k := 6) hx hb ht hown ck_Pr hK hP (by decide) fk_Ma_330 g11 d_Ma_tries_70 ?_
    refine lv_aload_n hx hb d_Ma_tries_73 rfl (lv_at hl 1 rfl) ?_
    obtain ⟨r12, g12, hf⟩ := bo_some hf
    refine xg_R (i := v0) (k := 3) hx hb ht hown ck_Ma hK hP (by decide) fk_Ma_23 g12 d_Ma_tries_74 ?_
    obtain ⟨j13, ej13, hf⟩ := bo_some hf
    rw [ej13]
    obtain ⟨r14, g14, hf⟩ := bo_some hf
    refine xg_I (i := j13) (k := 8) hx hb ht hown ck_Pr hK hP (by decide) fk_Ma_321 g14 d_Ma_tries_77 ?_
    obtain ⟨j15, ej15, hf⟩ := bo_some hf
    rw [ej15]
    obtain ⟨r16, g16, hf⟩ := bo_some hf
    refine xl_J (i := j15) hx hb hK hP g16 d_Ma_tries_80 ?_
    refine lv_goto (tgt := 93) hx hb d_Ma_tries_81 (by decide) ?_
    exact wb_Ma_tries_93 C0 hE N G hG _ _ _ _ _ _ _ _ _ _ hf hm _ _ _ hB H locs hP hD hS ls (lv_sub hl [1, 2, 3, 4, 5] rfl)
def fb_Ma_tries_49 (N : Nat) (G : (CS → Nat → Int32 → Int32 → Int32 → Int32 → Option (CS × Unit))) (u : CS) (v0 : Nat) (v1 : Int32) (v2 : Int32) (v3 : Int32) (v4 : Int32) : Option (CS × Unit) := fb_Ma_tries_50 N G u (v0) (v1) (v2) (v3) (v4) (0)
set_option maxRecDepth 100000 in
set_option maxHeartbeats 4000000 in
theorem wb_Ma_tries_49 {p : Program} {l : Launch} {e : Env} {s : State} {m : MethodId} {args : Array Value} {below : List Frame} {meth : Method} {c : Code} {s0 : State} {b0 : Nat} {D : va_G} {cB cI cJ cZ cS cP : ClassId} {A : Nat → Prop} {sk sv : Nat → Nat} {uN uS mc ms : Nat} {ad0 : Nat → Nat} (C0 : XCx p s s0 b0 m args meth c R_Ma b_Ma_tries 6 none D cB cI cJ cZ cS cP A) (hE : ENV s0 b0 sk sv) (N : Nat) (G : (CS → Nat → Int32 → Int32 → Int32 → Int32 → Option (CS × Unit))) (hG : (∀ (u : CS) (v0 : Nat) (v1 : Int32) (v2 : Int32) (v3 : Int32) (v4 : Int32) (x : CS × Unit), G u v0 v1 v2 v3 v4 = some x → (uN + mc = x.1.1.1 ∧ uS + ms = x.1.1.2) → ∀ (ad : Nat → Nat) (ce sl : Nat), AB uN uS ad0 u ad ce sl → ∀ (H : Heap) (locs : List Loc), va_P D cls (wC cB cI cJ cZ cS cP ad u) H → va_D A (wC cB cI cJ cZ cS cP ad u) → va_S A s.heap H locs → ∀ (ls : Array Slot), lv_has ls 6 [(0, .ref (ad v0)), (1, .int v1), (2, .int v2), (3, .int v3), (4, .int v4)] → W p l e (rm_Ma_tries mc ms) s m args below meth c H locs ce sl (MQ below (xQ D cB cI cJ cZ cS cP A ad0 uN x.1 none) args s mc ms A) (F0 m 21 ls []))) : ∀ (u : CS) (v0 : Nat) (v1 : Int32) (v2 : Int32) (v3 : Int32) (v4 : Int32) (x : CS × Unit), fb_Ma_tries_49 N G u v0 v1 v2 v3 v4 = some x → (uN + mc = x.1.1.1 ∧ uS + ms = x.1.1.2) → ∀ (ad : Nat → Nat) (ce sl : Nat), AB uN uS ad0 u ad ce sl → ∀ (H : Heap) (locs : List Loc), va_P D cls (wC cB cI cJ cZ cS cP ad u) H → va_D A (wC cB cI cJ cZ cS cP ad u) → va_S A s.heap H locs → ∀ (ls : Array Slot), lv_has ls 6 [(0, .ref (ad v0)), (1, .int v1), (2, .int v2), (3, .int v3), (4, .int v4)] → W p l e (rm_Ma_tries mc ms) s m args below meth c H locs ce sl (MQ below (xQ D cB cI cJ cZ cS cP A ad0 uN x.1 none) args s mc ms A) (F0 m 49 ls []) := by
  intro u v0 v1 v2 v3 v4 x hf hm ad ce sl hB H locs hP hD hS ls hl
  obtain ⟨hx, hb, hr, hml, ht, hown, hK, hA, hlocks, hA0, hO, hbs⟩ := id C0
  unfold fb_Ma_tries_49 at hf
  refine lv_iconst (v := 0) hx hb d_Ma_tries_49 (by decide) ?_
  exact wb_Ma_tries_50 C0 hE N G hG _ _ _ _ _ _ _ _ hf hm _ _ _ hB H locs hP hD hS ls (lv_sub hl [0, 1, 2, 3, 4] rfl)
def fb_Ma_tries_21 (N : Nat) (G : (CS → Nat → Int32 → Int32 → Int32 → Int32 → Option (CS × Unit))) (u : CS) (v0 : Nat) (v1 : Int32) (v2 : Int32) (v3 : Int32) (v4 : Int32) : Option (CS × Unit) := br (decide (v3 ≤ v4)) (bo (gI u v0 5 5) (fun r17 => ck (isO u v0 5) (ck (List.all [some v0] (okR u.1.1)) (bx (gw u (fm_Ma_fit N u v0 (r17 + 3) v3)) (fun u18 r18 => gw u18 (br (decide (r18 = (-1))) (bo (gR u18 v0 5 4) (fun r20 => bo r20 (fun j21 => bo (pF u18 j21 4 4 (.inl v2)) (fun w22 => bo (gR w22 v0 5 0) (fun r23 => bo (gI w22 v0 5 5) (fun r24 => bo r23 (fun j26 => ck (isO w22 j26 2) (bx (gz w22 (fm_Co_at N w22 j26 (r24 + 2))) (fun u25 r25 => gw u25 (bo (pF u25 v0 5 5 (.inl r25)) (fun w27 => fb_Ma_tries_153 N G w27))))))))))) (bo (pF u18 v0 5 5 (.inl r18)) (fun w19 => fb_Ma_tries_153 N G w19)))))))) (br (decide (v1 = (-2))) (bo (gR u v0 5 3) (fun r28 => bo r28 (fun j29 => bo (gI u j29 7 8) (fun r30 => br (decide (30 ≤ r30)) (fb_Ma_tries_49 N G u (v0) (v1) (v2) (v3) (v4)) (fb_Ma_tries_50 N G u (v0) (v1) (v2) (v3) (v4) (1)))))) (fb_Ma_tries_49 N G u (v0) (v1) (v2) (v3) (v4)))
set_option maxRecDepth 100000 in
set_option maxHeartbeats 4000000 in
theorem wb_Ma_tries_21 {p : Program} {l : Launch} {e : Env} {s : State} {m : MethodId} {args : Array Value} {below : List Frame} {meth : Method} {c : Code} {s0 : State} {b0 : Nat} {D : va_G} {cB cI cJ cZ cS cP : ClassId} {A : Nat → Prop} {sk sv : Nat → Nat} {uN uS mc ms : Nat} {ad0 : Nat → Nat} (C0 : XCx p s s0 b0 m args meth c R_Ma b_Ma_tries 6 none D cB cI cJ cZ cS cP A) (hE : ENV s0 b0 sk sv) (N : Nat) (G : (CS → Nat → Int32 → Int32 → Int32 → Int32 → Option (CS × Unit))) (hG : (∀ (u : CS) (v0 : Nat) (v1 : Int32) (v2 : Int32) (v3 : Int32) (v4 : Int32) (x : CS × Unit), G u v0 v1 v2 v3 v4 = some x → (uN + mc = x.1.1.1 ∧ uS + ms = x.1.1.2) → ∀ (ad : Nat → Nat) (ce sl : Nat), AB uN uS ad0 u ad ce sl → ∀ (H : Heap) (locs : List Loc), va_P D cls (wC cB cI cJ cZ cS cP ad u) H → va_D A (wC cB cI cJ cZ cS cP ad u) → va_S A s.heap H locs → ∀ (ls : Array Slot), lv_has ls 6 [(0, .ref (ad v0)), (1, .int v1), (2, .int v2), (3, .int v3), (4, .int v4)] → W p l e (rm_Ma_tries mc ms) s m args below meth c H locs ce sl (MQ below (xQ D cB cI cJ cZ cS cP A ad0 uN x.1 none) args s mc ms A) (F0 m 21 ls []))) : ∀ (u : CS) (v0 : Nat) (v1 : Int32) (v2 : Int32) (v3 : Int32) (v4 : Int32) (x : CS × Unit), fb_Ma_tries_21 N G u v0 v1 v2 v3 v4 = some x → (uN + mc = x.1.1.1 ∧ uS + ms = x.1.1.2) → ∀ (ad : Nat → Nat) (ce sl : Nat), AB uN uS ad0 u ad ce sl → ∀ (H : Heap) (locs : List Loc), va_P D cls (wC cB cI cJ cZ cS cP ad u) H → va_D A (wC cB cI cJ cZ cS cP ad u) → va_S A s.heap H locs → ∀ (ls : Array Slot), lv_has ls 6 [(0, .ref (ad v0)), (1, .int v1), (2, .int v2), (3, .int v3), (4, .int v4)] → W p l e (rm_Ma_tries mc ms) s m args below meth c H locs ce sl (MQ below (xQ D cB cI cJ cZ cS cP A ad0 uN x.1 none) args s mc ms A) (F0 m 21 ls []) := by
  intro u v0 v1 v2 v3 v4 x hf hm ad ce sl hB H locs hP hD hS ls hl
  obtain ⟨hx, hb, hr, hml, ht, hown, hK, hA, hlocks, hA0, hO, hbs⟩ := id C0
  unfold fb_Ma_tries_21 at hf
  refine lv_iload hx hb d_Ma_tries_21 (lv_at hl 4 rfl) ?_
  refine lv_iload_n hx hb d_Ma_tries_23 rfl (lv_at hl 3 rfl) ?_
  refine lv_icmp_ge (tgt := 100) hx hb d_Ma_tries_24 (by decide) (fun hc => ?_) (fun hc => ?_)
  · rw [br_p _ hc] at hf
    refine lv_aload_n hx hb d_Ma_tries_100 rfl (lv_at hl 0 rfl) ?_
    refine lv_aload_n hx hb d_Ma_tries_101 rfl (lv_at hl 0 rfl) ?_
    obtain ⟨r17, g17, hf⟩ := bo_some hf
    refine xg_I (i := v0) (k := 5) hx hb ht hown ck_Ma hK hP (by decide) fk_Ma_40 g17 d_Ma_tries_102 ?_
    refine lv_iconst (v := 3) hx hb d_Ma_tries_105 (by decide) ?_
    refine lv_iadd hx hb d_Ma_tries_106 ?_
    refine lv_iload_n hx hb d_Ma_tries_107 rfl (lv_at hl 3 rfl) ?_
    obtain ⟨hO9, hf⟩ := ck_some hf
    obtain ⟨hk18, hf⟩ := ck_some hf
    obtain ⟨u18, r18, hc18, hf⟩ := bx_some hf
    obtain ⟨hc18, hq18⟩ := gw_some hc18
    obtain ⟨hf, hw18⟩ := gw_some hf
    refine yV (i := v0) (As := [.int (r17 + 3), .int v3]) (rest := []) C0 hP hD hS ck_Ma hO9 (c_Ma_fit N hE hc18 (gm hq18)) k_Ma_fit (wd_of 1959 (by decide +kernel) rfl) hi_Ma_fit hs_Ma_fit hini_Ma rfl rfl hd_Ma_fit rfl rm_Ma_tries_Ma_fit hl.1 (Nat.le_of_ble_eq_true rfl) d_Ma_tries_108 rfl (gm hq18) hB hm hw18 (fun ad18 H locs ce sl hg18 hB hP hD hS => ?_)
    have q18_0 : ad18 v0 = ad v0 := ko_O (k := 0) hk18 rfl hg18
    have hl : lv_has ls 6 [(0, .ref (ad18 v0)), (1, .int v1), (2, .int v2), (3, .int v3), (4, .int v4)] := by simp only [q18_0]; exact hl
    refine lv_istore (lv' := [(4, .int r18), (0, .ref (ad18 v0)), (1, .int v1), (2, .int v2), (3, .int v3)]) hx hb d_Ma_tries_111 hl (by decide) (by first | rfl | simp [List.filter, cat_rf]) (fun ls hl => ?_)
    refine lv_iload hx hb d_Ma_tries_113 (lv_at hl 0 rfl) ?_
    refine lv_iconst (v := (-1)) hx hb d_Ma_tries_115 (by decide) ?_
    refine lv_icmp_ne (tgt := 147) hx hb d_Ma_tries_116 (by decide) (fun hc => ?_) (fun hc => ?_)
    · rw [br_n _ hc] at hf
      refine lv_aload_n hx hb d_Ma_tries_147 rfl (lv_at hl 1 rfl) ?_
      refine lv_iload hx hb d_Ma_tries_148 (lv_at hl 0 rfl) ?_
      obtain ⟨w19, g19, hf⟩ := bo_some hf
      refine xp (i := v0) (k := 5) (v := (.inl r18)) hx hb ht hown ck_Ma hK hP hD hS (by decide) fk_Ma_40 rfl g19 rfl rfl d_Ma_tries_150 (fun H locs hP hD hS => ?_)
      have hB := hB.same (pF_c g19)
      exact wb_Ma_tries_153 C0 hE N G hG _ _ hf hm _ _ _ hB H locs hP hD hS ls (lv_sub hl [] rfl)
    · rw [br_p _ hc] at hf
      refine lv_aload_n hx hb d_Ma_tries_119 rfl (lv_at hl 1 rfl) ?_
      obtain ⟨r20, g20, hf⟩ := bo_some hf
      refine xg_R (i := v0) (k := 4) hx hb ht hown ck_Ma hK hP (by decide) fk_Ma_33 g20 d_Ma_tries_120 ?_
      refine lv_iload_n hx hb d_Ma_tries_123 rfl (lv_at hl 3 rfl) ?_
      obtain ⟨j21, ej21, hf⟩ := bo_some hf
      rw [ej21]
      obtain ⟨w22, g22, hf⟩ := bo_some hf
      refine xp (i := j21) (k := 4) (v := (.inl v2)) hx hb ht hown ck_Fr hK hP hD hS (by decide) fk_Ma_327 rfl g22 rfl rfl d_Ma_tries_124 (fun H locs hP hD hS => ?_)
      have hB := hB.same (pF_c g22)
      refine lv_aload_n hx hb d_Ma_tries_127 rfl (lv_at hl 1 rfl) ?_
      refine lv_aload_n hx hb d_Ma_tries_128 rfl (lv_at hl 1 rfl) ?_
      obtain ⟨r23, g23, hf⟩ := bo_some hf
      refine xg_R (i := v0) (k := 0) hx hb ht hown ck_Ma hK hP (by decide) fk_Ma_9 g23 d_Ma_tries_129 ?_
      refine lv_aload_n hx hb d_Ma_tries_132 rfl (lv_at hl 1 rfl) ?_
      obtain ⟨r24, g24, hf⟩ := bo_some hf
      refine xg_I (i := v0) (k := 5) hx hb ht hown ck_Ma hK hP (by decide) fk_Ma_40 g24 d_Ma_tries_133 ?_
      refine lv_iconst (v := 2) hx hb d_Ma_tries_136 (by decide) ?_
      refine lv_iadd hx hb d_Ma_tries_137 ?_
      obtain ⟨j26, ej26, hf⟩ := bo_some hf
      rw [ej26]
      obtain ⟨hO9, hf⟩ := ck_some hf
      obtain ⟨u25, r25, hc25, hf⟩ := bx_some hf
      obtain ⟨hc25, hz25⟩ := gz_some hc25
      obtain ⟨hf, hw25⟩ := gw_some hf
      refine xV0 (i := j26) (As := [.int (r24 + 2)]) (rest := [.ref (ad18 v0)]) C0 hP hD hS ck_Co hO9 (c_Co_at N hc25) k_Co_at (wd_of 1644 (by decide +kernel) rfl) hi_Co_at hs_Co_at hini_Co rfl rfl hd_Co_at rfl rm_Ma_tries_Co_at hl.1 (Nat.le_of_ble_eq_true rfl) d_Ma_tries_138 rfl (hB.fit hm hz25 hw25) (fun H locs hP hD hS => ?_)
      have hB := hB.same2 hz25
      obtain ⟨w27, g27, hf⟩ := bo_some hf
      refine xp (i := v0) (k := 5) (v := (.inl r25)) hx hb ht hown ck_Ma hK hP hD hS (by decide) fk_Ma_40 rfl g27 rfl rfl d_Ma_tries_141 (fun H locs hP hD hS => ?_)
      have hB := hB.same (pF_c g27)
      refine lv_goto (tgt := 153) hx hb d_Ma_tries_144 (by decide) ?_
      exact wb_Ma_tries_153 C0 hE N G hG _ _ hf hm _ _ _ hB H locs hP hD hS ls (lv_sub hl [] rfl)
  · rw [br_n _ hc] at hf
    refine lv_iload_n hx hb d_Ma_tries_27 rfl (lv_at hl 1 rfl) ?_
    refine lv_bipush (v := (-2)) hx hb d_Ma_tries_28 (by decide) ?_
    refine lv_icmp_ne (tgt := 49) hx hb d_Ma_tries_30 (by decide) (fun hc => ?_) (fun hc => ?_)
    · rw [br_n _ hc] at hf
      exact wb_Ma_tries_49 C0 hE N G hG _ _ _ _ _ _ _ hf hm _ _ _ hB H locs hP hD hS ls (lv_sub hl [0, 1, 2, 3, 4] rfl)
    · rw [br_p _ hc] at hf
      refine lv_aload_n hx hb d_Ma_tries_33 rfl (lv_at hl 0 rfl) ?_
      obtain ⟨r28, g28, hf⟩ := bo_some hf
      refine xg_R (i := v0) (k := 3) hx hb ht hown ck_Ma hK hP (by decide) fk_Ma_23 g28 d_Ma_tries_34 ?_
      obtain ⟨j29, ej29, hf⟩ := bo_some hf
      rw [ej29]
      obtain ⟨r30, g30, hf⟩ := bo_some hf
      refine xg_I (i := j29) (k := 8) hx hb ht hown ck_Pr hK hP (by decide) fk_Ma_321 g30 d_Ma_tries_37 ?_
      refine lv_bipush (v := 30) hx hb d_Ma_tries_40 (by decide) ?_
      refine lv_icmp_ge (tgt := 49) hx hb d_Ma_tries_42 (by decide) (fun hc => ?_) (fun hc => ?_)
      · rw [br_p _ hc] at hf
        exact wb_Ma_tries_49 C0 hE N G hG _ _ _ _ _ _ _ hf hm _ _ _ hB H locs hP hD hS ls (lv_sub hl [0, 1, 2, 3, 4] rfl)
      · rw [br_n _ hc] at hf
        refine lv_iconst (v := 1) hx hb d_Ma_tries_45 (by decide) ?_
        refine lv_goto (tgt := 50) hx hb d_Ma_tries_46 (by decide) ?_
        exact wb_Ma_tries_50 C0 hE N G hG _ _ _ _ _ _ _ _ hf hm _ _ _ hB H locs hP hD hS ls (lv_sub hl [0, 1, 2, 3, 4] rfl)
def fb_Ma_tries_17 (N : Nat) (G : (CS → Nat → Int32 → Int32 → Int32 → Int32 → Option (CS × Unit))) (u : CS) (v0 : Nat) (v1 : Int32) (v2 : Int32) (t0 : Int32) : Option (CS × Unit) := G u (v0) (v1) (v2) (t0) (0)
set_option maxRecDepth 100000 in
set_option maxHeartbeats 4000000 in
theorem wb_Ma_tries_17 {p : Program} {l : Launch} {e : Env} {s : State} {m : MethodId} {args : Array Value} {below : List Frame} {meth : Method} {c : Code} {s0 : State} {b0 : Nat} {D : va_G} {cB cI cJ cZ cS cP : ClassId} {A : Nat → Prop} {sk sv : Nat → Nat} {uN uS mc ms : Nat} {ad0 : Nat → Nat} (C0 : XCx p s s0 b0 m args meth c R_Ma b_Ma_tries 6 none D cB cI cJ cZ cS cP A) (hE : ENV s0 b0 sk sv) (N : Nat) (G : (CS → Nat → Int32 → Int32 → Int32 → Int32 → Option (CS × Unit))) (hG : (∀ (u : CS) (v0 : Nat) (v1 : Int32) (v2 : Int32) (v3 : Int32) (v4 : Int32) (x : CS × Unit), G u v0 v1 v2 v3 v4 = some x → (uN + mc = x.1.1.1 ∧ uS + ms = x.1.1.2) → ∀ (ad : Nat → Nat) (ce sl : Nat), AB uN uS ad0 u ad ce sl → ∀ (H : Heap) (locs : List Loc), va_P D cls (wC cB cI cJ cZ cS cP ad u) H → va_D A (wC cB cI cJ cZ cS cP ad u) → va_S A s.heap H locs → ∀ (ls : Array Slot), lv_has ls 6 [(0, .ref (ad v0)), (1, .int v1), (2, .int v2), (3, .int v3), (4, .int v4)] → W p l e (rm_Ma_tries mc ms) s m args below meth c H locs ce sl (MQ below (xQ D cB cI cJ cZ cS cP A ad0 uN x.1 none) args s mc ms A) (F0 m 21 ls []))) : ∀ (u : CS) (v0 : Nat) (v1 : Int32) (v2 : Int32) (t0 : Int32) (x : CS × Unit), fb_Ma_tries_17 N G u v0 v1 v2 t0 = some x → (uN + mc = x.1.1.1 ∧ uS + ms = x.1.1.2) → ∀ (ad : Nat → Nat) (ce sl : Nat), AB uN uS ad0 u ad ce sl → ∀ (H : Heap) (locs : List Loc), va_P D cls (wC cB cI cJ cZ cS cP ad u) H → va_D A (wC cB cI cJ cZ cS cP ad u) → va_S A s.heap H locs → ∀ (ls : Array Slot), lv_has ls 6 [(0, .ref (ad v0)), (1, .int v1), (2, .int v2)] → W p l e (rm_Ma_tries mc ms) s m args below meth c H locs ce sl (MQ below (xQ D cB cI cJ cZ cS cP A ad0 uN x.1 none) args s mc ms A) (F0 m 17 ls [.int t0]) := by
  intro u v0 v1 v2 t0 x hf hm ad ce sl hB H locs hP hD hS ls hl
  obtain ⟨hx, hb, hr, hml, ht, hown, hK, hA, hlocks, hA0, hO, hbs⟩ := id C0
  unfold fb_Ma_tries_17 at hf
  refine lv_istore_n (lv' := [(3, .int t0), (0, .ref (ad v0)), (1, .int v1), (2, .int v2)]) hx hb d_Ma_tries_17 rfl hl (by decide) (by first | rfl | simp [List.filter, cat_rf]) (fun ls hl => ?_)
  refine lv_iconst (v := 0) hx hb d_Ma_tries_18 (by decide) ?_
  refine lv_istore (lv' := [(4, .int 0), (3, .int t0), (0, .ref (ad v0)), (1, .int v1), (2, .int v2)]) hx hb d_Ma_tries_19 hl (by decide) (by first | rfl | simp [List.filter, cat_rf]) (fun ls hl => ?_)
  exact hG _ _ _ _ _ _ _ hf hm _ _ _ hB H locs hP hD hS ls (lv_sub hl [2, 3, 4, 1, 0] rfl)
def fb_Ma_tries_0 (N : Nat) (G : (CS → Nat → Int32 → Int32 → Int32 → Int32 → Option (CS × Unit))) (u : CS) (v0 : Nat) (v1 : Int32) : Option (CS × Unit) := bo (gR u v0 5 4) (fun r31 => bo r31 (fun j32 => bo (gI u j32 4 4) (fun r33 => br (decide (v1 < 0)) (fb_Ma_tries_17 N G u (v0) (v1) (r33) (1)) (fb_Ma_tries_17 N G u (v0) (v1) (r33) (v1)))))
set_option maxRecDepth 100000 in
set_option maxHeartbeats 4000000 in
theorem wb_Ma_tries_0 {p : Program} {l : Launch} {e : Env} {s : State} {m : MethodId} {args : Array Value} {below : List Frame} {meth : Method} {c : Code} {s0 : State} {b0 : Nat} {D : va_G} {cB cI cJ cZ cS cP : ClassId} {A : Nat → Prop} {sk sv : Nat → Nat} {uN uS mc ms : Nat} {ad0 : Nat → Nat} (C0 : XCx p s s0 b0 m args meth c R_Ma b_Ma_tries 6 none D cB cI cJ cZ cS cP A) (hE : ENV s0 b0 sk sv) (N : Nat) (G : (CS → Nat → Int32 → Int32 → Int32 → Int32 → Option (CS × Unit))) (hG : (∀ (u : CS) (v0 : Nat) (v1 : Int32) (v2 : Int32) (v3 : Int32) (v4 : Int32) (x : CS × Unit), G u v0 v1 v2 v3 v4 = some x → (uN + mc = x.1.1.1 ∧ uS + ms = x.1.1.2) → ∀ (ad : Nat → Nat) (ce sl : Nat), AB uN uS ad0 u ad ce sl → ∀ (H : Heap) (locs : List Loc), va_P D cls (wC cB cI cJ cZ cS cP ad u) H → va_D A (wC cB cI cJ cZ cS cP ad u) → va_S A s.heap H locs → ∀ (ls : Array Slot), lv_has ls 6 [(0, .ref (ad v0)), (1, .int v1), (2, .int v2), (3, .int v3), (4, .int v4)] → W p l e (rm_Ma_tries mc ms) s m args below meth c H locs ce sl (MQ below (xQ D cB cI cJ cZ cS cP A ad0 uN x.1 none) args s mc ms A) (F0 m 21 ls []))) : ∀ (u : CS) (v0 : Nat) (v1 : Int32) (x : CS × Unit), fb_Ma_tries_0 N G u v0 v1 = some x → (uN + mc = x.1.1.1 ∧ uS + ms = x.1.1.2) → ∀ (ad : Nat → Nat) (ce sl : Nat), AB uN uS ad0 u ad ce sl → ∀ (H : Heap) (locs : List Loc), va_P D cls (wC cB cI cJ cZ cS cP ad u) H → va_D A (wC cB cI cJ cZ cS cP ad u) → va_S A s.heap H locs → ∀ (ls : Array Slot), lv_has ls 6 [(0, .ref (ad v0)), (1, .int v1)] → W p l e (rm_Ma_tries mc ms) s m args below meth c H locs ce sl (MQ below (xQ D cB cI cJ cZ cS cP A ad0 uN x.1 none) args s mc ms A) (F0 m 0 ls []) := by
  intro u v0 v1 x hf hm ad ce sl hB H locs hP hD hS ls hl
  obtain ⟨hx, hb, hr, hml, ht, hown, hK, hA, hlocks, hA0, hO, hbs⟩ := id C0
  unfold fb_Ma_tries_0 at hf
  refine lv_aload_n hx hb d_Ma_tries_0 rfl (lv_at hl 0 rfl) ?_
  obtain ⟨r31, g31, hf⟩ := bo_some hf
  refine xg_R (i := v0) (k := 4) hx hb ht hown ck_Ma hK hP (by decide) fk_Ma_33 g31 d_Ma_tries_1 ?_
  obtain ⟨j32, ej32, hf⟩ := bo_some hf
  rw [ej32]
  obtain ⟨r33, g33, hf⟩ := bo_some hf
  refine xg_I (i := j32) (k := 4) hx hb ht hown ck_Fr hK hP (by decide) fk_Ma_327 g33 d_Ma_tries_4 ?_
  refine lv_istore_n (lv' := [(2, .int r33), (0, .ref (ad v0)), (1, .int v1)]) hx hb d_Ma_tries_7 rfl hl (by decide) (by first | rfl | simp [List.filter, cat_rf]) (fun ls hl => ?_)
  refine lv_iload_n hx hb d_Ma_tries_8 rfl (lv_at hl 2 rfl) ?_
  refine lv_if_lt (tgt := 16) hx hb d_Ma_tries_9 (by decide) (fun hc => ?_) (fun hc => ?_)
  · rw [br_p _ hc] at hf
    refine lv_iconst (v := 1) hx hb d_Ma_tries_16 (by decide) ?_
    exact wb_Ma_tries_17 C0 hE N G hG _ _ _ _ _ _ hf hm _ _ _ hB H locs hP hD hS ls (lv_sub hl [1, 2, 0] rfl)
  · rw [br_n _ hc] at hf
    refine lv_iload_n hx hb d_Ma_tries_12 rfl (lv_at hl 2 rfl) ?_
    refine lv_goto (tgt := 17) hx hb d_Ma_tries_13 (by decide) ?_
    exact wb_Ma_tries_17 C0 hE N G hG _ _ _ _ _ _ hf hm _ _ _ hB H locs hP hD hS ls (lv_sub hl [1, 2, 0] rfl)
def gg_Ma_tries (N : Nat) : Nat → ((CS → Nat → Int32 → Int32 → Int32 → Int32 → Option (CS × Unit)))
  | 0 => fun _ _ _ _ _ _ => none
  | n + 1 => fb_Ma_tries_21 N (gg_Ma_tries N n)
theorem wg_Ma_tries {p : Program} {l : Launch} {e : Env} {s : State} {m : MethodId} {args : Array Value} {below : List Frame} {meth : Method} {c : Code} {s0 : State} {b0 : Nat} {D : va_G} {cB cI cJ cZ cS cP : ClassId} {A : Nat → Prop} {sk sv : Nat → Nat} {uN uS mc ms : Nat} {ad0 : Nat → Nat} (C0 : XCx p s s0 b0 m args meth c R_Ma b_Ma_tries 6 none D cB cI cJ cZ cS cP A) (hE : ENV s0 b0 sk sv) (N : Nat) : ∀ n : Nat, (∀ (u : CS) (v0 : Nat) (v1 : Int32) (v2 : Int32) (v3 : Int32) (v4 : Int32) (x : CS × Unit), gg_Ma_tries N n u v0 v1 v2 v3 v4 = some x → (uN + mc = x.1.1.1 ∧ uS + ms = x.1.1.2) → ∀ (ad : Nat → Nat) (ce sl : Nat), AB uN uS ad0 u ad ce sl → ∀ (H : Heap) (locs : List Loc), va_P D cls (wC cB cI cJ cZ cS cP ad u) H → va_D A (wC cB cI cJ cZ cS cP ad u) → va_S A s.heap H locs → ∀ (ls : Array Slot), lv_has ls 6 [(0, .ref (ad v0)), (1, .int v1), (2, .int v2), (3, .int v3), (4, .int v4)] → W p l e (rm_Ma_tries mc ms) s m args below meth c H locs ce sl (MQ below (xQ D cB cI cJ cZ cS cP A ad0 uN x.1 none) args s mc ms A) (F0 m 21 ls []))
  | 0 => (fun u v0 v1 v2 v3 v4 x hf => by cases hf)
  | n + 1 => wb_Ma_tries_21 C0 hE N (gg_Ma_tries N n) (wg_Ma_tries C0 hE N n)
def fm_Ma_tries (N : Nat) (u : CS) (v0 : Nat) (v1 : Int32) : Option (CS × Unit) := fb_Ma_tries_0 N (gg_Ma_tries N N) u v0 v1
set_option maxRecDepth 100000 in
set_option maxHeartbeats 4000000 in
theorem c_Ma_tries (N : Nat) {l : Launch} {s0 : State} {b0 : Nat} {D : va_G} {cB cI cJ cZ cS cP : ClassId} {sk sv : Nat → Nat} {ad : Nat → Nat} {u : CS} {sz mc ms : Nat} {v0 : Nat} {v1 : Int32} {x : CS × Unit} (hE : ENV s0 b0 sk sv) (hf : fm_Ma_tries N u v0 v1 = some x) (hm : u.1.1 + mc = x.1.1.1 ∧ u.1.2 + ms = x.1.1.2) : Met l y_Ma_tries (wd_ws y_Ma_tries b_Ma_tries 6 none) (rm_Ma_tries mc ms) (xPc s0 b0 D cB cI cJ cZ cS cP ad u sz [.ref (ad v0), .int v1]) (xQ D cB cI cJ cZ cS cP (xA cB cI cJ cZ cS cP ad u sz) ad u.1.1 x.1 none) mc ms (xA cB cI cJ cZ cS cP ad u sz) :=
  xMet (by decide) rfl (Nat.le_of_ble_eq_true rfl) (fun p e s m below meth c ls hsz hnm C0 hP hD hS hl =>
    wb_Ma_tries_0 C0 hE N (gg_Ma_tries N N) (wg_Ma_tries C0 hE N N) u _ _ x hf hm ad 0 0 ⟨rfl, rfl, fun _ _ => rfl⟩ s.heap [] hP hD hS ls (lv_sub hl [0, 1] rfl))
abbrev b_Ma_match : ByteArray := prog_5_method_34_code
def y_Ma_match : MethodName := ⟨R_Ma, "match", "()V"⟩
def w_Ma_match : List Cond := wd_ws y_Ma_match b_Ma_match 3 none
set_option maxRecDepth 100000 in
theorem k_Ma_match : Cond.code y_Ma_match b_Ma_match 3 none ∈ wd_tbl := wd_of 1970 rfl rfl
theorem d_Ma_match_0 : decode b_Ma_match 0 = .ok (.aload_n 0, 1) := by decide +kernel
theorem d_Ma_match_1 : decode b_Ma_match 1 = .ok (.getfield 33, 3) := by decide +kernel
theorem d_Ma_match_4 : decode b_Ma_match 4 = .ok (.getfield 327, 3) := by decide +kernel
theorem d_Ma_match_7 : decode b_Ma_match 7 = .ok (.istore_n 1, 1) := by decide +kernel
theorem d_Ma_match_8 : decode b_Ma_match 8 = .ok (.aload_n 0, 1) := by decide +kernel
theorem d_Ma_match_9 : decode b_Ma_match 9 = .ok (.getfield 19, 3) := by decide +kernel
theorem d_Ma_match_12 : decode b_Ma_match 12 = .ok (.getfield 267, 3) := by decide +kernel
theorem d_Ma_match_15 : decode b_Ma_match 15 = .ok (.iconst 0, 1) := by decide +kernel
theorem d_Ma_match_16 : decode b_Ma_match 16 = .ok (.aload_n 0, 1) := by decide +kernel
theorem d_Ma_match_17 : decode b_Ma_match 17 = .ok (.getfield 33, 3) := by decide +kernel
theorem d_Ma_match_20 : decode b_Ma_match 20 = .ok (.iconst 0, 1) := by decide +kernel
theorem d_Ma_match_21 : decode b_Ma_match 21 = .ok (.invokevirtual 138, 3) := by decide +kernel
theorem d_Ma_match_24 : decode b_Ma_match 24 = .ok (.lastore, 1) := by decide +kernel
theorem d_Ma_match_25 : decode b_Ma_match 25 = .ok (.aload_n 0, 1) := by decide +kernel
theorem d_Ma_match_26 : decode b_Ma_match 26 = .ok (.aload_n 0, 1) := by decide +kernel
theorem d_Ma_match_27 : decode b_Ma_match 27 = .ok (.getfield 40, 3) := by decide +kernel
theorem d_Ma_match_30 : decode b_Ma_match 30 = .ok (.iconst 1, 1) := by decide +kernel
theorem d_Ma_match_31 : decode b_Ma_match 31 = .ok (.iadd, 1) := by decide +kernel
theorem d_Ma_match_32 : decode b_Ma_match 32 = .ok (.iconst 1, 1) := by decide +kernel
theorem d_Ma_match_33 : decode b_Ma_match 33 = .ok (.invokevirtual 333, 3) := by decide +kernel
theorem d_Ma_match_36 : decode b_Ma_match 36 = .ok (.istore_n 2, 1) := by decide +kernel
theorem d_Ma_match_37 : decode b_Ma_match 37 = .ok (.iload_n 2, 1) := by decide +kernel
theorem d_Ma_match_38 : decode b_Ma_match 38 = .ok (.iconst (-1), 1) := by decide +kernel
theorem d_Ma_match_39 : decode b_Ma_match 39 = .ok (.if_icmp .ne 29, 3) := by decide +kernel
theorem d_Ma_match_42 : decode b_Ma_match 42 = .ok (.aload_n 0, 1) := by decide +kernel
theorem d_Ma_match_43 : decode b_Ma_match 43 = .ok (.getfield 33, 3) := by decide +kernel
theorem d_Ma_match_46 : decode b_Ma_match 46 = .ok (.iload_n 1, 1) := by decide +kernel
theorem d_Ma_match_47 : decode b_Ma_match 47 = .ok (.putfield 327, 3) := by decide +kernel
theorem d_Ma_match_50 : decode b_Ma_match 50 = .ok (.aload_n 0, 1) := by decide +kernel
theorem d_Ma_match_51 : decode b_Ma_match 51 = .ok (.iconst 1, 1) := by decide +kernel
theorem d_Ma_match_52 : decode b_Ma_match 52 = .ok (.bipush 13, 2) := by decide +kernel
theorem d_Ma_match_54 : decode b_Ma_match 54 = .ok (.aload_n 0, 1) := by decide +kernel
theorem d_Ma_match_55 : decode b_Ma_match 55 = .ok (.getfield 33, 3) := by decide +kernel
theorem d_Ma_match_58 : decode b_Ma_match 58 = .ok (.iconst 0, 1) := by decide +kernel
theorem d_Ma_match_59 : decode b_Ma_match 59 = .ok (.invokevirtual 138, 3) := by decide +kernel
theorem d_Ma_match_62 : decode b_Ma_match 62 = .ok (.invokevirtual 123, 3) := by decide +kernel
theorem d_Ma_match_65 : decode b_Ma_match 65 = .ok (.goto 8, 3) := by decide +kernel
theorem d_Ma_match_68 : decode b_Ma_match 68 = .ok (.aload_n 0, 1) := by decide +kernel
theorem d_Ma_match_69 : decode b_Ma_match 69 = .ok (.iload_n 2, 1) := by decide +kernel
theorem d_Ma_match_70 : decode b_Ma_match 70 = .ok (.putfield 40, 3) := by decide +kernel
theorem d_Ma_match_73 : decode b_Ma_match 73 = .ok (.return_, 1) := by decide +kernel
set_option maxRecDepth 100000 in
theorem hl_Ma_match : Cond.methodLink R_Ma 291 y_Ma_match ∈ wd_tbl := wd_of 1967 (by decide +kernel) rfl
set_option maxRecDepth 100000 in
theorem hi_Ma_match : Cond.instanceMethod y_Ma_match ∈ wd_tbl := wd_of 1969 (by decide +kernel) rfl
set_option maxRecDepth 100000 in
theorem hs_Ma_match : Cond.selects R_Ma y_Ma_match y_Ma_match ∈ wd_tbl := wd_of 114 (by decide +kernel) rfl
theorem hd_Ma_match : y_Ma_match.cls = R_Ma ∧ y_Ma_match.cls ≠ "java/lang/invoke/MethodHandle" ∧ y_Ma_match.cls ≠ "java/lang/invoke/VarHandle" ∧ (parseMethodDescriptor y_Ma_match.desc).map (fun d => d.parameters.length) = some 0 := by decide +kernel
def rm_Ma_match (mc ms : Nat) : Room := { frames := 4, cells := mc, slots := ms, locals := 151 }
theorem rm_Ma_match_Fr_below {mc ms : Nat} : (rm_Fr_below).frames + 1 ≤ (rm_Ma_match mc ms).frames ∧ 8 + (3 + 11) + (rm_Fr_below).locals ≤ (rm_Ma_match mc ms).locals := by
  show 0 + 1 ≤ 4 ∧ 8 + (3 + 11) + 0 ≤ 151
  decide
theorem rm_Ma_match_Ma_fit {mc ms : Nat} {mc2 ms2 : Nat} : (rm_Ma_fit mc2 ms2).frames + 1 ≤ (rm_Ma_match mc ms).frames ∧ 8 + (11 + 11) + (rm_Ma_fit mc2 ms2).locals ≤ (rm_Ma_match mc ms).locals := by
  show 3 + 1 ≤ 4 ∧ 8 + (11 + 11) + 121 ≤ 151
  decide
theorem rm_Ma_match_Ma_tell {mc ms : Nat} : (rm_Ma_tell).frames + 1 ≤ (rm_Ma_match mc ms).frames ∧ 8 + (5 + 11) + (rm_Ma_tell).locals ≤ (rm_Ma_match mc ms).locals := by
  show 0 + 1 ≤ 4 ∧ 8 + (5 + 11) + 0 ≤ 151
  decide
def fb_Ma_match_73 (N : Nat) (G : Unit) (u : CS) : Option (CS × Unit) := some (u, ())
set_option maxRecDepth 100000 in
set_option maxHeartbeats 4000000 in
theorem wb_Ma_match_73 {p : Program} {l : Launch} {e : Env} {s : State} {m : MethodId} {args : Array Value} {below : List Frame} {meth : Method} {c : Code} {s0 : State} {b0 : Nat} {D : va_G} {cB cI cJ cZ cS cP : ClassId} {A : Nat → Prop} {sk sv : Nat → Nat} {uN uS mc ms : Nat} {ad0 : Nat → Nat} (C0 : XCx p s s0 b0 m args meth c R_Ma b_Ma_match 3 none D cB cI cJ cZ cS cP A) (hE : ENV s0 b0 sk sv) (N : Nat) (G : Unit) (hG : True) : ∀ (u : CS) (x : CS × Unit), fb_Ma_match_73 N G u = some x → (uN + mc = x.1.1.1 ∧ uS + ms = x.1.1.2) → ∀ (ad : Nat → Nat) (ce sl : Nat), AB uN uS ad0 u ad ce sl → ∀ (H : Heap) (locs : List Loc), va_P D cls (wC cB cI cJ cZ cS cP ad u) H → va_D A (wC cB cI cJ cZ cS cP ad u) → va_S A s.heap H locs → ∀ (ls : Array Slot), lv_has ls 3 [] → W p l e (rm_Ma_match mc ms) s m args below meth c H locs ce sl (MQ below (xQ D cB cI cJ cZ cS cP A ad0 uN x.1 none) args s mc ms A) (F0 m 73 ls []) := by
  intro u x hf hm ad ce sl hB H locs hP hD hS ls hl
  obtain ⟨hx, hb, hr, hml, ht, hown, hK, hA, hlocks, hA0, hO, hbs⟩ := id C0
  unfold fb_Ma_match_73 at hf
  exact yr_v C0 hP hD hS hB hm hf d_Ma_match_73
def fb_Ma_match_0 (N : Nat) (G : Unit) (u : CS) (v0 : Nat) : Option (CS × Unit) := bo (gR u v0 5 4) (fun r1 => bo r1 (fun j2 => bo (gI u j2 4 4) (fun r3 => bo (gR u v0 5 2) (fun r4 => bo r4 (fun j5 => bo (gR u j5 8 0) (fun r6 => bo (gR u v0 5 4) (fun r7 => bo r7 (fun j9 => ck (isO u j9 4) (bx (gz u (fm_Fr_below N u j9 0)) (fun u8 r8 => gw u8 (bo r6 (fun j10 => bo (sJ u8 j10 (0 : Int32) r8) (fun w11 => bo (gI w11 v0 5 5) (fun r12 => ck (isO w11 v0 5) (ck (List.all [some v0] (okR w11.1.1)) (bx (gw w11 (fm_Ma_fit N w11 v0 (r12 + 1) 1)) (fun u13 r13 => gw u13 (br (decide (r13 = (-1))) (bo (gR u13 v0 5 4) (fun r15 => bo r15 (fun j16 => bo (pF u13 j16 4 4 (.inl r3)) (fun w17 => bo (gR w17 v0 5 4) (fun r18 => bo r18 (fun j20 => ck (isO w17 j20 4) (bx (gz w17 (fm_Fr_below N w17 j20 0)) (fun u19 r19 => gw u19 (ck (isO u19 v0 5) (bx (gz u19 (fm_Ma_tell N u19 v0 1 13 r19)) (fun u21 r21 => gw u21 (fb_Ma_match_73 N G u21)))))))))))) (bo (pF u13 v0 5 5 (.inl r13)) (fun w14 => fb_Ma_match_73 N G w14))))))))))))))))))))
set_option maxRecDepth 100000 in
set_option maxHeartbeats 4000000 in
theorem wb_Ma_match_0 {p : Program} {l : Launch} {e : Env} {s : State} {m : MethodId} {args : Array Value} {below : List Frame} {meth : Method} {c : Code} {s0 : State} {b0 : Nat} {D : va_G} {cB cI cJ cZ cS cP : ClassId} {A : Nat → Prop} {sk sv : Nat → Nat} {uN uS mc ms : Nat} {ad0 : Nat → Nat} (C0 : XCx p s s0 b0 m args meth c R_Ma b_Ma_match 3 none D cB cI cJ cZ cS cP A) (hE : ENV s0 b0 sk sv) (N : Nat) (G : Unit) (hG : True) : ∀ (u : CS) (v0 : Nat) (x : CS × Unit), fb_Ma_match_0 N G u v0 = some x → (uN + mc = x.1.1.1 ∧ uS + ms = x.1.1.2) → ∀ (ad : Nat → Nat) (ce sl : Nat), AB uN uS ad0 u ad ce sl → ∀ (H : Heap) (locs : List Loc), va_P D cls (wC cB cI cJ cZ cS cP ad u) H → va_D A (wC cB cI cJ cZ cS cP ad u) → va_S A s.heap H locs → ∀ (ls : Array Slot), lv_has ls 3 [(0, .ref (ad v0))] → W p l e (rm_Ma_match mc ms) s m args below meth c H locs ce sl (MQ below (xQ D cB cI cJ cZ cS cP A ad0 uN x.1 none) args s mc ms A) (F0 m 0 ls []) := by
  intro u v0 x hf hm ad ce sl hB H locs hP hD hS ls hl
  obtain ⟨hx, hb, hr, hml, ht, hown, hK, hA, hlocks, hA0, hO, hbs⟩ := id C0
  unfold fb_Ma_match_0 at hf
  refine lv_aload_n hx hb d_Ma_match_0 rfl (lv_at hl 0 rfl) ?_
  obtain ⟨r1, g1, hf⟩ := bo_some hf
  refine xg_R (i := v0) (k := 4) hx hb ht hown ck_Ma hK hP (by decide) fk_Ma_33 g1 d_Ma_match_1 ?_
  obtain ⟨j2, ej2, hf⟩ := bo_some hf
  rw [ej2]
  obtain ⟨r3, g3, hf⟩ := bo_some hf
  refine xg_I (i := j2) (k := 4) hx hb ht hown ck_Fr hK hP (by decide) fk_Ma_327 g3 d_Ma_match_4 ?_
  refine lv_istore_n (lv' := [(1, .int r3), (0, .ref (ad v0))]) hx hb d_Ma_match_7 rfl hl (by decide) (by first | rfl | simp [List.filter, cat_rf]) (fun ls hl => ?_)
  refine lv_aload_n hx hb d_Ma_match_8 rfl (lv_at hl 1 rfl) ?_
  obtain ⟨r4, g4, hf⟩ := bo_some hf
  refine xg_R (i := v0) (k := 2) hx hb ht hown ck_Ma hK hP (by decide) fk_Ma_19 g4 d_Ma_match_9 ?_
  obtain ⟨j5, ej5, hf⟩ := bo_some hf
  rw [ej5]
  obtain ⟨r6, g6, hf⟩ := bo_some hf
  refine xg_R (i := j5) (k := 0) hx hb ht hown ck_Te hK hP (by decide) fk_Ma_267 g6 d_Ma_match_12 ?_
  refine lv_iconst (v := 0) hx hb d_Ma_match_15 (by decide) ?_
  refine lv_aload_n hx hb d_Ma_match_16 rfl (lv_at hl 1 rfl) ?_
  obtain ⟨r7, g7, hf⟩ := bo_some hf
  refine xg_R (i := v0) (k := 4) hx hb ht hown ck_Ma hK hP (by decide) fk_Ma_33 g7 d_Ma_match_17 ?_
  refine lv_iconst (v := 0) hx hb d_Ma_match_20 (by decide) ?_
  obtain ⟨j9, ej9, hf⟩ := bo_some hf
  rw [ej9]
  obtain ⟨hO9, hf⟩ := ck_some hf
  obtain ⟨u8, r8, hc8, hf⟩ := bx_some hf
  obtain ⟨hc8, hz8⟩ := gz_some hc8
  obtain ⟨hf, hw8⟩ := gw_some hf
  refine xV0 (i := j9) (As := [.int 0]) (rest := [.int 0, va_rf (Option.map ad r6)]) C0 hP hD hS ck_Fr hO9 (c_Fr_below N hc8) k_Fr_below (wd_of 1653 (by decide +kernel) rfl) hi_Fr_below hs_Fr_below hini_Fr rfl rfl hd_Fr_below rfl rm_Ma_match_Fr_below hl.1 (c8 (Nat.le_of_ble_eq_true rfl)) d_Ma_match_21 rfl (hB.fit hm hz8 hw8) (fun H locs hP hD hS => ?_)
  have hB := hB.same2 hz8
  obtain ⟨j10, ej10, hf⟩ := bo_some hf
  rw [ej10]
  obtain ⟨w11, g11, hf⟩ := bo_some hf
  refine xs_J (i := j10) hx hb hK hP hD hS g11 d_Ma_match_24 (fun H locs hP hD hS => ?_)
  have hB := hB.same (sJ_c g11)
  refine lv_aload_n hx hb d_Ma_match_25 rfl (lv_at hl 1 rfl) ?_
  refine lv_aload_n hx hb d_Ma_match_26 rfl (lv_at hl 1 rfl) ?_
  obtain ⟨r12, g12, hf⟩ := bo_some hf
  refine xg_I (i := v0) (k := 5) hx hb ht hown ck_Ma hK hP (by decide) fk_Ma_40 g12 d_Ma_match_27 ?_
  refine lv_iconst (v := 1) hx hb d_Ma_match_30 (by decide) ?_
  refine lv_iadd hx hb d_Ma_match_31 ?_
  refine lv_iconst (v := 1) hx hb d_Ma_match_32 (by decide) ?_
  obtain ⟨hO9, hf⟩ := ck_some hf
  obtain ⟨hk13, hf⟩ := ck_some hf
  obtain ⟨u13, r13, hc13, hf⟩ := bx_some hf
  obtain ⟨hc13, hq13⟩ := gw_some hc13
  obtain ⟨hf, hw13⟩ := gw_some hf
  refine yV (i := v0) (As := [.int (r12 + 1), .int 1]) (rest := []) C0 hP hD hS ck_Ma hO9 (c_Ma_fit N hE hc13 (gm hq13)) k_Ma_fit (wd_of 1959 (by decide +kernel) rfl) hi_Ma_fit hs_Ma_fit hini_Ma rfl rfl hd_Ma_fit rfl rm_Ma_match_Ma_fit hl.1 (Nat.le_of_ble_eq_true rfl) d_Ma_match_33 rfl (gm hq13) hB hm hw13 (fun ad13 H locs ce sl hg13 hB hP hD hS => ?_)
  have q13_0 : ad13 v0 = ad v0 := ko_O (k := 0) hk13 rfl hg13
  have hl : lv_has ls 3 [(1, .int r3), (0, .ref (ad13 v0))] := by simp only [q13_0]; exact hl
  refine lv_istore_n (lv' := [(2, .int r13), (1, .int r3), (0, .ref (ad13 v0))]) hx hb d_Ma_match_36 rfl hl (by decide) (by first | rfl | simp [List.filter, cat_rf]) (fun ls hl => ?_)
  refine lv_iload_n hx hb d_Ma_match_37 rfl (lv_at hl 0 rfl) ?_
  refine lv_iconst (v := (-1)) hx hb d_Ma_match_38 (by decide) ?_
  refine lv_icmp_ne (tgt := 68) hx hb d_Ma_match_39 (by decide) (fun hc => ?_) (fun hc => ?_)
  · rw [br_n _ hc] at hf
    refine lv_aload_n hx hb d_Ma_match_68 rfl (lv_at hl 2 rfl) ?_
    refine lv_iload_n hx hb d_Ma_match_69 rfl (lv_at hl 0 rfl) ?_
    obtain ⟨w14, g14, hf⟩ := bo_some hf
    refine xp (i := v0) (k := 5) (v := (.inl r13)) hx hb ht hown ck_Ma hK hP hD hS (by decide) fk_Ma_40 rfl g14 rfl rfl d_Ma_match_70 (fun H locs hP hD hS => ?_)
    have hB := hB.same (pF_c g14)
    exact wb_Ma_match_73 C0 hE N G hG _ _ hf hm _ _ _ hB H locs hP hD hS ls (lv_sub hl [] rfl)
  · rw [br_p _ hc] at hf
    refine lv_aload_n hx hb d_Ma_match_42 rfl (lv_at hl 2 rfl) ?_
    obtain ⟨r15, g15, hf⟩ := bo_some hf
    refine xg_R (i := v0) (k := 4) hx hb ht hown ck_Ma hK hP (by decide) fk_Ma_33 g15 d_Ma_match_43 ?_
    refine lv_iload_n hx hb d_Ma_match_46 rfl (lv_at hl 1 rfl) ?_
    obtain ⟨j16, ej16, hf⟩ := bo_some hf
    rw [ej16]
    obtain ⟨w17, g17, hf⟩ := bo_some hf
    refine xp (i := j16) (k := 4) (v := (.inl r3)) hx hb ht hown ck_Fr hK hP hD hS (by decide) fk_Ma_327 rfl g17 rfl rfl d_Ma_match_47 (fun H locs hP hD hS => ?_)
    have hB := hB.same (pF_c g17)
    refine lv_aload_n hx hb d_Ma_match_50 rfl (lv_at hl 2 rfl) ?_
    refine lv_iconst (v := 1) hx hb d_Ma_match_51 (by decide) ?_
    refine lv_bipush (v := 13) hx hb d_Ma_match_52 (by decide) ?_
    refine lv_aload_n hx hb d_Ma_match_54 rfl (lv_at hl 2 rfl) ?_
    obtain ⟨r18, g18, hf⟩ := bo_some hf
    refine xg_R (i := v0) (k := 4) hx hb ht hown ck_Ma hK hP (by decide) fk_Ma_33 g18 d_Ma_match_55 ?_
    refine lv_iconst (v := 0) hx hb d_Ma_match_58 (by decide) ?_
    obtain ⟨j20, ej20, hf⟩ := bo_some hf
    rw [ej20]
    obtain ⟨hO9, hf⟩ := ck_some hf
    obtain ⟨u19, r19, hc19, hf⟩ := bx_some hf
    obtain ⟨hc19, hz19⟩ := gz_some hc19
    obtain ⟨hf, hw19⟩ := gw_some hf
    refine xV0 (i := j20) (As := [.int 0]) (rest := [.int 13, .int 1, .ref (ad13 v0)]) C0 hP hD hS ck_Fr hO9 (c_Fr_below N hc19) k_Fr_below (wd_of 1653 (by decide +kernel) rfl) hi_Fr_below hs_Fr_below hini_Fr rfl rfl hd_Fr_below rfl rm_Ma_match_Fr_below hl.1 (Nat.le_of_ble_eq_true rfl) d_Ma_match_59 rfl (hB.fit hm hz19 hw19) (fun H locs hP hD hS => ?_)
    have hB := hB.same2 hz19
    obtain ⟨hO9, hf⟩ := ck_some hf
    obtain ⟨u21, r21, hc21, hf⟩ := bx_some hf
    obtain ⟨hc21, hz21⟩ := gz_some hc21
    obtain ⟨hf, hw21⟩ := gw_some hf
    refine xV0 (i := v0) (As := [.int 1, .int 13, .long r19]) (rest := []) C0 hP hD hS ck_Ma hO9 (c_Ma_tell N hc21) k_Ma_tell (wd_of 1672 (by decide +kernel) rfl) hi_Ma_tell hs_Ma_tell hini_Ma rfl rfl hd_Ma_tell rfl rm_Ma_match_Ma_tell hl.1 (Nat.le_of_ble_eq_true rfl) d_Ma_match_62 rfl (hB.fit hm hz21 hw21) (fun H locs hP hD hS => ?_)
    have hB := hB.same2 hz21
    refine lv_goto (tgt := 73) hx hb d_Ma_match_65 (by decide) ?_
    exact wb_Ma_match_73 C0 hE N G hG _ _ hf hm _ _ _ hB H locs hP hD hS ls (lv_sub hl [] rfl)
def fm_Ma_match (N : Nat) (u : CS) (v0 : Nat) : Option (CS × Unit) := fb_Ma_match_0 N () u v0
set_option maxRecDepth 100000 in
set_option maxHeartbeats 4000000 in
theorem c_Ma_match (N : Nat) {l : Launch} {s0 : State} {b0 : Nat} {D : va_G} {cB cI cJ cZ cS cP : ClassId} {sk sv : Nat → Nat} {ad : Nat → Nat} {u : CS} {sz mc ms : Nat} {v0 : Nat} {x : CS × Unit} (hE : ENV s0 b0 sk sv) (hf : fm_Ma_match N u v0 = some x) (hm : u.1.1 + mc = x.1.1.1 ∧ u.1.2 + ms = x.1.1.2) : Met l y_Ma_match (wd_ws y_Ma_match b_Ma_match 3 none) (rm_Ma_match mc ms) (xPc s0 b0 D cB cI cJ cZ cS cP ad u sz [.ref (ad v0)]) (xQ D cB cI cJ cZ cS cP (xA cB cI cJ cZ cS cP ad u sz) ad u.1.1 x.1 none) mc ms (xA cB cI cJ cZ cS cP ad u sz) :=
  xMet (by decide) rfl (Nat.le_of_ble_eq_true rfl) (fun p e s m below meth c ls hsz hnm C0 hP hD hS hl =>
    wb_Ma_match_0 C0 hE N () trivial u _ x hf hm ad 0 0 ⟨rfl, rfl, fun _ _ => rfl⟩ s.heap [] hP hD hS ls (lv_sub hl [0] rfl))
abbrev b_Ma_guardFails : ByteArray := prog_5_method_11_code
def y_Ma_guardFails : MethodName := ⟨R_Ma, "guardFails", "()V"⟩
def w_Ma_guardFails : List Cond := wd_ws y_Ma_guardFails b_Ma_guardFails 1 none
set_option maxRecDepth 100000 in
theorem k_Ma_guardFails : Cond.code y_Ma_guardFails b_Ma_guardFails 1 none ∈ wd_tbl := wd_of 1974 rfl rfl
theorem d_Ma_guardFails_0 : decode b_Ma_guardFails 0 = .ok (.aload_n 0, 1) := by decide +kernel
theorem d_Ma_guardFails_1 : decode b_Ma_guardFails 1 = .ok (.getfield 33, 3) := by decide +kernel
theorem d_Ma_guardFails_4 : decode b_Ma_guardFails 4 = .ok (.aload_n 0, 1) := by decide +kernel
theorem d_Ma_guardFails_5 : decode b_Ma_guardFails 5 = .ok (.getfield 165, 3) := by decide +kernel
theorem d_Ma_guardFails_8 : decode b_Ma_guardFails 8 = .ok (.putfield 168, 3) := by decide +kernel
theorem d_Ma_guardFails_11 : decode b_Ma_guardFails 11 = .ok (.aload_n 0, 1) := by decide +kernel
theorem d_Ma_guardFails_12 : decode b_Ma_guardFails 12 = .ok (.getfield 33, 3) := by decide +kernel
theorem d_Ma_guardFails_15 : decode b_Ma_guardFails 15 = .ok (.aload_n 0, 1) := by decide +kernel
theorem d_Ma_guardFails_16 : decode b_Ma_guardFails 16 = .ok (.getfield 171, 3) := by decide +kernel
theorem d_Ma_guardFails_19 : decode b_Ma_guardFails 19 = .ok (.invokevirtual 174, 3) := by decide +kernel
theorem d_Ma_guardFails_22 : decode b_Ma_guardFails 22 = .ok (.aload_n 0, 1) := by decide +kernel
theorem d_Ma_guardFails_23 : decode b_Ma_guardFails 23 = .ok (.aload_n 0, 1) := by decide +kernel
theorem d_Ma_guardFails_24 : decode b_Ma_guardFails 24 = .ok (.getfield 57, 3) := by decide +kernel
theorem d_Ma_guardFails_27 : decode b_Ma_guardFails 27 = .ok (.putfield 40, 3) := by decide +kernel
theorem d_Ma_guardFails_30 : decode b_Ma_guardFails 30 = .ok (.aload_n 0, 1) := by decide +kernel
theorem d_Ma_guardFails_31 : decode b_Ma_guardFails 31 = .ok (.iconst 0, 1) := by decide +kernel
theorem d_Ma_guardFails_32 : decode b_Ma_guardFails 32 = .ok (.putfield 57, 3) := by decide +kernel
theorem d_Ma_guardFails_35 : decode b_Ma_guardFails 35 = .ok (.return_, 1) := by decide +kernel
set_option maxRecDepth 100000 in
theorem hl_Ma_guardFails : Cond.methodLink R_Ma 149 y_Ma_guardFails ∈ wd_tbl := wd_of 1971 (by decide +kernel) rfl
set_option maxRecDepth 100000 in
theorem hi_Ma_guardFails : Cond.instanceMethod y_Ma_guardFails ∈ wd_tbl := wd_of 1973 (by decide +kernel) rfl
set_option maxRecDepth 100000 in
theorem hs_Ma_guardFails : Cond.selects R_Ma y_Ma_guardFails y_Ma_guardFails ∈ wd_tbl := wd_of 115 (by decide +kernel) rfl
theorem hd_Ma_guardFails : y_Ma_guardFails.cls = R_Ma ∧ y_Ma_guardFails.cls ≠ "java/lang/invoke/MethodHandle" ∧ y_Ma_guardFails.cls ≠ "java/lang/invoke/VarHandle" ∧ (parseMethodDescriptor y_Ma_guardFails.desc).map (fun d => d.parameters.length) = some 0 := by decide +kernel
def rm_Ma_guardFails : Room := { frames := 2, cells := 0, slots := 0, locals := 44 }
theorem rm_Ma_guardFails_Fr_forget : (rm_Fr_forget).frames + 1 ≤ rm_Ma_guardFails.frames ∧ 8 + (2 + 11) + (rm_Fr_forget).locals ≤ rm_Ma_guardFails.locals := by
  show 1 + 1 ≤ 2 ∧ 8 + (2 + 11) + 23 ≤ 44
  decide
def fb_Ma_guardFails_0 (N : Nat) (G : Unit) (u : CS) (v0 : Nat) : Option (CS × Unit) := bo (gR u v0 5 4) (fun r1 => bo (gI u v0 5 14) (fun r2 => bo r1 (fun j3 => bo (pF u j3 4 6 (.inl r2)) (fun w4 => bo (gR w4 v0 5 4) (fun r5 => bo (gI w4 v0 5 13) (fun r6 => bo r5 (fun j8 => ck (isO w4 j8 4) (bx (fm_Fr_forget N w4 j8 r6) (fun u7 r7 => bo (gI u7 v0 5 12) (fun r9 => bo (pF u7 v0 5 5 (.inl r9)) (fun w10 => bo (pF w10 v0 5 12 (.inl 0)) (fun w11 => some (w11, ())))))))))))))
set_option maxRecDepth 100000 in
set_option maxHeartbeats 4000000 in
theorem wb_Ma_guardFails_0 {p : Program} {l : Launch} {e : Env} {s : State} {m : MethodId} {args : Array Value} {below : List Frame} {meth : Method} {c : Code} {s0 : State} {b0 : Nat} {D : va_G} {cB cI cJ cZ cS cP : ClassId} {A : Nat → Prop} {sk sv : Nat → Nat} {ad : Nat → Nat} (C0 : XCx p s s0 b0 m args meth c R_Ma b_Ma_guardFails 1 none D cB cI cJ cZ cS cP A) (hE : ENV s0 b0 sk sv) (N : Nat) (G : Unit) (hG : True) : ∀ (u : CS) (v0 : Nat) (x : CS × Unit), fb_Ma_guardFails_0 N G u v0 = some x → ∀ (H : Heap) (locs : List Loc), va_P D cls (wC cB cI cJ cZ cS cP ad u) H → va_D A (wC cB cI cJ cZ cS cP ad u) → va_S A s.heap H locs → ∀ (ls : Array Slot), lv_has ls 1 [(0, .ref (ad v0))] → W p l e rm_Ma_guardFails s m args below meth c H locs 0 0 (MQ below (xQ0 D cB cI cJ cZ cS cP A ad x.1 none) args s 0 0 A) (F0 m 0 ls []) := by
  intro u v0 x hf H locs hP hD hS ls hl
  obtain ⟨hx, hb, hr, hml, ht, hown, hK, hA, hlocks, hA0, hO, hbs⟩ := id C0
  unfold fb_Ma_guardFails_0 at hf
  refine lv_aload_n hx hb d_Ma_guardFails_0 rfl (lv_at hl 0 rfl) ?_
  obtain ⟨r1, g1, hf⟩ := bo_some hf
  refine xg_R (i := v0) (k := 4) hx hb ht hown ck_Ma hK hP (by decide) fk_Ma_33 g1 d_Ma_guardFails_1 ?_
  refine lv_aload_n hx hb d_Ma_guardFails_4 rfl (lv_at hl 0 rfl) ?_
  obtain ⟨r2, g2, hf⟩ := bo_some hf
  refine xg_I (i := v0) (k := 14) hx hb ht hown ck_Ma hK hP (by decide) fk_Ma_165 g2 d_Ma_guardFails_5 ?_
  obtain ⟨j3, ej3, hf⟩ := bo_some hf
  rw [ej3]
  obtain ⟨w4, g4, hf⟩ := bo_some hf
  refine xp (i := j3) (k := 6) (v := (.inl r2)) hx hb ht hown ck_Fr hK hP hD hS (by decide) fk_Ma_168 rfl g4 rfl rfl d_Ma_guardFails_8 (fun H locs hP hD hS => ?_)
  refine lv_aload_n hx hb d_Ma_guardFails_11 rfl (lv_at hl 0 rfl) ?_
  obtain ⟨r5, g5, hf⟩ := bo_some hf
  refine xg_R (i := v0) (k := 4) hx hb ht hown ck_Ma hK hP (by decide) fk_Ma_33 g5 d_Ma_guardFails_12 ?_
  refine lv_aload_n hx hb d_Ma_guardFails_15 rfl (lv_at hl 0 rfl) ?_
  obtain ⟨r6, g6, hf⟩ := bo_some hf
  refine xg_I (i := v0) (k := 13) hx hb ht hown ck_Ma hK hP (by decide) fk_Ma_171 g6 d_Ma_guardFails_16 ?_
  obtain ⟨j8, ej8, hf⟩ := bo_some hf
  rw [ej8]
  obtain ⟨hO9, hf⟩ := ck_some hf
  obtain ⟨u7, r7, hc7, hf⟩ := bx_some hf
  refine xV0 (i := j8) (As := [.int r6]) (rest := []) C0 hP hD hS ck_Fr hO9 (c_Fr_forget N hE hc7) k_Fr_forget (wd_of 1930 (by decide +kernel) rfl) hi_Fr_forget hs_Fr_forget hini_Fr rfl rfl hd_Fr_forget rfl rm_Ma_guardFails_Fr_forget hl.1 (Nat.le_of_ble_eq_true rfl) d_Ma_guardFails_19 rfl ⟨Nat.zero_le _, Nat.zero_le _⟩ (fun H locs hP hD hS => ?_)
  refine lv_aload_n hx hb d_Ma_guardFails_22 rfl (lv_at hl 0 rfl) ?_
  refine lv_aload_n hx hb d_Ma_guardFails_23 rfl (lv_at hl 0 rfl) ?_
  obtain ⟨r9, g9, hf⟩ := bo_some hf
  refine xg_I (i := v0) (k := 12) hx hb ht hown ck_Ma hK hP (by decide) fk_Ma_57 g9 d_Ma_guardFails_24 ?_
  obtain ⟨w10, g10, hf⟩ := bo_some hf
  refine xp (i := v0) (k := 5) (v := (.inl r9)) hx hb ht hown ck_Ma hK hP hD hS (by decide) fk_Ma_40 rfl g10 rfl rfl d_Ma_guardFails_27 (fun H locs hP hD hS => ?_)
  refine lv_aload_n hx hb d_Ma_guardFails_30 rfl (lv_at hl 0 rfl) ?_
  refine lv_iconst (v := 0) hx hb d_Ma_guardFails_31 (by decide) ?_
  obtain ⟨w11, g11, hf⟩ := bo_some hf
  refine xp (i := v0) (k := 12) (v := (.inl 0)) hx hb ht hown ck_Ma hK hP hD hS (by decide) fk_Ma_57 rfl g11 rfl rfl d_Ma_guardFails_32 (fun H locs hP hD hS => ?_)
  exact xr0_v C0 hP hD hS hf d_Ma_guardFails_35
def fm_Ma_guardFails (N : Nat) (u : CS) (v0 : Nat) : Option (CS × Unit) := fb_Ma_guardFails_0 N () u v0
set_option maxRecDepth 100000 in
set_option maxHeartbeats 4000000 in
theorem c_Ma_guardFails (N : Nat) {l : Launch} {s0 : State} {b0 : Nat} {D : va_G} {cB cI cJ cZ cS cP : ClassId} {sk sv : Nat → Nat} {ad : Nat → Nat} {u : CS} {sz : Nat} {v0 : Nat} {x : CS × Unit} (hE : ENV s0 b0 sk sv) (hf : fm_Ma_guardFails N u v0 = some x) : Met l y_Ma_guardFails (wd_ws y_Ma_guardFails b_Ma_guardFails 1 none) rm_Ma_guardFails (xPc s0 b0 D cB cI cJ cZ cS cP ad u sz [.ref (ad v0)]) (xQ0 D cB cI cJ cZ cS cP (xA cB cI cJ cZ cS cP ad u sz) ad x.1 none) 0 0 (xA cB cI cJ cZ cS cP ad u sz) :=
  xMet (by decide) rfl (Nat.le_of_ble_eq_true rfl) (fun p e s m below meth c ls hsz hnm C0 hP hD hS hl =>
    wb_Ma_guardFails_0 C0 hE N () trivial u _ x hf s.heap [] hP hD hS ls (lv_sub hl [0] rfl))
abbrev b_Fr_replace : ByteArray := prog_4_method_11_code
def y_Fr_replace : MethodName := ⟨R_Fr, "replace", "(III)V"⟩
def w_Fr_replace : List Cond := wd_ws y_Fr_replace b_Fr_replace 5 none
set_option maxRecDepth 100000 in
theorem k_Fr_replace : Cond.code y_Fr_replace b_Fr_replace 5 none ∈ wd_tbl := wd_of 1994 rfl rfl
theorem d_Fr_replace_0 : decode b_Fr_replace 0 = .ok (.aload_n 0, 1) := by decide +kernel
theorem d_Fr_replace_1 : decode b_Fr_replace 1 = .ok (.aload_n 0, 1) := by decide +kernel
theorem d_Fr_replace_2 : decode b_Fr_replace 2 = .ok (.getfield 28, 3) := by decide +kernel
theorem d_Fr_replace_5 : decode b_Fr_replace 5 = .ok (.iconst 1, 1) := by decide +kernel
theorem d_Fr_replace_6 : decode b_Fr_replace 6 = .ok (.isub, 1) := by decide +kernel
theorem d_Fr_replace_7 : decode b_Fr_replace 7 = .ok (.iconst 3, 1) := by decide +kernel
theorem d_Fr_replace_8 : decode b_Fr_replace 8 = .ok (.invokevirtual 44, 3) := by decide +kernel
theorem d_Fr_replace_11 : decode b_Fr_replace 11 = .ok (.istore 4, 2) := by decide +kernel
theorem d_Fr_replace_13 : decode b_Fr_replace 13 = .ok (.aload_n 0, 1) := by decide +kernel
theorem d_Fr_replace_14 : decode b_Fr_replace 14 = .ok (.getfield 22, 3) := by decide +kernel
theorem d_Fr_replace_17 : decode b_Fr_replace 17 = .ok (.aload_n 0, 1) := by decide +kernel
theorem d_Fr_replace_18 : decode b_Fr_replace 18 = .ok (.getfield 35, 3) := by decide +kernel
theorem d_Fr_replace_21 : decode b_Fr_replace 21 = .ok (.iload_n 3, 1) := by decide +kernel
theorem d_Fr_replace_22 : decode b_Fr_replace 22 = .ok (.isub, 1) := by decide +kernel
theorem d_Fr_replace_23 : decode b_Fr_replace 23 = .ok (.aload_n 0, 1) := by decide +kernel
theorem d_Fr_replace_24 : decode b_Fr_replace 24 = .ok (.getfield 22, 3) := by decide +kernel
theorem d_Fr_replace_27 : decode b_Fr_replace 27 = .ok (.iload 4, 2) := by decide +kernel
theorem d_Fr_replace_29 : decode b_Fr_replace 29 = .ok (.iload_n 3, 1) := by decide +kernel
theorem d_Fr_replace_30 : decode b_Fr_replace 30 = .ok (.invokestatic 52, 3) := by decide +kernel
theorem d_Fr_replace_33 : decode b_Fr_replace 33 = .ok (.aload_n 0, 1) := by decide +kernel
theorem d_Fr_replace_34 : decode b_Fr_replace 34 = .ok (.iload 4, 2) := by decide +kernel
theorem d_Fr_replace_36 : decode b_Fr_replace 36 = .ok (.iload_n 3, 1) := by decide +kernel
theorem d_Fr_replace_37 : decode b_Fr_replace 37 = .ok (.iadd, 1) := by decide +kernel
theorem d_Fr_replace_38 : decode b_Fr_replace 38 = .ok (.putfield 35, 3) := by decide +kernel
theorem d_Fr_replace_41 : decode b_Fr_replace 41 = .ok (.aload_n 0, 1) := by decide +kernel
theorem d_Fr_replace_42 : decode b_Fr_replace 42 = .ok (.aload_n 0, 1) := by decide +kernel
theorem d_Fr_replace_43 : decode b_Fr_replace 43 = .ok (.aload_n 0, 1) := by decide +kernel
theorem d_Fr_replace_44 : decode b_Fr_replace 44 = .ok (.getfield 28, 3) := by decide +kernel
theorem d_Fr_replace_47 : decode b_Fr_replace 47 = .ok (.iconst 1, 1) := by decide +kernel
theorem d_Fr_replace_48 : decode b_Fr_replace 48 = .ok (.isub, 1) := by decide +kernel
theorem d_Fr_replace_49 : decode b_Fr_replace 49 = .ok (.iconst 2, 1) := by decide +kernel
theorem d_Fr_replace_50 : decode b_Fr_replace 50 = .ok (.invokevirtual 44, 3) := by decide +kernel
theorem d_Fr_replace_53 : decode b_Fr_replace 53 = .ok (.putfield 32, 3) := by decide +kernel
theorem d_Fr_replace_56 : decode b_Fr_replace 56 = .ok (.aload_n 0, 1) := by decide +kernel
theorem d_Fr_replace_57 : decode b_Fr_replace 57 = .ok (.iconst 0, 1) := by decide +kernel
theorem d_Fr_replace_58 : decode b_Fr_replace 58 = .ok (.iload_n 1, 1) := by decide +kernel
theorem d_Fr_replace_59 : decode b_Fr_replace 59 = .ok (.invokevirtual 48, 3) := by decide +kernel
theorem d_Fr_replace_62 : decode b_Fr_replace 62 = .ok (.aload_n 0, 1) := by decide +kernel
theorem d_Fr_replace_63 : decode b_Fr_replace 63 = .ok (.iconst 1, 1) := by decide +kernel
theorem d_Fr_replace_64 : decode b_Fr_replace 64 = .ok (.iconst 0, 1) := by decide +kernel
theorem d_Fr_replace_65 : decode b_Fr_replace 65 = .ok (.invokevirtual 48, 3) := by decide +kernel
theorem d_Fr_replace_68 : decode b_Fr_replace 68 = .ok (.aload_n 0, 1) := by decide +kernel
theorem d_Fr_replace_69 : decode b_Fr_replace 69 = .ok (.iconst 4, 1) := by decide +kernel
theorem d_Fr_replace_70 : decode b_Fr_replace 70 = .ok (.iload_n 2, 1) := by decide +kernel
theorem d_Fr_replace_71 : decode b_Fr_replace 71 = .ok (.invokevirtual 48, 3) := by decide +kernel
theorem d_Fr_replace_74 : decode b_Fr_replace 74 = .ok (.return_, 1) := by decide +kernel
set_option maxRecDepth 100000 in
theorem hi_Fr_replace : Cond.instanceMethod y_Fr_replace ∈ wd_tbl := wd_of 1992 (by decide +kernel) rfl
set_option maxRecDepth 100000 in
theorem hs_Fr_replace : Cond.selects R_Fr y_Fr_replace y_Fr_replace ∈ wd_tbl := wd_of 1993 (by decide +kernel) rfl
theorem hd_Fr_replace : y_Fr_replace.cls = R_Fr ∧ y_Fr_replace.cls ≠ "java/lang/invoke/MethodHandle" ∧ y_Fr_replace.cls ≠ "java/lang/invoke/VarHandle" ∧ (parseMethodDescriptor y_Fr_replace.desc).map (fun d => d.parameters.length) = some 3 := by decide +kernel
def rm_Fr_replace : Room := { frames := 1, cells := 0, slots := 0, locals := 48 }
theorem rm_Fr_replace_Fr_of : (rm_Fr_of).frames + 1 ≤ rm_Fr_replace.frames ∧ 8 + (3 + 11) + (rm_Fr_of).locals ≤ rm_Fr_replace.locals := by
  show 0 + 1 ≤ 1 ∧ 8 + (3 + 11) + 0 ≤ 48
  decide
theorem rm_Fr_replace_Fr_set : (rm_Fr_set).frames + 1 ≤ rm_Fr_replace.frames ∧ 8 + (3 + 11) + (rm_Fr_set).locals ≤ rm_Fr_replace.locals := by
  show 0 + 1 ≤ 1 ∧ 8 + (3 + 11) + 0 ≤ 48
  decide
def fb_Fr_replace_0 (N : Nat) (G : Unit) (u : CS) (v0 : Nat) (v1 : Int32) (v2 : Int32) (v3 : Int32) : Option (CS × Unit) := bo (gI u v0 4 1) (fun r1 => ck (isO u v0 4) (bx (fm_Fr_of N u v0 (r1 - 1) 3) (fun u2 r2 => bo (gR u2 v0 4 5) (fun r3 => bo (gI u2 v0 4 6) (fun r4 => bo (gR u2 v0 4 5) (fun r5 => bo r5 (fun j6 => bo r3 (fun j7 => bo (cpJ u2 j7 (r4 - v3) j6 r2 v3) (fun w8 => bo (pF w8 v0 4 6 (.inl (r2 + v3))) (fun w9 => bo (gI w9 v0 4 1) (fun r10 => ck (isO w9 v0 4) (bx (fm_Fr_of N w9 v0 (r10 - 1) 2) (fun u11 r11 => bo (pF u11 v0 4 4 (.inl r11)) (fun w12 => ck (isO w12 v0 4) (bx (fm_Fr_set N w12 v0 0 v1) (fun u13 r13 => ck (isO u13 v0 4) (bx (fm_Fr_set N u13 v0 1 0) (fun u14 r14 => ck (isO u14 v0 4) (bx (fm_Fr_set N u14 v0 4 v2) (fun u15 r15 => some (u15, ())))))))))))))))))))))
set_option maxRecDepth 100000 in
set_option maxHeartbeats 4000000 in
theorem wb_Fr_replace_0 {p : Program} {l : Launch} {e : Env} {s : State} {m : MethodId} {args : Array Value} {below : List Frame} {meth : Method} {c : Code} {s0 : State} {b0 : Nat} {D : va_G} {cB cI cJ cZ cS cP : ClassId} {A : Nat → Prop} {sk sv : Nat → Nat} {ad : Nat → Nat} (C0 : XCx p s s0 b0 m args meth c R_Fr b_Fr_replace 5 none D cB cI cJ cZ cS cP A) (hE : ENV s0 b0 sk sv) (N : Nat) (G : Unit) (hG : True) : ∀ (u : CS) (v0 : Nat) (v1 : Int32) (v2 : Int32) (v3 : Int32) (x : CS × Unit), fb_Fr_replace_0 N G u v0 v1 v2 v3 = some x → ∀ (H : Heap) (locs : List Loc), va_P D cls (wC cB cI cJ cZ cS cP ad u) H → va_D A (wC cB cI cJ cZ cS cP ad u) → va_S A s.heap H locs → ∀ (ls : Array Slot), lv_has ls 5 [(0, .ref (ad v0)), (1, .int v1), (2, .int v2), (3, .int v3)] → W p l e rm_Fr_replace s m args below meth c H locs 0 0 (MQ below (xQ0 D cB cI cJ cZ cS cP A ad x.1 none) args s 0 0 A) (F0 m 0 ls []) := by
  intro u v0 v1 v2 v3 x hf H locs hP hD hS ls hl
  obtain ⟨hx, hb, hr, hml, ht, hown, hK, hA, hlocks, hA0, hO, hbs⟩ := id C0
  unfold fb_Fr_replace_0 at hf
  refine lv_aload_n hx hb d_Fr_replace_0 rfl (lv_at hl 0 rfl) ?_
  refine lv_aload_n hx hb d_Fr_replace_1 rfl (lv_at hl 0 rfl) ?_
  obtain ⟨r1, g1, hf⟩ := bo_some hf
  refine xg_I (i := v0) (k := 1) hx hb ht hown ck_Fr hK hP (by decide) fk_Fr_28 g1 d_Fr_replace_2 ?_
  refine lv_iconst (v := 1) hx hb d_Fr_replace_5 (by decide) ?_
  refine lv_isub hx hb d_Fr_replace_6 ?_
  refine lv_iconst (v := 3) hx hb d_Fr_replace_7 (by decide) ?_
  obtain ⟨hO9, hf⟩ := ck_some hf
  obtain ⟨u2, r2, hc2, hf⟩ := bx_some hf
  refine xV0 (i := v0) (As := [.int (r1 - 1), .int 3]) (rest := []) C0 hP hD hS ck_Fr hO9 (c_Fr_of N hc2) k_Fr_of (wd_of 1328 (by decide +kernel) rfl) hi_Fr_of hs_Fr_of hini_Fr rfl rfl hd_Fr_of rfl rm_Fr_replace_Fr_of hl.1 (Nat.le_of_ble_eq_true rfl) d_Fr_replace_8 rfl ⟨Nat.zero_le _, Nat.zero_le _⟩ (fun H locs hP hD hS => ?_)
  refine lv_istore (lv' := [(4, .int r2), (0, .ref (ad v0)), (1, .int v1), (2, .int v2), (3, .int v3)]) hx hb d_Fr_replace_11 hl (by decide) (by first | rfl | simp [List.filter, cat_rf]) (fun ls hl => ?_)
  refine lv_aload_n hx hb d_Fr_replace_13 rfl (lv_at hl 1 rfl) ?_
  obtain ⟨r3, g3, hf⟩ := bo_some hf
  refine xg_R (i := v0) (k := 5) hx hb ht hown ck_Fr hK hP (by decide) fk_Fr_22 g3 d_Fr_replace_14 ?_
  refine lv_aload_n hx hb d_Fr_replace_17 rfl (lv_at hl 1 rfl) ?_
  obtain ⟨r4, g4, hf⟩ := bo_some hf
  refine xg_I (i := v0) (k := 6) hx hb ht hown ck_Fr hK hP (by decide) fk_Fr_35 g4 d_Fr_replace_18 ?_
  refine lv_iload_n hx hb d_Fr_replace_21 rfl (lv_at hl 4 rfl) ?_
  refine lv_isub hx hb d_Fr_replace_22 ?_
  refine lv_aload_n hx hb d_Fr_replace_23 rfl (lv_at hl 1 rfl) ?_
  obtain ⟨r5, g5, hf⟩ := bo_some hf
  refine xg_R (i := v0) (k := 5) hx hb ht hown ck_Fr hK hP (by decide) fk_Fr_22 g5 d_Fr_replace_24 ?_
  refine lv_iload hx hb d_Fr_replace_27 (lv_at hl 0 rfl) ?_
  refine lv_iload_n hx hb d_Fr_replace_29 rfl (lv_at hl 4 rfl) ?_
  obtain ⟨j6, ej6, hf⟩ := bo_some hf
  rw [ej6]
  obtain ⟨j7, ej7, hf⟩ := bo_some hf
  rw [ej7]
  obtain ⟨w8, g8, hf⟩ := bo_some hf
  refine x_cpJ (a0 := j7) (a1 := j6) hx hb (hml.trans hl.1.symm) ht hown (wd_of 1995 (by decide +kernel) rfl) (wd_of 870 (by decide +kernel) rfl) (wd_of 869 (by decide +kernel) rfl) (wd_of 282 (by decide +kernel) rfl) hK hP hD hS g8 (Nat.le_of_ble_eq_true rfl) (Nat.le_of_ble_eq_true rfl) d_Fr_replace_30 (fun H locs hP hD hS => ?_)
  refine lv_aload_n hx hb d_Fr_replace_33 rfl (lv_at hl 1 rfl) ?_
  refine lv_iload hx hb d_Fr_replace_34 (lv_at hl 0 rfl) ?_
  refine lv_iload_n hx hb d_Fr_replace_36 rfl (lv_at hl 4 rfl) ?_
  refine lv_iadd hx hb d_Fr_replace_37 ?_
  obtain ⟨w9, g9, hf⟩ := bo_some hf
  refine xp (i := v0) (k := 6) (v := (.inl (r2 + v3))) hx hb ht hown ck_Fr hK hP hD hS (by decide) fk_Fr_35 rfl g9 rfl rfl d_Fr_replace_38 (fun H locs hP hD hS => ?_)
  refine lv_aload_n hx hb d_Fr_replace_41 rfl (lv_at hl 1 rfl) ?_
  refine lv_aload_n hx hb d_Fr_replace_42 rfl (lv_at hl 1 rfl) ?_
  refine lv_aload_n hx hb d_Fr_replace_43 rfl (lv_at hl 1 rfl) ?_
  obtain ⟨r10, g10, hf⟩ := bo_some hf
  refine xg_I (i := v0) (k := 1) hx hb ht hown ck_Fr hK hP (by decide) fk_Fr_28 g10 d_Fr_replace_44 ?_
  refine lv_iconst (v := 1) hx hb d_Fr_replace_47 (by decide) ?_
  refine lv_isub hx hb d_Fr_replace_48 ?_
  refine lv_iconst (v := 2) hx hb d_Fr_replace_49 (by decide) ?_
  obtain ⟨hO9, hf⟩ := ck_some hf
  obtain ⟨u11, r11, hc11, hf⟩ := bx_some hf
  refine xV0 (i := v0) (As := [.int (r10 - 1), .int 2]) (rest := [.ref (ad v0)]) C0 hP hD hS ck_Fr hO9 (c_Fr_of N hc11) k_Fr_of (wd_of 1328 (by decide +kernel) rfl) hi_Fr_of hs_Fr_of hini_Fr rfl rfl hd_Fr_of rfl rm_Fr_replace_Fr_of hl.1 (Nat.le_of_ble_eq_true rfl) d_Fr_replace_50 rfl ⟨Nat.zero_le _, Nat.zero_le _⟩ (fun H locs hP hD hS => ?_)
  obtain ⟨w12, g12, hf⟩ := bo_some hf
  refine xp (i := v0) (k := 4) (v := (.inl r11)) hx hb ht hown ck_Fr hK hP hD hS (by decide) fk_Fr_32 rfl g12 rfl rfl d_Fr_replace_53 (fun H locs hP hD hS => ?_)
  refine lv_aload_n hx hb d_Fr_replace_56 rfl (lv_at hl 1 rfl) ?_
  refine lv_iconst (v := 0) hx hb d_Fr_replace_57 (by decide) ?_
  refine lv_iload_n hx hb d_Fr_replace_58 rfl (lv_at hl 2 rfl) ?_
  obtain ⟨hO9, hf⟩ := ck_some hf
  obtain ⟨u13, r13, hc13, hf⟩ := bx_some hf
  refine xV0 (i := v0) (As := [.int 0, .int v1]) (rest := []) C0 hP hD hS ck_Fr hO9 (c_Fr_set N hc13) k_Fr_set (wd_of 1621 (by decide +kernel) rfl) hi_Fr_set hs_Fr_set hini_Fr rfl rfl hd_Fr_set rfl rm_Fr_replace_Fr_set hl.1 (Nat.le_of_ble_eq_true rfl) d_Fr_replace_59 rfl ⟨Nat.zero_le _, Nat.zero_le _⟩ (fun H locs hP hD hS => ?_)
  refine lv_aload_n hx hb d_Fr_replace_62 rfl (lv_at hl 1 rfl) ?_
  refine lv_iconst (v := 1) hx hb d_Fr_replace_63 (by decide) ?_
  refine lv_iconst (v := 0) hx hb d_Fr_replace_64 (by decide) ?_
  obtain ⟨hO9, hf⟩ := ck_some hf
  obtain ⟨u14, r14, hc14, hf⟩ := bx_some hf
  refine xV0 (i := v0) (As := [.int 1, .int 0]) (rest := []) C0 hP hD hS ck_Fr hO9 (c_Fr_set N hc14) k_Fr_set (wd_of 1621 (by decide +kernel) rfl) hi_Fr_set hs_Fr_set hini_Fr rfl rfl hd_Fr_set rfl rm_Fr_replace_Fr_set hl.1 (Nat.le_of_ble_eq_true rfl) d_Fr_replace_65 rfl ⟨Nat.zero_le _, Nat.zero_le _⟩ (fun H locs hP hD hS => ?_)
  refine lv_aload_n hx hb d_Fr_replace_68 rfl (lv_at hl 1 rfl) ?_
  refine lv_iconst (v := 4) hx hb d_Fr_replace_69 (by decide) ?_
  refine lv_iload_n hx hb d_Fr_replace_70 rfl (lv_at hl 3 rfl) ?_
  obtain ⟨hO9, hf⟩ := ck_some hf
  obtain ⟨u15, r15, hc15, hf⟩ := bx_some hf
  refine xV0 (i := v0) (As := [.int 4, .int v2]) (rest := []) C0 hP hD hS ck_Fr hO9 (c_Fr_set N hc15) k_Fr_set (wd_of 1621 (by decide +kernel) rfl) hi_Fr_set hs_Fr_set hini_Fr rfl rfl hd_Fr_set rfl rm_Fr_replace_Fr_set hl.1 (Nat.le_of_ble_eq_true rfl) d_Fr_replace_71 rfl ⟨Nat.zero_le _, Nat.zero_le _⟩ (fun H locs hP hD hS => ?_)
  exact xr0_v C0 hP hD hS hf d_Fr_replace_74
def fm_Fr_replace (N : Nat) (u : CS) (v0 : Nat) (v1 : Int32) (v2 : Int32) (v3 : Int32) : Option (CS × Unit) := fb_Fr_replace_0 N () u v0 v1 v2 v3
set_option maxRecDepth 100000 in
set_option maxHeartbeats 4000000 in
theorem c_Fr_replace (N : Nat) {l : Launch} {s0 : State} {b0 : Nat} {D : va_G} {cB cI cJ cZ cS cP : ClassId} {sk sv : Nat → Nat} {ad : Nat → Nat} {u : CS} {sz : Nat} {v0 : Nat} {v1 : Int32} {v2 : Int32} {v3 : Int32} {x : CS × Unit} (hE : ENV s0 b0 sk sv) (hf : fm_Fr_replace N u v0 v1 v2 v3 = some x) : Met l y_Fr_replace (wd_ws y_Fr_replace b_Fr_replace 5 none) rm_Fr_replace (xPc s0 b0 D cB cI cJ cZ cS cP ad u sz [.ref (ad v0), .int v1, .int v2, .int v3]) (xQ0 D cB cI cJ cZ cS cP (xA cB cI cJ cZ cS cP ad u sz) ad x.1 none) 0 0 (xA cB cI cJ cZ cS cP ad u sz) :=
  xMet (by decide) rfl (Nat.le_of_ble_eq_true rfl) (fun p e s m below meth c ls hsz hnm C0 hP hD hS hl =>
    wb_Fr_replace_0 C0 hE N () trivial u _ _ _ _ x hf s.heap [] hP hD hS ls (lv_sub hl [0, 1, 2, 3] rfl))
abbrev b_Ma_enter : ByteArray := prog_5_method_39_code
def y_Ma_enter : MethodName := ⟨R_Ma, "enter", "(IIIZI)V"⟩
def w_Ma_enter : List Cond := wd_ws y_Ma_enter b_Ma_enter 6 none
set_option maxRecDepth 100000 in
theorem k_Ma_enter : Cond.code y_Ma_enter b_Ma_enter 6 none ∈ wd_tbl := wd_of 1990 rfl rfl
theorem d_Ma_enter_0 : decode b_Ma_enter 0 = .ok (.iload 4, 2) := by decide +kernel
theorem d_Ma_enter_2 : decode b_Ma_enter 2 = .ok (.ifCond .eq 16, 3) := by decide +kernel
theorem d_Ma_enter_5 : decode b_Ma_enter 5 = .ok (.aload_n 0, 1) := by decide +kernel
theorem d_Ma_enter_6 : decode b_Ma_enter 6 = .ok (.getfield 33, 3) := by decide +kernel
theorem d_Ma_enter_9 : decode b_Ma_enter 9 = .ok (.iload_n 1, 1) := by decide +kernel
theorem d_Ma_enter_10 : decode b_Ma_enter 10 = .ok (.iload_n 2, 1) := by decide +kernel
theorem d_Ma_enter_11 : decode b_Ma_enter 11 = .ok (.iload_n 3, 1) := by decide +kernel
theorem d_Ma_enter_12 : decode b_Ma_enter 12 = .ok (.invokevirtual 365, 3) := by decide +kernel
theorem d_Ma_enter_15 : decode b_Ma_enter 15 = .ok (.goto 22, 3) := by decide +kernel
theorem d_Ma_enter_18 : decode b_Ma_enter 18 = .ok (.aload_n 0, 1) := by decide +kernel
theorem d_Ma_enter_19 : decode b_Ma_enter 19 = .ok (.getfield 33, 3) := by decide +kernel
theorem d_Ma_enter_22 : decode b_Ma_enter 22 = .ok (.iload 5, 2) := by decide +kernel
theorem d_Ma_enter_24 : decode b_Ma_enter 24 = .ok (.invokevirtual 96, 3) := by decide +kernel
theorem d_Ma_enter_27 : decode b_Ma_enter 27 = .ok (.aload_n 0, 1) := by decide +kernel
theorem d_Ma_enter_28 : decode b_Ma_enter 28 = .ok (.getfield 33, 3) := by decide +kernel
theorem d_Ma_enter_31 : decode b_Ma_enter 31 = .ok (.iload_n 1, 1) := by decide +kernel
theorem d_Ma_enter_32 : decode b_Ma_enter 32 = .ok (.iload_n 2, 1) := by decide +kernel
theorem d_Ma_enter_33 : decode b_Ma_enter 33 = .ok (.iload_n 3, 1) := by decide +kernel
theorem d_Ma_enter_34 : decode b_Ma_enter 34 = .ok (.invokevirtual 369, 3) := by decide +kernel
theorem d_Ma_enter_37 : decode b_Ma_enter 37 = .ok (.aload_n 0, 1) := by decide +kernel
theorem d_Ma_enter_38 : decode b_Ma_enter 38 = .ok (.iload_n 2, 1) := by decide +kernel
theorem d_Ma_enter_39 : decode b_Ma_enter 39 = .ok (.putfield 40, 3) := by decide +kernel
theorem d_Ma_enter_42 : decode b_Ma_enter 42 = .ok (.return_, 1) := by decide +kernel
set_option maxRecDepth 100000 in
theorem hl_Ma_enter : Cond.methodLink R_Ma 361 y_Ma_enter ∈ wd_tbl := wd_of 1987 (by decide +kernel) rfl
set_option maxRecDepth 100000 in
theorem hi_Ma_enter : Cond.instanceMethod y_Ma_enter ∈ wd_tbl := wd_of 1989 (by decide +kernel) rfl
set_option maxRecDepth 100000 in
theorem hs_Ma_enter : Cond.selects R_Ma y_Ma_enter y_Ma_enter ∈ wd_tbl := wd_of 118 (by decide +kernel) rfl
theorem hd_Ma_enter : y_Ma_enter.cls = R_Ma ∧ y_Ma_enter.cls ≠ "java/lang/invoke/MethodHandle" ∧ y_Ma_enter.cls ≠ "java/lang/invoke/VarHandle" ∧ (parseMethodDescriptor y_Ma_enter.desc).map (fun d => d.parameters.length) = some 5 := by decide +kernel
def rm_Ma_enter : Room := { frames := 2, cells := 0, slots := 0, locals := 72 }
theorem rm_Ma_enter_Fr_replace : (rm_Fr_replace).frames + 1 ≤ rm_Ma_enter.frames ∧ 8 + (5 + 11) + (rm_Fr_replace).locals ≤ rm_Ma_enter.locals := by
  show 1 + 1 ≤ 2 ∧ 8 + (5 + 11) + 48 ≤ 72
  decide
theorem rm_Ma_enter_Fr_setPlace : (rm_Fr_setPlace).frames + 1 ≤ rm_Ma_enter.frames ∧ 8 + (2 + 11) + (rm_Fr_setPlace).locals ≤ rm_Ma_enter.locals := by
  show 1 + 1 ≤ 2 ∧ 8 + (2 + 11) + 22 ≤ 72
  decide
theorem rm_Ma_enter_Fr_open : (rm_Fr_open).frames + 1 ≤ rm_Ma_enter.frames ∧ 8 + (4 + 11) + (rm_Fr_open).locals ≤ rm_Ma_enter.locals := by
  show 1 + 1 ≤ 2 ∧ 8 + (4 + 11) + 22 ≤ 72
  decide
def fb_Ma_enter_37 (N : Nat) (G : Unit) (u : CS) (v0 : Nat) (v2 : Int32) : Option (CS × Unit) := bo (pF u v0 5 5 (.inl v2)) (fun w1 => some (w1, ()))
set_option maxRecDepth 100000 in
set_option maxHeartbeats 4000000 in
theorem wb_Ma_enter_37 {p : Program} {l : Launch} {e : Env} {s : State} {m : MethodId} {args : Array Value} {below : List Frame} {meth : Method} {c : Code} {s0 : State} {b0 : Nat} {D : va_G} {cB cI cJ cZ cS cP : ClassId} {A : Nat → Prop} {sk sv : Nat → Nat} {ad : Nat → Nat} (C0 : XCx p s s0 b0 m args meth c R_Ma b_Ma_enter 6 none D cB cI cJ cZ cS cP A) (hE : ENV s0 b0 sk sv) (N : Nat) (G : Unit) (hG : True) : ∀ (u : CS) (v0 : Nat) (v2 : Int32) (x : CS × Unit), fb_Ma_enter_37 N G u v0 v2 = some x → ∀ (H : Heap) (locs : List Loc), va_P D cls (wC cB cI cJ cZ cS cP ad u) H → va_D A (wC cB cI cJ cZ cS cP ad u) → va_S A s.heap H locs → ∀ (ls : Array Slot), lv_has ls 6 [(0, .ref (ad v0)), (2, .int v2)] → W p l e rm_Ma_enter s m args below meth c H locs 0 0 (MQ below (xQ0 D cB cI cJ cZ cS cP A ad x.1 none) args s 0 0 A) (F0 m 37 ls []) := by
  intro u v0 v2 x hf H locs hP hD hS ls hl
  obtain ⟨hx, hb, hr, hml, ht, hown, hK, hA, hlocks, hA0, hO, hbs⟩ := id C0
  unfold fb_Ma_enter_37 at hf
  refine lv_aload_n hx hb d_Ma_enter_37 rfl (lv_at hl 0 rfl) ?_
  refine lv_iload_n hx hb d_Ma_enter_38 rfl (lv_at hl 1 rfl) ?_
  obtain ⟨w1, g1, hf⟩ := bo_some hf
  refine xp (i := v0) (k := 5) (v := (.inl v2)) hx hb ht hown ck_Ma hK hP hD hS (by decide) fk_Ma_40 rfl g1 rfl rfl d_Ma_enter_39 (fun H locs hP hD hS => ?_)
  exact xr0_v C0 hP hD hS hf d_Ma_enter_42
def fb_Ma_enter_0 (N : Nat) (G : Unit) (u : CS) (v0 : Nat) (v1 : Int32) (v2 : Int32) (v3 : Int32) (v4 : Int32) (v5 : Int32) : Option (CS × Unit) := br (decide (v4 = 0)) (bo (gR u v0 5 4) (fun r2 => bo r2 (fun j4 => ck (isO u j4 4) (bx (fm_Fr_setPlace N u j4 v5) (fun u3 r3 => bo (gR u3 v0 5 4) (fun r5 => bo r5 (fun j7 => ck (isO u3 j7 4) (bx (fm_Fr_open N u3 j7 v1 v2 v3) (fun u6 r6 => fb_Ma_enter_37 N G u6 (v0) (v2)))))))))) (bo (gR u v0 5 4) (fun r8 => bo r8 (fun j10 => ck (isO u j10 4) (bx (fm_Fr_replace N u j10 v1 v2 v3) (fun u9 r9 => fb_Ma_enter_37 N G u9 (v0) (v2))))))
set_option maxRecDepth 100000 in
set_option maxHeartbeats 4000000 in
theorem wb_Ma_enter_0 {p : Program} {l : Launch} {e : Env} {s : State} {m : MethodId} {args : Array Value} {below : List Frame} {meth : Method} {c : Code} {s0 : State} {b0 : Nat} {D : va_G} {cB cI cJ cZ cS cP : ClassId} {A : Nat → Prop} {sk sv : Nat → Nat} {ad : Nat → Nat} (C0 : XCx p s s0 b0 m args meth c R_Ma b_Ma_enter 6 none D cB cI cJ cZ cS cP A) (hE : ENV s0 b0 sk sv) (N : Nat) (G : Unit) (hG : True) : ∀ (u : CS) (v0 : Nat) (v1 : Int32) (v2 : Int32) (v3 : Int32) (v4 : Int32) (v5 : Int32) (x : CS × Unit), fb_Ma_enter_0 N G u v0 v1 v2 v3 v4 v5 = some x → ∀ (H : Heap) (locs : List Loc), va_P D cls (wC cB cI cJ cZ cS cP ad u) H → va_D A (wC cB cI cJ cZ cS cP ad u) → va_S A s.heap H locs → ∀ (ls : Array Slot), lv_has ls 6 [(0, .ref (ad v0)), (1, .int v1), (2, .int v2), (3, .int v3), (4, .int v4), (5, .int v5)] → W p l e rm_Ma_enter s m args below meth c H locs 0 0 (MQ below (xQ0 D cB cI cJ cZ cS cP A ad x.1 none) args s 0 0 A) (F0 m 0 ls []) := by
  intro u v0 v1 v2 v3 v4 v5 x hf H locs hP hD hS ls hl
  obtain ⟨hx, hb, hr, hml, ht, hown, hK, hA, hlocks, hA0, hO, hbs⟩ := id C0
  unfold fb_Ma_enter_0 at hf
  refine lv_iload hx hb d_Ma_enter_0 (lv_at hl 4 rfl) ?_
  refine lv_if_eq (tgt := 18) hx hb d_Ma_enter_2 (by decide) (fun hc => ?_) (fun hc => ?_)
  · rw [br_p _ hc] at hf
    refine lv_aload_n hx hb d_Ma_enter_18 rfl (lv_at hl 0 rfl) ?_
    obtain ⟨r2, g2, hf⟩ := bo_some hf
    refine xg_R (i := v0) (k := 4) hx hb ht hown ck_Ma hK hP (by decide) fk_Ma_33 g2 d_Ma_enter_19 ?_
    refine lv_iload hx hb d_Ma_enter_22 (lv_at hl 5 rfl) ?_
    obtain ⟨j4, ej4, hf⟩ := bo_some hf
    rw [ej4]
    obtain ⟨hO9, hf⟩ := ck_some hf
    obtain ⟨u3, r3, hc3, hf⟩ := bx_some hf
    refine xV0 (i := j4) (As := [.int v5]) (rest := []) C0 hP hD hS ck_Fr hO9 (c_Fr_setPlace N hc3) k_Fr_setPlace (wd_of 1996 (by decide +kernel) rfl) hi_Fr_setPlace hs_Fr_setPlace hini_Fr rfl rfl hd_Fr_setPlace rfl rm_Ma_enter_Fr_setPlace hl.1 (Nat.le_of_ble_eq_true rfl) d_Ma_enter_24 rfl ⟨Nat.zero_le _, Nat.zero_le _⟩ (fun H locs hP hD hS => ?_)
    refine lv_aload_n hx hb d_Ma_enter_27 rfl (lv_at hl 0 rfl) ?_
    obtain ⟨r5, g5, hf⟩ := bo_some hf
    refine xg_R (i := v0) (k := 4) hx hb ht hown ck_Ma hK hP (by decide) fk_Ma_33 g5 d_Ma_enter_28 ?_
    refine lv_iload_n hx hb d_Ma_enter_31 rfl (lv_at hl 1 rfl) ?_
    refine lv_iload_n hx hb d_Ma_enter_32 rfl (lv_at hl 2 rfl) ?_
    refine lv_iload_n hx hb d_Ma_enter_33 rfl (lv_at hl 3 rfl) ?_
    obtain ⟨j7, ej7, hf⟩ := bo_some hf
    rw [ej7]
    obtain ⟨hO9, hf⟩ := ck_some hf
    obtain ⟨u6, r6, hc6, hf⟩ := bx_some hf
    refine xV0 (i := j7) (As := [.int v1, .int v2, .int v3]) (rest := []) C0 hP hD hS ck_Fr hO9 (c_Fr_open N hc6) k_Fr_open (wd_of 1684 (by decide +kernel) rfl) hi_Fr_open hs_Fr_open hini_Fr rfl rfl hd_Fr_open rfl rm_Ma_enter_Fr_open hl.1 (Nat.le_of_ble_eq_true rfl) d_Ma_enter_34 rfl ⟨Nat.zero_le _, Nat.zero_le _⟩ (fun H locs hP hD hS => ?_)
    exact wb_Ma_enter_37 C0 hE N G hG _ _ _ _ hf H locs hP hD hS ls (lv_sub hl [0, 2] rfl)
  · rw [br_n _ hc] at hf
    refine lv_aload_n hx hb d_Ma_enter_5 rfl (lv_at hl 0 rfl) ?_
    obtain ⟨r8, g8, hf⟩ := bo_some hf
    refine xg_R (i := v0) (k := 4) hx hb ht hown ck_Ma hK hP (by decide) fk_Ma_33 g8 d_Ma_enter_6 ?_
    refine lv_iload_n hx hb d_Ma_enter_9 rfl (lv_at hl 1 rfl) ?_
    refine lv_iload_n hx hb d_Ma_enter_10 rfl (lv_at hl 2 rfl) ?_
    refine lv_iload_n hx hb d_Ma_enter_11 rfl (lv_at hl 3 rfl) ?_
    obtain ⟨j10, ej10, hf⟩ := bo_some hf
    rw [ej10]
    obtain ⟨hO9, hf⟩ := ck_some hf
    obtain ⟨u9, r9, hc9, hf⟩ := bx_some hf
    refine xV0 (i := j10) (As := [.int v1, .int v2, .int v3]) (rest := []) C0 hP hD hS ck_Fr hO9 (c_Fr_replace N hE hc9) k_Fr_replace (wd_of 1991 (by decide +kernel) rfl) hi_Fr_replace hs_Fr_replace hini_Fr rfl rfl hd_Fr_replace rfl rm_Ma_enter_Fr_replace hl.1 (Nat.le_of_ble_eq_true rfl) d_Ma_enter_12 rfl ⟨Nat.zero_le _, Nat.zero_le _⟩ (fun H locs hP hD hS => ?_)
    refine lv_goto (tgt := 37) hx hb d_Ma_enter_15 (by decide) ?_
    exact wb_Ma_enter_37 C0 hE N G hG _ _ _ _ hf H locs hP hD hS ls (lv_sub hl [0, 2] rfl)
def fm_Ma_enter (N : Nat) (u : CS) (v0 : Nat) (v1 : Int32) (v2 : Int32) (v3 : Int32) (v4 : Int32) (v5 : Int32) : Option (CS × Unit) := fb_Ma_enter_0 N () u v0 v1 v2 v3 v4 v5
set_option maxRecDepth 100000 in
set_option maxHeartbeats 4000000 in
theorem c_Ma_enter (N : Nat) {l : Launch} {s0 : State} {b0 : Nat} {D : va_G} {cB cI cJ cZ cS cP : ClassId} {sk sv : Nat → Nat} {ad : Nat → Nat} {u : CS} {sz : Nat} {v0 : Nat} {v1 : Int32} {v2 : Int32} {v3 : Int32} {v4 : Int32} {v5 : Int32} {x : CS × Unit} (hE : ENV s0 b0 sk sv) (hf : fm_Ma_enter N u v0 v1 v2 v3 v4 v5 = some x) : Met l y_Ma_enter (wd_ws y_Ma_enter b_Ma_enter 6 none) rm_Ma_enter (xPc s0 b0 D cB cI cJ cZ cS cP ad u sz [.ref (ad v0), .int v1, .int v2, .int v3, .int v4, .int v5]) (xQ0 D cB cI cJ cZ cS cP (xA cB cI cJ cZ cS cP ad u sz) ad x.1 none) 0 0 (xA cB cI cJ cZ cS cP ad u sz) :=
  xMet (by decide) rfl (Nat.le_of_ble_eq_true rfl) (fun p e s m below meth c ls hsz hnm C0 hP hD hS hl =>
    wb_Ma_enter_0 C0 hE N () trivial u _ _ _ _ _ _ x hf s.heap [] hP hD hS ls (lv_sub hl [0, 1, 2, 3, 4, 5] rfl))
abbrev b_Ma_call : ByteArray := prog_5_method_38_code
def y_Ma_call : MethodName := ⟨R_Ma, "call", "(IZ)V"⟩
def w_Ma_call : List Cond := wd_ws y_Ma_call b_Ma_call 3 none
set_option maxRecDepth 100000 in
theorem k_Ma_call : Cond.code y_Ma_call b_Ma_call 3 none ∈ wd_tbl := wd_of 1982 rfl rfl
theorem d_Ma_call_0 : decode b_Ma_call 0 = .ok (.aload_n 0, 1) := by decide +kernel
theorem d_Ma_call_1 : decode b_Ma_call 1 = .ok (.iload_n 2, 1) := by decide +kernel
theorem d_Ma_call_2 : decode b_Ma_call 2 = .ok (.aload_n 0, 1) := by decide +kernel
theorem d_Ma_call_3 : decode b_Ma_call 3 = .ok (.getfield 9, 3) := by decide +kernel
theorem d_Ma_call_6 : decode b_Ma_call 6 = .ok (.aload_n 0, 1) := by decide +kernel
theorem d_Ma_call_7 : decode b_Ma_call 7 = .ok (.getfield 40, 3) := by decide +kernel
theorem d_Ma_call_10 : decode b_Ma_call 10 = .ok (.iconst 3, 1) := by decide +kernel
theorem d_Ma_call_11 : decode b_Ma_call 11 = .ok (.iadd, 1) := by decide +kernel
theorem d_Ma_call_12 : decode b_Ma_call 12 = .ok (.invokevirtual 67, 3) := by decide +kernel
theorem d_Ma_call_15 : decode b_Ma_call 15 = .ok (.invokevirtual 350, 3) := by decide +kernel
theorem d_Ma_call_18 : decode b_Ma_call 18 = .ok (.ifCond .eq 52, 3) := by decide +kernel
theorem d_Ma_call_21 : decode b_Ma_call 21 = .ok (.iload_n 1, 1) := by decide +kernel
theorem d_Ma_call_22 : decode b_Ma_call 22 = .ok (.ifCond .lt 48, 3) := by decide +kernel
theorem d_Ma_call_25 : decode b_Ma_call 25 = .ok (.iload_n 1, 1) := by decide +kernel
theorem d_Ma_call_26 : decode b_Ma_call 26 = .ok (.aload_n 0, 1) := by decide +kernel
theorem d_Ma_call_27 : decode b_Ma_call 27 = .ok (.getfield 9, 3) := by decide +kernel
theorem d_Ma_call_30 : decode b_Ma_call 30 = .ok (.getfield 354, 3) := by decide +kernel
theorem d_Ma_call_33 : decode b_Ma_call 33 = .ok (.if_icmp .ge 37, 3) := by decide +kernel
theorem d_Ma_call_36 : decode b_Ma_call 36 = .ok (.aload_n 0, 1) := by decide +kernel
theorem d_Ma_call_37 : decode b_Ma_call 37 = .ok (.iload_n 1, 1) := by decide +kernel
theorem d_Ma_call_38 : decode b_Ma_call 38 = .ok (.aload_n 0, 1) := by decide +kernel
theorem d_Ma_call_39 : decode b_Ma_call 39 = .ok (.getfield 9, 3) := by decide +kernel
theorem d_Ma_call_42 : decode b_Ma_call 42 = .ok (.getfield 357, 3) := by decide +kernel
theorem d_Ma_call_45 : decode b_Ma_call 45 = .ok (.iload_n 1, 1) := by decide +kernel
theorem d_Ma_call_46 : decode b_Ma_call 46 = .ok (.iaload, 1) := by decide +kernel
theorem d_Ma_call_47 : decode b_Ma_call 47 = .ok (.aload_n 0, 1) := by decide +kernel
theorem d_Ma_call_48 : decode b_Ma_call 48 = .ok (.getfield 9, 3) := by decide +kernel
theorem d_Ma_call_51 : decode b_Ma_call 51 = .ok (.aload_n 0, 1) := by decide +kernel
theorem d_Ma_call_52 : decode b_Ma_call 52 = .ok (.getfield 40, 3) := by decide +kernel
theorem d_Ma_call_55 : decode b_Ma_call 55 = .ok (.iconst 2, 1) := by decide +kernel
theorem d_Ma_call_56 : decode b_Ma_call 56 = .ok (.iadd, 1) := by decide +kernel
theorem d_Ma_call_57 : decode b_Ma_call 57 = .ok (.invokevirtual 67, 3) := by decide +kernel
theorem d_Ma_call_60 : decode b_Ma_call 60 = .ok (.iload_n 2, 1) := by decide +kernel
theorem d_Ma_call_61 : decode b_Ma_call 61 = .ok (.aload_n 0, 1) := by decide +kernel
theorem d_Ma_call_62 : decode b_Ma_call 62 = .ok (.getfield 40, 3) := by decide +kernel
theorem d_Ma_call_65 : decode b_Ma_call 65 = .ok (.iconst 4, 1) := by decide +kernel
theorem d_Ma_call_66 : decode b_Ma_call 66 = .ok (.iadd, 1) := by decide +kernel
theorem d_Ma_call_67 : decode b_Ma_call 67 = .ok (.invokevirtual 361, 3) := by decide +kernel
theorem d_Ma_call_70 : decode b_Ma_call 70 = .ok (.return_, 1) := by decide +kernel
set_option maxRecDepth 100000 in
theorem hl_Ma_call : Cond.methodLink R_Ma 297 y_Ma_call ∈ wd_tbl := wd_of 1979 (by decide +kernel) rfl
set_option maxRecDepth 100000 in
theorem hi_Ma_call : Cond.instanceMethod y_Ma_call ∈ wd_tbl := wd_of 1981 (by decide +kernel) rfl
set_option maxRecDepth 100000 in
theorem hs_Ma_call : Cond.selects R_Ma y_Ma_call y_Ma_call ∈ wd_tbl := wd_of 116 (by decide +kernel) rfl
theorem hd_Ma_call : y_Ma_call.cls = R_Ma ∧ y_Ma_call.cls ≠ "java/lang/invoke/MethodHandle" ∧ y_Ma_call.cls ≠ "java/lang/invoke/VarHandle" ∧ (parseMethodDescriptor y_Ma_call.desc).map (fun d => d.parameters.length) = some 2 := by decide +kernel
def rm_Ma_call : Room := { frames := 3, cells := 0, slots := 0, locals := 97 }
theorem rm_Ma_call_Co_at : (rm_Co_at).frames + 1 ≤ rm_Ma_call.frames ∧ 8 + (2 + 11) + (rm_Co_at).locals ≤ rm_Ma_call.locals := by
  show 0 + 1 ≤ 3 ∧ 8 + (2 + 11) + 0 ≤ 97
  decide
theorem rm_Ma_call_Ma_begins : (rm_Ma_begins).frames + 1 ≤ rm_Ma_call.frames ∧ 8 + (3 + 11) + (rm_Ma_begins).locals ≤ rm_Ma_call.locals := by
  show 2 + 1 ≤ 3 ∧ 8 + (3 + 11) + 46 ≤ 97
  decide
theorem rm_Ma_call_Ma_enter : (rm_Ma_enter).frames + 1 ≤ rm_Ma_call.frames ∧ 8 + (6 + 11) + (rm_Ma_enter).locals ≤ rm_Ma_call.locals := by
  show 2 + 1 ≤ 3 ∧ 8 + (6 + 11) + 72 ≤ 97
  decide
def fb_Ma_call_70 (N : Nat) (G : Unit) (u : CS) : Option (CS × Unit) := some (u, ())
set_option maxRecDepth 100000 in
set_option maxHeartbeats 4000000 in
theorem wb_Ma_call_70 {p : Program} {l : Launch} {e : Env} {s : State} {m : MethodId} {args : Array Value} {below : List Frame} {meth : Method} {c : Code} {s0 : State} {b0 : Nat} {D : va_G} {cB cI cJ cZ cS cP : ClassId} {A : Nat → Prop} {sk sv : Nat → Nat} {ad : Nat → Nat} (C0 : XCx p s s0 b0 m args meth c R_Ma b_Ma_call 3 none D cB cI cJ cZ cS cP A) (hE : ENV s0 b0 sk sv) (N : Nat) (G : Unit) (hG : True) : ∀ (u : CS) (x : CS × Unit), fb_Ma_call_70 N G u = some x → ∀ (H : Heap) (locs : List Loc), va_P D cls (wC cB cI cJ cZ cS cP ad u) H → va_D A (wC cB cI cJ cZ cS cP ad u) → va_S A s.heap H locs → ∀ (ls : Array Slot), lv_has ls 3 [] → W p l e rm_Ma_call s m args below meth c H locs 0 0 (MQ below (xQ0 D cB cI cJ cZ cS cP A ad x.1 none) args s 0 0 A) (F0 m 70 ls []) := by
  intro u x hf H locs hP hD hS ls hl
  obtain ⟨hx, hb, hr, hml, ht, hown, hK, hA, hlocks, hA0, hO, hbs⟩ := id C0
  unfold fb_Ma_call_70 at hf
  exact xr0_v C0 hP hD hS hf d_Ma_call_70
def fb_Ma_call_0 (N : Nat) (G : Unit) (u : CS) (v0 : Nat) (v1 : Int32) (v2 : Int32) : Option (CS × Unit) := bo (gR u v0 5 0) (fun r1 => bo (gI u v0 5 5) (fun r2 => bo r1 (fun j4 => ck (isO u j4 2) (bx (fm_Co_at N u j4 (r2 + 3)) (fun u3 r3 => ck (isO u3 v0 5) (bx (fm_Ma_begins N u3 v0 v2 r3) (fun u5 r5 => br (decide (r5 = 0)) (fb_Ma_call_70 N G u5) (br (decide (v1 < 0)) (fb_Ma_call_70 N G u5) (bo (gR u5 v0 5 0) (fun r6 => bo r6 (fun j7 => bo (gI u5 j7 2 2) (fun r8 => br (decide (r8 ≤ v1)) (fb_Ma_call_70 N G u5) (bo (gR u5 v0 5 0) (fun r9 => bo r9 (fun j10 => bo (gR u5 j10 2 8) (fun r11 => bo r11 (fun j12 => bo (aI u5 j12 4 v1) (fun r13 => bo (gR u5 v0 5 0) (fun r14 => bo (gI u5 v0 5 5) (fun r15 => bo r14 (fun j17 => ck (isO u5 j17 2) (bx (fm_Co_at N u5 j17 (r15 + 2)) (fun u16 r16 => bo (gI u16 v0 5 5) (fun r18 => ck (isO u16 v0 5) (bx (fm_Ma_enter N u16 v0 v1 r13 r16 v2 (r18 + 4)) (fun u19 r19 => fb_Ma_call_70 N G u19))))))))))))))))))))))))))
set_option maxRecDepth 100000 in
set_option maxHeartbeats 4000000 in
theorem wb_Ma_call_0 {p : Program} {l : Launch} {e : Env} {s : State} {m : MethodId} {args : Array Value} {below : List Frame} {meth : Method} {c : Code} {s0 : State} {b0 : Nat} {D : va_G} {cB cI cJ cZ cS cP : ClassId} {A : Nat → Prop} {sk sv : Nat → Nat} {ad : Nat → Nat} (C0 : XCx p s s0 b0 m args meth c R_Ma b_Ma_call 3 none D cB cI cJ cZ cS cP A) (hE : ENV s0 b0 sk sv) (N : Nat) (G : Unit) (hG : True) : ∀ (u : CS) (v0 : Nat) (v1 : Int32) (v2 : Int32) (x : CS × Unit), fb_Ma_call_0 N G u v0 v1 v2 = some x → ∀ (H : Heap) (locs : List Loc), va_P D cls (wC cB cI cJ cZ cS cP ad u) H → va_D A (wC cB cI cJ cZ cS cP ad u) → va_S A s.heap H locs → ∀ (ls : Array Slot), lv_has ls 3 [(0, .ref (ad v0)), (1, .int v1), (2, .int v2)] → W p l e rm_Ma_call s m args below meth c H locs 0 0 (MQ below (xQ0 D cB cI cJ cZ cS cP A ad x.1 none) args s 0 0 A) (F0 m 0 ls []) := by
  intro u v0 v1 v2 x hf H locs hP hD hS ls hl
  obtain ⟨hx, hb, hr, hml, ht, hown, hK, hA, hlocks, hA0, hO, hbs⟩ := id C0
  unfold fb_Ma_call_0 at hf
  refine lv_aload_n hx hb d_Ma_call_0 rfl (lv_at hl 0 rfl) ?_
  refine lv_iload_n hx hb d_Ma_call_1 rfl (lv_at hl 2 rfl) ?_
  refine lv_aload_n hx hb d_Ma_call_2 rfl (lv_at hl 0 rfl) ?_
  obtain ⟨r1, g1, hf⟩ := bo_some hf
  refine xg_R (i := v0) (k := 0) hx hb ht hown ck_Ma hK hP (by decide) fk_Ma_9 g1 d_Ma_call_3 ?_
  refine lv_aload_n hx hb d_Ma_call_6 rfl (lv_at hl 0 rfl) ?_
  obtain ⟨r2, g2, hf⟩ := bo_some hf
  refine xg_I (i := v0) (k := 5) hx hb ht hown ck_Ma hK hP (by decide) fk_Ma_40 g2 d_Ma_call_7 ?_
  refine lv_iconst (v := 3) hx hb d_Ma_call_10 (by decide) ?_
  refine lv_iadd hx hb d_Ma_call_11 ?_
  obtain ⟨j4, ej4, hf⟩ := bo_some hf
  rw [ej4]
  obtain ⟨hO9, hf⟩ := ck_some hf
  obtain ⟨u3, r3, hc3, hf⟩ := bx_some hf
  refine xV0 (i := j4) (As := [.int (r2 + 3)]) (rest := [.int v2, .ref (ad v0)]) C0 hP hD hS ck_Co hO9 (c_Co_at N hc3) k_Co_at (wd_of 1644 (by decide +kernel) rfl) hi_Co_at hs_Co_at hini_Co rfl rfl hd_Co_at rfl rm_Ma_call_Co_at hl.1 (Nat.le_of_ble_eq_true rfl) d_Ma_call_12 rfl ⟨Nat.zero_le _, Nat.zero_le _⟩ (fun H locs hP hD hS => ?_)
  obtain ⟨hO9, hf⟩ := ck_some hf
  obtain ⟨u5, r5, hc5, hf⟩ := bx_some hf
  refine xV0 (i := v0) (As := [.int v2, .int r3]) (rest := []) C0 hP hD hS ck_Ma hO9 (c_Ma_begins N hc5) k_Ma_begins (wd_of 1983 (by decide +kernel) rfl) hi_Ma_begins hs_Ma_begins hini_Ma rfl rfl hd_Ma_begins rfl rm_Ma_call_Ma_begins hl.1 (Nat.le_of_ble_eq_true rfl) d_Ma_call_15 rfl ⟨Nat.zero_le _, Nat.zero_le _⟩ (fun H locs hP hD hS => ?_)
  refine lv_if_eq (tgt := 70) hx hb d_Ma_call_18 (by decide) (fun hc => ?_) (fun hc => ?_)
  · rw [br_p _ hc] at hf
    exact wb_Ma_call_70 C0 hE N G hG _ _ hf H locs hP hD hS ls (lv_sub hl [] rfl)
  · rw [br_n _ hc] at hf
    refine lv_iload_n hx hb d_Ma_call_21 rfl (lv_at hl 1 rfl) ?_
    refine lv_if_lt (tgt := 70) hx hb d_Ma_call_22 (by decide) (fun hc => ?_) (fun hc => ?_)
    · rw [br_p _ hc] at hf
      exact wb_Ma_call_70 C0 hE N G hG _ _ hf H locs hP hD hS ls (lv_sub hl [] rfl)
    · rw [br_n _ hc] at hf
      refine lv_iload_n hx hb d_Ma_call_25 rfl (lv_at hl 1 rfl) ?_
      refine lv_aload_n hx hb d_Ma_call_26 rfl (lv_at hl 0 rfl) ?_
      obtain ⟨r6, g6, hf⟩ := bo_some hf
      refine xg_R (i := v0) (k := 0) hx hb ht hown ck_Ma hK hP (by decide) fk_Ma_9 g6 d_Ma_call_27 ?_
      obtain ⟨j7, ej7, hf⟩ := bo_some hf
      rw [ej7]
      obtain ⟨r8, g8, hf⟩ := bo_some hf
      refine xg_I (i := j7) (k := 2) hx hb ht hown ck_Co hK hP (by decide) fk_Ma_354 g8 d_Ma_call_30 ?_
      refine lv_icmp_ge (tgt := 70) hx hb d_Ma_call_33 (by decide) (fun hc => ?_) (fun hc => ?_)
      · rw [br_p _ hc] at hf
        exact wb_Ma_call_70 C0 hE N G hG _ _ hf H locs hP hD hS ls (lv_sub hl [] rfl)
      · rw [br_n _ hc] at hf
        refine lv_aload_n hx hb d_Ma_call_36 rfl (lv_at hl 0 rfl) ?_
        refine lv_iload_n hx hb d_Ma_call_37 rfl (lv_at hl 1 rfl) ?_
        refine lv_aload_n hx hb d_Ma_call_38 rfl (lv_at hl 0 rfl) ?_
        obtain ⟨r9, g9, hf⟩ := bo_some hf
        refine xg_R (i := v0) (k := 0) hx hb ht hown ck_Ma hK hP (by decide) fk_Ma_9 g9 d_Ma_call_39 ?_
        obtain ⟨j10, ej10, hf⟩ := bo_some hf
        rw [ej10]
        obtain ⟨r11, g11, hf⟩ := bo_some hf
        refine xg_R (i := j10) (k := 8) hx hb ht hown ck_Co hK hP (by decide) fk_Ma_357 g11 d_Ma_call_42 ?_
        refine lv_iload_n hx hb d_Ma_call_45 rfl (lv_at hl 1 rfl) ?_
        obtain ⟨j12, ej12, hf⟩ := bo_some hf
        rw [ej12]
        obtain ⟨r13, g13, hf⟩ := bo_some hf
        refine xl_I (i := j12) hx hb hK hP g13 d_Ma_call_46 ?_
        refine lv_aload_n hx hb d_Ma_call_47 rfl (lv_at hl 0 rfl) ?_
        obtain ⟨r14, g14, hf⟩ := bo_some hf
        refine xg_R (i := v0) (k := 0) hx hb ht hown ck_Ma hK hP (by decide) fk_Ma_9 g14 d_Ma_call_48 ?_
        refine lv_aload_n hx hb d_Ma_call_51 rfl (lv_at hl 0 rfl) ?_
        obtain ⟨r15, g15, hf⟩ := bo_some hf
        refine xg_I (i := v0) (k := 5) hx hb ht hown ck_Ma hK hP (by decide) fk_Ma_40 g15 d_Ma_call_52 ?_
        refine lv_iconst (v := 2) hx hb d_Ma_call_55 (by decide) ?_
        refine lv_iadd hx hb d_Ma_call_56 ?_
        obtain ⟨j17, ej17, hf⟩ := bo_some hf
        rw [ej17]
        obtain ⟨hO9, hf⟩ := ck_some hf
        obtain ⟨u16, r16, hc16, hf⟩ := bx_some hf
        refine xV0 (i := j17) (As := [.int (r15 + 2)]) (rest := [.int r13, .int v1, .ref (ad v0)]) C0 hP hD hS ck_Co hO9 (c_Co_at N hc16) k_Co_at (wd_of 1644 (by decide +kernel) rfl) hi_Co_at hs_Co_at hini_Co rfl rfl hd_Co_at rfl rm_Ma_call_Co_at hl.1 (Nat.le_of_ble_eq_true rfl) d_Ma_call_57 rfl ⟨Nat.zero_le _, Nat.zero_le _⟩ (fun H locs hP hD hS => ?_)
        refine lv_iload_n hx hb d_Ma_call_60 rfl (lv_at hl 2 rfl) ?_
        refine lv_aload_n hx hb d_Ma_call_61 rfl (lv_at hl 0 rfl) ?_
        obtain ⟨r18, g18, hf⟩ := bo_some hf
        refine xg_I (i := v0) (k := 5) hx hb ht hown ck_Ma hK hP (by decide) fk_Ma_40 g18 d_Ma_call_62 ?_
        refine lv_iconst (v := 4) hx hb d_Ma_call_65 (by decide) ?_
        refine lv_iadd hx hb d_Ma_call_66 ?_
        obtain ⟨hO9, hf⟩ := ck_some hf
        obtain ⟨u19, r19, hc19, hf⟩ := bx_some hf
        refine xV0 (i := v0) (As := [.int v1, .int r13, .int r16, .int v2, .int (r18 + 4)]) (rest := []) C0 hP hD hS ck_Ma hO9 (c_Ma_enter N hE hc19) k_Ma_enter (wd_of 1987 (by decide +kernel) rfl) hi_Ma_enter hs_Ma_enter hini_Ma rfl rfl hd_Ma_enter rfl rm_Ma_call_Ma_enter hl.1 (Nat.le_of_ble_eq_true rfl) d_Ma_call_67 rfl ⟨Nat.zero_le _, Nat.zero_le _⟩ (fun H locs hP hD hS => ?_)
        exact wb_Ma_call_70 C0 hE N G hG _ _ hf H locs hP hD hS ls (lv_sub hl [] rfl)
def fm_Ma_call (N : Nat) (u : CS) (v0 : Nat) (v1 : Int32) (v2 : Int32) : Option (CS × Unit) := fb_Ma_call_0 N () u v0 v1 v2
set_option maxRecDepth 100000 in
set_option maxHeartbeats 4000000 in
theorem c_Ma_call (N : Nat) {l : Launch} {s0 : State} {b0 : Nat} {D : va_G} {cB cI cJ cZ cS cP : ClassId} {sk sv : Nat → Nat} {ad : Nat → Nat} {u : CS} {sz : Nat} {v0 : Nat} {v1 : Int32} {v2 : Int32} {x : CS × Unit} (hE : ENV s0 b0 sk sv) (hf : fm_Ma_call N u v0 v1 v2 = some x) : Met l y_Ma_call (wd_ws y_Ma_call b_Ma_call 3 none) rm_Ma_call (xPc s0 b0 D cB cI cJ cZ cS cP ad u sz [.ref (ad v0), .int v1, .int v2]) (xQ0 D cB cI cJ cZ cS cP (xA cB cI cJ cZ cS cP ad u sz) ad x.1 none) 0 0 (xA cB cI cJ cZ cS cP ad u sz) :=
  xMet (by decide) rfl (Nat.le_of_ble_eq_true rfl) (fun p e s m below meth c ls hsz hnm C0 hP hD hS hl =>
    wb_Ma_call_0 C0 hE N () trivial u _ _ _ x hf s.heap [] hP hD hS ls (lv_sub hl [0, 1, 2] rfl))
abbrev b_Fr_takeOut : ByteArray := prog_4_method_16_code
def y_Fr_takeOut : MethodName := ⟨R_Fr, "takeOut", "(I)V"⟩
def w_Fr_takeOut : List Cond := wd_ws y_Fr_takeOut b_Fr_takeOut 3 none
set_option maxRecDepth 100000 in
theorem k_Fr_takeOut : Cond.code y_Fr_takeOut b_Fr_takeOut 3 none ∈ wd_tbl := wd_of 2007 rfl rfl
theorem d_Fr_takeOut_0 : decode b_Fr_takeOut 0 = .ok (.aload_n 0, 1) := by decide +kernel
theorem d_Fr_takeOut_1 : decode b_Fr_takeOut 1 = .ok (.getfield 35, 3) := by decide +kernel
theorem d_Fr_takeOut_4 : decode b_Fr_takeOut 4 = .ok (.iload_n 1, 1) := by decide +kernel
theorem d_Fr_takeOut_5 : decode b_Fr_takeOut 5 = .ok (.isub, 1) := by decide +kernel
theorem d_Fr_takeOut_6 : decode b_Fr_takeOut 6 = .ok (.iconst 1, 1) := by decide +kernel
theorem d_Fr_takeOut_7 : decode b_Fr_takeOut 7 = .ok (.isub, 1) := by decide +kernel
theorem d_Fr_takeOut_8 : decode b_Fr_takeOut 8 = .ok (.istore_n 2, 1) := by decide +kernel
theorem d_Fr_takeOut_9 : decode b_Fr_takeOut 9 = .ok (.iload_n 2, 1) := by decide +kernel
theorem d_Fr_takeOut_10 : decode b_Fr_takeOut 10 = .ok (.ifCond .lt 29, 3) := by decide +kernel
theorem d_Fr_takeOut_13 : decode b_Fr_takeOut 13 = .ok (.aload_n 0, 1) := by decide +kernel
theorem d_Fr_takeOut_14 : decode b_Fr_takeOut 14 = .ok (.getfield 22, 3) := by decide +kernel
theorem d_Fr_takeOut_17 : decode b_Fr_takeOut 17 = .ok (.iload_n 2, 1) := by decide +kernel
theorem d_Fr_takeOut_18 : decode b_Fr_takeOut 18 = .ok (.iconst 1, 1) := by decide +kernel
theorem d_Fr_takeOut_19 : decode b_Fr_takeOut 19 = .ok (.iadd, 1) := by decide +kernel
theorem d_Fr_takeOut_20 : decode b_Fr_takeOut 20 = .ok (.aload_n 0, 1) := by decide +kernel
theorem d_Fr_takeOut_21 : decode b_Fr_takeOut 21 = .ok (.getfield 22, 3) := by decide +kernel
theorem d_Fr_takeOut_24 : decode b_Fr_takeOut 24 = .ok (.iload_n 2, 1) := by decide +kernel
theorem d_Fr_takeOut_25 : decode b_Fr_takeOut 25 = .ok (.iload_n 1, 1) := by decide +kernel
theorem d_Fr_takeOut_26 : decode b_Fr_takeOut 26 = .ok (.invokestatic 52, 3) := by decide +kernel
theorem d_Fr_takeOut_29 : decode b_Fr_takeOut 29 = .ok (.aload_n 0, 1) := by decide +kernel
theorem d_Fr_takeOut_30 : decode b_Fr_takeOut 30 = .ok (.dup, 1) := by decide +kernel
theorem d_Fr_takeOut_31 : decode b_Fr_takeOut 31 = .ok (.getfield 35, 3) := by decide +kernel
theorem d_Fr_takeOut_34 : decode b_Fr_takeOut 34 = .ok (.iconst 1, 1) := by decide +kernel
theorem d_Fr_takeOut_35 : decode b_Fr_takeOut 35 = .ok (.isub, 1) := by decide +kernel
theorem d_Fr_takeOut_36 : decode b_Fr_takeOut 36 = .ok (.putfield 35, 3) := by decide +kernel
theorem d_Fr_takeOut_39 : decode b_Fr_takeOut 39 = .ok (.return_, 1) := by decide +kernel
set_option maxRecDepth 100000 in
theorem hi_Fr_takeOut : Cond.instanceMethod y_Fr_takeOut ∈ wd_tbl := wd_of 2005 (by decide +kernel) rfl
set_option maxRecDepth 100000 in
theorem hs_Fr_takeOut : Cond.selects R_Fr y_Fr_takeOut y_Fr_takeOut ∈ wd_tbl := wd_of 2006 (by decide +kernel) rfl
theorem hd_Fr_takeOut : y_Fr_takeOut.cls = R_Fr ∧ y_Fr_takeOut.cls ≠ "java/lang/invoke/MethodHandle" ∧ y_Fr_takeOut.cls ≠ "java/lang/invoke/VarHandle" ∧ (parseMethodDescriptor y_Fr_takeOut.desc).map (fun d => d.parameters.length) = some 1 := by decide +kernel
def rm_Fr_takeOut : Room := { frames := 1, cells := 0, slots := 0, locals := 48 }
def fb_Fr_takeOut_39 (N : Nat) (G : Unit) (u : CS) : Option (CS × Unit) := some (u, ())
set_option maxRecDepth 100000 in
set_option maxHeartbeats 4000000 in
theorem wb_Fr_takeOut_39 {p : Program} {l : Launch} {e : Env} {s : State} {m : MethodId} {args : Array Value} {below : List Frame} {meth : Method} {c : Code} {s0 : State} {b0 : Nat} {D : va_G} {cB cI cJ cZ cS cP : ClassId} {A : Nat → Prop} {sk sv : Nat → Nat} {ad : Nat → Nat} (C0 : XCx p s s0 b0 m args meth c R_Fr b_Fr_takeOut 3 none D cB cI cJ cZ cS cP A) (hE : ENV s0 b0 sk sv) (N : Nat) (G : Unit) (hG : True) : ∀ (u : CS) (x : CS × Unit), fb_Fr_takeOut_39 N G u = some x → ∀ (H : Heap) (locs : List Loc), va_P D cls (wC cB cI cJ cZ cS cP ad u) H → va_D A (wC cB cI cJ cZ cS cP ad u) → va_S A s.heap H locs → ∀ (ls : Array Slot), lv_has ls 3 [] → W p l e rm_Fr_takeOut s m args below meth c H locs 0 0 (MQ below (xQ0 D cB cI cJ cZ cS cP A ad x.1 none) args s 0 0 A) (F0 m 39 ls []) := by
  intro u x hf H locs hP hD hS ls hl
  obtain ⟨hx, hb, hr, hml, ht, hown, hK, hA, hlocks, hA0, hO, hbs⟩ := id C0
  unfold fb_Fr_takeOut_39 at hf
  exact xr0_v C0 hP hD hS hf d_Fr_takeOut_39
def fb_Fr_takeOut_0 (N : Nat) (G : Unit) (u : CS) (v0 : Nat) (v1 : Int32) : Option (CS × Unit) := bo (gI u v0 4 6) (fun r1 => br (decide (((r1 - v1) - 1) < 0)) (fb_Fr_takeOut_39 N G u) (bo (gR u v0 4 5) (fun r2 => bo (gR u v0 4 5) (fun r3 => bo r3 (fun j4 => bo r2 (fun j5 => bo (cpJ u j5 (((r1 - v1) - 1) + 1) j4 ((r1 - v1) - 1) v1) (fun w6 => bo (gI w6 v0 4 6) (fun r7 => bo (pF w6 v0 4 6 (.inl (r7 - 1))) (fun w8 => fb_Fr_takeOut_39 N G w8)))))))))
set_option maxRecDepth 100000 in
set_option maxHeartbeats 4000000 in
theorem wb_Fr_takeOut_0 {p : Program} {l : Launch} {e : Env} {s : State} {m : MethodId} {args : Array Value} {below : List Frame} {meth : Method} {c : Code} {s0 : State} {b0 : Nat} {D : va_G} {cB cI cJ cZ cS cP : ClassId} {A : Nat → Prop} {sk sv : Nat → Nat} {ad : Nat → Nat} (C0 : XCx p s s0 b0 m args meth c R_Fr b_Fr_takeOut 3 none D cB cI cJ cZ cS cP A) (hE : ENV s0 b0 sk sv) (N : Nat) (G : Unit) (hG : True) : ∀ (u : CS) (v0 : Nat) (v1 : Int32) (x : CS × Unit), fb_Fr_takeOut_0 N G u v0 v1 = some x → ∀ (H : Heap) (locs : List Loc), va_P D cls (wC cB cI cJ cZ cS cP ad u) H → va_D A (wC cB cI cJ cZ cS cP ad u) → va_S A s.heap H locs → ∀ (ls : Array Slot), lv_has ls 3 [(0, .ref (ad v0)), (1, .int v1)] → W p l e rm_Fr_takeOut s m args below meth c H locs 0 0 (MQ below (xQ0 D cB cI cJ cZ cS cP A ad x.1 none) args s 0 0 A) (F0 m 0 ls []) := by
  intro u v0 v1 x hf H locs hP hD hS ls hl
  obtain ⟨hx, hb, hr, hml, ht, hown, hK, hA, hlocks, hA0, hO, hbs⟩ := id C0
  unfold fb_Fr_takeOut_0 at hf
  refine lv_aload_n hx hb d_Fr_takeOut_0 rfl (lv_at hl 0 rfl) ?_
  obtain ⟨r1, g1, hf⟩ := bo_some hf
  refine xg_I (i := v0) (k := 6) hx hb ht hown ck_Fr hK hP (by decide) fk_Fr_35 g1 d_Fr_takeOut_1 ?_
  refine lv_iload_n hx hb d_Fr_takeOut_4 rfl (lv_at hl 1 rfl) ?_
  refine lv_isub hx hb d_Fr_takeOut_5 ?_
  refine lv_iconst (v := 1) hx hb d_Fr_takeOut_6 (by decide) ?_
  refine lv_isub hx hb d_Fr_takeOut_7 ?_
  refine lv_istore_n (lv' := [(2, .int ((r1 - v1) - 1)), (0, .ref (ad v0)), (1, .int v1)]) hx hb d_Fr_takeOut_8 rfl hl (by decide) (by first | rfl | simp [List.filter, cat_rf]) (fun ls hl => ?_)
  refine lv_iload_n hx hb d_Fr_takeOut_9 rfl (lv_at hl 0 rfl) ?_
  refine lv_if_lt (tgt := 39) hx hb d_Fr_takeOut_10 (by decide) (fun hc => ?_) (fun hc => ?_)
  · rw [br_p _ hc] at hf
    exact wb_Fr_takeOut_39 C0 hE N G hG _ _ hf H locs hP hD hS ls (lv_sub hl [] rfl)
  · rw [br_n _ hc] at hf
    refine lv_aload_n hx hb d_Fr_takeOut_13 rfl (lv_at hl 1 rfl) ?_
    obtain ⟨r2, g2, hf⟩ := bo_some hf
    refine xg_R (i := v0) (k := 5) hx hb ht hown ck_Fr hK hP (by decide) fk_Fr_22 g2 d_Fr_takeOut_14 ?_
    refine lv_iload_n hx hb d_Fr_takeOut_17 rfl (lv_at hl 0 rfl) ?_
    refine lv_iconst (v := 1) hx hb d_Fr_takeOut_18 (by decide) ?_
    refine lv_iadd hx hb d_Fr_takeOut_19 ?_
    refine lv_aload_n hx hb d_Fr_takeOut_20 rfl (lv_at hl 1 rfl) ?_
    obtain ⟨r3, g3, hf⟩ := bo_some hf
    refine xg_R (i := v0) (k := 5) hx hb ht hown ck_Fr hK hP (by decide) fk_Fr_22 g3 d_Fr_takeOut_21 ?_
    refine lv_iload_n hx hb d_Fr_takeOut_24 rfl (lv_at hl 0 rfl) ?_
    refine lv_iload_n hx hb d_Fr_takeOut_25 rfl (lv_at hl 2 rfl) ?_
    obtain ⟨j4, ej4, hf⟩ := bo_some hf
    rw [ej4]
    obtain ⟨j5, ej5, hf⟩ := bo_some hf
    rw [ej5]
    obtain ⟨w6, g6, hf⟩ := bo_some hf
    refine x_cpJ (a0 := j5) (a1 := j4) hx hb (hml.trans hl.1.symm) ht hown (wd_of 1995 (by decide +kernel) rfl) (wd_of 870 (by decide +kernel) rfl) (wd_of 869 (by decide +kernel) rfl) (wd_of 282 (by decide +kernel) rfl) hK hP hD hS g6 (Nat.le_of_ble_eq_true rfl) (Nat.le_of_ble_eq_true rfl) d_Fr_takeOut_26 (fun H locs hP hD hS => ?_)
    refine lv_aload_n hx hb d_Fr_takeOut_29 rfl (lv_at hl 1 rfl) ?_
    refine lv_dup hx hb d_Fr_takeOut_30 rfl ?_
    obtain ⟨r7, g7, hf⟩ := bo_some hf
    refine xg_I (i := v0) (k := 6) hx hb ht hown ck_Fr hK hP (by decide) fk_Fr_35 g7 d_Fr_takeOut_31 ?_
    refine lv_iconst (v := 1) hx hb d_Fr_takeOut_34 (by decide) ?_
    refine lv_isub hx hb d_Fr_takeOut_35 ?_
    obtain ⟨w8, g8, hf⟩ := bo_some hf
    refine xp (i := v0) (k := 6) (v := (.inl (r7 - 1))) hx hb ht hown ck_Fr hK hP hD hS (by decide) fk_Fr_35 rfl g8 rfl rfl d_Fr_takeOut_36 (fun H locs hP hD hS => ?_)
    exact wb_Fr_takeOut_39 C0 hE N G hG _ _ hf H locs hP hD hS ls (lv_sub hl [] rfl)
def fm_Fr_takeOut (N : Nat) (u : CS) (v0 : Nat) (v1 : Int32) : Option (CS × Unit) := fb_Fr_takeOut_0 N () u v0 v1
set_option maxRecDepth 100000 in
set_option maxHeartbeats 4000000 in
theorem c_Fr_takeOut (N : Nat) {l : Launch} {s0 : State} {b0 : Nat} {D : va_G} {cB cI cJ cZ cS cP : ClassId} {sk sv : Nat → Nat} {ad : Nat → Nat} {u : CS} {sz : Nat} {v0 : Nat} {v1 : Int32} {x : CS × Unit} (hE : ENV s0 b0 sk sv) (hf : fm_Fr_takeOut N u v0 v1 = some x) : Met l y_Fr_takeOut (wd_ws y_Fr_takeOut b_Fr_takeOut 3 none) rm_Fr_takeOut (xPc s0 b0 D cB cI cJ cZ cS cP ad u sz [.ref (ad v0), .int v1]) (xQ0 D cB cI cJ cZ cS cP (xA cB cI cJ cZ cS cP ad u sz) ad x.1 none) 0 0 (xA cB cI cJ cZ cS cP ad u sz) :=
  xMet (by decide) rfl (Nat.le_of_ble_eq_true rfl) (fun p e s m below meth c ls hsz hnm C0 hP hD hS hl =>
    wb_Fr_takeOut_0 C0 hE N () trivial u _ _ x hf s.heap [] hP hD hS ls (lv_sub hl [0, 1] rfl))
abbrev b_Ma_apply : ByteArray := prog_5_method_40_code
def y_Ma_apply : MethodName := ⟨R_Ma, "apply", "(IZ)V"⟩
def w_Ma_apply : List Cond := wd_ws y_Ma_apply b_Ma_apply 6 none
set_option maxRecDepth 100000 in
theorem k_Ma_apply : Cond.code y_Ma_apply b_Ma_apply 6 none ∈ wd_tbl := wd_of 2003 rfl rfl
theorem d_Ma_apply_0 : decode b_Ma_apply 0 = .ok (.aload_n 0, 1) := by decide +kernel
theorem d_Ma_apply_1 : decode b_Ma_apply 1 = .ok (.getfield 33, 3) := by decide +kernel
theorem d_Ma_apply_4 : decode b_Ma_apply 4 = .ok (.iload_n 1, 1) := by decide +kernel
theorem d_Ma_apply_5 : decode b_Ma_apply 5 = .ok (.invokevirtual 138, 3) := by decide +kernel
theorem d_Ma_apply_8 : decode b_Ma_apply 8 = .ok (.lstore_n 3, 1) := by decide +kernel
theorem d_Ma_apply_9 : decode b_Ma_apply 9 = .ok (.lload_n 3, 1) := by decide +kernel
theorem d_Ma_apply_10 : decode b_Ma_apply 10 = .ok (.invokestatic 253, 3) := by decide +kernel
theorem d_Ma_apply_13 : decode b_Ma_apply 13 = .ok (.iconst 3, 1) := by decide +kernel
theorem d_Ma_apply_14 : decode b_Ma_apply 14 = .ok (.if_icmp .eq 12, 3) := by decide +kernel
theorem d_Ma_apply_17 : decode b_Ma_apply 17 = .ok (.aload_n 0, 1) := by decide +kernel
theorem d_Ma_apply_18 : decode b_Ma_apply 18 = .ok (.iconst 1, 1) := by decide +kernel
theorem d_Ma_apply_19 : decode b_Ma_apply 19 = .ok (.bipush 17, 2) := by decide +kernel
theorem d_Ma_apply_21 : decode b_Ma_apply 21 = .ok (.lload_n 3, 1) := by decide +kernel
theorem d_Ma_apply_22 : decode b_Ma_apply 22 = .ok (.invokevirtual 123, 3) := by decide +kernel
theorem d_Ma_apply_25 : decode b_Ma_apply 25 = .ok (.return_, 1) := by decide +kernel
theorem d_Ma_apply_26 : decode b_Ma_apply 26 = .ok (.aload_n 0, 1) := by decide +kernel
theorem d_Ma_apply_27 : decode b_Ma_apply 27 = .ok (.getfield 23, 3) := by decide +kernel
theorem d_Ma_apply_30 : decode b_Ma_apply 30 = .ok (.getfield 195, 3) := by decide +kernel
theorem d_Ma_apply_33 : decode b_Ma_apply 33 = .ok (.lload_n 3, 1) := by decide +kernel
theorem d_Ma_apply_34 : decode b_Ma_apply 34 = .ok (.l2i, 1) := by decide +kernel
theorem d_Ma_apply_35 : decode b_Ma_apply 35 = .ok (.laload, 1) := by decide +kernel
theorem d_Ma_apply_36 : decode b_Ma_apply 36 = .ok (.l2i, 1) := by decide +kernel
theorem d_Ma_apply_37 : decode b_Ma_apply 37 = .ok (.istore 5, 2) := by decide +kernel
theorem d_Ma_apply_39 : decode b_Ma_apply 39 = .ok (.aload_n 0, 1) := by decide +kernel
theorem d_Ma_apply_40 : decode b_Ma_apply 40 = .ok (.getfield 9, 3) := by decide +kernel
theorem d_Ma_apply_43 : decode b_Ma_apply 43 = .ok (.iload 5, 2) := by decide +kernel
theorem d_Ma_apply_45 : decode b_Ma_apply 45 = .ok (.invokevirtual 372, 3) := by decide +kernel
theorem d_Ma_apply_48 : decode b_Ma_apply 48 = .ok (.iload_n 1, 1) := by decide +kernel
theorem d_Ma_apply_49 : decode b_Ma_apply 49 = .ok (.if_icmp .eq 16, 3) := by decide +kernel
theorem d_Ma_apply_52 : decode b_Ma_apply 52 = .ok (.aload_n 0, 1) := by decide +kernel
theorem d_Ma_apply_53 : decode b_Ma_apply 53 = .ok (.iconst 1, 1) := by decide +kernel
theorem d_Ma_apply_54 : decode b_Ma_apply 54 = .ok (.bipush 18, 2) := by decide +kernel
theorem d_Ma_apply_56 : decode b_Ma_apply 56 = .ok (.iconst 0, 1) := by decide +kernel
theorem d_Ma_apply_57 : decode b_Ma_apply 57 = .ok (.iload_n 1, 1) := by decide +kernel
theorem d_Ma_apply_58 : decode b_Ma_apply 58 = .ok (.invokestatic 101, 3) := by decide +kernel
theorem d_Ma_apply_61 : decode b_Ma_apply 61 = .ok (.invokevirtual 123, 3) := by decide +kernel
theorem d_Ma_apply_64 : decode b_Ma_apply 64 = .ok (.return_, 1) := by decide +kernel
theorem d_Ma_apply_65 : decode b_Ma_apply 65 = .ok (.aload_n 0, 1) := by decide +kernel
theorem d_Ma_apply_66 : decode b_Ma_apply 66 = .ok (.iload_n 2, 1) := by decide +kernel
theorem d_Ma_apply_67 : decode b_Ma_apply 67 = .ok (.aload_n 0, 1) := by decide +kernel
theorem d_Ma_apply_68 : decode b_Ma_apply 68 = .ok (.getfield 9, 3) := by decide +kernel
theorem d_Ma_apply_71 : decode b_Ma_apply 71 = .ok (.aload_n 0, 1) := by decide +kernel
theorem d_Ma_apply_72 : decode b_Ma_apply 72 = .ok (.getfield 40, 3) := by decide +kernel
theorem d_Ma_apply_75 : decode b_Ma_apply 75 = .ok (.iconst 2, 1) := by decide +kernel
theorem d_Ma_apply_76 : decode b_Ma_apply 76 = .ok (.iadd, 1) := by decide +kernel
theorem d_Ma_apply_77 : decode b_Ma_apply 77 = .ok (.invokevirtual 67, 3) := by decide +kernel
theorem d_Ma_apply_80 : decode b_Ma_apply 80 = .ok (.invokevirtual 350, 3) := by decide +kernel
theorem d_Ma_apply_83 : decode b_Ma_apply 83 = .ok (.ifCond .ne 4, 3) := by decide +kernel
theorem d_Ma_apply_86 : decode b_Ma_apply 86 = .ok (.return_, 1) := by decide +kernel
theorem d_Ma_apply_87 : decode b_Ma_apply 87 = .ok (.aload_n 0, 1) := by decide +kernel
theorem d_Ma_apply_88 : decode b_Ma_apply 88 = .ok (.getfield 33, 3) := by decide +kernel
theorem d_Ma_apply_91 : decode b_Ma_apply 91 = .ok (.iload_n 1, 1) := by decide +kernel
theorem d_Ma_apply_92 : decode b_Ma_apply 92 = .ok (.invokevirtual 375, 3) := by decide +kernel
theorem d_Ma_apply_95 : decode b_Ma_apply 95 = .ok (.aload_n 0, 1) := by decide +kernel
theorem d_Ma_apply_96 : decode b_Ma_apply 96 = .ok (.iload 5, 2) := by decide +kernel
theorem d_Ma_apply_98 : decode b_Ma_apply 98 = .ok (.invokestatic 378, 3) := by decide +kernel
theorem d_Ma_apply_101 : decode b_Ma_apply 101 = .ok (.aload_n 0, 1) := by decide +kernel
theorem d_Ma_apply_102 : decode b_Ma_apply 102 = .ok (.iload 5, 2) := by decide +kernel
theorem d_Ma_apply_104 : decode b_Ma_apply 104 = .ok (.invokevirtual 381, 3) := by decide +kernel
theorem d_Ma_apply_107 : decode b_Ma_apply 107 = .ok (.iload_n 1, 1) := by decide +kernel
theorem d_Ma_apply_108 : decode b_Ma_apply 108 = .ok (.iload_n 2, 1) := by decide +kernel
theorem d_Ma_apply_109 : decode b_Ma_apply 109 = .ok (.aload_n 0, 1) := by decide +kernel
theorem d_Ma_apply_110 : decode b_Ma_apply 110 = .ok (.getfield 40, 3) := by decide +kernel
theorem d_Ma_apply_113 : decode b_Ma_apply 113 = .ok (.iconst 3, 1) := by decide +kernel
theorem d_Ma_apply_114 : decode b_Ma_apply 114 = .ok (.iadd, 1) := by decide +kernel
theorem d_Ma_apply_115 : decode b_Ma_apply 115 = .ok (.invokevirtual 361, 3) := by decide +kernel
theorem d_Ma_apply_118 : decode b_Ma_apply 118 = .ok (.aload_n 0, 1) := by decide +kernel
theorem d_Ma_apply_119 : decode b_Ma_apply 119 = .ok (.aload_n 0, 1) := by decide +kernel
theorem d_Ma_apply_120 : decode b_Ma_apply 120 = .ok (.getfield 33, 3) := by decide +kernel
theorem d_Ma_apply_123 : decode b_Ma_apply 123 = .ok (.aload_n 0, 1) := by decide +kernel
theorem d_Ma_apply_124 : decode b_Ma_apply 124 = .ok (.getfield 23, 3) := by decide +kernel
theorem d_Ma_apply_127 : decode b_Ma_apply 127 = .ok (.getfield 195, 3) := by decide +kernel
theorem d_Ma_apply_130 : decode b_Ma_apply 130 = .ok (.lload_n 3, 1) := by decide +kernel
theorem d_Ma_apply_131 : decode b_Ma_apply 131 = .ok (.invokevirtual 384, 3) := by decide +kernel
theorem d_Ma_apply_134 : decode b_Ma_apply 134 = .ok (.return_, 1) := by decide +kernel
set_option maxRecDepth 100000 in
theorem hl_Ma_apply : Cond.methodLink R_Ma 301 y_Ma_apply ∈ wd_tbl := wd_of 2000 (by decide +kernel) rfl
set_option maxRecDepth 100000 in
theorem hi_Ma_apply : Cond.instanceMethod y_Ma_apply ∈ wd_tbl := wd_of 2002 (by decide +kernel) rfl
set_option maxRecDepth 100000 in
theorem hs_Ma_apply : Cond.selects R_Ma y_Ma_apply y_Ma_apply ∈ wd_tbl := wd_of 119 (by decide +kernel) rfl
theorem hd_Ma_apply : y_Ma_apply.cls = R_Ma ∧ y_Ma_apply.cls ≠ "java/lang/invoke/MethodHandle" ∧ y_Ma_apply.cls ≠ "java/lang/invoke/VarHandle" ∧ (parseMethodDescriptor y_Ma_apply.desc).map (fun d => d.parameters.length) = some 2 := by decide +kernel
def rm_Ma_apply (mc ms : Nat) : Room := { frames := 4, cells := mc, slots := ms, locals := 132 }
theorem rm_Ma_apply_Fr_below {mc ms : Nat} : (rm_Fr_below).frames + 1 ≤ (rm_Ma_apply mc ms).frames ∧ 8 + (3 + 11) + (rm_Fr_below).locals ≤ (rm_Ma_apply mc ms).locals := by
  show 0 + 1 ≤ 4 ∧ 8 + (3 + 11) + 0 ≤ 132
  decide
theorem rm_Ma_apply_Te_tag {mc ms : Nat} : (rm_Te_tag).frames + 1 ≤ (rm_Ma_apply mc ms).frames ∧ 8 + (2 + 11) + (rm_Te_tag).locals ≤ (rm_Ma_apply mc ms).locals := by
  show 0 + 1 ≤ 4 ∧ 8 + (2 + 11) + 0 ≤ 132
  decide
theorem rm_Ma_apply_Ma_tell {mc ms : Nat} : (rm_Ma_tell).frames + 1 ≤ (rm_Ma_apply mc ms).frames ∧ 8 + (5 + 11) + (rm_Ma_tell).locals ≤ (rm_Ma_apply mc ms).locals := by
  show 0 + 1 ≤ 4 ∧ 8 + (5 + 11) + 0 ≤ 132
  decide
theorem rm_Ma_apply_Co_takes {mc ms : Nat} : (rm_Co_takes).frames + 1 ≤ (rm_Ma_apply mc ms).frames ∧ 8 + (3 + 11) + (rm_Co_takes).locals ≤ (rm_Ma_apply mc ms).locals := by
  show 0 + 1 ≤ 4 ∧ 8 + (3 + 11) + 0 ≤ 132
  decide
theorem rm_Ma_apply_Te_make {mc ms : Nat} : (rm_Te_make).frames + 1 ≤ (rm_Ma_apply mc ms).frames ∧ 8 + (2 + 11) + (rm_Te_make).locals ≤ (rm_Ma_apply mc ms).locals := by
  show 0 + 1 ≤ 4 ∧ 8 + (2 + 11) + 0 ≤ 132
  decide
theorem rm_Ma_apply_Co_at {mc ms : Nat} : (rm_Co_at).frames + 1 ≤ (rm_Ma_apply mc ms).frames ∧ 8 + (2 + 11) + (rm_Co_at).locals ≤ (rm_Ma_apply mc ms).locals := by
  show 0 + 1 ≤ 4 ∧ 8 + (2 + 11) + 0 ≤ 132
  decide
theorem rm_Ma_apply_Ma_begins {mc ms : Nat} : (rm_Ma_begins).frames + 1 ≤ (rm_Ma_apply mc ms).frames ∧ 8 + (3 + 11) + (rm_Ma_begins).locals ≤ (rm_Ma_apply mc ms).locals := by
  show 2 + 1 ≤ 4 ∧ 8 + (3 + 11) + 46 ≤ 132
  decide
theorem rm_Ma_apply_Fr_takeOut {mc ms : Nat} : (rm_Fr_takeOut).frames + 1 ≤ (rm_Ma_apply mc ms).frames ∧ 8 + (3 + 11) + (rm_Fr_takeOut).locals ≤ (rm_Ma_apply mc ms).locals := by
  show 1 + 1 ≤ 4 ∧ 8 + (3 + 11) + 48 ≤ 132
  decide
theorem rm_Ma_apply_Ma_functionOf {mc ms : Nat} : (rm_Ma_functionOf).frames + 1 ≤ (rm_Ma_apply mc ms).frames ∧ 8 + (1 + 11) + (rm_Ma_functionOf).locals ≤ (rm_Ma_apply mc ms).locals := by
  show 0 + 1 ≤ 4 ∧ 8 + (1 + 11) + 0 ≤ 132
  decide
theorem rm_Ma_apply_Ma_entryOf {mc ms : Nat} : (rm_Ma_entryOf).frames + 1 ≤ (rm_Ma_apply mc ms).frames ∧ 8 + (3 + 11) + (rm_Ma_entryOf).locals ≤ (rm_Ma_apply mc ms).locals := by
  show 1 + 1 ≤ 4 ∧ 8 + (3 + 11) + 20 ≤ 132
  decide
theorem rm_Ma_apply_Ma_enter {mc ms : Nat} : (rm_Ma_enter).frames + 1 ≤ (rm_Ma_apply mc ms).frames ∧ 8 + (6 + 11) + (rm_Ma_enter).locals ≤ (rm_Ma_apply mc ms).locals := by
  show 2 + 1 ≤ 4 ∧ 8 + (6 + 11) + 72 ≤ 132
  decide
theorem rm_Ma_apply_Ma_hold {mc ms : Nat} {mc2 ms2 : Nat} : (rm_Ma_hold mc2 ms2).frames + 1 ≤ (rm_Ma_apply mc ms).frames ∧ 8 + (8 + 11) + (rm_Ma_hold mc2 ms2).locals ≤ (rm_Ma_apply mc ms).locals := by
  show 3 + 1 ≤ 4 ∧ 8 + (8 + 11) + 105 ≤ 132
  decide
def fb_Ma_apply_0 (N : Nat) (G : Unit) (u : CS) (v0 : Nat) (v1 : Int32) (v2 : Int32) : Option (CS × Unit) := bo (gR u v0 5 4) (fun r1 => bo r1 (fun j3 => ck (isO u j3 4) (bx (gz u (fm_Fr_below N u j3 v1)) (fun u2 r2 => gw u2 (bx (gz u2 (fm_Te_tag N u2 r2)) (fun u4 r4 => gw u4 (br (decide (r4 = 3)) (bo (gR u4 v0 5 3) (fun r5 => bo r5 (fun j6 => bo (gR u4 j6 7 2) (fun r7 => bo r7 (fun j8 => bo (aJ u4 j8 (r2.toInt32)) (fun r9 => bo (gR u4 v0 5 0) (fun r10 => bo r10 (fun j12 => ck (isO u4 j12 2) (bx (gz u4 (fm_Co_takes N u4 j12 (r9.toInt32))) (fun u11 r11 => gw u11 (br (decide (r11 = v1)) (bo (gR u11 v0 5 0) (fun r13 => bo (gI u11 v0 5 5) (fun r14 => bo r13 (fun j16 => ck (isO u11 j16 2) (bx (gz u11 (fm_Co_at N u11 j16 (r14 + 2))) (fun u15 r15 => gw u15 (ck (isO u15 v0 5) (bx (gz u15 (fm_Ma_begins N u15 v0 v2 r15)) (fun u17 r17 => gw u17 (br (decide (r17 = 0)) (some (u17, ())) (bo (gR u17 v0 5 4) (fun r18 => bo r18 (fun j20 => ck (isO u17 j20 4) (bx (gz u17 (fm_Fr_takeOut N u17 j20 v1)) (fun u19 r19 => gw u19 (bx (gz u19 (fm_Ma_functionOf N u19 (r9.toInt32))) (fun u21 r21 => gw u21 (ck (isO u21 v0 5) (bx (gz u21 (fm_Ma_entryOf N u21 v0 (r9.toInt32))) (fun u22 r22 => gw u22 (bo (gI u22 v0 5 5) (fun r23 => ck (isO u22 v0 5) (bx (gz u22 (fm_Ma_enter N u22 v0 r21 r22 v1 v2 (r23 + 3))) (fun u24 r24 => gw u24 (bo (gR u24 v0 5 4) (fun r25 => bo (gR u24 v0 5 3) (fun r26 => bo r26 (fun j27 => bo (gR u24 j27 7 2) (fun r28 => ck (isO u24 v0 5) (ck (List.all [some v0] (okR u24.1.1)) (bx (gw u24 (fm_Ma_hold N u24 v0 r25 r28 r2)) (fun u29 r29 => gw u29 (some (u29, ())))))))))))))))))))))))))))))))))) (bx (gz u11 (fm_Te_make N u11 0 v1)) (fun u30 r30 => gw u30 (ck (isO u30 v0 5) (bx (gz u30 (fm_Ma_tell N u30 v0 1 18 r30)) (fun u31 r31 => gw u31 (some (u31, ())))))))))))))))))) (ck (isO u4 v0 5) (bx (gz u4 (fm_Ma_tell N u4 v0 1 17 r2)) (fun u32 r32 => gw u32 (some (u32, ()))))))))))))
set_option maxRecDepth 100000 in
set_option maxHeartbeats 4000000 in
theorem wb_Ma_apply_0 {p : Program} {l : Launch} {e : Env} {s : State} {m : MethodId} {args : Array Value} {below : List Frame} {meth : Method} {c : Code} {s0 : State} {b0 : Nat} {D : va_G} {cB cI cJ cZ cS cP : ClassId} {A : Nat → Prop} {sk sv : Nat → Nat} {uN uS mc ms : Nat} {ad0 : Nat → Nat} (C0 : XCx p s s0 b0 m args meth c R_Ma b_Ma_apply 6 none D cB cI cJ cZ cS cP A) (hE : ENV s0 b0 sk sv) (N : Nat) (G : Unit) (hG : True) : ∀ (u : CS) (v0 : Nat) (v1 : Int32) (v2 : Int32) (x : CS × Unit), fb_Ma_apply_0 N G u v0 v1 v2 = some x → (uN + mc = x.1.1.1 ∧ uS + ms = x.1.1.2) → ∀ (ad : Nat → Nat) (ce sl : Nat), AB uN uS ad0 u ad ce sl → ∀ (H : Heap) (locs : List Loc), va_P D cls (wC cB cI cJ cZ cS cP ad u) H → va_D A (wC cB cI cJ cZ cS cP ad u) → va_S A s.heap H locs → ∀ (ls : Array Slot), lv_has ls 6 [(0, .ref (ad v0)), (1, .int v1), (2, .int v2)] → W p l e (rm_Ma_apply mc ms) s m args below meth c H locs ce sl (MQ below (xQ D cB cI cJ cZ cS cP A ad0 uN x.1 none) args s mc ms A) (F0 m 0 ls []) := by
  intro u v0 v1 v2 x hf hm ad ce sl hB H locs hP hD hS ls hl
  obtain ⟨hx, hb, hr, hml, ht, hown, hK, hA, hlocks, hA0, hO, hbs⟩ := id C0
  unfold fb_Ma_apply_0 at hf
  refine lv_aload_n hx hb d_Ma_apply_0 rfl (lv_at hl 0 rfl) ?_
  obtain ⟨r1, g1, hf⟩ := bo_some hf
  refine xg_R (i := v0) (k := 4) hx hb ht hown ck_Ma hK hP (by decide) fk_Ma_33 g1 d_Ma_apply_1 ?_
  refine lv_iload_n hx hb d_Ma_apply_4 rfl (lv_at hl 1 rfl) ?_
  obtain ⟨j3, ej3, hf⟩ := bo_some hf
  rw [ej3]
  obtain ⟨hO9, hf⟩ := ck_some hf
  obtain ⟨u2, r2, hc2, hf⟩ := bx_some hf
  obtain ⟨hc2, hz2⟩ := gz_some hc2
  obtain ⟨hf, hw2⟩ := gw_some hf
  refine xV0 (i := j3) (As := [.int v1]) (rest := []) C0 hP hD hS ck_Fr hO9 (c_Fr_below N hc2) k_Fr_below (wd_of 1653 (by decide +kernel) rfl) hi_Fr_below hs_Fr_below hini_Fr rfl rfl hd_Fr_below rfl rm_Ma_apply_Fr_below hl.1 (Nat.le_of_ble_eq_true rfl) d_Ma_apply_5 rfl (hB.fit hm hz2 hw2) (fun H locs hP hD hS => ?_)
  have hB := hB.same2 hz2
  refine lv_lstore_n (lv' := [(3, .long r2), (0, .ref (ad v0)), (1, .int v1), (2, .int v2)]) hx hb d_Ma_apply_8 rfl hl (by decide) (by first | rfl | simp [List.filter, cat_rf]) (fun ls hl => ?_)
  refine lv_lload_n hx hb d_Ma_apply_9 rfl (lv_at hl 0 rfl) ?_
  obtain ⟨u4, r4, hc4, hf⟩ := bx_some hf
  obtain ⟨hc4, hz4⟩ := gz_some hc4
  obtain ⟨hf, hw4⟩ := gw_some hf
  refine xS0 (As := [.long r2]) (rest := []) C0 hP hD hS (c_Te_tag N hc4) k_Te_tag (wd_of 1657 (by decide +kernel) rfl) ht_Te_tag hini_Te rfl rfl hd_Te_tag rfl rm_Ma_apply_Te_tag hl.1 (Nat.le_of_ble_eq_true rfl) d_Ma_apply_10 rfl (hB.fit hm hz4 hw4) (fun H locs hP hD hS => ?_)
  have hB := hB.same2 hz4
  refine lv_iconst (v := 3) hx hb d_Ma_apply_13 (by decide) ?_
  refine lv_icmp_eq (tgt := 26) hx hb d_Ma_apply_14 (by decide) (fun hc => ?_) (fun hc => ?_)
  · rw [br_p _ hc] at hf
    refine lv_aload_n hx hb d_Ma_apply_26 rfl (lv_at hl 1 rfl) ?_
    obtain ⟨r5, g5, hf⟩ := bo_some hf
    refine xg_R (i := v0) (k := 3) hx hb ht hown ck_Ma hK hP (by decide) fk_Ma_23 g5 d_Ma_apply_27 ?_
    obtain ⟨j6, ej6, hf⟩ := bo_some hf
    rw [ej6]
    obtain ⟨r7, g7, hf⟩ := bo_some hf
    refine xg_R (i := j6) (k := 2) hx hb ht hown ck_Pr hK hP (by decide) fk_Ma_195 g7 d_Ma_apply_30 ?_
    refine lv_lload_n hx hb d_Ma_apply_33 rfl (lv_at hl 0 rfl) ?_
    refine lv_l2i hx hb d_Ma_apply_34 rfl ?_
    obtain ⟨j8, ej8, hf⟩ := bo_some hf
    rw [ej8]
    obtain ⟨r9, g9, hf⟩ := bo_some hf
    refine xl_J (i := j8) hx hb hK hP g9 d_Ma_apply_35 ?_
    refine lv_l2i hx hb d_Ma_apply_36 rfl ?_
    refine lv_istore (lv' := [(5, .int r9.toInt32), (3, .long r2), (0, .ref (ad v0)), (1, .int v1), (2, .int v2)]) hx hb d_Ma_apply_37 hl (by decide) (by first | rfl | simp [List.filter, cat_rf]) (fun ls hl => ?_)
    refine lv_aload_n hx hb d_Ma_apply_39 rfl (lv_at hl 2 rfl) ?_
    obtain ⟨r10, g10, hf⟩ := bo_some hf
    refine xg_R (i := v0) (k := 0) hx hb ht hown ck_Ma hK hP (by decide) fk_Ma_9 g10 d_Ma_apply_40 ?_
    refine lv_iload hx hb d_Ma_apply_43 (lv_at hl 0 rfl) ?_
    obtain ⟨j12, ej12, hf⟩ := bo_some hf
    rw [ej12]
    obtain ⟨hO9, hf⟩ := ck_some hf
    obtain ⟨u11, r11, hc11, hf⟩ := bx_some hf
    obtain ⟨hc11, hz11⟩ := gz_some hc11
    obtain ⟨hf, hw11⟩ := gw_some hf
    refine xV0 (i := j12) (As := [.int r9.toInt32]) (rest := []) C0 hP hD hS ck_Co hO9 (c_Co_takes N hc11) k_Co_takes (wd_of 1658 (by decide +kernel) rfl) hi_Co_takes hs_Co_takes hini_Co rfl rfl hd_Co_takes rfl rm_Ma_apply_Co_takes hl.1 (Nat.le_of_ble_eq_true rfl) d_Ma_apply_45 rfl (hB.fit hm hz11 hw11) (fun H locs hP hD hS => ?_)
    have hB := hB.same2 hz11
    refine lv_iload_n hx hb d_Ma_apply_48 rfl (lv_at hl 3 rfl) ?_
    refine lv_icmp_eq (tgt := 65) hx hb d_Ma_apply_49 (by decide) (fun hc => ?_) (fun hc => ?_)
    · rw [br_p _ hc] at hf
      refine lv_aload_n hx hb d_Ma_apply_65 rfl (lv_at hl 2 rfl) ?_
      refine lv_iload_n hx hb d_Ma_apply_66 rfl (lv_at hl 4 rfl) ?_
      refine lv_aload_n hx hb d_Ma_apply_67 rfl (lv_at hl 2 rfl) ?_
      obtain ⟨r13, g13, hf⟩ := bo_some hf
      refine xg_R (i := v0) (k := 0) hx hb ht hown ck_Ma hK hP (by decide) fk_Ma_9 g13 d_Ma_apply_68 ?_
      refine lv_aload_n hx hb d_Ma_apply_71 rfl (lv_at hl 2 rfl) ?_
      obtain ⟨r14, g14, hf⟩ := bo_some hf
      refine xg_I (i := v0) (k := 5) hx hb ht hown ck_Ma hK hP (by decide) fk_Ma_40 g14 d_Ma_apply_72 ?_
      refine lv_iconst (v := 2) hx hb d_Ma_apply_75 (by decide) ?_
      refine lv_iadd hx hb d_Ma_apply_76 ?_
      obtain ⟨j16, ej16, hf⟩ := bo_some hf
      rw [ej16]
      obtain ⟨hO9, hf⟩ := ck_some hf
      obtain ⟨u15, r15, hc15, hf⟩ := bx_some hf
      obtain ⟨hc15, hz15⟩ := gz_some hc15
      obtain ⟨hf, hw15⟩ := gw_some hf
      refine xV0 (i := j16) (As := [.int (r14 + 2)]) (rest := [.int v2, .ref (ad v0)]) C0 hP hD hS ck_Co hO9 (c_Co_at N hc15) k_Co_at (wd_of 1644 (by decide +kernel) rfl) hi_Co_at hs_Co_at hini_Co rfl rfl hd_Co_at rfl rm_Ma_apply_Co_at hl.1 (Nat.le_of_ble_eq_true rfl) d_Ma_apply_77 rfl (hB.fit hm hz15 hw15) (fun H locs hP hD hS => ?_)
      have hB := hB.same2 hz15
      obtain ⟨hO9, hf⟩ := ck_some hf
      obtain ⟨u17, r17, hc17, hf⟩ := bx_some hf
      obtain ⟨hc17, hz17⟩ := gz_some hc17
      obtain ⟨hf, hw17⟩ := gw_some hf
      refine xV0 (i := v0) (As := [.int v2, .int r15]) (rest := []) C0 hP hD hS ck_Ma hO9 (c_Ma_begins N hc17) k_Ma_begins (wd_of 1983 (by decide +kernel) rfl) hi_Ma_begins hs_Ma_begins hini_Ma rfl rfl hd_Ma_begins rfl rm_Ma_apply_Ma_begins hl.1 (Nat.le_of_ble_eq_true rfl) d_Ma_apply_80 rfl (hB.fit hm hz17 hw17) (fun H locs hP hD hS => ?_)
      have hB := hB.same2 hz17
      refine lv_if_ne (tgt := 87) hx hb d_Ma_apply_83 (by decide) (fun hc => ?_) (fun hc => ?_)
      · rw [br_n _ hc] at hf
        refine lv_aload_n hx hb d_Ma_apply_87 rfl (lv_at hl 2 rfl) ?_
        obtain ⟨r18, g18, hf⟩ := bo_some hf
        refine xg_R (i := v0) (k := 4) hx hb ht hown ck_Ma hK hP (by decide) fk_Ma_33 g18 d_Ma_apply_88 ?_
        refine lv_iload_n hx hb d_Ma_apply_91 rfl (lv_at hl 3 rfl) ?_
        obtain ⟨j20, ej20, hf⟩ := bo_some hf
        rw [ej20]
        obtain ⟨hO9, hf⟩ := ck_some hf
        obtain ⟨u19, r19, hc19, hf⟩ := bx_some hf
        obtain ⟨hc19, hz19⟩ := gz_some hc19
        obtain ⟨hf, hw19⟩ := gw_some hf
        refine xV0 (i := j20) (As := [.int v1]) (rest := []) C0 hP hD hS ck_Fr hO9 (c_Fr_takeOut N hE hc19) k_Fr_takeOut (wd_of 2004 (by decide +kernel) rfl) hi_Fr_takeOut hs_Fr_takeOut hini_Fr rfl rfl hd_Fr_takeOut rfl rm_Ma_apply_Fr_takeOut hl.1 (Nat.le_of_ble_eq_true rfl) d_Ma_apply_92 rfl (hB.fit hm hz19 hw19) (fun H locs hP hD hS => ?_)
        have hB := hB.same2 hz19
        refine lv_aload_n hx hb d_Ma_apply_95 rfl (lv_at hl 2 rfl) ?_
        refine lv_iload hx hb d_Ma_apply_96 (lv_at hl 0 rfl) ?_
        obtain ⟨u21, r21, hc21, hf⟩ := bx_some hf
        obtain ⟨hc21, hz21⟩ := gz_some hc21
        obtain ⟨hf, hw21⟩ := gw_some hf
        refine xS0 (As := [.int r9.toInt32]) (rest := [.ref (ad v0)]) C0 hP hD hS (c_Ma_functionOf N hc21) k_Ma_functionOf (wd_of 1676 (by decide +kernel) rfl) ht_Ma_functionOf hini_Ma rfl rfl hd_Ma_functionOf rfl rm_Ma_apply_Ma_functionOf hl.1 (Nat.le_of_ble_eq_true rfl) d_Ma_apply_98 rfl (hB.fit hm hz21 hw21) (fun H locs hP hD hS => ?_)
        have hB := hB.same2 hz21
        refine lv_aload_n hx hb d_Ma_apply_101 rfl (lv_at hl 2 rfl) ?_
        refine lv_iload hx hb d_Ma_apply_102 (lv_at hl 0 rfl) ?_
        obtain ⟨hO9, hf⟩ := ck_some hf
        obtain ⟨u22, r22, hc22, hf⟩ := bx_some hf
        obtain ⟨hc22, hz22⟩ := gz_some hc22
        obtain ⟨hf, hw22⟩ := gw_some hf
        refine xV0 (i := v0) (As := [.int r9.toInt32]) (rest := [.int r21, .ref (ad v0)]) C0 hP hD hS ck_Ma hO9 (c_Ma_entryOf N hc22) k_Ma_entryOf (wd_of 1680 (by decide +kernel) rfl) hi_Ma_entryOf hs_Ma_entryOf hini_Ma rfl rfl hd_Ma_entryOf rfl rm_Ma_apply_Ma_entryOf hl.1 (Nat.le_of_ble_eq_true rfl) d_Ma_apply_104 rfl (hB.fit hm hz22 hw22) (fun H locs hP hD hS => ?_)
        have hB := hB.same2 hz22
        refine lv_iload_n hx hb d_Ma_apply_107 rfl (lv_at hl 3 rfl) ?_
        refine lv_iload_n hx hb d_Ma_apply_108 rfl (lv_at hl 4 rfl) ?_
        refine lv_aload_n hx hb d_Ma_apply_109 rfl (lv_at hl 2 rfl) ?_
        obtain ⟨r23, g23, hf⟩ := bo_some hf
        refine xg_I (i := v0) (k := 5) hx hb ht hown ck_Ma hK hP (by decide) fk_Ma_40 g23 d_Ma_apply_110 ?_
        refine lv_iconst (v := 3) hx hb d_Ma_apply_113 (by decide) ?_
        refine lv_iadd hx hb d_Ma_apply_114 ?_
        obtain ⟨hO9, hf⟩ := ck_some hf
        obtain ⟨u24, r24, hc24, hf⟩ := bx_some hf
        obtain ⟨hc24, hz24⟩ := gz_some hc24
        obtain ⟨hf, hw24⟩ := gw_some hf
        refine xV0 (i := v0) (As := [.int r21, .int r22, .int v1, .int v2, .int (r23 + 3)]) (rest := []) C0 hP hD hS ck_Ma hO9 (c_Ma_enter N hE hc24) k_Ma_enter (wd_of 1987 (by decide +kernel) rfl) hi_Ma_enter hs_Ma_enter hini_Ma rfl rfl hd_Ma_enter rfl rm_Ma_apply_Ma_enter hl.1 (Nat.le_of_ble_eq_true rfl) d_Ma_apply_115 rfl (hB.fit hm hz24 hw24) (fun H locs hP hD hS => ?_)
        have hB := hB.same2 hz24
        refine lv_aload_n hx hb d_Ma_apply_118 rfl (lv_at hl 2 rfl) ?_
        refine lv_aload_n hx hb d_Ma_apply_119 rfl (lv_at hl 2 rfl) ?_
        obtain ⟨r25, g25, hf⟩ := bo_some hf
        refine xg_R (i := v0) (k := 4) hx hb ht hown ck_Ma hK hP (by decide) fk_Ma_33 g25 d_Ma_apply_120 ?_
        refine lv_aload_n hx hb d_Ma_apply_123 rfl (lv_at hl 2 rfl) ?_
        obtain ⟨r26, g26, hf⟩ := bo_some hf
        refine xg_R (i := v0) (k := 3) hx hb ht hown ck_Ma hK hP (by decide) fk_Ma_23 g26 d_Ma_apply_124 ?_
        obtain ⟨j27, ej27, hf⟩ := bo_some hf
        rw [ej27]
        obtain ⟨r28, g28, hf⟩ := bo_some hf
        refine xg_R (i := j27) (k := 2) hx hb ht hown ck_Pr hK hP (by decide) fk_Ma_195 g28 d_Ma_apply_127 ?_
        refine lv_lload_n hx hb d_Ma_apply_130 rfl (lv_at hl 1 rfl) ?_
        obtain ⟨hO9, hf⟩ := ck_some hf
        obtain ⟨hk29, hf⟩ := ck_some hf
        obtain ⟨u29, r29, hc29, hf⟩ := bx_some hf
        obtain ⟨hc29, hq29⟩ := gw_some hc29
        obtain ⟨hf, hw29⟩ := gw_some hf
        refine yV (i := v0) (As := [va_rf (Option.map ad r25), va_rf (Option.map ad r28), .long r2]) (rest := []) C0 hP hD hS ck_Ma hO9 (c_Ma_hold N hE hc29 (gm hq29)) k_Ma_hold (wd_of 1707 (by decide +kernel) rfl) hi_Ma_hold hs_Ma_hold hini_Ma rfl rfl hd_Ma_hold rfl rm_Ma_apply_Ma_hold hl.1 (Nat.le_of_ble_eq_true rfl) d_Ma_apply_131 rfl (gm hq29) hB hm hw29 (fun ad29 H locs ce sl hg29 hB hP hD hS => ?_)
        have q29_0 : ad29 v0 = ad v0 := ko_O (k := 0) hk29 rfl hg29
        have hl : lv_has ls 6 [(5, .int r9.toInt32), (3, .long r2), (0, .ref (ad29 v0)), (1, .int v1), (2, .int v2)] := by simp only [q29_0]; exact hl
        exact yr_v C0 hP hD hS hB hm hf d_Ma_apply_134
      · rw [br_p _ hc] at hf
        exact yr_v C0 hP hD hS hB hm hf d_Ma_apply_86
    · rw [br_n _ hc] at hf
      refine lv_aload_n hx hb d_Ma_apply_52 rfl (lv_at hl 2 rfl) ?_
      refine lv_iconst (v := 1) hx hb d_Ma_apply_53 (by decide) ?_
      refine lv_bipush (v := 18) hx hb d_Ma_apply_54 (by decide) ?_
      refine lv_iconst (v := 0) hx hb d_Ma_apply_56 (by decide) ?_
      refine lv_iload_n hx hb d_Ma_apply_57 rfl (lv_at hl 3 rfl) ?_
      obtain ⟨u30, r30, hc30, hf⟩ := bx_some hf
      obtain ⟨hc30, hz30⟩ := gz_some hc30
      obtain ⟨hf, hw30⟩ := gw_some hf
      refine xS0 (As := [.int 0, .int v1]) (rest := [.int 18, .int 1, .ref (ad v0)]) C0 hP hD hS (c_Te_make N hc30) k_Te_make (wd_of 1671 (by decide +kernel) rfl) ht_Te_make hini_Te rfl rfl hd_Te_make rfl rm_Ma_apply_Te_make hl.1 (Nat.le_of_ble_eq_true rfl) d_Ma_apply_58 rfl (hB.fit hm hz30 hw30) (fun H locs hP hD hS => ?_)
      have hB := hB.same2 hz30
      obtain ⟨hO9, hf⟩ := ck_some hf
      obtain ⟨u31, r31, hc31, hf⟩ := bx_some hf
      obtain ⟨hc31, hz31⟩ := gz_some hc31
      obtain ⟨hf, hw31⟩ := gw_some hf
      refine xV0 (i := v0) (As := [.int 1, .int 18, .long r30]) (rest := []) C0 hP hD hS ck_Ma hO9 (c_Ma_tell N hc31) k_Ma_tell (wd_of 1672 (by decide +kernel) rfl) hi_Ma_tell hs_Ma_tell hini_Ma rfl rfl hd_Ma_tell rfl rm_Ma_apply_Ma_tell hl.1 (Nat.le_of_ble_eq_true rfl) d_Ma_apply_61 rfl (hB.fit hm hz31 hw31) (fun H locs hP hD hS => ?_)
      have hB := hB.same2 hz31
      exact yr_v C0 hP hD hS hB hm hf d_Ma_apply_64
  · rw [br_n _ hc] at hf
    refine lv_aload_n hx hb d_Ma_apply_17 rfl (lv_at hl 1 rfl) ?_
    refine lv_iconst (v := 1) hx hb d_Ma_apply_18 (by decide) ?_
    refine lv_bipush (v := 17) hx hb d_Ma_apply_19 (by decide) ?_
    refine lv_lload_n hx hb d_Ma_apply_21 rfl (lv_at hl 0 rfl) ?_
    obtain ⟨hO9, hf⟩ := ck_some hf
    obtain ⟨u32, r32, hc32, hf⟩ := bx_some hf
    obtain ⟨hc32, hz32⟩ := gz_some hc32
    obtain ⟨hf, hw32⟩ := gw_some hf
    refine xV0 (i := v0) (As := [.int 1, .int 17, .long r2]) (rest := []) C0 hP hD hS ck_Ma hO9 (c_Ma_tell N hc32) k_Ma_tell (wd_of 1672 (by decide +kernel) rfl) hi_Ma_tell hs_Ma_tell hini_Ma rfl rfl hd_Ma_tell rfl rm_Ma_apply_Ma_tell hl.1 (Nat.le_of_ble_eq_true rfl) d_Ma_apply_22 rfl (hB.fit hm hz32 hw32) (fun H locs hP hD hS => ?_)
    have hB := hB.same2 hz32
    exact yr_v C0 hP hD hS hB hm hf d_Ma_apply_25
def fm_Ma_apply (N : Nat) (u : CS) (v0 : Nat) (v1 : Int32) (v2 : Int32) : Option (CS × Unit) := fb_Ma_apply_0 N () u v0 v1 v2
set_option maxRecDepth 100000 in
set_option maxHeartbeats 4000000 in
theorem c_Ma_apply (N : Nat) {l : Launch} {s0 : State} {b0 : Nat} {D : va_G} {cB cI cJ cZ cS cP : ClassId} {sk sv : Nat → Nat} {ad : Nat → Nat} {u : CS} {sz mc ms : Nat} {v0 : Nat} {v1 : Int32} {v2 : Int32} {x : CS × Unit} (hE : ENV s0 b0 sk sv) (hf : fm_Ma_apply N u v0 v1 v2 = some x) (hm : u.1.1 + mc = x.1.1.1 ∧ u.1.2 + ms = x.1.1.2) : Met l y_Ma_apply (wd_ws y_Ma_apply b_Ma_apply 6 none) (rm_Ma_apply mc ms) (xPc s0 b0 D cB cI cJ cZ cS cP ad u sz [.ref (ad v0), .int v1, .int v2]) (xQ D cB cI cJ cZ cS cP (xA cB cI cJ cZ cS cP ad u sz) ad u.1.1 x.1 none) mc ms (xA cB cI cJ cZ cS cP ad u sz) :=
  xMet (by decide) rfl (Nat.le_of_ble_eq_true rfl) (fun p e s m below meth c ls hsz hnm C0 hP hD hS hl =>
    wb_Ma_apply_0 C0 hE N () trivial u _ _ _ x hf hm ad 0 0 ⟨rfl, rfl, fun _ _ => rfl⟩ s.heap [] hP hD hS ls (lv_sub hl [0, 1, 2] rfl))
abbrev b_Fr_catchTo : ByteArray := prog_4_method_20_code
def y_Fr_catchTo : MethodName := ⟨R_Fr, "catchTo", "(I)V"⟩
def w_Fr_catchTo : List Cond := wd_ws y_Fr_catchTo b_Fr_catchTo 3 none
set_option maxRecDepth 100000 in
theorem k_Fr_catchTo : Cond.code y_Fr_catchTo b_Fr_catchTo 3 none ∈ wd_tbl := wd_of 2011 rfl rfl
theorem d_Fr_catchTo_0 : decode b_Fr_catchTo 0 = .ok (.aload_n 0, 1) := by decide +kernel
theorem d_Fr_catchTo_1 : decode b_Fr_catchTo 1 = .ok (.getfield 38, 3) := by decide +kernel
theorem d_Fr_catchTo_4 : decode b_Fr_catchTo 4 = .ok (.iconst 4, 1) := by decide +kernel
theorem d_Fr_catchTo_5 : decode b_Fr_catchTo 5 = .ok (.imul, 1) := by decide +kernel
theorem d_Fr_catchTo_6 : decode b_Fr_catchTo 6 = .ok (.istore_n 2, 1) := by decide +kernel
theorem d_Fr_catchTo_7 : decode b_Fr_catchTo 7 = .ok (.iload_n 2, 1) := by decide +kernel
theorem d_Fr_catchTo_8 : decode b_Fr_catchTo 8 = .ok (.aload_n 0, 1) := by decide +kernel
theorem d_Fr_catchTo_9 : decode b_Fr_catchTo 9 = .ok (.getfield 25, 3) := by decide +kernel
theorem d_Fr_catchTo_12 : decode b_Fr_catchTo 12 = .ok (.arraylength, 1) := by decide +kernel
theorem d_Fr_catchTo_13 : decode b_Fr_catchTo 13 = .ok (.if_icmp .lt 21, 3) := by decide +kernel
theorem d_Fr_catchTo_16 : decode b_Fr_catchTo 16 = .ok (.aload_n 0, 1) := by decide +kernel
theorem d_Fr_catchTo_17 : decode b_Fr_catchTo 17 = .ok (.aload_n 0, 1) := by decide +kernel
theorem d_Fr_catchTo_18 : decode b_Fr_catchTo 18 = .ok (.getfield 25, 3) := by decide +kernel
theorem d_Fr_catchTo_21 : decode b_Fr_catchTo 21 = .ok (.aload_n 0, 1) := by decide +kernel
theorem d_Fr_catchTo_22 : decode b_Fr_catchTo 22 = .ok (.getfield 25, 3) := by decide +kernel
theorem d_Fr_catchTo_25 : decode b_Fr_catchTo 25 = .ok (.arraylength, 1) := by decide +kernel
theorem d_Fr_catchTo_26 : decode b_Fr_catchTo 26 = .ok (.iconst 2, 1) := by decide +kernel
theorem d_Fr_catchTo_27 : decode b_Fr_catchTo 27 = .ok (.imul, 1) := by decide +kernel
theorem d_Fr_catchTo_28 : decode b_Fr_catchTo 28 = .ok (.invokestatic 69, 3) := by decide +kernel
theorem d_Fr_catchTo_31 : decode b_Fr_catchTo 31 = .ok (.putfield 25, 3) := by decide +kernel
theorem d_Fr_catchTo_34 : decode b_Fr_catchTo 34 = .ok (.aload_n 0, 1) := by decide +kernel
theorem d_Fr_catchTo_35 : decode b_Fr_catchTo 35 = .ok (.getfield 25, 3) := by decide +kernel
theorem d_Fr_catchTo_38 : decode b_Fr_catchTo 38 = .ok (.iload_n 2, 1) := by decide +kernel
theorem d_Fr_catchTo_39 : decode b_Fr_catchTo 39 = .ok (.aload_n 0, 1) := by decide +kernel
theorem d_Fr_catchTo_40 : decode b_Fr_catchTo 40 = .ok (.getfield 28, 3) := by decide +kernel
theorem d_Fr_catchTo_43 : decode b_Fr_catchTo 43 = .ok (.iastore, 1) := by decide +kernel
theorem d_Fr_catchTo_44 : decode b_Fr_catchTo 44 = .ok (.aload_n 0, 1) := by decide +kernel
theorem d_Fr_catchTo_45 : decode b_Fr_catchTo 45 = .ok (.getfield 25, 3) := by decide +kernel
theorem d_Fr_catchTo_48 : decode b_Fr_catchTo 48 = .ok (.iload_n 2, 1) := by decide +kernel
theorem d_Fr_catchTo_49 : decode b_Fr_catchTo 49 = .ok (.iconst 1, 1) := by decide +kernel
theorem d_Fr_catchTo_50 : decode b_Fr_catchTo 50 = .ok (.iadd, 1) := by decide +kernel
theorem d_Fr_catchTo_51 : decode b_Fr_catchTo 51 = .ok (.aload_n 0, 1) := by decide +kernel
theorem d_Fr_catchTo_52 : decode b_Fr_catchTo 52 = .ok (.getfield 32, 3) := by decide +kernel
theorem d_Fr_catchTo_55 : decode b_Fr_catchTo 55 = .ok (.iastore, 1) := by decide +kernel
theorem d_Fr_catchTo_56 : decode b_Fr_catchTo 56 = .ok (.aload_n 0, 1) := by decide +kernel
theorem d_Fr_catchTo_57 : decode b_Fr_catchTo 57 = .ok (.getfield 25, 3) := by decide +kernel
theorem d_Fr_catchTo_60 : decode b_Fr_catchTo 60 = .ok (.iload_n 2, 1) := by decide +kernel
theorem d_Fr_catchTo_61 : decode b_Fr_catchTo 61 = .ok (.iconst 2, 1) := by decide +kernel
theorem d_Fr_catchTo_62 : decode b_Fr_catchTo 62 = .ok (.iadd, 1) := by decide +kernel
theorem d_Fr_catchTo_63 : decode b_Fr_catchTo 63 = .ok (.aload_n 0, 1) := by decide +kernel
theorem d_Fr_catchTo_64 : decode b_Fr_catchTo 64 = .ok (.getfield 35, 3) := by decide +kernel
theorem d_Fr_catchTo_67 : decode b_Fr_catchTo 67 = .ok (.iastore, 1) := by decide +kernel
theorem d_Fr_catchTo_68 : decode b_Fr_catchTo 68 = .ok (.aload_n 0, 1) := by decide +kernel
theorem d_Fr_catchTo_69 : decode b_Fr_catchTo 69 = .ok (.getfield 25, 3) := by decide +kernel
theorem d_Fr_catchTo_72 : decode b_Fr_catchTo 72 = .ok (.iload_n 2, 1) := by decide +kernel
theorem d_Fr_catchTo_73 : decode b_Fr_catchTo 73 = .ok (.iconst 3, 1) := by decide +kernel
theorem d_Fr_catchTo_74 : decode b_Fr_catchTo 74 = .ok (.iadd, 1) := by decide +kernel
theorem d_Fr_catchTo_75 : decode b_Fr_catchTo 75 = .ok (.iload_n 1, 1) := by decide +kernel
theorem d_Fr_catchTo_76 : decode b_Fr_catchTo 76 = .ok (.iastore, 1) := by decide +kernel
theorem d_Fr_catchTo_77 : decode b_Fr_catchTo 77 = .ok (.aload_n 0, 1) := by decide +kernel
theorem d_Fr_catchTo_78 : decode b_Fr_catchTo 78 = .ok (.dup, 1) := by decide +kernel
theorem d_Fr_catchTo_79 : decode b_Fr_catchTo 79 = .ok (.getfield 38, 3) := by decide +kernel
theorem d_Fr_catchTo_82 : decode b_Fr_catchTo 82 = .ok (.iconst 1, 1) := by decide +kernel
theorem d_Fr_catchTo_83 : decode b_Fr_catchTo 83 = .ok (.iadd, 1) := by decide +kernel
theorem d_Fr_catchTo_84 : decode b_Fr_catchTo 84 = .ok (.putfield 38, 3) := by decide +kernel
theorem d_Fr_catchTo_87 : decode b_Fr_catchTo 87 = .ok (.return_, 1) := by decide +kernel
set_option maxRecDepth 100000 in
theorem hi_Fr_catchTo : Cond.instanceMethod y_Fr_catchTo ∈ wd_tbl := wd_of 2009 (by decide +kernel) rfl
set_option maxRecDepth 100000 in
theorem hs_Fr_catchTo : Cond.selects R_Fr y_Fr_catchTo y_Fr_catchTo ∈ wd_tbl := wd_of 2010 (by decide +kernel) rfl
theorem hd_Fr_catchTo : y_Fr_catchTo.cls = R_Fr ∧ y_Fr_catchTo.cls ≠ "java/lang/invoke/MethodHandle" ∧ y_Fr_catchTo.cls ≠ "java/lang/invoke/VarHandle" ∧ (parseMethodDescriptor y_Fr_catchTo.desc).map (fun d => d.parameters.length) = some 1 := by decide +kernel
def rm_Fr_catchTo (mc ms : Nat) : Room := { frames := 2, cells := mc, slots := ms, locals := 82 }
theorem rm_Fr_catchTo_JA_copyOf0 {mc ms : Nat} {mc2 ms2 : Nat} : (rm_JA_copyOf0 mc2 ms2).frames + 1 ≤ (rm_Fr_catchTo mc ms).frames ∧ 8 + (3 + 11) + (rm_JA_copyOf0 mc2 ms2).locals ≤ (rm_Fr_catchTo mc ms).locals := by
  show 1 + 1 ≤ 2 ∧ 8 + (3 + 11) + 60 ≤ 82
  decide
def fb_Fr_catchTo_34 (N : Nat) (G : Unit) (u : CS) (v0 : Nat) (v1 : Int32) (v2 : Int32) : Option (CS × Unit) := bo (gR u v0 4 7) (fun r1 => bo (gI u v0 4 1) (fun r2 => bo r1 (fun j3 => bo (sI u j3 4 v2 r2) (fun w4 => bo (gR w4 v0 4 7) (fun r5 => bo (gI w4 v0 4 4) (fun r6 => bo r5 (fun j7 => bo (sI w4 j7 4 (v2 + 1) r6) (fun w8 => bo (gR w8 v0 4 7) (fun r9 => bo (gI w8 v0 4 6) (fun r10 => bo r9 (fun j11 => bo (sI w8 j11 4 (v2 + 2) r10) (fun w12 => bo (gR w12 v0 4 7) (fun r13 => bo r13 (fun j14 => bo (sI w12 j14 4 (v2 + 3) v1) (fun w15 => bo (gI w15 v0 4 8) (fun r16 => bo (pF w15 v0 4 8 (.inl (r16 + 1))) (fun w17 => some (w17, ()))))))))))))))))))
set_option maxRecDepth 100000 in
set_option maxHeartbeats 4000000 in
theorem wb_Fr_catchTo_34 {p : Program} {l : Launch} {e : Env} {s : State} {m : MethodId} {args : Array Value} {below : List Frame} {meth : Method} {c : Code} {s0 : State} {b0 : Nat} {D : va_G} {cB cI cJ cZ cS cP : ClassId} {A : Nat → Prop} {sk sv : Nat → Nat} {uN uS mc ms : Nat} {ad0 : Nat → Nat} (C0 : XCx p s s0 b0 m args meth c R_Fr b_Fr_catchTo 3 none D cB cI cJ cZ cS cP A) (hE : ENV s0 b0 sk sv) (N : Nat) (G : Unit) (hG : True) : ∀ (u : CS) (v0 : Nat) (v1 : Int32) (v2 : Int32) (x : CS × Unit), fb_Fr_catchTo_34 N G u v0 v1 v2 = some x → (uN + mc = x.1.1.1 ∧ uS + ms = x.1.1.2) → ∀ (ad : Nat → Nat) (ce sl : Nat), AB uN uS ad0 u ad ce sl → ∀ (H : Heap) (locs : List Loc), va_P D cls (wC cB cI cJ cZ cS cP ad u) H → va_D A (wC cB cI cJ cZ cS cP ad u) → va_S A s.heap H locs → ∀ (ls : Array Slot), lv_has ls 3 [(0, .ref (ad v0)), (1, .int v1), (2, .int v2)] → W p l e (rm_Fr_catchTo mc ms) s m args below meth c H locs ce sl (MQ below (xQ D cB cI cJ cZ cS cP A ad0 uN x.1 none) args s mc ms A) (F0 m 34 ls []) := by
  intro u v0 v1 v2 x hf hm ad ce sl hB H locs hP hD hS ls hl
  obtain ⟨hx, hb, hr, hml, ht, hown, hK, hA, hlocks, hA0, hO, hbs⟩ := id C0
  unfold fb_Fr_catchTo_34 at hf
  refine lv_aload_n hx hb d_Fr_catchTo_34 rfl (lv_at hl 0 rfl) ?_
  obtain ⟨r1, g1, hf⟩ := bo_some hf
  refine xg_R (i := v0) (k := 7) hx hb ht hown ck_Fr hK hP (by decide) fk_Fr_25 g1 d_Fr_catchTo_35 ?_
  refine lv_iload_n hx hb d_Fr_catchTo_38 rfl (lv_at hl 2 rfl) ?_
  refine lv_aload_n hx hb d_Fr_catchTo_39 rfl (lv_at hl 0 rfl) ?_
  obtain ⟨r2, g2, hf⟩ := bo_some hf
  refine xg_I (i := v0) (k := 1) hx hb ht hown ck_Fr hK hP (by decide) fk_Fr_28 g2 d_Fr_catchTo_40 ?_
  obtain ⟨j3, ej3, hf⟩ := bo_some hf
  rw [ej3]
  obtain ⟨w4, g4, hf⟩ := bo_some hf
  refine xs_I (i := j3) hx hb hK hP hD hS g4 d_Fr_catchTo_43 (fun H locs hP hD hS => ?_)
  have hB := hB.same (sI_c g4)
  refine lv_aload_n hx hb d_Fr_catchTo_44 rfl (lv_at hl 0 rfl) ?_
  obtain ⟨r5, g5, hf⟩ := bo_some hf
  refine xg_R (i := v0) (k := 7) hx hb ht hown ck_Fr hK hP (by decide) fk_Fr_25 g5 d_Fr_catchTo_45 ?_
  refine lv_iload_n hx hb d_Fr_catchTo_48 rfl (lv_at hl 2 rfl) ?_
  refine lv_iconst (v := 1) hx hb d_Fr_catchTo_49 (by decide) ?_
  refine lv_iadd hx hb d_Fr_catchTo_50 ?_
  refine lv_aload_n hx hb d_Fr_catchTo_51 rfl (lv_at hl 0 rfl) ?_
  obtain ⟨r6, g6, hf⟩ := bo_some hf
  refine xg_I (i := v0) (k := 4) hx hb ht hown ck_Fr hK hP (by decide) fk_Fr_32 g6 d_Fr_catchTo_52 ?_
  obtain ⟨j7, ej7, hf⟩ := bo_some hf
  rw [ej7]
  obtain ⟨w8, g8, hf⟩ := bo_some hf
  refine xs_I (i := j7) hx hb hK hP hD hS g8 d_Fr_catchTo_55 (fun H locs hP hD hS => ?_)
  have hB := hB.same (sI_c g8)
  refine lv_aload_n hx hb d_Fr_catchTo_56 rfl (lv_at hl 0 rfl) ?_
  obtain ⟨r9, g9, hf⟩ := bo_some hf
  refine xg_R (i := v0) (k := 7) hx hb ht hown ck_Fr hK hP (by decide) fk_Fr_25 g9 d_Fr_catchTo_57 ?_
  refine lv_iload_n hx hb d_Fr_catchTo_60 rfl (lv_at hl 2 rfl) ?_
  refine lv_iconst (v := 2) hx hb d_Fr_catchTo_61 (by decide) ?_
  refine lv_iadd hx hb d_Fr_catchTo_62 ?_
  refine lv_aload_n hx hb d_Fr_catchTo_63 rfl (lv_at hl 0 rfl) ?_
  obtain ⟨r10, g10, hf⟩ := bo_some hf
  refine xg_I (i := v0) (k := 6) hx hb ht hown ck_Fr hK hP (by decide) fk_Fr_35 g10 d_Fr_catchTo_64 ?_
  obtain ⟨j11, ej11, hf⟩ := bo_some hf
  rw [ej11]
  obtain ⟨w12, g12, hf⟩ := bo_some hf
  refine xs_I (i := j11) hx hb hK hP hD hS g12 d_Fr_catchTo_67 (fun H locs hP hD hS => ?_)
  have hB := hB.same (sI_c g12)
  refine lv_aload_n hx hb d_Fr_catchTo_68 rfl (lv_at hl 0 rfl) ?_
  obtain ⟨r13, g13, hf⟩ := bo_some hf
  refine xg_R (i := v0) (k := 7) hx hb ht hown ck_Fr hK hP (by decide) fk_Fr_25 g13 d_Fr_catchTo_69 ?_
  refine lv_iload_n hx hb d_Fr_catchTo_72 rfl (lv_at hl 2 rfl) ?_
  refine lv_iconst (v := 3) hx hb d_Fr_catchTo_73 (by decide) ?_
  refine lv_iadd hx hb d_Fr_catchTo_74 ?_
  refine lv_iload_n hx hb d_Fr_catchTo_75 rfl (lv_at hl 1 rfl) ?_
  obtain ⟨j14, ej14, hf⟩ := bo_some hf
  rw [ej14]
  obtain ⟨w15, g15, hf⟩ := bo_some hf
  refine xs_I (i := j14) hx hb hK hP hD hS g15 d_Fr_catchTo_76 (fun H locs hP hD hS => ?_)
  have hB := hB.same (sI_c g15)
  refine lv_aload_n hx hb d_Fr_catchTo_77 rfl (lv_at hl 0 rfl) ?_
  refine lv_dup hx hb d_Fr_catchTo_78 rfl ?_
  obtain ⟨r16, g16, hf⟩ := bo_some hf
  refine xg_I (i := v0) (k := 8) hx hb ht hown ck_Fr hK hP (by decide) fk_Fr_38 g16 d_Fr_catchTo_79 ?_
  refine lv_iconst (v := 1) hx hb d_Fr_catchTo_82 (by decide) ?_
  refine lv_iadd hx hb d_Fr_catchTo_83 ?_
  obtain ⟨w17, g17, hf⟩ := bo_some hf
  refine xp (i := v0) (k := 8) (v := (.inl (r16 + 1))) hx hb ht hown ck_Fr hK hP hD hS (by decide) fk_Fr_38 rfl g17 rfl rfl d_Fr_catchTo_84 (fun H locs hP hD hS => ?_)
  have hB := hB.same (pF_c g17)
  exact yr_v C0 hP hD hS hB hm hf d_Fr_catchTo_87
def fb_Fr_catchTo_0 (N : Nat) (G : Unit) (u : CS) (v0 : Nat) (v1 : Int32) : Option (CS × Unit) := bo (gI u v0 4 8) (fun r18 => bo (gR u v0 4 7) (fun r19 => bo r19 (fun j20 => bo (nA u j20 4) (fun r21 => br (decide ((r18 * 4) < r21)) (fb_Fr_catchTo_34 N G u (v0) (v1) ((r18 * 4))) (bo (gR u v0 4 7) (fun r22 => bo (gR u v0 4 7) (fun r23 => bo r23 (fun j24 => bo (nA u j24 4) (fun r25 => ck (List.all [some v0] (okR u.1.1)) (bx (gw u (fm_JA_copyOf0 N u r22 (r25 * 2))) (fun u26 r26 => gw u26 (bo (pF u26 v0 4 7 (.inr (.inr r26))) (fun w27 => fb_Fr_catchTo_34 N G w27 (v0) (v1) ((r18 * 4)))))))))))))))
set_option maxRecDepth 100000 in
set_option maxHeartbeats 4000000 in
theorem wb_Fr_catchTo_0 {p : Program} {l : Launch} {e : Env} {s : State} {m : MethodId} {args : Array Value} {below : List Frame} {meth : Method} {c : Code} {s0 : State} {b0 : Nat} {D : va_G} {cB cI cJ cZ cS cP : ClassId} {A : Nat → Prop} {sk sv : Nat → Nat} {uN uS mc ms : Nat} {ad0 : Nat → Nat} (C0 : XCx p s s0 b0 m args meth c R_Fr b_Fr_catchTo 3 none D cB cI cJ cZ cS cP A) (hE : ENV s0 b0 sk sv) (N : Nat) (G : Unit) (hG : True) : ∀ (u : CS) (v0 : Nat) (v1 : Int32) (x : CS × Unit), fb_Fr_catchTo_0 N G u v0 v1 = some x → (uN + mc = x.1.1.1 ∧ uS + ms = x.1.1.2) → ∀ (ad : Nat → Nat) (ce sl : Nat), AB uN uS ad0 u ad ce sl → ∀ (H : Heap) (locs : List Loc), va_P D cls (wC cB cI cJ cZ cS cP ad u) H → va_D A (wC cB cI cJ cZ cS cP ad u) → va_S A s.heap H locs → ∀ (ls : Array Slot), lv_has ls 3 [(0, .ref (ad v0)), (1, .int v1)] → W p l e (rm_Fr_catchTo mc ms) s m args below meth c H locs ce sl (MQ below (xQ D cB cI cJ cZ cS cP A ad0 uN x.1 none) args s mc ms A) (F0 m 0 ls []) := by
  intro u v0 v1 x hf hm ad ce sl hB H locs hP hD hS ls hl
  obtain ⟨hx, hb, hr, hml, ht, hown, hK, hA, hlocks, hA0, hO, hbs⟩ := id C0
  unfold fb_Fr_catchTo_0 at hf
  refine lv_aload_n hx hb d_Fr_catchTo_0 rfl (lv_at hl 0 rfl) ?_
  obtain ⟨r18, g18, hf⟩ := bo_some hf
  refine xg_I (i := v0) (k := 8) hx hb ht hown ck_Fr hK hP (by decide) fk_Fr_38 g18 d_Fr_catchTo_1 ?_
  refine lv_iconst (v := 4) hx hb d_Fr_catchTo_4 (by decide) ?_
  refine lv_imul hx hb d_Fr_catchTo_5 ?_
  refine lv_istore_n (lv' := [(2, .int (r18 * 4)), (0, .ref (ad v0)), (1, .int v1)]) hx hb d_Fr_catchTo_6 rfl hl (by decide) (by first | rfl | simp [List.filter, cat_rf]) (fun ls hl => ?_)
  refine lv_iload_n hx hb d_Fr_catchTo_7 rfl (lv_at hl 0 rfl) ?_
  refine lv_aload_n hx hb d_Fr_catchTo_8 rfl (lv_at hl 1 rfl) ?_
  obtain ⟨r19, g19, hf⟩ := bo_some hf
  refine xg_R (i := v0) (k := 7) hx hb ht hown ck_Fr hK hP (by decide) fk_Fr_25 g19 d_Fr_catchTo_9 ?_
  obtain ⟨j20, ej20, hf⟩ := bo_some hf
  rw [ej20]
  obtain ⟨r21, g21, hf⟩ := bo_some hf
  refine xn_I (i := j20) hx hb hK hP g21 d_Fr_catchTo_12 ?_
  refine lv_icmp_lt (tgt := 34) hx hb d_Fr_catchTo_13 (by decide) (fun hc => ?_) (fun hc => ?_)
  · rw [br_p _ hc] at hf
    exact wb_Fr_catchTo_34 C0 hE N G hG _ _ _ _ _ hf hm _ _ _ hB H locs hP hD hS ls (lv_sub hl [1, 2, 0] rfl)
  · rw [br_n _ hc] at hf
    refine lv_aload_n hx hb d_Fr_catchTo_16 rfl (lv_at hl 1 rfl) ?_
    refine lv_aload_n hx hb d_Fr_catchTo_17 rfl (lv_at hl 1 rfl) ?_
    obtain ⟨r22, g22, hf⟩ := bo_some hf
    refine xg_R (i := v0) (k := 7) hx hb ht hown ck_Fr hK hP (by decide) fk_Fr_25 g22 d_Fr_catchTo_18 ?_
    refine lv_aload_n hx hb d_Fr_catchTo_21 rfl (lv_at hl 1 rfl) ?_
    obtain ⟨r23, g23, hf⟩ := bo_some hf
    refine xg_R (i := v0) (k := 7) hx hb ht hown ck_Fr hK hP (by decide) fk_Fr_25 g23 d_Fr_catchTo_22 ?_
    obtain ⟨j24, ej24, hf⟩ := bo_some hf
    rw [ej24]
    obtain ⟨r25, g25, hf⟩ := bo_some hf
    refine xn_I (i := j24) hx hb hK hP g25 d_Fr_catchTo_25 ?_
    refine lv_iconst (v := 2) hx hb d_Fr_catchTo_26 (by decide) ?_
    refine lv_imul hx hb d_Fr_catchTo_27 ?_
    obtain ⟨hk26, hf⟩ := ck_some hf
    obtain ⟨u26, r26, hc26, hf⟩ := bx_some hf
    obtain ⟨hc26, hq26⟩ := gw_some hc26
    obtain ⟨hf, hw26⟩ := gw_some hf
    refine yS (As := [va_rf (Option.map ad r22), .int (r25 * 2)]) (rest := [.ref (ad v0)]) C0 hP hD hS (c_JA_copyOf0 N hE hc26 (gm hq26)) k_JA_copyOf0 (wd_of 1727 (by decide +kernel) rfl) ht_JA_copyOf0 hini_JA rfl rfl hd_JA_copyOf0 rfl rm_Fr_catchTo_JA_copyOf0 hl.1 (Nat.le_of_ble_eq_true rfl) d_Fr_catchTo_28 rfl (gm hq26) hB hm hw26 (fun ad26 H locs ce sl hg26 hB hP hD hS => ?_)
    have q26_0 : ad26 v0 = ad v0 := ko_O (k := 0) hk26 rfl hg26
    have hl : lv_has ls 3 [(2, .int (r18 * 4)), (0, .ref (ad26 v0)), (1, .int v1)] := by simp only [q26_0]; exact hl
    refine W.eq (g2 := F0 m 31 ls [va_rf (Option.map ad26 r26), .ref (ad26 v0)]) (by show F0 m _ ls [va_rf (Option.map ad26 r26), .ref (ad v0)] = F0 m _ ls [va_rf (Option.map ad26 r26), .ref (ad26 v0)]; simp only [q26_0]) ?_
    obtain ⟨w27, g27, hf⟩ := bo_some hf
    refine xp (i := v0) (k := 7) (v := (.inr (.inr r26))) hx hb ht hown ck_Fr hK hP hD hS (by decide) fk_Fr_25 rfl g27 (show narrow (.array .int) (va_rf _) = va_rf _ from nr_arr _ _) (show fits (.array .int) (va_rf _) = true from ft_arr _ _) d_Fr_catchTo_31 (fun H locs hP hD hS => ?_)
    have hB := hB.same (pF_c g27)
    exact wb_Fr_catchTo_34 C0 hE N G hG _ _ _ _ _ hf hm _ _ _ hB H locs hP hD hS ls (lv_sub hl [1, 2, 0] rfl)
def fm_Fr_catchTo (N : Nat) (u : CS) (v0 : Nat) (v1 : Int32) : Option (CS × Unit) := fb_Fr_catchTo_0 N () u v0 v1
set_option maxRecDepth 100000 in
set_option maxHeartbeats 4000000 in
theorem c_Fr_catchTo (N : Nat) {l : Launch} {s0 : State} {b0 : Nat} {D : va_G} {cB cI cJ cZ cS cP : ClassId} {sk sv : Nat → Nat} {ad : Nat → Nat} {u : CS} {sz mc ms : Nat} {v0 : Nat} {v1 : Int32} {x : CS × Unit} (hE : ENV s0 b0 sk sv) (hf : fm_Fr_catchTo N u v0 v1 = some x) (hm : u.1.1 + mc = x.1.1.1 ∧ u.1.2 + ms = x.1.1.2) : Met l y_Fr_catchTo (wd_ws y_Fr_catchTo b_Fr_catchTo 3 none) (rm_Fr_catchTo mc ms) (xPc s0 b0 D cB cI cJ cZ cS cP ad u sz [.ref (ad v0), .int v1]) (xQ D cB cI cJ cZ cS cP (xA cB cI cJ cZ cS cP ad u sz) ad u.1.1 x.1 none) mc ms (xA cB cI cJ cZ cS cP ad u sz) :=
  xMet (by decide) rfl (Nat.le_of_ble_eq_true rfl) (fun p e s m below meth c ls hsz hnm C0 hP hD hS hl =>
    wb_Fr_catchTo_0 C0 hE N () trivial u _ _ x hf hm ad 0 0 ⟨rfl, rfl, fun _ _ => rfl⟩ s.heap [] hP hD hS ls (lv_sub hl [0, 1] rfl))
abbrev b_Ma_await : ByteArray := prog_5_method_44_code
def y_Ma_await : MethodName := ⟨R_Ma, "await", "(Z)V"⟩
def w_Ma_await : List Cond := wd_ws y_Ma_await b_Ma_await 5 none
set_option maxRecDepth 100000 in
theorem k_Ma_await : Cond.code y_Ma_await b_Ma_await 5 none ∈ wd_tbl := wd_of 2019 rfl rfl
theorem d_Ma_await_0 : decode b_Ma_await 0 = .ok (.aload_n 0, 1) := by decide +kernel
theorem d_Ma_await_1 : decode b_Ma_await 1 = .ok (.getfield 23, 3) := by decide +kernel
theorem d_Ma_await_4 : decode b_Ma_await 4 = .ok (.iconst 0, 1) := by decide +kernel
theorem d_Ma_await_5 : decode b_Ma_await 5 = .ok (.putfield 321, 3) := by decide +kernel
theorem d_Ma_await_8 : decode b_Ma_await 8 = .ok (.aload_n 0, 1) := by decide +kernel
theorem d_Ma_await_9 : decode b_Ma_await 9 = .ok (.getfield 23, 3) := by decide +kernel
theorem d_Ma_await_12 : decode b_Ma_await 12 = .ok (.ldc2_w 397, 3) := by decide +kernel
theorem d_Ma_await_15 : decode b_Ma_await 15 = .ok (.putfield 399, 3) := by decide +kernel
theorem d_Ma_await_18 : decode b_Ma_await 18 = .ok (.iload_n 1, 1) := by decide +kernel
theorem d_Ma_await_19 : decode b_Ma_await 19 = .ok (.ifCond .eq 85, 3) := by decide +kernel
theorem d_Ma_await_22 : decode b_Ma_await 22 = .ok (.aload_n 0, 1) := by decide +kernel
theorem d_Ma_await_23 : decode b_Ma_await 23 = .ok (.getfield 33, 3) := by decide +kernel
theorem d_Ma_await_26 : decode b_Ma_await 26 = .ok (.iconst 0, 1) := by decide +kernel
theorem d_Ma_await_27 : decode b_Ma_await 27 = .ok (.invokevirtual 138, 3) := by decide +kernel
theorem d_Ma_await_30 : decode b_Ma_await 30 = .ok (.lstore_n 2, 1) := by decide +kernel
theorem d_Ma_await_31 : decode b_Ma_await 31 = .ok (.lload_n 2, 1) := by decide +kernel
theorem d_Ma_await_32 : decode b_Ma_await 32 = .ok (.invokestatic 253, 3) := by decide +kernel
theorem d_Ma_await_35 : decode b_Ma_await 35 = .ok (.ifCond .ne 12, 3) := by decide +kernel
theorem d_Ma_await_38 : decode b_Ma_await 38 = .ok (.lload_n 2, 1) := by decide +kernel
theorem d_Ma_await_39 : decode b_Ma_await 39 = .ok (.l2i, 1) := by decide +kernel
theorem d_Ma_await_40 : decode b_Ma_await 40 = .ok (.ifCond .lt 7, 3) := by decide +kernel
theorem d_Ma_await_43 : decode b_Ma_await 43 = .ok (.iconst 1, 1) := by decide +kernel
theorem d_Ma_await_44 : decode b_Ma_await 44 = .ok (.goto 4, 3) := by decide +kernel
theorem d_Ma_await_47 : decode b_Ma_await 47 = .ok (.iconst 0, 1) := by decide +kernel
theorem d_Ma_await_48 : decode b_Ma_await 48 = .ok (.istore 4, 2) := by decide +kernel
theorem d_Ma_await_50 : decode b_Ma_await 50 = .ok (.iload 4, 2) := by decide +kernel
theorem d_Ma_await_52 : decode b_Ma_await 52 = .ok (.ifCond .ne 20, 3) := by decide +kernel
theorem d_Ma_await_55 : decode b_Ma_await 55 = .ok (.lload_n 2, 1) := by decide +kernel
theorem d_Ma_await_56 : decode b_Ma_await 56 = .ok (.bipush 10, 2) := by decide +kernel
theorem d_Ma_await_58 : decode b_Ma_await 58 = .ok (.invokestatic 105, 3) := by decide +kernel
theorem d_Ma_await_61 : decode b_Ma_await 61 = .ok (.lcmp, 1) := by decide +kernel
theorem d_Ma_await_62 : decode b_Ma_await 62 = .ok (.ifCond .eq 10, 3) := by decide +kernel
theorem d_Ma_await_65 : decode b_Ma_await 65 = .ok (.aload_n 0, 1) := by decide +kernel
theorem d_Ma_await_66 : decode b_Ma_await 66 = .ok (.bipush 11, 2) := by decide +kernel
theorem d_Ma_await_68 : decode b_Ma_await 68 = .ok (.invokevirtual 249, 3) := by decide +kernel
theorem d_Ma_await_71 : decode b_Ma_await 71 = .ok (.return_, 1) := by decide +kernel
theorem d_Ma_await_72 : decode b_Ma_await 72 = .ok (.iload 4, 2) := by decide +kernel
theorem d_Ma_await_74 : decode b_Ma_await 74 = .ok (.ifCond .eq 22, 3) := by decide +kernel
theorem d_Ma_await_77 : decode b_Ma_await 77 = .ok (.aload_n 0, 1) := by decide +kernel
theorem d_Ma_await_78 : decode b_Ma_await 78 = .ok (.getfield 23, 3) := by decide +kernel
theorem d_Ma_await_81 : decode b_Ma_await 81 = .ok (.aload_n 0, 1) := by decide +kernel
theorem d_Ma_await_82 : decode b_Ma_await 82 = .ok (.getfield 15, 3) := by decide +kernel
theorem d_Ma_await_85 : decode b_Ma_await 85 = .ok (.getfield 402, 3) := by decide +kernel
theorem d_Ma_await_88 : decode b_Ma_await 88 = .ok (.i2l, 1) := by decide +kernel
theorem d_Ma_await_89 : decode b_Ma_await 89 = .ok (.lload_n 2, 1) := by decide +kernel
theorem d_Ma_await_90 : decode b_Ma_await 90 = .ok (.l2i, 1) := by decide +kernel
theorem d_Ma_await_91 : decode b_Ma_await 91 = .ok (.i2l, 1) := by decide +kernel
theorem d_Ma_await_92 : decode b_Ma_await 92 = .ok (.ladd, 1) := by decide +kernel
theorem d_Ma_await_93 : decode b_Ma_await 93 = .ok (.putfield 399, 3) := by decide +kernel
theorem d_Ma_await_96 : decode b_Ma_await 96 = .ok (.aload_n 0, 1) := by decide +kernel
theorem d_Ma_await_97 : decode b_Ma_await 97 = .ok (.getfield 33, 3) := by decide +kernel
theorem d_Ma_await_100 : decode b_Ma_await 100 = .ok (.iconst 1, 1) := by decide +kernel
theorem d_Ma_await_101 : decode b_Ma_await 101 = .ok (.invokevirtual 109, 3) := by decide +kernel
theorem d_Ma_await_104 : decode b_Ma_await 104 = .ok (.aload_n 0, 1) := by decide +kernel
theorem d_Ma_await_105 : decode b_Ma_await 105 = .ok (.dup, 1) := by decide +kernel
theorem d_Ma_await_106 : decode b_Ma_await 106 = .ok (.getfield 40, 3) := by decide +kernel
theorem d_Ma_await_109 : decode b_Ma_await 109 = .ok (.iconst 2, 1) := by decide +kernel
theorem d_Ma_await_110 : decode b_Ma_await 110 = .ok (.iadd, 1) := by decide +kernel
theorem d_Ma_await_111 : decode b_Ma_await 111 = .ok (.putfield 40, 3) := by decide +kernel
theorem d_Ma_await_114 : decode b_Ma_await 114 = .ok (.return_, 1) := by decide +kernel
set_option maxRecDepth 100000 in
theorem hl_Ma_await : Cond.methodLink R_Ma 311 y_Ma_await ∈ wd_tbl := wd_of 2016 (by decide +kernel) rfl
set_option maxRecDepth 100000 in
theorem hi_Ma_await : Cond.instanceMethod y_Ma_await ∈ wd_tbl := wd_of 2018 (by decide +kernel) rfl
set_option maxRecDepth 100000 in
theorem hs_Ma_await : Cond.selects R_Ma y_Ma_await y_Ma_await ∈ wd_tbl := wd_of 121 (by decide +kernel) rfl
theorem hd_Ma_await : y_Ma_await.cls = R_Ma ∧ y_Ma_await.cls ≠ "java/lang/invoke/MethodHandle" ∧ y_Ma_await.cls ≠ "java/lang/invoke/VarHandle" ∧ (parseMethodDescriptor y_Ma_await.desc).map (fun d => d.parameters.length) = some 1 := by decide +kernel
def rm_Ma_await : Room := { frames := 3, cells := 0, slots := 0, locals := 62 }
theorem rm_Ma_await_Fr_below : (rm_Fr_below).frames + 1 ≤ rm_Ma_await.frames ∧ 8 + (3 + 11) + (rm_Fr_below).locals ≤ rm_Ma_await.locals := by
  show 0 + 1 ≤ 3 ∧ 8 + (3 + 11) + 0 ≤ 62
  decide
theorem rm_Ma_await_Te_tag : (rm_Te_tag).frames + 1 ≤ rm_Ma_await.frames ∧ 8 + (2 + 11) + (rm_Te_tag).locals ≤ rm_Ma_await.locals := by
  show 0 + 1 ≤ 3 ∧ 8 + (2 + 11) + 0 ≤ 62
  decide
theorem rm_Ma_await_Ma_atom : (rm_Ma_atom).frames + 1 ≤ rm_Ma_await.frames ∧ 8 + (1 + 11) + (rm_Ma_atom).locals ≤ rm_Ma_await.locals := by
  show 1 + 1 ≤ 3 ∧ 8 + (1 + 11) + 21 ≤ 62
  decide
theorem rm_Ma_await_Ma_wrong : (rm_Ma_wrong).frames + 1 ≤ rm_Ma_await.frames ∧ 8 + (2 + 11) + (rm_Ma_wrong).locals ≤ rm_Ma_await.locals := by
  show 2 + 1 ≤ 3 ∧ 8 + (2 + 11) + 41 ≤ 62
  decide
theorem rm_Ma_await_Fr_drop : (rm_Fr_drop).frames + 1 ≤ rm_Ma_await.frames ∧ 8 + (2 + 11) + (rm_Fr_drop).locals ≤ rm_Ma_await.locals := by
  show 1 + 1 ≤ 3 ∧ 8 + (2 + 11) + 23 ≤ 62
  decide
def fb_Ma_await_104 (N : Nat) (G : Unit) (u : CS) (v0 : Nat) : Option (CS × Unit) := bo (gI u v0 5 5) (fun r1 => bo (pF u v0 5 5 (.inl (r1 + 2))) (fun w2 => some (w2, ())))
set_option maxRecDepth 100000 in
set_option maxHeartbeats 4000000 in
theorem wb_Ma_await_104 {p : Program} {l : Launch} {e : Env} {s : State} {m : MethodId} {args : Array Value} {below : List Frame} {meth : Method} {c : Code} {s0 : State} {b0 : Nat} {D : va_G} {cB cI cJ cZ cS cP : ClassId} {A : Nat → Prop} {sk sv : Nat → Nat} {ad : Nat → Nat} (C0 : XCx p s s0 b0 m args meth c R_Ma b_Ma_await 5 none D cB cI cJ cZ cS cP A) (hE : ENV s0 b0 sk sv) (N : Nat) (G : Unit) (hG : True) : ∀ (u : CS) (v0 : Nat) (x : CS × Unit), fb_Ma_await_104 N G u v0 = some x → ∀ (H : Heap) (locs : List Loc), va_P D cls (wC cB cI cJ cZ cS cP ad u) H → va_D A (wC cB cI cJ cZ cS cP ad u) → va_S A s.heap H locs → ∀ (ls : Array Slot), lv_has ls 5 [(0, .ref (ad v0))] → W p l e rm_Ma_await s m args below meth c H locs 0 0 (MQ below (xQ0 D cB cI cJ cZ cS cP A ad x.1 none) args s 0 0 A) (F0 m 104 ls []) := by
  intro u v0 x hf H locs hP hD hS ls hl
  obtain ⟨hx, hb, hr, hml, ht, hown, hK, hA, hlocks, hA0, hO, hbs⟩ := id C0
  unfold fb_Ma_await_104 at hf
  refine lv_aload_n hx hb d_Ma_await_104 rfl (lv_at hl 0 rfl) ?_
  refine lv_dup hx hb d_Ma_await_105 rfl ?_
  obtain ⟨r1, g1, hf⟩ := bo_some hf
  refine xg_I (i := v0) (k := 5) hx hb ht hown ck_Ma hK hP (by decide) fk_Ma_40 g1 d_Ma_await_106 ?_
  refine lv_iconst (v := 2) hx hb d_Ma_await_109 (by decide) ?_
  refine lv_iadd hx hb d_Ma_await_110 ?_
  obtain ⟨w2, g2, hf⟩ := bo_some hf
  refine xp (i := v0) (k := 5) (v := (.inl (r1 + 2))) hx hb ht hown ck_Ma hK hP hD hS (by decide) fk_Ma_40 rfl g2 rfl rfl d_Ma_await_111 (fun H locs hP hD hS => ?_)
  exact xr0_v C0 hP hD hS hf d_Ma_await_114
def fb_Ma_await_96 (N : Nat) (G : Unit) (u : CS) (v0 : Nat) : Option (CS × Unit) := bo (gR u v0 5 4) (fun r3 => bo r3 (fun j5 => ck (isO u j5 4) (bx (fm_Fr_drop N u j5 1) (fun u4 r4 => fb_Ma_await_104 N G u4 (v0)))))
set_option maxRecDepth 100000 in
set_option maxHeartbeats 4000000 in
theorem wb_Ma_await_96 {p : Program} {l : Launch} {e : Env} {s : State} {m : MethodId} {args : Array Value} {below : List Frame} {meth : Method} {c : Code} {s0 : State} {b0 : Nat} {D : va_G} {cB cI cJ cZ cS cP : ClassId} {A : Nat → Prop} {sk sv : Nat → Nat} {ad : Nat → Nat} (C0 : XCx p s s0 b0 m args meth c R_Ma b_Ma_await 5 none D cB cI cJ cZ cS cP A) (hE : ENV s0 b0 sk sv) (N : Nat) (G : Unit) (hG : True) : ∀ (u : CS) (v0 : Nat) (x : CS × Unit), fb_Ma_await_96 N G u v0 = some x → ∀ (H : Heap) (locs : List Loc), va_P D cls (wC cB cI cJ cZ cS cP ad u) H → va_D A (wC cB cI cJ cZ cS cP ad u) → va_S A s.heap H locs → ∀ (ls : Array Slot), lv_has ls 5 [(0, .ref (ad v0))] → W p l e rm_Ma_await s m args below meth c H locs 0 0 (MQ below (xQ0 D cB cI cJ cZ cS cP A ad x.1 none) args s 0 0 A) (F0 m 96 ls []) := by
  intro u v0 x hf H locs hP hD hS ls hl
  obtain ⟨hx, hb, hr, hml, ht, hown, hK, hA, hlocks, hA0, hO, hbs⟩ := id C0
  unfold fb_Ma_await_96 at hf
  refine lv_aload_n hx hb d_Ma_await_96 rfl (lv_at hl 0 rfl) ?_
  obtain ⟨r3, g3, hf⟩ := bo_some hf
  refine xg_R (i := v0) (k := 4) hx hb ht hown ck_Ma hK hP (by decide) fk_Ma_33 g3 d_Ma_await_97 ?_
  refine lv_iconst (v := 1) hx hb d_Ma_await_100 (by decide) ?_
  obtain ⟨j5, ej5, hf⟩ := bo_some hf
  rw [ej5]
  obtain ⟨hO9, hf⟩ := ck_some hf
  obtain ⟨u4, r4, hc4, hf⟩ := bx_some hf
  refine xV0 (i := j5) (As := [.int 1]) (rest := []) C0 hP hD hS ck_Fr hO9 (c_Fr_drop N hE hc4) k_Fr_drop (wd_of 1748 (by decide +kernel) rfl) hi_Fr_drop hs_Fr_drop hini_Fr rfl rfl hd_Fr_drop rfl rm_Ma_await_Fr_drop hl.1 (Nat.le_of_ble_eq_true rfl) d_Ma_await_101 rfl ⟨Nat.zero_le _, Nat.zero_le _⟩ (fun H locs hP hD hS => ?_)
  exact wb_Ma_await_104 C0 hE N G hG _ _ _ hf H locs hP hD hS ls (lv_sub hl [0] rfl)
def fb_Ma_await_72 (N : Nat) (G : Unit) (u : CS) (v0 : Nat) (v2 : Int64) (v4 : Int32) : Option (CS × Unit) := br (decide (v4 = 0)) (fb_Ma_await_96 N G u (v0)) (bo (gR u v0 5 3) (fun r6 => bo (gR u v0 5 1) (fun r7 => bo r7 (fun j8 => bo (gI u j8 12 4) (fun r9 => bo r6 (fun j10 => bo (pF u j10 7 10 (.inr (.inl (r9.toInt64 + (v2.toInt32).toInt64)))) (fun w11 => fb_Ma_await_96 N G w11 (v0))))))))
set_option maxRecDepth 100000 in
set_option maxHeartbeats 4000000 in
theorem wb_Ma_await_72 {p : Program} {l : Launch} {e : Env} {s : State} {m : MethodId} {args : Array Value} {below : List Frame} {meth : Method} {c : Code} {s0 : State} {b0 : Nat} {D : va_G} {cB cI cJ cZ cS cP : ClassId} {A : Nat → Prop} {sk sv : Nat → Nat} {ad : Nat → Nat} (C0 : XCx p s s0 b0 m args meth c R_Ma b_Ma_await 5 none D cB cI cJ cZ cS cP A) (hE : ENV s0 b0 sk sv) (N : Nat) (G : Unit) (hG : True) : ∀ (u : CS) (v0 : Nat) (v2 : Int64) (v4 : Int32) (x : CS × Unit), fb_Ma_await_72 N G u v0 v2 v4 = some x → ∀ (H : Heap) (locs : List Loc), va_P D cls (wC cB cI cJ cZ cS cP ad u) H → va_D A (wC cB cI cJ cZ cS cP ad u) → va_S A s.heap H locs → ∀ (ls : Array Slot), lv_has ls 5 [(0, .ref (ad v0)), (2, .long v2), (4, .int v4)] → W p l e rm_Ma_await s m args below meth c H locs 0 0 (MQ below (xQ0 D cB cI cJ cZ cS cP A ad x.1 none) args s 0 0 A) (F0 m 72 ls []) := by
  intro u v0 v2 v4 x hf H locs hP hD hS ls hl
  obtain ⟨hx, hb, hr, hml, ht, hown, hK, hA, hlocks, hA0, hO, hbs⟩ := id C0
  unfold fb_Ma_await_72 at hf
  refine lv_iload hx hb d_Ma_await_72 (lv_at hl 2 rfl) ?_
  refine lv_if_eq (tgt := 96) hx hb d_Ma_await_74 (by decide) (fun hc => ?_) (fun hc => ?_)
  · rw [br_p _ hc] at hf
    exact wb_Ma_await_96 C0 hE N G hG _ _ _ hf H locs hP hD hS ls (lv_sub hl [0] rfl)
  · rw [br_n _ hc] at hf
    refine lv_aload_n hx hb d_Ma_await_77 rfl (lv_at hl 0 rfl) ?_
    obtain ⟨r6, g6, hf⟩ := bo_some hf
    refine xg_R (i := v0) (k := 3) hx hb ht hown ck_Ma hK hP (by decide) fk_Ma_23 g6 d_Ma_await_78 ?_
    refine lv_aload_n hx hb d_Ma_await_81 rfl (lv_at hl 0 rfl) ?_
    obtain ⟨r7, g7, hf⟩ := bo_some hf
    refine xg_R (i := v0) (k := 1) hx hb ht hown ck_Ma hK hP (by decide) fk_Ma_15 g7 d_Ma_await_82 ?_
    obtain ⟨j8, ej8, hf⟩ := bo_some hf
    rw [ej8]
    obtain ⟨r9, g9, hf⟩ := bo_some hf
    refine xg_I (i := j8) (k := 4) hx hb ht hown ck_Wl hK hP (by decide) fk_Ma_402 g9 d_Ma_await_85 ?_
    refine lv_i2l hx hb d_Ma_await_88 rfl ?_
    refine lv_lload_n hx hb d_Ma_await_89 rfl (lv_at hl 1 rfl) ?_
    refine lv_l2i hx hb d_Ma_await_90 rfl ?_
    refine lv_i2l hx hb d_Ma_await_91 rfl ?_
    refine lv_ladd hx hb d_Ma_await_92 ?_
    obtain ⟨j10, ej10, hf⟩ := bo_some hf
    rw [ej10]
    obtain ⟨w11, g11, hf⟩ := bo_some hf
    refine xp (i := j10) (k := 10) (v := (.inr (.inl (r9.toInt64 + (v2.toInt32).toInt64)))) hx hb ht hown ck_Pr hK hP hD hS (by decide) fk_Ma_399 rfl g11 rfl rfl d_Ma_await_93 (fun H locs hP hD hS => ?_)
    exact wb_Ma_await_96 C0 hE N G hG _ _ _ hf H locs hP hD hS ls (lv_sub hl [0] rfl)
def fb_Ma_await_48 (N : Nat) (G : Unit) (u : CS) (v0 : Nat) (v2 : Int64) (t0 : Int32) : Option (CS × Unit) := br (decide (t0 = 0)) (bx (fm_Ma_atom N u 10) (fun u12 r12 => br (decide ((lg_cmp v2 r12) = 0)) (fb_Ma_await_72 N G u12 (v0) (v2) (t0)) (ck (isO u12 v0 5) (bx (fm_Ma_wrong N u12 v0 11) (fun u13 r13 => some (u13, ())))))) (fb_Ma_await_72 N G u (v0) (v2) (t0))
set_option maxRecDepth 100000 in
set_option maxHeartbeats 4000000 in
theorem wb_Ma_await_48 {p : Program} {l : Launch} {e : Env} {s : State} {m : MethodId} {args : Array Value} {below : List Frame} {meth : Method} {c : Code} {s0 : State} {b0 : Nat} {D : va_G} {cB cI cJ cZ cS cP : ClassId} {A : Nat → Prop} {sk sv : Nat → Nat} {ad : Nat → Nat} (C0 : XCx p s s0 b0 m args meth c R_Ma b_Ma_await 5 none D cB cI cJ cZ cS cP A) (hE : ENV s0 b0 sk sv) (N : Nat) (G : Unit) (hG : True) : ∀ (u : CS) (v0 : Nat) (v2 : Int64) (t0 : Int32) (x : CS × Unit), fb_Ma_await_48 N G u v0 v2 t0 = some x → ∀ (H : Heap) (locs : List Loc), va_P D cls (wC cB cI cJ cZ cS cP ad u) H → va_D A (wC cB cI cJ cZ cS cP ad u) → va_S A s.heap H locs → ∀ (ls : Array Slot), lv_has ls 5 [(0, .ref (ad v0)), (2, .long v2)] → W p l e rm_Ma_await s m args below meth c H locs 0 0 (MQ below (xQ0 D cB cI cJ cZ cS cP A ad x.1 none) args s 0 0 A) (F0 m 48 ls [.int t0]) := by
  intro u v0 v2 t0 x hf H locs hP hD hS ls hl
  obtain ⟨hx, hb, hr, hml, ht, hown, hK, hA, hlocks, hA0, hO, hbs⟩ := id C0
  unfold fb_Ma_await_48 at hf
  refine lv_istore (lv' := [(4, .int t0), (0, .ref (ad v0)), (2, .long v2)]) hx hb d_Ma_await_48 hl (by decide) (by first | rfl | simp [List.filter, cat_rf]) (fun ls hl => ?_)
  refine lv_iload hx hb d_Ma_await_50 (lv_at hl 0 rfl) ?_
  refine lv_if_ne (tgt := 72) hx hb d_Ma_await_52 (by decide) (fun hc => ?_) (fun hc => ?_)
  · rw [br_n _ hc] at hf
    exact wb_Ma_await_72 C0 hE N G hG _ _ _ _ _ hf H locs hP hD hS ls (lv_sub hl [1, 2, 0] rfl)
  · rw [br_p _ hc] at hf
    refine lv_lload_n hx hb d_Ma_await_55 rfl (lv_at hl 2 rfl) ?_
    refine lv_bipush (v := 10) hx hb d_Ma_await_56 (by decide) ?_
    obtain ⟨u12, r12, hc12, hf⟩ := bx_some hf
    refine xS0 (As := [.int 10]) (rest := [.long v2]) C0 hP hD hS (c_Ma_atom N hc12) k_Ma_atom (wd_of 1668 (by decide +kernel) rfl) ht_Ma_atom hini_Ma rfl rfl hd_Ma_atom rfl rm_Ma_await_Ma_atom hl.1 (Nat.le_of_ble_eq_true rfl) d_Ma_await_58 rfl ⟨Nat.zero_le _, Nat.zero_le _⟩ (fun H locs hP hD hS => ?_)
    refine W.lcmp hx hb d_Ma_await_61 ?_
    refine lv_if_eq (tgt := 72) hx hb d_Ma_await_62 (by decide) (fun hc => ?_) (fun hc => ?_)
    · rw [br_p _ hc] at hf
      exact wb_Ma_await_72 C0 hE N G hG _ _ _ _ _ hf H locs hP hD hS ls (lv_sub hl [1, 2, 0] rfl)
    · rw [br_n _ hc] at hf
      refine lv_aload_n hx hb d_Ma_await_65 rfl (lv_at hl 1 rfl) ?_
      refine lv_bipush (v := 11) hx hb d_Ma_await_66 (by decide) ?_
      obtain ⟨hO9, hf⟩ := ck_some hf
      obtain ⟨u13, r13, hc13, hf⟩ := bx_some hf
      refine xV0 (i := v0) (As := [.int 11]) (rest := []) C0 hP hD hS ck_Ma hO9 (c_Ma_wrong N hc13) k_Ma_wrong (wd_of 1664 (by decide +kernel) rfl) hi_Ma_wrong hs_Ma_wrong hini_Ma rfl rfl hd_Ma_wrong rfl rm_Ma_await_Ma_wrong hl.1 (Nat.le_of_ble_eq_true rfl) d_Ma_await_68 rfl ⟨Nat.zero_le _, Nat.zero_le _⟩ (fun H locs hP hD hS => ?_)
      exact xr0_v C0 hP hD hS hf d_Ma_await_71
def fb_Ma_await_47 (N : Nat) (G : Unit) (u : CS) (v0 : Nat) (v2 : Int64) : Option (CS × Unit) := fb_Ma_await_48 N G u (v0) (v2) (0)
set_option maxRecDepth 100000 in
set_option maxHeartbeats 4000000 in
theorem wb_Ma_await_47 {p : Program} {l : Launch} {e : Env} {s : State} {m : MethodId} {args : Array Value} {below : List Frame} {meth : Method} {c : Code} {s0 : State} {b0 : Nat} {D : va_G} {cB cI cJ cZ cS cP : ClassId} {A : Nat → Prop} {sk sv : Nat → Nat} {ad : Nat → Nat} (C0 : XCx p s s0 b0 m args meth c R_Ma b_Ma_await 5 none D cB cI cJ cZ cS cP A) (hE : ENV s0 b0 sk sv) (N : Nat) (G : Unit) (hG : True) : ∀ (u : CS) (v0 : Nat) (v2 : Int64) (x : CS × Unit), fb_Ma_await_47 N G u v0 v2 = some x → ∀ (H : Heap) (locs : List Loc), va_P D cls (wC cB cI cJ cZ cS cP ad u) H → va_D A (wC cB cI cJ cZ cS cP ad u) → va_S A s.heap H locs → ∀ (ls : Array Slot), lv_has ls 5 [(0, .ref (ad v0)), (2, .long v2)] → W p l e rm_Ma_await s m args below meth c H locs 0 0 (MQ below (xQ0 D cB cI cJ cZ cS cP A ad x.1 none) args s 0 0 A) (F0 m 47 ls []) := by
  intro u v0 v2 x hf H locs hP hD hS ls hl
  obtain ⟨hx, hb, hr, hml, ht, hown, hK, hA, hlocks, hA0, hO, hbs⟩ := id C0
  unfold fb_Ma_await_47 at hf
  refine lv_iconst (v := 0) hx hb d_Ma_await_47 (by decide) ?_
  exact wb_Ma_await_48 C0 hE N G hG _ _ _ _ _ hf H locs hP hD hS ls (lv_sub hl [0, 1] rfl)
def fb_Ma_await_0 (N : Nat) (G : Unit) (u : CS) (v0 : Nat) (v1 : Int32) : Option (CS × Unit) := bo (gR u v0 5 3) (fun r14 => bo r14 (fun j15 => bo (pF u j15 7 8 (.inl 0)) (fun w16 => bo (gR w16 v0 5 3) (fun r17 => bo r17 (fun j18 => bo (pF w16 j18 7 10 (.inr (.inl (-1)))) (fun w19 => br (decide (v1 = 0)) (fb_Ma_await_104 N G w19 (v0)) (bo (gR w19 v0 5 4) (fun r20 => bo r20 (fun j22 => ck (isO w19 j22 4) (bx (fm_Fr_below N w19 j22 0) (fun u21 r21 => bx (fm_Te_tag N u21 r21) (fun u23 r23 => br (decide (r23 = 0)) (br (decide (r21.toInt32 < 0)) (fb_Ma_await_47 N G u23 (v0) (r21)) (fb_Ma_await_48 N G u23 (v0) (r21) (1))) (fb_Ma_await_47 N G u23 (v0) (r21))))))))))))))
set_option maxRecDepth 100000 in
set_option maxHeartbeats 4000000 in
theorem wb_Ma_await_0 {p : Program} {l : Launch} {e : Env} {s : State} {m : MethodId} {args : Array Value} {below : List Frame} {meth : Method} {c : Code} {s0 : State} {b0 : Nat} {D : va_G} {cB cI cJ cZ cS cP : ClassId} {A : Nat → Prop} {sk sv : Nat → Nat} {ad : Nat → Nat} (C0 : XCx p s s0 b0 m args meth c R_Ma b_Ma_await 5 none D cB cI cJ cZ cS cP A) (hE : ENV s0 b0 sk sv) (N : Nat) (G : Unit) (hG : True) : ∀ (u : CS) (v0 : Nat) (v1 : Int32) (x : CS × Unit), fb_Ma_await_0 N G u v0 v1 = some x → ∀ (H : Heap) (locs : List Loc), va_P D cls (wC cB cI cJ cZ cS cP ad u) H → va_D A (wC cB cI cJ cZ cS cP ad u) → va_S A s.heap H locs → ∀ (ls : Array Slot), lv_has ls 5 [(0, .ref (ad v0)), (1, .int v1)] → W p l e rm_Ma_await s m args below meth c H locs 0 0 (MQ below (xQ0 D cB cI cJ cZ cS cP A ad x.1 none) args s 0 0 A) (F0 m 0 ls []) := by
  intro u v0 v1 x hf H locs hP hD hS ls hl
  obtain ⟨hx, hb, hr, hml, ht, hown, hK, hA, hlocks, hA0, hO, hbs⟩ := id C0
  unfold fb_Ma_await_0 at hf
  refine lv_aload_n hx hb d_Ma_await_0 rfl (lv_at hl 0 rfl) ?_
  obtain ⟨r14, g14, hf⟩ := bo_some hf
  refine xg_R (i := v0) (k := 3) hx hb ht hown ck_Ma hK hP (by decide) fk_Ma_23 g14 d_Ma_await_1 ?_
  refine lv_iconst (v := 0) hx hb d_Ma_await_4 (by decide) ?_
  obtain ⟨j15, ej15, hf⟩ := bo_some hf
  rw [ej15]
  obtain ⟨w16, g16, hf⟩ := bo_some hf
  refine xp (i := j15) (k := 8) (v := (.inl 0)) hx hb ht hown ck_Pr hK hP hD hS (by decide) fk_Ma_321 rfl g16 rfl rfl d_Ma_await_5 (fun H locs hP hD hS => ?_)
  refine lv_aload_n hx hb d_Ma_await_8 rfl (lv_at hl 0 rfl) ?_
  obtain ⟨r17, g17, hf⟩ := bo_some hf
  refine xg_R (i := v0) (k := 3) hx hb ht hown ck_Ma hK hP (by decide) fk_Ma_23 g17 d_Ma_await_9 ?_
  refine lv_ldc2 (v := (-1)) hx hb hown (ht _ (wd_of 2020 (by decide +kernel) rfl)) d_Ma_await_12 ?_
  obtain ⟨j18, ej18, hf⟩ := bo_some hf
  rw [ej18]
  obtain ⟨w19, g19, hf⟩ := bo_some hf
  refine xp (i := j18) (k := 10) (v := (.inr (.inl (-1)))) hx hb ht hown ck_Pr hK hP hD hS (by decide) fk_Ma_399 rfl g19 rfl rfl d_Ma_await_15 (fun H locs hP hD hS => ?_)
  refine lv_iload_n hx hb d_Ma_await_18 rfl (lv_at hl 1 rfl) ?_
  refine lv_if_eq (tgt := 104) hx hb d_Ma_await_19 (by decide) (fun hc => ?_) (fun hc => ?_)
  · rw [br_p _ hc] at hf
    exact wb_Ma_await_104 C0 hE N G hG _ _ _ hf H locs hP hD hS ls (lv_sub hl [0] rfl)
  · rw [br_n _ hc] at hf
    refine lv_aload_n hx hb d_Ma_await_22 rfl (lv_at hl 0 rfl) ?_
    obtain ⟨r20, g20, hf⟩ := bo_some hf
    refine xg_R (i := v0) (k := 4) hx hb ht hown ck_Ma hK hP (by decide) fk_Ma_33 g20 d_Ma_await_23 ?_
    refine lv_iconst (v := 0) hx hb d_Ma_await_26 (by decide) ?_
    obtain ⟨j22, ej22, hf⟩ := bo_some hf
    rw [ej22]
    obtain ⟨hO9, hf⟩ := ck_some hf
    obtain ⟨u21, r21, hc21, hf⟩ := bx_some hf
    refine xV0 (i := j22) (As := [.int 0]) (rest := []) C0 hP hD hS ck_Fr hO9 (c_Fr_below N hc21) k_Fr_below (wd_of 1653 (by decide +kernel) rfl) hi_Fr_below hs_Fr_below hini_Fr rfl rfl hd_Fr_below rfl rm_Ma_await_Fr_below hl.1 (Nat.le_of_ble_eq_true rfl) d_Ma_await_27 rfl ⟨Nat.zero_le _, Nat.zero_le _⟩ (fun H locs hP hD hS => ?_)
    refine lv_lstore_n (lv' := [(2, .long r21), (0, .ref (ad v0)), (1, .int v1)]) hx hb d_Ma_await_30 rfl hl (by decide) (by first | rfl | simp [List.filter, cat_rf]) (fun ls hl => ?_)
    refine lv_lload_n hx hb d_Ma_await_31 rfl (lv_at hl 0 rfl) ?_
    obtain ⟨u23, r23, hc23, hf⟩ := bx_some hf
    refine xS0 (As := [.long r21]) (rest := []) C0 hP hD hS (c_Te_tag N hc23) k_Te_tag (wd_of 1657 (by decide +kernel) rfl) ht_Te_tag hini_Te rfl rfl hd_Te_tag rfl rm_Ma_await_Te_tag hl.1 (Nat.le_of_ble_eq_true rfl) d_Ma_await_32 rfl ⟨Nat.zero_le _, Nat.zero_le _⟩ (fun H locs hP hD hS => ?_)
    refine lv_if_ne (tgt := 47) hx hb d_Ma_await_35 (by decide) (fun hc => ?_) (fun hc => ?_)
    · rw [br_n _ hc] at hf
      exact wb_Ma_await_47 C0 hE N G hG _ _ _ _ hf H locs hP hD hS ls (lv_sub hl [1, 0] rfl)
    · rw [br_p _ hc] at hf
      refine lv_lload_n hx hb d_Ma_await_38 rfl (lv_at hl 0 rfl) ?_
      refine lv_l2i hx hb d_Ma_await_39 rfl ?_
      refine lv_if_lt (tgt := 47) hx hb d_Ma_await_40 (by decide) (fun hc => ?_) (fun hc => ?_)
      · rw [br_p _ hc] at hf
        exact wb_Ma_await_47 C0 hE N G hG _ _ _ _ hf H locs hP hD hS ls (lv_sub hl [1, 0] rfl)
      · rw [br_n _ hc] at hf
        refine lv_iconst (v := 1) hx hb d_Ma_await_43 (by decide) ?_
        refine lv_goto (tgt := 48) hx hb d_Ma_await_44 (by decide) ?_
        exact wb_Ma_await_48 C0 hE N G hG _ _ _ _ _ hf H locs hP hD hS ls (lv_sub hl [1, 0] rfl)
def fm_Ma_await (N : Nat) (u : CS) (v0 : Nat) (v1 : Int32) : Option (CS × Unit) := fb_Ma_await_0 N () u v0 v1
set_option maxRecDepth 100000 in
set_option maxHeartbeats 4000000 in
theorem c_Ma_await (N : Nat) {l : Launch} {s0 : State} {b0 : Nat} {D : va_G} {cB cI cJ cZ cS cP : ClassId} {sk sv : Nat → Nat} {ad : Nat → Nat} {u : CS} {sz : Nat} {v0 : Nat} {v1 : Int32} {x : CS × Unit} (hE : ENV s0 b0 sk sv) (hf : fm_Ma_await N u v0 v1 = some x) : Met l y_Ma_await (wd_ws y_Ma_await b_Ma_await 5 none) rm_Ma_await (xPc s0 b0 D cB cI cJ cZ cS cP ad u sz [.ref (ad v0), .int v1]) (xQ0 D cB cI cJ cZ cS cP (xA cB cI cJ cZ cS cP ad u sz) ad x.1 none) 0 0 (xA cB cI cJ cZ cS cP ad u sz) :=
  xMet (by decide) rfl (Nat.le_of_ble_eq_true rfl) (fun p e s m below meth c ls hsz hnm C0 hP hD hS hl =>
    wb_Ma_await_0 C0 hE N () trivial u _ _ x hf s.heap [] hP hD hS ls (lv_sub hl [0, 1] rfl))
abbrev b_Pr_takeMessage : ByteArray := prog_7_method_8_code
def y_Pr_takeMessage : MethodName := ⟨R_Pr, "takeMessage", "()V"⟩
def w_Pr_takeMessage : List Cond := wd_ws y_Pr_takeMessage b_Pr_takeMessage 1 none
set_option maxRecDepth 100000 in
theorem k_Pr_takeMessage : Cond.code y_Pr_takeMessage b_Pr_takeMessage 1 none ∈ wd_tbl := wd_of 2029 rfl rfl
theorem d_Pr_takeMessage_0 : decode b_Pr_takeMessage 0 = .ok (.aload_n 0, 1) := by decide +kernel
theorem d_Pr_takeMessage_1 : decode b_Pr_takeMessage 1 = .ok (.getfield 48, 3) := by decide +kernel
theorem d_Pr_takeMessage_4 : decode b_Pr_takeMessage 4 = .ok (.aload_n 0, 1) := by decide +kernel
theorem d_Pr_takeMessage_5 : decode b_Pr_takeMessage 5 = .ok (.getfield 45, 3) := by decide +kernel
theorem d_Pr_takeMessage_8 : decode b_Pr_takeMessage 8 = .ok (.if_icmp .ge 45, 3) := by decide +kernel
theorem d_Pr_takeMessage_11 : decode b_Pr_takeMessage 11 = .ok (.aload_n 0, 1) := by decide +kernel
theorem d_Pr_takeMessage_12 : decode b_Pr_takeMessage 12 = .ok (.getfield 25, 3) := by decide +kernel
theorem d_Pr_takeMessage_15 : decode b_Pr_takeMessage 15 = .ok (.aload_n 0, 1) := by decide +kernel
theorem d_Pr_takeMessage_16 : decode b_Pr_takeMessage 16 = .ok (.getfield 48, 3) := by decide +kernel
theorem d_Pr_takeMessage_19 : decode b_Pr_takeMessage 19 = .ok (.iconst 1, 1) := by decide +kernel
theorem d_Pr_takeMessage_20 : decode b_Pr_takeMessage 20 = .ok (.iadd, 1) := by decide +kernel
theorem d_Pr_takeMessage_21 : decode b_Pr_takeMessage 21 = .ok (.aload_n 0, 1) := by decide +kernel
theorem d_Pr_takeMessage_22 : decode b_Pr_takeMessage 22 = .ok (.getfield 25, 3) := by decide +kernel
theorem d_Pr_takeMessage_25 : decode b_Pr_takeMessage 25 = .ok (.aload_n 0, 1) := by decide +kernel
theorem d_Pr_takeMessage_26 : decode b_Pr_takeMessage 26 = .ok (.getfield 48, 3) := by decide +kernel
theorem d_Pr_takeMessage_29 : decode b_Pr_takeMessage 29 = .ok (.aload_n 0, 1) := by decide +kernel
theorem d_Pr_takeMessage_30 : decode b_Pr_takeMessage 30 = .ok (.getfield 45, 3) := by decide +kernel
theorem d_Pr_takeMessage_33 : decode b_Pr_takeMessage 33 = .ok (.aload_n 0, 1) := by decide +kernel
theorem d_Pr_takeMessage_34 : decode b_Pr_takeMessage 34 = .ok (.getfield 48, 3) := by decide +kernel
theorem d_Pr_takeMessage_37 : decode b_Pr_takeMessage 37 = .ok (.isub, 1) := by decide +kernel
theorem d_Pr_takeMessage_38 : decode b_Pr_takeMessage 38 = .ok (.iconst 1, 1) := by decide +kernel
theorem d_Pr_takeMessage_39 : decode b_Pr_takeMessage 39 = .ok (.isub, 1) := by decide +kernel
theorem d_Pr_takeMessage_40 : decode b_Pr_takeMessage 40 = .ok (.invokestatic 101, 3) := by decide +kernel
theorem d_Pr_takeMessage_43 : decode b_Pr_takeMessage 43 = .ok (.aload_n 0, 1) := by decide +kernel
theorem d_Pr_takeMessage_44 : decode b_Pr_takeMessage 44 = .ok (.dup, 1) := by decide +kernel
theorem d_Pr_takeMessage_45 : decode b_Pr_takeMessage 45 = .ok (.getfield 45, 3) := by decide +kernel
theorem d_Pr_takeMessage_48 : decode b_Pr_takeMessage 48 = .ok (.iconst 1, 1) := by decide +kernel
theorem d_Pr_takeMessage_49 : decode b_Pr_takeMessage 49 = .ok (.isub, 1) := by decide +kernel
theorem d_Pr_takeMessage_50 : decode b_Pr_takeMessage 50 = .ok (.putfield 45, 3) := by decide +kernel
theorem d_Pr_takeMessage_53 : decode b_Pr_takeMessage 53 = .ok (.aload_n 0, 1) := by decide +kernel
theorem d_Pr_takeMessage_54 : decode b_Pr_takeMessage 54 = .ok (.iconst 0, 1) := by decide +kernel
theorem d_Pr_takeMessage_55 : decode b_Pr_takeMessage 55 = .ok (.putfield 48, 3) := by decide +kernel
theorem d_Pr_takeMessage_58 : decode b_Pr_takeMessage 58 = .ok (.aload_n 0, 1) := by decide +kernel
theorem d_Pr_takeMessage_59 : decode b_Pr_takeMessage 59 = .ok (.ldc2_w 54, 3) := by decide +kernel
theorem d_Pr_takeMessage_62 : decode b_Pr_takeMessage 62 = .ok (.putfield 56, 3) := by decide +kernel
theorem d_Pr_takeMessage_65 : decode b_Pr_takeMessage 65 = .ok (.return_, 1) := by decide +kernel
set_option maxRecDepth 100000 in
theorem hi_Pr_takeMessage : Cond.instanceMethod y_Pr_takeMessage ∈ wd_tbl := wd_of 2027 (by decide +kernel) rfl
set_option maxRecDepth 100000 in
theorem hs_Pr_takeMessage : Cond.selects R_Pr y_Pr_takeMessage y_Pr_takeMessage ∈ wd_tbl := wd_of 2028 (by decide +kernel) rfl
theorem hd_Pr_takeMessage : y_Pr_takeMessage.cls = R_Pr ∧ y_Pr_takeMessage.cls ≠ "java/lang/invoke/MethodHandle" ∧ y_Pr_takeMessage.cls ≠ "java/lang/invoke/VarHandle" ∧ (parseMethodDescriptor y_Pr_takeMessage.desc).map (fun d => d.parameters.length) = some 0 := by decide +kernel
def rm_Pr_takeMessage : Room := { frames := 1, cells := 0, slots := 0, locals := 48 }
def fb_Pr_takeMessage_53 (N : Nat) (G : Unit) (u : CS) (v0 : Nat) : Option (CS × Unit) := bo (pF u v0 7 8 (.inl 0)) (fun w1 => bo (pF w1 v0 7 10 (.inr (.inl (-1)))) (fun w2 => some (w2, ())))
set_option maxRecDepth 100000 in
set_option maxHeartbeats 4000000 in
theorem wb_Pr_takeMessage_53 {p : Program} {l : Launch} {e : Env} {s : State} {m : MethodId} {args : Array Value} {below : List Frame} {meth : Method} {c : Code} {s0 : State} {b0 : Nat} {D : va_G} {cB cI cJ cZ cS cP : ClassId} {A : Nat → Prop} {sk sv : Nat → Nat} {ad : Nat → Nat} (C0 : XCx p s s0 b0 m args meth c R_Pr b_Pr_takeMessage 1 none D cB cI cJ cZ cS cP A) (hE : ENV s0 b0 sk sv) (N : Nat) (G : Unit) (hG : True) : ∀ (u : CS) (v0 : Nat) (x : CS × Unit), fb_Pr_takeMessage_53 N G u v0 = some x → ∀ (H : Heap) (locs : List Loc), va_P D cls (wC cB cI cJ cZ cS cP ad u) H → va_D A (wC cB cI cJ cZ cS cP ad u) → va_S A s.heap H locs → ∀ (ls : Array Slot), lv_has ls 1 [(0, .ref (ad v0))] → W p l e rm_Pr_takeMessage s m args below meth c H locs 0 0 (MQ below (xQ0 D cB cI cJ cZ cS cP A ad x.1 none) args s 0 0 A) (F0 m 53 ls []) := by
  intro u v0 x hf H locs hP hD hS ls hl
  obtain ⟨hx, hb, hr, hml, ht, hown, hK, hA, hlocks, hA0, hO, hbs⟩ := id C0
  unfold fb_Pr_takeMessage_53 at hf
  refine lv_aload_n hx hb d_Pr_takeMessage_53 rfl (lv_at hl 0 rfl) ?_
  refine lv_iconst (v := 0) hx hb d_Pr_takeMessage_54 (by decide) ?_
  obtain ⟨w1, g1, hf⟩ := bo_some hf
  refine xp (i := v0) (k := 8) (v := (.inl 0)) hx hb ht hown ck_Pr hK hP hD hS (by decide) fk_Pr_48 rfl g1 rfl rfl d_Pr_takeMessage_55 (fun H locs hP hD hS => ?_)
  refine lv_aload_n hx hb d_Pr_takeMessage_58 rfl (lv_at hl 0 rfl) ?_
  refine lv_ldc2 (v := (-1)) hx hb hown (ht _ (wd_of 1313 (by decide +kernel) rfl)) d_Pr_takeMessage_59 ?_
  obtain ⟨w2, g2, hf⟩ := bo_some hf
  refine xp (i := v0) (k := 10) (v := (.inr (.inl (-1)))) hx hb ht hown ck_Pr hK hP hD hS (by decide) fk_Pr_56 rfl g2 rfl rfl d_Pr_takeMessage_62 (fun H locs hP hD hS => ?_)
  exact xr0_v C0 hP hD hS hf d_Pr_takeMessage_65
def fb_Pr_takeMessage_0 (N : Nat) (G : Unit) (u : CS) (v0 : Nat) : Option (CS × Unit) := bo (gI u v0 7 8) (fun r3 => bo (gI u v0 7 7) (fun r4 => br (decide (r4 ≤ r3)) (fb_Pr_takeMessage_53 N G u (v0)) (bo (gR u v0 7 6) (fun r5 => bo (gI u v0 7 8) (fun r6 => bo (gR u v0 7 6) (fun r7 => bo (gI u v0 7 8) (fun r8 => bo (gI u v0 7 7) (fun r9 => bo (gI u v0 7 8) (fun r10 => bo r7 (fun j11 => bo r5 (fun j12 => bo (cpJ u j12 (r6 + 1) j11 r8 ((r9 - r10) - 1)) (fun w13 => bo (gI w13 v0 7 7) (fun r14 => bo (pF w13 v0 7 7 (.inl (r14 - 1))) (fun w15 => fb_Pr_takeMessage_53 N G w15 (v0)))))))))))))))
set_option maxRecDepth 100000 in
set_option maxHeartbeats 4000000 in
theorem wb_Pr_takeMessage_0 {p : Program} {l : Launch} {e : Env} {s : State} {m : MethodId} {args : Array Value} {below : List Frame} {meth : Method} {c : Code} {s0 : State} {b0 : Nat} {D : va_G} {cB cI cJ cZ cS cP : ClassId} {A : Nat → Prop} {sk sv : Nat → Nat} {ad : Nat → Nat} (C0 : XCx p s s0 b0 m args meth c R_Pr b_Pr_takeMessage 1 none D cB cI cJ cZ cS cP A) (hE : ENV s0 b0 sk sv) (N : Nat) (G : Unit) (hG : True) : ∀ (u : CS) (v0 : Nat) (x : CS × Unit), fb_Pr_takeMessage_0 N G u v0 = some x → ∀ (H : Heap) (locs : List Loc), va_P D cls (wC cB cI cJ cZ cS cP ad u) H → va_D A (wC cB cI cJ cZ cS cP ad u) → va_S A s.heap H locs → ∀ (ls : Array Slot), lv_has ls 1 [(0, .ref (ad v0))] → W p l e rm_Pr_takeMessage s m args below meth c H locs 0 0 (MQ below (xQ0 D cB cI cJ cZ cS cP A ad x.1 none) args s 0 0 A) (F0 m 0 ls []) := by
  intro u v0 x hf H locs hP hD hS ls hl
  obtain ⟨hx, hb, hr, hml, ht, hown, hK, hA, hlocks, hA0, hO, hbs⟩ := id C0
  unfold fb_Pr_takeMessage_0 at hf
  refine lv_aload_n hx hb d_Pr_takeMessage_0 rfl (lv_at hl 0 rfl) ?_
  obtain ⟨r3, g3, hf⟩ := bo_some hf
  refine xg_I (i := v0) (k := 8) hx hb ht hown ck_Pr hK hP (by decide) fk_Pr_48 g3 d_Pr_takeMessage_1 ?_
  refine lv_aload_n hx hb d_Pr_takeMessage_4 rfl (lv_at hl 0 rfl) ?_
  obtain ⟨r4, g4, hf⟩ := bo_some hf
  refine xg_I (i := v0) (k := 7) hx hb ht hown ck_Pr hK hP (by decide) fk_Pr_45 g4 d_Pr_takeMessage_5 ?_
  refine lv_icmp_ge (tgt := 53) hx hb d_Pr_takeMessage_8 (by decide) (fun hc => ?_) (fun hc => ?_)
  · rw [br_p _ hc] at hf
    exact wb_Pr_takeMessage_53 C0 hE N G hG _ _ _ hf H locs hP hD hS ls (lv_sub hl [0] rfl)
  · rw [br_n _ hc] at hf
    refine lv_aload_n hx hb d_Pr_takeMessage_11 rfl (lv_at hl 0 rfl) ?_
    obtain ⟨r5, g5, hf⟩ := bo_some hf
    refine xg_R (i := v0) (k := 6) hx hb ht hown ck_Pr hK hP (by decide) fk_Pr_25 g5 d_Pr_takeMessage_12 ?_
    refine lv_aload_n hx hb d_Pr_takeMessage_15 rfl (lv_at hl 0 rfl) ?_
    obtain ⟨r6, g6, hf⟩ := bo_some hf
    refine xg_I (i := v0) (k := 8) hx hb ht hown ck_Pr hK hP (by decide) fk_Pr_48 g6 d_Pr_takeMessage_16 ?_
    refine lv_iconst (v := 1) hx hb d_Pr_takeMessage_19 (by decide) ?_
    refine lv_iadd hx hb d_Pr_takeMessage_20 ?_
    refine lv_aload_n hx hb d_Pr_takeMessage_21 rfl (lv_at hl 0 rfl) ?_
    obtain ⟨r7, g7, hf⟩ := bo_some hf
    refine xg_R (i := v0) (k := 6) hx hb ht hown ck_Pr hK hP (by decide) fk_Pr_25 g7 d_Pr_takeMessage_22 ?_
    refine lv_aload_n hx hb d_Pr_takeMessage_25 rfl (lv_at hl 0 rfl) ?_
    obtain ⟨r8, g8, hf⟩ := bo_some hf
    refine xg_I (i := v0) (k := 8) hx hb ht hown ck_Pr hK hP (by decide) fk_Pr_48 g8 d_Pr_takeMessage_26 ?_
    refine lv_aload_n hx hb d_Pr_takeMessage_29 rfl (lv_at hl 0 rfl) ?_
    obtain ⟨r9, g9, hf⟩ := bo_some hf
    refine xg_I (i := v0) (k := 7) hx hb ht hown ck_Pr hK hP (by decide) fk_Pr_45 g9 d_Pr_takeMessage_30 ?_
    refine lv_aload_n hx hb d_Pr_takeMessage_33 rfl (lv_at hl 0 rfl) ?_
    obtain ⟨r10, g10, hf⟩ := bo_some hf
    refine xg_I (i := v0) (k := 8) hx hb ht hown ck_Pr hK hP (by decide) fk_Pr_48 g10 d_Pr_takeMessage_34 ?_
    refine lv_isub hx hb d_Pr_takeMessage_37 ?_
    refine lv_iconst (v := 1) hx hb d_Pr_takeMessage_38 (by decide) ?_
    refine lv_isub hx hb d_Pr_takeMessage_39 ?_
    obtain ⟨j11, ej11, hf⟩ := bo_some hf
    rw [ej11]
    obtain ⟨j12, ej12, hf⟩ := bo_some hf
    rw [ej12]
    obtain ⟨w13, g13, hf⟩ := bo_some hf
    refine x_cpJ (a0 := j12) (a1 := j11) hx hb (hml.trans hl.1.symm) ht hown (wd_of 1701 (by decide +kernel) rfl) (wd_of 870 (by decide +kernel) rfl) (wd_of 869 (by decide +kernel) rfl) (wd_of 282 (by decide +kernel) rfl) hK hP hD hS g13 (Nat.le_of_ble_eq_true rfl) (Nat.le_of_ble_eq_true rfl) d_Pr_takeMessage_40 (fun H locs hP hD hS => ?_)
    refine lv_aload_n hx hb d_Pr_takeMessage_43 rfl (lv_at hl 0 rfl) ?_
    refine lv_dup hx hb d_Pr_takeMessage_44 rfl ?_
    obtain ⟨r14, g14, hf⟩ := bo_some hf
    refine xg_I (i := v0) (k := 7) hx hb ht hown ck_Pr hK hP (by decide) fk_Pr_45 g14 d_Pr_takeMessage_45 ?_
    refine lv_iconst (v := 1) hx hb d_Pr_takeMessage_48 (by decide) ?_
    refine lv_isub hx hb d_Pr_takeMessage_49 ?_
    obtain ⟨w15, g15, hf⟩ := bo_some hf
    refine xp (i := v0) (k := 7) (v := (.inl (r14 - 1))) hx hb ht hown ck_Pr hK hP hD hS (by decide) fk_Pr_45 rfl g15 rfl rfl d_Pr_takeMessage_50 (fun H locs hP hD hS => ?_)
    exact wb_Pr_takeMessage_53 C0 hE N G hG _ _ _ hf H locs hP hD hS ls (lv_sub hl [0] rfl)
def fm_Pr_takeMessage (N : Nat) (u : CS) (v0 : Nat) : Option (CS × Unit) := fb_Pr_takeMessage_0 N () u v0
set_option maxRecDepth 100000 in
set_option maxHeartbeats 4000000 in
theorem c_Pr_takeMessage (N : Nat) {l : Launch} {s0 : State} {b0 : Nat} {D : va_G} {cB cI cJ cZ cS cP : ClassId} {sk sv : Nat → Nat} {ad : Nat → Nat} {u : CS} {sz : Nat} {v0 : Nat} {x : CS × Unit} (hE : ENV s0 b0 sk sv) (hf : fm_Pr_takeMessage N u v0 = some x) : Met l y_Pr_takeMessage (wd_ws y_Pr_takeMessage b_Pr_takeMessage 1 none) rm_Pr_takeMessage (xPc s0 b0 D cB cI cJ cZ cS cP ad u sz [.ref (ad v0)]) (xQ0 D cB cI cJ cZ cS cP (xA cB cI cJ cZ cS cP ad u sz) ad x.1 none) 0 0 (xA cB cI cJ cZ cS cP ad u sz) :=
  xMet (by decide) rfl (Nat.le_of_ble_eq_true rfl) (fun p e s m below meth c ls hsz hnm C0 hP hD hS hl =>
    wb_Pr_takeMessage_0 C0 hE N () trivial u _ x hf s.heap [] hP hD hS ls (lv_sub hl [0] rfl))
abbrev b_Ma_returns : ByteArray := prog_5_method_46_code
def y_Ma_returns : MethodName := ⟨R_Ma, "returns", "()V"⟩
def w_Ma_returns : List Cond := wd_ws y_Ma_returns b_Ma_returns 3 none
set_option maxRecDepth 100000 in
theorem k_Ma_returns : Cond.code y_Ma_returns b_Ma_returns 3 none ∈ wd_tbl := wd_of 2033 rfl rfl
theorem d_Ma_returns_0 : decode b_Ma_returns 0 = .ok (.aload_n 0, 1) := by decide +kernel
theorem d_Ma_returns_1 : decode b_Ma_returns 1 = .ok (.getfield 33, 3) := by decide +kernel
theorem d_Ma_returns_4 : decode b_Ma_returns 4 = .ok (.getfield 343, 3) := by decide +kernel
theorem d_Ma_returns_7 : decode b_Ma_returns 7 = .ok (.iconst 1, 1) := by decide +kernel
theorem d_Ma_returns_8 : decode b_Ma_returns 8 = .ok (.if_icmp .gt 16, 3) := by decide +kernel
theorem d_Ma_returns_11 : decode b_Ma_returns 11 = .ok (.aload_n 0, 1) := by decide +kernel
theorem d_Ma_returns_12 : decode b_Ma_returns 12 = .ok (.getfield 15, 3) := by decide +kernel
theorem d_Ma_returns_15 : decode b_Ma_returns 15 = .ok (.aload_n 0, 1) := by decide +kernel
theorem d_Ma_returns_16 : decode b_Ma_returns 16 = .ok (.getfield 23, 3) := by decide +kernel
theorem d_Ma_returns_19 : decode b_Ma_returns 19 = .ok (.iconst 4, 1) := by decide +kernel
theorem d_Ma_returns_20 : decode b_Ma_returns 20 = .ok (.invokevirtual 131, 3) := by decide +kernel
theorem d_Ma_returns_23 : decode b_Ma_returns 23 = .ok (.return_, 1) := by decide +kernel
theorem d_Ma_returns_24 : decode b_Ma_returns 24 = .ok (.aload_n 0, 1) := by decide +kernel
theorem d_Ma_returns_25 : decode b_Ma_returns 25 = .ok (.getfield 33, 3) := by decide +kernel
theorem d_Ma_returns_28 : decode b_Ma_returns 28 = .ok (.iconst 0, 1) := by decide +kernel
theorem d_Ma_returns_29 : decode b_Ma_returns 29 = .ok (.invokevirtual 138, 3) := by decide +kernel
theorem d_Ma_returns_32 : decode b_Ma_returns 32 = .ok (.lstore_n 1, 1) := by decide +kernel
theorem d_Ma_returns_33 : decode b_Ma_returns 33 = .ok (.aload_n 0, 1) := by decide +kernel
theorem d_Ma_returns_34 : decode b_Ma_returns 34 = .ok (.getfield 33, 3) := by decide +kernel
theorem d_Ma_returns_37 : decode b_Ma_returns 37 = .ok (.invokevirtual 412, 3) := by decide +kernel
theorem d_Ma_returns_40 : decode b_Ma_returns 40 = .ok (.aload_n 0, 1) := by decide +kernel
theorem d_Ma_returns_41 : decode b_Ma_returns 41 = .ok (.getfield 33, 3) := by decide +kernel
theorem d_Ma_returns_44 : decode b_Ma_returns 44 = .ok (.lload_n 1, 1) := by decide +kernel
theorem d_Ma_returns_45 : decode b_Ma_returns 45 = .ok (.invokevirtual 112, 3) := by decide +kernel
theorem d_Ma_returns_48 : decode b_Ma_returns 48 = .ok (.aload_n 0, 1) := by decide +kernel
theorem d_Ma_returns_49 : decode b_Ma_returns 49 = .ok (.aload_n 0, 1) := by decide +kernel
theorem d_Ma_returns_50 : decode b_Ma_returns 50 = .ok (.getfield 33, 3) := by decide +kernel
theorem d_Ma_returns_53 : decode b_Ma_returns 53 = .ok (.invokevirtual 34, 3) := by decide +kernel
theorem d_Ma_returns_56 : decode b_Ma_returns 56 = .ok (.putfield 40, 3) := by decide +kernel
theorem d_Ma_returns_59 : decode b_Ma_returns 59 = .ok (.return_, 1) := by decide +kernel
set_option maxRecDepth 100000 in
theorem hl_Ma_returns : Cond.methodLink R_Ma 324 y_Ma_returns ∈ wd_tbl := wd_of 2030 (by decide +kernel) rfl
set_option maxRecDepth 100000 in
theorem hi_Ma_returns : Cond.instanceMethod y_Ma_returns ∈ wd_tbl := wd_of 2032 (by decide +kernel) rfl
set_option maxRecDepth 100000 in
theorem hs_Ma_returns : Cond.selects R_Ma y_Ma_returns y_Ma_returns ∈ wd_tbl := wd_of 123 (by decide +kernel) rfl
theorem hd_Ma_returns : y_Ma_returns.cls = R_Ma ∧ y_Ma_returns.cls ≠ "java/lang/invoke/MethodHandle" ∧ y_Ma_returns.cls ≠ "java/lang/invoke/VarHandle" ∧ (parseMethodDescriptor y_Ma_returns.desc).map (fun d => d.parameters.length) = some 0 := by decide +kernel
def rm_Ma_returns (mc ms : Nat) : Room := { frames := 3, cells := mc, slots := ms, locals := 104 }
theorem rm_Ma_returns_Wl_endsBy {mc ms : Nat} : (rm_Wl_endsBy).frames + 1 ≤ (rm_Ma_returns mc ms).frames ∧ 8 + (3 + 11) + (rm_Wl_endsBy).locals ≤ (rm_Ma_returns mc ms).locals := by
  show 1 + 1 ≤ 3 ∧ 8 + (3 + 11) + 24 ≤ 104
  decide
theorem rm_Ma_returns_Fr_below {mc ms : Nat} : (rm_Fr_below).frames + 1 ≤ (rm_Ma_returns mc ms).frames ∧ 8 + (3 + 11) + (rm_Fr_below).locals ≤ (rm_Ma_returns mc ms).locals := by
  show 0 + 1 ≤ 3 ∧ 8 + (3 + 11) + 0 ≤ 104
  decide
theorem rm_Ma_returns_Fr_leave {mc ms : Nat} : (rm_Fr_leave).frames + 1 ≤ (rm_Ma_returns mc ms).frames ∧ 8 + (1 + 11) + (rm_Fr_leave).locals ≤ (rm_Ma_returns mc ms).locals := by
  show 1 + 1 ≤ 3 ∧ 8 + (1 + 11) + 22 ≤ 104
  decide
theorem rm_Ma_returns_Fr_push {mc ms : Nat} {mc2 ms2 : Nat} : (rm_Fr_push mc2 ms2).frames + 1 ≤ (rm_Ma_returns mc ms).frames ∧ 8 + (3 + 11) + (rm_Fr_push mc2 ms2).locals ≤ (rm_Ma_returns mc ms).locals := by
  show 2 + 1 ≤ 3 ∧ 8 + (3 + 11) + 82 ≤ 104
  decide
theorem rm_Ma_returns_Fr_place {mc ms : Nat} : (rm_Fr_place).frames + 1 ≤ (rm_Ma_returns mc ms).frames ∧ 8 + (1 + 11) + (rm_Fr_place).locals ≤ (rm_Ma_returns mc ms).locals := by
  show 1 + 1 ≤ 3 ∧ 8 + (1 + 11) + 22 ≤ 104
  decide
def fb_Ma_returns_0 (N : Nat) (G : Unit) (u : CS) (v0 : Nat) : Option (CS × Unit) := bo (gR u v0 5 4) (fun r1 => bo r1 (fun j2 => bo (gI u j2 4 1) (fun r3 => br (decide (1 < r3)) (bo (gR u v0 5 4) (fun r4 => bo r4 (fun j6 => ck (isO u j6 4) (bx (gz u (fm_Fr_below N u j6 0)) (fun u5 r5 => gw u5 (bo (gR u5 v0 5 4) (fun r7 => bo r7 (fun j9 => ck (isO u5 j9 4) (bx (gz u5 (fm_Fr_leave N u5 j9)) (fun u8 r8 => gw u8 (bo (gR u8 v0 5 4) (fun r10 => bo r10 (fun j12 => ck (isO u8 j12 4) (ck (List.all [some v0] (okR u8.1.1)) (bx (gw u8 (fm_Fr_push N u8 j12 r5)) (fun u11 r11 => gw u11 (bo (gR u11 v0 5 4) (fun r13 => bo r13 (fun j15 => ck (isO u11 j15 4) (bx (gz u11 (fm_Fr_place N u11 j15)) (fun u14 r14 => gw u14 (bo (pF u14 v0 5 5 (.inl r14)) (fun w16 => some (w16, ())))))))))))))))))))))))) (bo (gR u v0 5 1) (fun r17 => bo (gR u v0 5 3) (fun r18 => bo r17 (fun j20 => ck (isO u j20 12) (bx (gz u (fm_Wl_endsBy N u j20 r18 4)) (fun u19 r19 => gw u19 (some (u19, ())))))))))))
set_option maxRecDepth 100000 in
set_option maxHeartbeats 4000000 in
theorem wb_Ma_returns_0 {p : Program} {l : Launch} {e : Env} {s : State} {m : MethodId} {args : Array Value} {below : List Frame} {meth : Method} {c : Code} {s0 : State} {b0 : Nat} {D : va_G} {cB cI cJ cZ cS cP : ClassId} {A : Nat → Prop} {sk sv : Nat → Nat} {uN uS mc ms : Nat} {ad0 : Nat → Nat} (C0 : XCx p s s0 b0 m args meth c R_Ma b_Ma_returns 3 none D cB cI cJ cZ cS cP A) (hE : ENV s0 b0 sk sv) (N : Nat) (G : Unit) (hG : True) : ∀ (u : CS) (v0 : Nat) (x : CS × Unit), fb_Ma_returns_0 N G u v0 = some x → (uN + mc = x.1.1.1 ∧ uS + ms = x.1.1.2) → ∀ (ad : Nat → Nat) (ce sl : Nat), AB uN uS ad0 u ad ce sl → ∀ (H : Heap) (locs : List Loc), va_P D cls (wC cB cI cJ cZ cS cP ad u) H → va_D A (wC cB cI cJ cZ cS cP ad u) → va_S A s.heap H locs → ∀ (ls : Array Slot), lv_has ls 3 [(0, .ref (ad v0))] → W p l e (rm_Ma_returns mc ms) s m args below meth c H locs ce sl (MQ below (xQ D cB cI cJ cZ cS cP A ad0 uN x.1 none) args s mc ms A) (F0 m 0 ls []) := by
  intro u v0 x hf hm ad ce sl hB H locs hP hD hS ls hl
  obtain ⟨hx, hb, hr, hml, ht, hown, hK, hA, hlocks, hA0, hO, hbs⟩ := id C0
  unfold fb_Ma_returns_0 at hf
  refine lv_aload_n hx hb d_Ma_returns_0 rfl (lv_at hl 0 rfl) ?_
  obtain ⟨r1, g1, hf⟩ := bo_some hf
  refine xg_R (i := v0) (k := 4) hx hb ht hown ck_Ma hK hP (by decide) fk_Ma_33 g1 d_Ma_returns_1 ?_
  obtain ⟨j2, ej2, hf⟩ := bo_some hf
  rw [ej2]
  obtain ⟨r3, g3, hf⟩ := bo_some hf
  refine xg_I (i := j2) (k := 1) hx hb ht hown ck_Fr hK hP (by decide) fk_Ma_343 g3 d_Ma_returns_4 ?_
  refine lv_iconst (v := 1) hx hb d_Ma_returns_7 (by decide) ?_
  refine lv_icmp_gt (tgt := 24) hx hb d_Ma_returns_8 (by decide) (fun hc => ?_) (fun hc => ?_)
  · rw [br_p _ hc] at hf
    refine lv_aload_n hx hb d_Ma_returns_24 rfl (lv_at hl 0 rfl) ?_
    obtain ⟨r4, g4, hf⟩ := bo_some hf
    refine xg_R (i := v0) (k := 4) hx hb ht hown ck_Ma hK hP (by decide) fk_Ma_33 g4 d_Ma_returns_25 ?_
    refine lv_iconst (v := 0) hx hb d_Ma_returns_28 (by decide) ?_
    obtain ⟨j6, ej6, hf⟩ := bo_some hf
    rw [ej6]
    obtain ⟨hO9, hf⟩ := ck_some hf
    obtain ⟨u5, r5, hc5, hf⟩ := bx_some hf
    obtain ⟨hc5, hz5⟩ := gz_some hc5
    obtain ⟨hf, hw5⟩ := gw_some hf
    refine xV0 (i := j6) (As := [.int 0]) (rest := []) C0 hP hD hS ck_Fr hO9 (c_Fr_below N hc5) k_Fr_below (wd_of 1653 (by decide +kernel) rfl) hi_Fr_below hs_Fr_below hini_Fr rfl rfl hd_Fr_below rfl rm_Ma_returns_Fr_below hl.1 (Nat.le_of_ble_eq_true rfl) d_Ma_returns_29 rfl (hB.fit hm hz5 hw5) (fun H locs hP hD hS => ?_)
    have hB := hB.same2 hz5
    refine lv_lstore_n (lv' := [(1, .long r5), (0, .ref (ad v0))]) hx hb d_Ma_returns_32 rfl hl (by decide) (by first | rfl | simp [List.filter, cat_rf]) (fun ls hl => ?_)
    refine lv_aload_n hx hb d_Ma_returns_33 rfl (lv_at hl 1 rfl) ?_
    obtain ⟨r7, g7, hf⟩ := bo_some hf
    refine xg_R (i := v0) (k := 4) hx hb ht hown ck_Ma hK hP (by decide) fk_Ma_33 g7 d_Ma_returns_34 ?_
    obtain ⟨j9, ej9, hf⟩ := bo_some hf
    rw [ej9]
    obtain ⟨hO9, hf⟩ := ck_some hf
    obtain ⟨u8, r8, hc8, hf⟩ := bx_some hf
    obtain ⟨hc8, hz8⟩ := gz_some hc8
    obtain ⟨hf, hw8⟩ := gw_some hf
    refine xV0 (i := j9) (As := []) (rest := []) C0 hP hD hS ck_Fr hO9 (c_Fr_leave N hc8) k_Fr_leave (wd_of 2034 (by decide +kernel) rfl) hi_Fr_leave hs_Fr_leave hini_Fr rfl rfl hd_Fr_leave rfl rm_Ma_returns_Fr_leave hl.1 (Nat.le_of_ble_eq_true rfl) d_Ma_returns_37 rfl (hB.fit hm hz8 hw8) (fun H locs hP hD hS => ?_)
    have hB := hB.same2 hz8
    refine lv_aload_n hx hb d_Ma_returns_40 rfl (lv_at hl 1 rfl) ?_
    obtain ⟨r10, g10, hf⟩ := bo_some hf
    refine xg_R (i := v0) (k := 4) hx hb ht hown ck_Ma hK hP (by decide) fk_Ma_33 g10 d_Ma_returns_41 ?_
    refine lv_lload_n hx hb d_Ma_returns_44 rfl (lv_at hl 0 rfl) ?_
    obtain ⟨j12, ej12, hf⟩ := bo_some hf
    rw [ej12]
    obtain ⟨hO9, hf⟩ := ck_some hf
    obtain ⟨hk11, hf⟩ := ck_some hf
    obtain ⟨u11, r11, hc11, hf⟩ := bx_some hf
    obtain ⟨hc11, hq11⟩ := gw_some hc11
    obtain ⟨hf, hw11⟩ := gw_some hf
    refine yV (i := j12) (As := [.long r5]) (rest := []) C0 hP hD hS ck_Fr hO9 (c_Fr_push N hE hc11 (gm hq11)) k_Fr_push (wd_of 1753 (by decide +kernel) rfl) hi_Fr_push hs_Fr_push hini_Fr rfl rfl hd_Fr_push rfl rm_Ma_returns_Fr_push hl.1 (Nat.le_of_ble_eq_true rfl) d_Ma_returns_45 rfl (gm hq11) hB hm hw11 (fun ad11 H locs ce sl hg11 hB hP hD hS => ?_)
    have q11_0 : ad11 v0 = ad v0 := ko_O (k := 0) hk11 rfl hg11
    have hl : lv_has ls 3 [(1, .long r5), (0, .ref (ad11 v0))] := by simp only [q11_0]; exact hl
    refine lv_aload_n hx hb d_Ma_returns_48 rfl (lv_at hl 1 rfl) ?_
    refine lv_aload_n hx hb d_Ma_returns_49 rfl (lv_at hl 1 rfl) ?_
    obtain ⟨r13, g13, hf⟩ := bo_some hf
    refine xg_R (i := v0) (k := 4) hx hb ht hown ck_Ma hK hP (by decide) fk_Ma_33 g13 d_Ma_returns_50 ?_
    obtain ⟨j15, ej15, hf⟩ := bo_some hf
    rw [ej15]
    obtain ⟨hO9, hf⟩ := ck_some hf
    obtain ⟨u14, r14, hc14, hf⟩ := bx_some hf
    obtain ⟨hc14, hz14⟩ := gz_some hc14
    obtain ⟨hf, hw14⟩ := gw_some hf
    refine xV0 (i := j15) (As := []) (rest := [.ref (ad11 v0)]) C0 hP hD hS ck_Fr hO9 (c_Fr_place N hc14) k_Fr_place (wd_of 1639 (by decide +kernel) rfl) hi_Fr_place hs_Fr_place hini_Fr rfl rfl hd_Fr_place rfl rm_Ma_returns_Fr_place hl.1 (Nat.le_of_ble_eq_true rfl) d_Ma_returns_53 rfl (hB.fit hm hz14 hw14) (fun H locs hP hD hS => ?_)
    have hB := hB.same2 hz14
    obtain ⟨w16, g16, hf⟩ := bo_some hf
    refine xp (i := v0) (k := 5) (v := (.inl r14)) hx hb ht hown ck_Ma hK hP hD hS (by decide) fk_Ma_40 rfl g16 rfl rfl d_Ma_returns_56 (fun H locs hP hD hS => ?_)
    have hB := hB.same (pF_c g16)
    exact yr_v C0 hP hD hS hB hm hf d_Ma_returns_59
  · rw [br_n _ hc] at hf
    refine lv_aload_n hx hb d_Ma_returns_11 rfl (lv_at hl 0 rfl) ?_
    obtain ⟨r17, g17, hf⟩ := bo_some hf
    refine xg_R (i := v0) (k := 1) hx hb ht hown ck_Ma hK hP (by decide) fk_Ma_15 g17 d_Ma_returns_12 ?_
    refine lv_aload_n hx hb d_Ma_returns_15 rfl (lv_at hl 0 rfl) ?_
    obtain ⟨r18, g18, hf⟩ := bo_some hf
    refine xg_R (i := v0) (k := 3) hx hb ht hown ck_Ma hK hP (by decide) fk_Ma_23 g18 d_Ma_returns_16 ?_
    refine lv_iconst (v := 4) hx hb d_Ma_returns_19 (by decide) ?_
    obtain ⟨j20, ej20, hf⟩ := bo_some hf
    rw [ej20]
    obtain ⟨hO9, hf⟩ := ck_some hf
    obtain ⟨u19, r19, hc19, hf⟩ := bx_some hf
    obtain ⟨hc19, hz19⟩ := gz_some hc19
    obtain ⟨hf, hw19⟩ := gw_some hf
    refine xV0 (i := j20) (As := [va_rf (Option.map ad r18), .int 4]) (rest := []) C0 hP hD hS ck_Wl hO9 (c_Wl_endsBy N hc19) k_Wl_endsBy (wd_of 1735 (by decide +kernel) rfl) hi_Wl_endsBy hs_Wl_endsBy hini_Wl rfl rfl hd_Wl_endsBy rfl rm_Ma_returns_Wl_endsBy hl.1 (Nat.le_of_ble_eq_true rfl) d_Ma_returns_20 rfl (hB.fit hm hz19 hw19) (fun H locs hP hD hS => ?_)
    have hB := hB.same2 hz19
    exact yr_v C0 hP hD hS hB hm hf d_Ma_returns_23
def fm_Ma_returns (N : Nat) (u : CS) (v0 : Nat) : Option (CS × Unit) := fb_Ma_returns_0 N () u v0
set_option maxRecDepth 100000 in
set_option maxHeartbeats 4000000 in
theorem c_Ma_returns (N : Nat) {l : Launch} {s0 : State} {b0 : Nat} {D : va_G} {cB cI cJ cZ cS cP : ClassId} {sk sv : Nat → Nat} {ad : Nat → Nat} {u : CS} {sz mc ms : Nat} {v0 : Nat} {x : CS × Unit} (hE : ENV s0 b0 sk sv) (hf : fm_Ma_returns N u v0 = some x) (hm : u.1.1 + mc = x.1.1.1 ∧ u.1.2 + ms = x.1.1.2) : Met l y_Ma_returns (wd_ws y_Ma_returns b_Ma_returns 3 none) (rm_Ma_returns mc ms) (xPc s0 b0 D cB cI cJ cZ cS cP ad u sz [.ref (ad v0)]) (xQ D cB cI cJ cZ cS cP (xA cB cI cJ cZ cS cP ad u sz) ad u.1.1 x.1 none) mc ms (xA cB cI cJ cZ cS cP ad u sz) :=
  xMet (by decide) rfl (Nat.le_of_ble_eq_true rfl) (fun p e s m below meth c ls hsz hnm C0 hP hD hS hl =>
    wb_Ma_returns_0 C0 hE N () trivial u _ x hf hm ad 0 0 ⟨rfl, rfl, fun _ _ => rfl⟩ s.heap [] hP hD hS ls (lv_sub hl [0] rfl))
abbrev b_Ma_waitOrLeave : ByteArray := prog_5_method_32_code
def y_Ma_waitOrLeave : MethodName := ⟨R_Ma, "waitOrLeave", "(II)V"⟩
def w_Ma_waitOrLeave : List Cond := wd_ws y_Ma_waitOrLeave b_Ma_waitOrLeave 3 none
set_option maxRecDepth 100000 in
theorem k_Ma_waitOrLeave : Cond.code y_Ma_waitOrLeave b_Ma_waitOrLeave 3 none ∈ wd_tbl := wd_of 2015 rfl rfl
theorem d_Ma_waitOrLeave_0 : decode b_Ma_waitOrLeave 0 = .ok (.iload_n 1, 1) := by decide +kernel
theorem d_Ma_waitOrLeave_1 : decode b_Ma_waitOrLeave 1 = .ok (.tableswitch 156 31 38 #[47, 64, 72, 92, 113, 120, 129, 147], 47) := by decide +kernel
theorem d_Ma_waitOrLeave_48 : decode b_Ma_waitOrLeave 48 = .ok (.aload_n 0, 1) := by decide +kernel
theorem d_Ma_waitOrLeave_49 : decode b_Ma_waitOrLeave 49 = .ok (.iload_n 2, 1) := by decide +kernel
theorem d_Ma_waitOrLeave_50 : decode b_Ma_waitOrLeave 50 = .ok (.iconst 1, 1) := by decide +kernel
theorem d_Ma_waitOrLeave_51 : decode b_Ma_waitOrLeave 51 = .ok (.if_icmp .ne 7, 3) := by decide +kernel
theorem d_Ma_waitOrLeave_54 : decode b_Ma_waitOrLeave 54 = .ok (.iconst 1, 1) := by decide +kernel
theorem d_Ma_waitOrLeave_55 : decode b_Ma_waitOrLeave 55 = .ok (.goto 4, 3) := by decide +kernel
theorem d_Ma_waitOrLeave_58 : decode b_Ma_waitOrLeave 58 = .ok (.iconst 0, 1) := by decide +kernel
theorem d_Ma_waitOrLeave_59 : decode b_Ma_waitOrLeave 59 = .ok (.invokevirtual 311, 3) := by decide +kernel
theorem d_Ma_waitOrLeave_62 : decode b_Ma_waitOrLeave 62 = .ok (.goto 100, 3) := by decide +kernel
theorem d_Ma_waitOrLeave_65 : decode b_Ma_waitOrLeave 65 = .ok (.aload_n 0, 1) := by decide +kernel
theorem d_Ma_waitOrLeave_66 : decode b_Ma_waitOrLeave 66 = .ok (.iload_n 2, 1) := by decide +kernel
theorem d_Ma_waitOrLeave_67 : decode b_Ma_waitOrLeave 67 = .ok (.invokevirtual 315, 3) := by decide +kernel
theorem d_Ma_waitOrLeave_70 : decode b_Ma_waitOrLeave 70 = .ok (.goto 92, 3) := by decide +kernel
theorem d_Ma_waitOrLeave_73 : decode b_Ma_waitOrLeave 73 = .ok (.aload_n 0, 1) := by decide +kernel
theorem d_Ma_waitOrLeave_74 : decode b_Ma_waitOrLeave 74 = .ok (.getfield 23, 3) := by decide +kernel
theorem d_Ma_waitOrLeave_77 : decode b_Ma_waitOrLeave 77 = .ok (.invokevirtual 318, 3) := by decide +kernel
theorem d_Ma_waitOrLeave_80 : decode b_Ma_waitOrLeave 80 = .ok (.aload_n 0, 1) := by decide +kernel
theorem d_Ma_waitOrLeave_81 : decode b_Ma_waitOrLeave 81 = .ok (.dup, 1) := by decide +kernel
theorem d_Ma_waitOrLeave_82 : decode b_Ma_waitOrLeave 82 = .ok (.getfield 40, 3) := by decide +kernel
theorem d_Ma_waitOrLeave_85 : decode b_Ma_waitOrLeave 85 = .ok (.iconst 1, 1) := by decide +kernel
theorem d_Ma_waitOrLeave_86 : decode b_Ma_waitOrLeave 86 = .ok (.iadd, 1) := by decide +kernel
theorem d_Ma_waitOrLeave_87 : decode b_Ma_waitOrLeave 87 = .ok (.putfield 40, 3) := by decide +kernel
theorem d_Ma_waitOrLeave_90 : decode b_Ma_waitOrLeave 90 = .ok (.goto 72, 3) := by decide +kernel
theorem d_Ma_waitOrLeave_93 : decode b_Ma_waitOrLeave 93 = .ok (.aload_n 0, 1) := by decide +kernel
theorem d_Ma_waitOrLeave_94 : decode b_Ma_waitOrLeave 94 = .ok (.getfield 23, 3) := by decide +kernel
theorem d_Ma_waitOrLeave_97 : decode b_Ma_waitOrLeave 97 = .ok (.dup, 1) := by decide +kernel
theorem d_Ma_waitOrLeave_98 : decode b_Ma_waitOrLeave 98 = .ok (.getfield 321, 3) := by decide +kernel
theorem d_Ma_waitOrLeave_101 : decode b_Ma_waitOrLeave 101 = .ok (.iconst 1, 1) := by decide +kernel
theorem d_Ma_waitOrLeave_102 : decode b_Ma_waitOrLeave 102 = .ok (.iadd, 1) := by decide +kernel
theorem d_Ma_waitOrLeave_103 : decode b_Ma_waitOrLeave 103 = .ok (.putfield 321, 3) := by decide +kernel
theorem d_Ma_waitOrLeave_106 : decode b_Ma_waitOrLeave 106 = .ok (.aload_n 0, 1) := by decide +kernel
theorem d_Ma_waitOrLeave_107 : decode b_Ma_waitOrLeave 107 = .ok (.iload_n 2, 1) := by decide +kernel
theorem d_Ma_waitOrLeave_108 : decode b_Ma_waitOrLeave 108 = .ok (.putfield 40, 3) := by decide +kernel
theorem d_Ma_waitOrLeave_111 : decode b_Ma_waitOrLeave 111 = .ok (.goto 51, 3) := by decide +kernel
theorem d_Ma_waitOrLeave_114 : decode b_Ma_waitOrLeave 114 = .ok (.aload_n 0, 1) := by decide +kernel
theorem d_Ma_waitOrLeave_115 : decode b_Ma_waitOrLeave 115 = .ok (.invokevirtual 324, 3) := by decide +kernel
theorem d_Ma_waitOrLeave_118 : decode b_Ma_waitOrLeave 118 = .ok (.goto 44, 3) := by decide +kernel
theorem d_Ma_waitOrLeave_121 : decode b_Ma_waitOrLeave 121 = .ok (.aload_n 0, 1) := by decide +kernel
theorem d_Ma_waitOrLeave_122 : decode b_Ma_waitOrLeave 122 = .ok (.bipush 14, 2) := by decide +kernel
theorem d_Ma_waitOrLeave_124 : decode b_Ma_waitOrLeave 124 = .ok (.invokevirtual 249, 3) := by decide +kernel
theorem d_Ma_waitOrLeave_127 : decode b_Ma_waitOrLeave 127 = .ok (.goto 35, 3) := by decide +kernel
theorem d_Ma_waitOrLeave_130 : decode b_Ma_waitOrLeave 130 = .ok (.aload_n 0, 1) := by decide +kernel
theorem d_Ma_waitOrLeave_131 : decode b_Ma_waitOrLeave 131 = .ok (.iconst 1, 1) := by decide +kernel
theorem d_Ma_waitOrLeave_132 : decode b_Ma_waitOrLeave 132 = .ok (.bipush 15, 2) := by decide +kernel
theorem d_Ma_waitOrLeave_134 : decode b_Ma_waitOrLeave 134 = .ok (.aload_n 0, 1) := by decide +kernel
theorem d_Ma_waitOrLeave_135 : decode b_Ma_waitOrLeave 135 = .ok (.getfield 33, 3) := by decide +kernel
theorem d_Ma_waitOrLeave_138 : decode b_Ma_waitOrLeave 138 = .ok (.iconst 0, 1) := by decide +kernel
theorem d_Ma_waitOrLeave_139 : decode b_Ma_waitOrLeave 139 = .ok (.invokevirtual 138, 3) := by decide +kernel
theorem d_Ma_waitOrLeave_142 : decode b_Ma_waitOrLeave 142 = .ok (.invokevirtual 123, 3) := by decide +kernel
theorem d_Ma_waitOrLeave_145 : decode b_Ma_waitOrLeave 145 = .ok (.goto 17, 3) := by decide +kernel
theorem d_Ma_waitOrLeave_148 : decode b_Ma_waitOrLeave 148 = .ok (.aload_n 0, 1) := by decide +kernel
theorem d_Ma_waitOrLeave_149 : decode b_Ma_waitOrLeave 149 = .ok (.bipush 16, 2) := by decide +kernel
theorem d_Ma_waitOrLeave_151 : decode b_Ma_waitOrLeave 151 = .ok (.invokevirtual 249, 3) := by decide +kernel
theorem d_Ma_waitOrLeave_154 : decode b_Ma_waitOrLeave 154 = .ok (.goto 8, 3) := by decide +kernel
theorem d_Ma_waitOrLeave_157 : decode b_Ma_waitOrLeave 157 = .ok (.aload_n 0, 1) := by decide +kernel
theorem d_Ma_waitOrLeave_158 : decode b_Ma_waitOrLeave 158 = .ok (.iconst 1, 1) := by decide +kernel
theorem d_Ma_waitOrLeave_159 : decode b_Ma_waitOrLeave 159 = .ok (.putfield 50, 3) := by decide +kernel
theorem d_Ma_waitOrLeave_162 : decode b_Ma_waitOrLeave 162 = .ok (.return_, 1) := by decide +kernel
set_option maxRecDepth 100000 in
theorem hl_Ma_waitOrLeave : Cond.methodLink R_Ma 307 y_Ma_waitOrLeave ∈ wd_tbl := wd_of 2012 (by decide +kernel) rfl
set_option maxRecDepth 100000 in
theorem hi_Ma_waitOrLeave : Cond.instanceMethod y_Ma_waitOrLeave ∈ wd_tbl := wd_of 2014 (by decide +kernel) rfl
set_option maxRecDepth 100000 in
theorem hs_Ma_waitOrLeave : Cond.selects R_Ma y_Ma_waitOrLeave y_Ma_waitOrLeave ∈ wd_tbl := wd_of 120 (by decide +kernel) rfl
theorem hd_Ma_waitOrLeave : y_Ma_waitOrLeave.cls = R_Ma ∧ y_Ma_waitOrLeave.cls ≠ "java/lang/invoke/MethodHandle" ∧ y_Ma_waitOrLeave.cls ≠ "java/lang/invoke/VarHandle" ∧ (parseMethodDescriptor y_Ma_waitOrLeave.desc).map (fun d => d.parameters.length) = some 2 := by decide +kernel
def rm_Ma_waitOrLeave (mc ms : Nat) : Room := { frames := 4, cells := mc, slots := ms, locals := 126 }
theorem rm_Ma_waitOrLeave_Ma_await {mc ms : Nat} : (rm_Ma_await).frames + 1 ≤ (rm_Ma_waitOrLeave mc ms).frames ∧ 8 + (5 + 11) + (rm_Ma_await).locals ≤ (rm_Ma_waitOrLeave mc ms).locals := by
  show 3 + 1 ≤ 4 ∧ 8 + (5 + 11) + 62 ≤ 126
  decide
theorem rm_Ma_waitOrLeave_Ma_nextMessage {mc ms : Nat} : (rm_Ma_nextMessage).frames + 1 ≤ (rm_Ma_waitOrLeave mc ms).frames ∧ 8 + (2 + 11) + (rm_Ma_nextMessage).locals ≤ (rm_Ma_waitOrLeave mc ms).locals := by
  show 1 + 1 ≤ 4 ∧ 8 + (2 + 11) + 21 ≤ 126
  decide
theorem rm_Ma_waitOrLeave_Pr_takeMessage {mc ms : Nat} : (rm_Pr_takeMessage).frames + 1 ≤ (rm_Ma_waitOrLeave mc ms).frames ∧ 8 + (1 + 11) + (rm_Pr_takeMessage).locals ≤ (rm_Ma_waitOrLeave mc ms).locals := by
  show 1 + 1 ≤ 4 ∧ 8 + (1 + 11) + 48 ≤ 126
  decide
theorem rm_Ma_waitOrLeave_Ma_returns {mc ms : Nat} {mc2 ms2 : Nat} : (rm_Ma_returns mc2 ms2).frames + 1 ≤ (rm_Ma_waitOrLeave mc ms).frames ∧ 8 + (3 + 11) + (rm_Ma_returns mc2 ms2).locals ≤ (rm_Ma_waitOrLeave mc ms).locals := by
  show 3 + 1 ≤ 4 ∧ 8 + (3 + 11) + 104 ≤ 126
  decide
theorem rm_Ma_waitOrLeave_Ma_wrong {mc ms : Nat} : (rm_Ma_wrong).frames + 1 ≤ (rm_Ma_waitOrLeave mc ms).frames ∧ 8 + (2 + 11) + (rm_Ma_wrong).locals ≤ (rm_Ma_waitOrLeave mc ms).locals := by
  show 2 + 1 ≤ 4 ∧ 8 + (2 + 11) + 41 ≤ 126
  decide
theorem rm_Ma_waitOrLeave_Fr_below {mc ms : Nat} : (rm_Fr_below).frames + 1 ≤ (rm_Ma_waitOrLeave mc ms).frames ∧ 8 + (3 + 11) + (rm_Fr_below).locals ≤ (rm_Ma_waitOrLeave mc ms).locals := by
  show 0 + 1 ≤ 4 ∧ 8 + (3 + 11) + 0 ≤ 126
  decide
theorem rm_Ma_waitOrLeave_Ma_tell {mc ms : Nat} : (rm_Ma_tell).frames + 1 ≤ (rm_Ma_waitOrLeave mc ms).frames ∧ 8 + (5 + 11) + (rm_Ma_tell).locals ≤ (rm_Ma_waitOrLeave mc ms).locals := by
  show 0 + 1 ≤ 4 ∧ 8 + (5 + 11) + 0 ≤ 126
  decide
def fb_Ma_waitOrLeave_162 (N : Nat) (G : Unit) (u : CS) : Option (CS × Unit) := some (u, ())
set_option maxRecDepth 100000 in
set_option maxHeartbeats 4000000 in
theorem wb_Ma_waitOrLeave_162 {p : Program} {l : Launch} {e : Env} {s : State} {m : MethodId} {args : Array Value} {below : List Frame} {meth : Method} {c : Code} {s0 : State} {b0 : Nat} {D : va_G} {cB cI cJ cZ cS cP : ClassId} {A : Nat → Prop} {sk sv : Nat → Nat} {uN uS mc ms : Nat} {ad0 : Nat → Nat} (C0 : XCx p s s0 b0 m args meth c R_Ma b_Ma_waitOrLeave 3 none D cB cI cJ cZ cS cP A) (hE : ENV s0 b0 sk sv) (N : Nat) (G : Unit) (hG : True) : ∀ (u : CS) (x : CS × Unit), fb_Ma_waitOrLeave_162 N G u = some x → (uN + mc = x.1.1.1 ∧ uS + ms = x.1.1.2) → ∀ (ad : Nat → Nat) (ce sl : Nat), AB uN uS ad0 u ad ce sl → ∀ (H : Heap) (locs : List Loc), va_P D cls (wC cB cI cJ cZ cS cP ad u) H → va_D A (wC cB cI cJ cZ cS cP ad u) → va_S A s.heap H locs → ∀ (ls : Array Slot), lv_has ls 3 [] → W p l e (rm_Ma_waitOrLeave mc ms) s m args below meth c H locs ce sl (MQ below (xQ D cB cI cJ cZ cS cP A ad0 uN x.1 none) args s mc ms A) (F0 m 162 ls []) := by
  intro u x hf hm ad ce sl hB H locs hP hD hS ls hl
  obtain ⟨hx, hb, hr, hml, ht, hown, hK, hA, hlocks, hA0, hO, hbs⟩ := id C0
  unfold fb_Ma_waitOrLeave_162 at hf
  exact yr_v C0 hP hD hS hB hm hf d_Ma_waitOrLeave_162
def fb_Ma_waitOrLeave_59 (N : Nat) (G : Unit) (u : CS) (t0 : Nat) (t1 : Int32) : Option (CS × Unit) := ck (isO u t0 5) (bx (gz u (fm_Ma_await N u t0 t1)) (fun u1 r1 => gw u1 (fb_Ma_waitOrLeave_162 N G u1)))
set_option maxRecDepth 100000 in
set_option maxHeartbeats 4000000 in
theorem wb_Ma_waitOrLeave_59 {p : Program} {l : Launch} {e : Env} {s : State} {m : MethodId} {args : Array Value} {below : List Frame} {meth : Method} {c : Code} {s0 : State} {b0 : Nat} {D : va_G} {cB cI cJ cZ cS cP : ClassId} {A : Nat → Prop} {sk sv : Nat → Nat} {uN uS mc ms : Nat} {ad0 : Nat → Nat} (C0 : XCx p s s0 b0 m args meth c R_Ma b_Ma_waitOrLeave 3 none D cB cI cJ cZ cS cP A) (hE : ENV s0 b0 sk sv) (N : Nat) (G : Unit) (hG : True) : ∀ (u : CS) (t0 : Nat) (t1 : Int32) (x : CS × Unit), fb_Ma_waitOrLeave_59 N G u t0 t1 = some x → (uN + mc = x.1.1.1 ∧ uS + ms = x.1.1.2) → ∀ (ad : Nat → Nat) (ce sl : Nat), AB uN uS ad0 u ad ce sl → ∀ (H : Heap) (locs : List Loc), va_P D cls (wC cB cI cJ cZ cS cP ad u) H → va_D A (wC cB cI cJ cZ cS cP ad u) → va_S A s.heap H locs → ∀ (ls : Array Slot), lv_has ls 3 [] → W p l e (rm_Ma_waitOrLeave mc ms) s m args below meth c H locs ce sl (MQ below (xQ D cB cI cJ cZ cS cP A ad0 uN x.1 none) args s mc ms A) (F0 m 59 ls [.int t1, .ref (ad t0)]) := by
  intro u t0 t1 x hf hm ad ce sl hB H locs hP hD hS ls hl
  obtain ⟨hx, hb, hr, hml, ht, hown, hK, hA, hlocks, hA0, hO, hbs⟩ := id C0
  unfold fb_Ma_waitOrLeave_59 at hf
  obtain ⟨hO9, hf⟩ := ck_some hf
  obtain ⟨u1, r1, hc1, hf⟩ := bx_some hf
  obtain ⟨hc1, hz1⟩ := gz_some hc1
  obtain ⟨hf, hw1⟩ := gw_some hf
  refine xV0 (i := t0) (As := [.int t1]) (rest := []) C0 hP hD hS ck_Ma hO9 (c_Ma_await N hE hc1) k_Ma_await (wd_of 2016 (by decide +kernel) rfl) hi_Ma_await hs_Ma_await hini_Ma rfl rfl hd_Ma_await rfl rm_Ma_waitOrLeave_Ma_await hl.1 (Nat.le_of_ble_eq_true rfl) d_Ma_waitOrLeave_59 rfl (hB.fit hm hz1 hw1) (fun H locs hP hD hS => ?_)
  have hB := hB.same2 hz1
  refine lv_goto (tgt := 162) hx hb d_Ma_waitOrLeave_62 (by decide) ?_
  exact wb_Ma_waitOrLeave_162 C0 hE N G hG _ _ hf hm _ _ _ hB H locs hP hD hS ls (lv_sub hl [] rfl)
def fb_Ma_waitOrLeave_0 (N : Nat) (G : Unit) (u : CS) (v0 : Nat) (v1 : Int32) (v2 : Int32) : Option (CS × Unit) := br (decide (v1 = 31)) (br (decide (v2 = 1)) (fb_Ma_waitOrLeave_59 N G u (v0) (1)) (fb_Ma_waitOrLeave_59 N G u (v0) (0))) (br (decide (v1 = 32)) (ck (isO u v0 5) (bx (gz u (fm_Ma_nextMessage N u v0 v2)) (fun u2 r2 => gw u2 (fb_Ma_waitOrLeave_162 N G u2)))) (br (decide (v1 = 33)) (bo (gR u v0 5 3) (fun r3 => bo r3 (fun j5 => ck (isO u j5 7) (bx (gz u (fm_Pr_takeMessage N u j5)) (fun u4 r4 => gw u4 (bo (gI u4 v0 5 5) (fun r6 => bo (pF u4 v0 5 5 (.inl (r6 + 1))) (fun w7 => fb_Ma_waitOrLeave_162 N G w7)))))))) (br (decide (v1 = 34)) (bo (gR u v0 5 3) (fun r8 => bo r8 (fun j9 => bo (gI u j9 7 8) (fun r10 => bo (pF u j9 7 8 (.inl (r10 + 1))) (fun w11 => bo (pF w11 v0 5 5 (.inl v2)) (fun w12 => fb_Ma_waitOrLeave_162 N G w12)))))) (br (decide (v1 = 35)) (ck (isO u v0 5) (ck (List.all [some v0] (okR u.1.1)) (bx (gw u (fm_Ma_returns N u v0)) (fun u13 r13 => gw u13 (fb_Ma_waitOrLeave_162 N G u13))))) (br (decide (v1 = 36)) (ck (isO u v0 5) (bx (gz u (fm_Ma_wrong N u v0 14)) (fun u14 r14 => gw u14 (fb_Ma_waitOrLeave_162 N G u14)))) (br (decide (v1 = 37)) (bo (gR u v0 5 4) (fun r15 => bo r15 (fun j17 => ck (isO u j17 4) (bx (gz u (fm_Fr_below N u j17 0)) (fun u16 r16 => gw u16 (ck (isO u16 v0 5) (bx (gz u16 (fm_Ma_tell N u16 v0 1 15 r16)) (fun u18 r18 => gw u18 (fb_Ma_waitOrLeave_162 N G u18))))))))) (br (decide (v1 = 38)) (ck (isO u v0 5) (bx (gz u (fm_Ma_wrong N u v0 16)) (fun u19 r19 => gw u19 (fb_Ma_waitOrLeave_162 N G u19)))) (bo (pF u v0 5 8 (.inl 1)) (fun w20 => fb_Ma_waitOrLeave_162 N G w20)))))))))
set_option maxRecDepth 100000 in
set_option maxHeartbeats 4000000 in
theorem wb_Ma_waitOrLeave_0 {p : Program} {l : Launch} {e : Env} {s : State} {m : MethodId} {args : Array Value} {below : List Frame} {meth : Method} {c : Code} {s0 : State} {b0 : Nat} {D : va_G} {cB cI cJ cZ cS cP : ClassId} {A : Nat → Prop} {sk sv : Nat → Nat} {uN uS mc ms : Nat} {ad0 : Nat → Nat} (C0 : XCx p s s0 b0 m args meth c R_Ma b_Ma_waitOrLeave 3 none D cB cI cJ cZ cS cP A) (hE : ENV s0 b0 sk sv) (N : Nat) (G : Unit) (hG : True) : ∀ (u : CS) (v0 : Nat) (v1 : Int32) (v2 : Int32) (x : CS × Unit), fb_Ma_waitOrLeave_0 N G u v0 v1 v2 = some x → (uN + mc = x.1.1.1 ∧ uS + ms = x.1.1.2) → ∀ (ad : Nat → Nat) (ce sl : Nat), AB uN uS ad0 u ad ce sl → ∀ (H : Heap) (locs : List Loc), va_P D cls (wC cB cI cJ cZ cS cP ad u) H → va_D A (wC cB cI cJ cZ cS cP ad u) → va_S A s.heap H locs → ∀ (ls : Array Slot), lv_has ls 3 [(0, .ref (ad v0)), (1, .int v1), (2, .int v2)] → W p l e (rm_Ma_waitOrLeave mc ms) s m args below meth c H locs ce sl (MQ below (xQ D cB cI cJ cZ cS cP A ad0 uN x.1 none) args s mc ms A) (F0 m 0 ls []) := by
  intro u v0 v1 v2 x hf hm ad ce sl hB H locs hP hD hS ls hl
  obtain ⟨hx, hb, hr, hml, ht, hown, hK, hA, hlocks, hA0, hO, hbs⟩ := id C0
  unfold fb_Ma_waitOrLeave_0 at hf
  refine lv_iload_n hx hb d_Ma_waitOrLeave_0 rfl (lv_at hl 1 rfl) ?_
  by_cases hc31 : v1 = 31
  · rw [br_p _ hc31] at hf
    refine lv_tableIn (tgt := 48) hx hb d_Ma_waitOrLeave_1 (by rw [hc31]; decide) (by rw [hc31]; decide) (by rw [hc31]; rfl) (by decide) ?_
    refine lv_aload_n hx hb d_Ma_waitOrLeave_48 rfl (lv_at hl 0 rfl) ?_
    refine lv_iload_n hx hb d_Ma_waitOrLeave_49 rfl (lv_at hl 2 rfl) ?_
    refine lv_iconst (v := 1) hx hb d_Ma_waitOrLeave_50 (by decide) ?_
    refine lv_icmp_ne (tgt := 58) hx hb d_Ma_waitOrLeave_51 (by decide) (fun hc => ?_) (fun hc => ?_)
    · rw [br_n _ hc] at hf
      refine lv_iconst (v := 0) hx hb d_Ma_waitOrLeave_58 (by decide) ?_
      exact wb_Ma_waitOrLeave_59 C0 hE N G hG _ _ _ _ hf hm _ _ _ hB H locs hP hD hS ls (lv_sub hl [] rfl)
    · rw [br_p _ hc] at hf
      refine lv_iconst (v := 1) hx hb d_Ma_waitOrLeave_54 (by decide) ?_
      refine lv_goto (tgt := 59) hx hb d_Ma_waitOrLeave_55 (by decide) ?_
      exact wb_Ma_waitOrLeave_59 C0 hE N G hG _ _ _ _ hf hm _ _ _ hB H locs hP hD hS ls (lv_sub hl [] rfl)
  · rw [br_n _ hc31] at hf
    by_cases hc32 : v1 = 32
    · rw [br_p _ hc32] at hf
      refine lv_tableIn (tgt := 65) hx hb d_Ma_waitOrLeave_1 (by rw [hc32]; decide) (by rw [hc32]; decide) (by rw [hc32]; rfl) (by decide) ?_
      refine lv_aload_n hx hb d_Ma_waitOrLeave_65 rfl (lv_at hl 0 rfl) ?_
      refine lv_iload_n hx hb d_Ma_waitOrLeave_66 rfl (lv_at hl 2 rfl) ?_
      obtain ⟨hO9, hf⟩ := ck_some hf
      obtain ⟨u2, r2, hc2, hf⟩ := bx_some hf
      obtain ⟨hc2, hz2⟩ := gz_some hc2
      obtain ⟨hf, hw2⟩ := gw_some hf
      refine xV0 (i := v0) (As := [.int v2]) (rest := []) C0 hP hD hS ck_Ma hO9 (c_Ma_nextMessage N hc2) k_Ma_nextMessage (wd_of 2021 (by decide +kernel) rfl) hi_Ma_nextMessage hs_Ma_nextMessage hini_Ma rfl rfl hd_Ma_nextMessage rfl rm_Ma_waitOrLeave_Ma_nextMessage hl.1 (Nat.le_of_ble_eq_true rfl) d_Ma_waitOrLeave_67 rfl (hB.fit hm hz2 hw2) (fun H locs hP hD hS => ?_)
      have hB := hB.same2 hz2
      refine lv_goto (tgt := 162) hx hb d_Ma_waitOrLeave_70 (by decide) ?_
      exact wb_Ma_waitOrLeave_162 C0 hE N G hG _ _ hf hm _ _ _ hB H locs hP hD hS ls (lv_sub hl [] rfl)
    · rw [br_n _ hc32] at hf
      by_cases hc33 : v1 = 33
      · rw [br_p _ hc33] at hf
        refine lv_tableIn (tgt := 73) hx hb d_Ma_waitOrLeave_1 (by rw [hc33]; decide) (by rw [hc33]; decide) (by rw [hc33]; rfl) (by decide) ?_
        refine lv_aload_n hx hb d_Ma_waitOrLeave_73 rfl (lv_at hl 0 rfl) ?_
        obtain ⟨r3, g3, hf⟩ := bo_some hf
        refine xg_R (i := v0) (k := 3) hx hb ht hown ck_Ma hK hP (by decide) fk_Ma_23 g3 d_Ma_waitOrLeave_74 ?_
        obtain ⟨j5, ej5, hf⟩ := bo_some hf
        rw [ej5]
        obtain ⟨hO9, hf⟩ := ck_some hf
        obtain ⟨u4, r4, hc4, hf⟩ := bx_some hf
        obtain ⟨hc4, hz4⟩ := gz_some hc4
        obtain ⟨hf, hw4⟩ := gw_some hf
        refine xV0 (i := j5) (As := []) (rest := []) C0 hP hD hS ck_Pr hO9 (c_Pr_takeMessage N hE hc4) k_Pr_takeMessage (wd_of 2026 (by decide +kernel) rfl) hi_Pr_takeMessage hs_Pr_takeMessage hini_Pr rfl rfl hd_Pr_takeMessage rfl rm_Ma_waitOrLeave_Pr_takeMessage hl.1 (Nat.le_of_ble_eq_true rfl) d_Ma_waitOrLeave_77 rfl (hB.fit hm hz4 hw4) (fun H locs hP hD hS => ?_)
        have hB := hB.same2 hz4
        refine lv_aload_n hx hb d_Ma_waitOrLeave_80 rfl (lv_at hl 0 rfl) ?_
        refine lv_dup hx hb d_Ma_waitOrLeave_81 rfl ?_
        obtain ⟨r6, g6, hf⟩ := bo_some hf
        refine xg_I (i := v0) (k := 5) hx hb ht hown ck_Ma hK hP (by decide) fk_Ma_40 g6 d_Ma_waitOrLeave_82 ?_
        refine lv_iconst (v := 1) hx hb d_Ma_waitOrLeave_85 (by decide) ?_
        refine lv_iadd hx hb d_Ma_waitOrLeave_86 ?_
        obtain ⟨w7, g7, hf⟩ := bo_some hf
        refine xp (i := v0) (k := 5) (v := (.inl (r6 + 1))) hx hb ht hown ck_Ma hK hP hD hS (by decide) fk_Ma_40 rfl g7 rfl rfl d_Ma_waitOrLeave_87 (fun H locs hP hD hS => ?_)
        have hB := hB.same (pF_c g7)
        refine lv_goto (tgt := 162) hx hb d_Ma_waitOrLeave_90 (by decide) ?_
        exact wb_Ma_waitOrLeave_162 C0 hE N G hG _ _ hf hm _ _ _ hB H locs hP hD hS ls (lv_sub hl [] rfl)
      · rw [br_n _ hc33] at hf
        by_cases hc34 : v1 = 34
        · rw [br_p _ hc34] at hf
          refine lv_tableIn (tgt := 93) hx hb d_Ma_waitOrLeave_1 (by rw [hc34]; decide) (by rw [hc34]; decide) (by rw [hc34]; rfl) (by decide) ?_
          refine lv_aload_n hx hb d_Ma_waitOrLeave_93 rfl (lv_at hl 0 rfl) ?_
          obtain ⟨r8, g8, hf⟩ := bo_some hf
          refine xg_R (i := v0) (k := 3) hx hb ht hown ck_Ma hK hP (by decide) fk_Ma_23 g8 d_Ma_waitOrLeave_94 ?_
          refine lv_dup hx hb d_Ma_waitOrLeave_97 (cat_rf _) ?_
          obtain ⟨j9, ej9, hf⟩ := bo_some hf
          rw [ej9]
          obtain ⟨r10, g10, hf⟩ := bo_some hf
          refine xg_I (i := j9) (k := 8) hx hb ht hown ck_Pr hK hP (by decide) fk_Ma_321 g10 d_Ma_waitOrLeave_98 ?_
          refine lv_iconst (v := 1) hx hb d_Ma_waitOrLeave_101 (by decide) ?_
          refine lv_iadd hx hb d_Ma_waitOrLeave_102 ?_
          obtain ⟨w11, g11, hf⟩ := bo_some hf
          refine xp (i := j9) (k := 8) (v := (.inl (r10 + 1))) hx hb ht hown ck_Pr hK hP hD hS (by decide) fk_Ma_321 rfl g11 rfl rfl d_Ma_waitOrLeave_103 (fun H locs hP hD hS => ?_)
          have hB := hB.same (pF_c g11)
          refine lv_aload_n hx hb d_Ma_waitOrLeave_106 rfl (lv_at hl 0 rfl) ?_
          refine lv_iload_n hx hb d_Ma_waitOrLeave_107 rfl (lv_at hl 2 rfl) ?_
          obtain ⟨w12, g12, hf⟩ := bo_some hf
          refine xp (i := v0) (k := 5) (v := (.inl v2)) hx hb ht hown ck_Ma hK hP hD hS (by decide) fk_Ma_40 rfl g12 rfl rfl d_Ma_waitOrLeave_108 (fun H locs hP hD hS => ?_)
          have hB := hB.same (pF_c g12)
          refine lv_goto (tgt := 162) hx hb d_Ma_waitOrLeave_111 (by decide) ?_
          exact wb_Ma_waitOrLeave_162 C0 hE N G hG _ _ hf hm _ _ _ hB H locs hP hD hS ls (lv_sub hl [] rfl)
        · rw [br_n _ hc34] at hf
          by_cases hc35 : v1 = 35
          · rw [br_p _ hc35] at hf
            refine lv_tableIn (tgt := 114) hx hb d_Ma_waitOrLeave_1 (by rw [hc35]; decide) (by rw [hc35]; decide) (by rw [hc35]; rfl) (by decide) ?_
            refine lv_aload_n hx hb d_Ma_waitOrLeave_114 rfl (lv_at hl 0 rfl) ?_
            obtain ⟨hO9, hf⟩ := ck_some hf
            obtain ⟨hk13, hf⟩ := ck_some hf
            obtain ⟨u13, r13, hc13, hf⟩ := bx_some hf
            obtain ⟨hc13, hq13⟩ := gw_some hc13
            obtain ⟨hf, hw13⟩ := gw_some hf
            refine yV (i := v0) (As := []) (rest := []) C0 hP hD hS ck_Ma hO9 (c_Ma_returns N hE hc13 (gm hq13)) k_Ma_returns (wd_of 2030 (by decide +kernel) rfl) hi_Ma_returns hs_Ma_returns hini_Ma rfl rfl hd_Ma_returns rfl rm_Ma_waitOrLeave_Ma_returns hl.1 (Nat.le_of_ble_eq_true rfl) d_Ma_waitOrLeave_115 rfl (gm hq13) hB hm hw13 (fun ad13 H locs ce sl hg13 hB hP hD hS => ?_)
            have q13_0 : ad13 v0 = ad v0 := ko_O (k := 0) hk13 rfl hg13
            have hl : lv_has ls 3 [(0, .ref (ad13 v0)), (1, .int v1), (2, .int v2)] := by simp only [q13_0]; exact hl
            refine lv_goto (tgt := 162) hx hb d_Ma_waitOrLeave_118 (by decide) ?_
            exact wb_Ma_waitOrLeave_162 C0 hE N G hG _ _ hf hm _ _ _ hB H locs hP hD hS ls (lv_sub hl [] rfl)
          · rw [br_n _ hc35] at hf
            by_cases hc36 : v1 = 36
            · rw [br_p _ hc36] at hf
              refine lv_tableIn (tgt := 121) hx hb d_Ma_waitOrLeave_1 (by rw [hc36]; decide) (by rw [hc36]; decide) (by rw [hc36]; rfl) (by decide) ?_
              refine lv_aload_n hx hb d_Ma_waitOrLeave_121 rfl (lv_at hl 0 rfl) ?_
              refine lv_bipush (v := 14) hx hb d_Ma_waitOrLeave_122 (by decide) ?_
              obtain ⟨hO9, hf⟩ := ck_some hf
              obtain ⟨u14, r14, hc14, hf⟩ := bx_some hf
              obtain ⟨hc14, hz14⟩ := gz_some hc14
              obtain ⟨hf, hw14⟩ := gw_some hf
              refine xV0 (i := v0) (As := [.int 14]) (rest := []) C0 hP hD hS ck_Ma hO9 (c_Ma_wrong N hc14) k_Ma_wrong (wd_of 1664 (by decide +kernel) rfl) hi_Ma_wrong hs_Ma_wrong hini_Ma rfl rfl hd_Ma_wrong rfl rm_Ma_waitOrLeave_Ma_wrong hl.1 (Nat.le_of_ble_eq_true rfl) d_Ma_waitOrLeave_124 rfl (hB.fit hm hz14 hw14) (fun H locs hP hD hS => ?_)
              have hB := hB.same2 hz14
              refine lv_goto (tgt := 162) hx hb d_Ma_waitOrLeave_127 (by decide) ?_
              exact wb_Ma_waitOrLeave_162 C0 hE N G hG _ _ hf hm _ _ _ hB H locs hP hD hS ls (lv_sub hl [] rfl)
            · rw [br_n _ hc36] at hf
              by_cases hc37 : v1 = 37
              · rw [br_p _ hc37] at hf
                refine lv_tableIn (tgt := 130) hx hb d_Ma_waitOrLeave_1 (by rw [hc37]; decide) (by rw [hc37]; decide) (by rw [hc37]; rfl) (by decide) ?_
                refine lv_aload_n hx hb d_Ma_waitOrLeave_130 rfl (lv_at hl 0 rfl) ?_
                refine lv_iconst (v := 1) hx hb d_Ma_waitOrLeave_131 (by decide) ?_
                refine lv_bipush (v := 15) hx hb d_Ma_waitOrLeave_132 (by decide) ?_
                refine lv_aload_n hx hb d_Ma_waitOrLeave_134 rfl (lv_at hl 0 rfl) ?_
                obtain ⟨r15, g15, hf⟩ := bo_some hf
                refine xg_R (i := v0) (k := 4) hx hb ht hown ck_Ma hK hP (by decide) fk_Ma_33 g15 d_Ma_waitOrLeave_135 ?_
                refine lv_iconst (v := 0) hx hb d_Ma_waitOrLeave_138 (by decide) ?_
                obtain ⟨j17, ej17, hf⟩ := bo_some hf
                rw [ej17]
                obtain ⟨hO9, hf⟩ := ck_some hf
                obtain ⟨u16, r16, hc16, hf⟩ := bx_some hf
                obtain ⟨hc16, hz16⟩ := gz_some hc16
                obtain ⟨hf, hw16⟩ := gw_some hf
                refine xV0 (i := j17) (As := [.int 0]) (rest := [.int 15, .int 1, .ref (ad v0)]) C0 hP hD hS ck_Fr hO9 (c_Fr_below N hc16) k_Fr_below (wd_of 1653 (by decide +kernel) rfl) hi_Fr_below hs_Fr_below hini_Fr rfl rfl hd_Fr_below rfl rm_Ma_waitOrLeave_Fr_below hl.1 (Nat.le_of_ble_eq_true rfl) d_Ma_waitOrLeave_139 rfl (hB.fit hm hz16 hw16) (fun H locs hP hD hS => ?_)
                have hB := hB.same2 hz16
                obtain ⟨hO9, hf⟩ := ck_some hf
                obtain ⟨u18, r18, hc18, hf⟩ := bx_some hf
                obtain ⟨hc18, hz18⟩ := gz_some hc18
                obtain ⟨hf, hw18⟩ := gw_some hf
                refine xV0 (i := v0) (As := [.int 1, .int 15, .long r16]) (rest := []) C0 hP hD hS ck_Ma hO9 (c_Ma_tell N hc18) k_Ma_tell (wd_of 1672 (by decide +kernel) rfl) hi_Ma_tell hs_Ma_tell hini_Ma rfl rfl hd_Ma_tell rfl rm_Ma_waitOrLeave_Ma_tell hl.1 (Nat.le_of_ble_eq_true rfl) d_Ma_waitOrLeave_142 rfl (hB.fit hm hz18 hw18) (fun H locs hP hD hS => ?_)
                have hB := hB.same2 hz18
                refine lv_goto (tgt := 162) hx hb d_Ma_waitOrLeave_145 (by decide) ?_
                exact wb_Ma_waitOrLeave_162 C0 hE N G hG _ _ hf hm _ _ _ hB H locs hP hD hS ls (lv_sub hl [] rfl)
              · rw [br_n _ hc37] at hf
                by_cases hc38 : v1 = 38
                · rw [br_p _ hc38] at hf
                  refine lv_tableIn (tgt := 148) hx hb d_Ma_waitOrLeave_1 (by rw [hc38]; decide) (by rw [hc38]; decide) (by rw [hc38]; rfl) (by decide) ?_
                  refine lv_aload_n hx hb d_Ma_waitOrLeave_148 rfl (lv_at hl 0 rfl) ?_
                  refine lv_bipush (v := 16) hx hb d_Ma_waitOrLeave_149 (by decide) ?_
                  obtain ⟨hO9, hf⟩ := ck_some hf
                  obtain ⟨u19, r19, hc19, hf⟩ := bx_some hf
                  obtain ⟨hc19, hz19⟩ := gz_some hc19
                  obtain ⟨hf, hw19⟩ := gw_some hf
                  refine xV0 (i := v0) (As := [.int 16]) (rest := []) C0 hP hD hS ck_Ma hO9 (c_Ma_wrong N hc19) k_Ma_wrong (wd_of 1664 (by decide +kernel) rfl) hi_Ma_wrong hs_Ma_wrong hini_Ma rfl rfl hd_Ma_wrong rfl rm_Ma_waitOrLeave_Ma_wrong hl.1 (Nat.le_of_ble_eq_true rfl) d_Ma_waitOrLeave_151 rfl (hB.fit hm hz19 hw19) (fun H locs hP hD hS => ?_)
                  have hB := hB.same2 hz19
                  refine lv_goto (tgt := 162) hx hb d_Ma_waitOrLeave_154 (by decide) ?_
                  exact wb_Ma_waitOrLeave_162 C0 hE N G hG _ _ hf hm _ _ _ hB H locs hP hD hS ls (lv_sub hl [] rfl)
                · rw [br_n _ hc38] at hf
                  refine lv_tableOut (tgt := 157) hx hb d_Ma_waitOrLeave_1 (by have z0 := tiN hc31; have z1 := tiN hc32; have z2 := tiN hc33; have z3 := tiN hc34; have z4 := tiN hc35; have z5 := tiN hc36; have z6 := tiN hc37; have z7 := tiN hc38; rw [show (31 : Int32).toInt = 31 from by decide] at z0; rw [show (32 : Int32).toInt = 32 from by decide] at z1; rw [show (33 : Int32).toInt = 33 from by decide] at z2; rw [show (34 : Int32).toInt = 34 from by decide] at z3; rw [show (35 : Int32).toInt = 35 from by decide] at z4; rw [show (36 : Int32).toInt = 36 from by decide] at z5; rw [show (37 : Int32).toInt = 37 from by decide] at z6; rw [show (38 : Int32).toInt = 38 from by decide] at z7; omega) (by decide) ?_
                  refine lv_aload_n hx hb d_Ma_waitOrLeave_157 rfl (lv_at hl 0 rfl) ?_
                  refine lv_iconst (v := 1) hx hb d_Ma_waitOrLeave_158 (by decide) ?_
                  obtain ⟨w20, g20, hf⟩ := bo_some hf
                  refine xp (i := v0) (k := 8) (v := (.inl 1)) hx hb ht hown ck_Ma hK hP hD hS (by decide) fk_Ma_50 rfl g20 rfl rfl d_Ma_waitOrLeave_159 (fun H locs hP hD hS => ?_)
                  have hB := hB.same (pF_c g20)
                  exact wb_Ma_waitOrLeave_162 C0 hE N G hG _ _ hf hm _ _ _ hB H locs hP hD hS ls (lv_sub hl [] rfl)
def fm_Ma_waitOrLeave (N : Nat) (u : CS) (v0 : Nat) (v1 : Int32) (v2 : Int32) : Option (CS × Unit) := fb_Ma_waitOrLeave_0 N () u v0 v1 v2
set_option maxRecDepth 100000 in
set_option maxHeartbeats 4000000 in
theorem c_Ma_waitOrLeave (N : Nat) {l : Launch} {s0 : State} {b0 : Nat} {D : va_G} {cB cI cJ cZ cS cP : ClassId} {sk sv : Nat → Nat} {ad : Nat → Nat} {u : CS} {sz mc ms : Nat} {v0 : Nat} {v1 : Int32} {v2 : Int32} {x : CS × Unit} (hE : ENV s0 b0 sk sv) (hf : fm_Ma_waitOrLeave N u v0 v1 v2 = some x) (hm : u.1.1 + mc = x.1.1.1 ∧ u.1.2 + ms = x.1.1.2) : Met l y_Ma_waitOrLeave (wd_ws y_Ma_waitOrLeave b_Ma_waitOrLeave 3 none) (rm_Ma_waitOrLeave mc ms) (xPc s0 b0 D cB cI cJ cZ cS cP ad u sz [.ref (ad v0), .int v1, .int v2]) (xQ D cB cI cJ cZ cS cP (xA cB cI cJ cZ cS cP ad u sz) ad u.1.1 x.1 none) mc ms (xA cB cI cJ cZ cS cP ad u sz) :=
  xMet (by decide) rfl (Nat.le_of_ble_eq_true rfl) (fun p e s m below meth c ls hsz hnm C0 hP hD hS hl =>
    wb_Ma_waitOrLeave_0 C0 hE N () trivial u _ _ _ x hf hm ad 0 0 ⟨rfl, rfl, fun _ _ => rfl⟩ s.heap [] hP hD hS ls (lv_sub hl [0, 1, 2] rfl))
abbrev b_Ma_flow : ByteArray := prog_5_method_31_code
def y_Ma_flow : MethodName := ⟨R_Ma, "flow", "(I)V"⟩
def w_Ma_flow : List Cond := wd_ws y_Ma_flow b_Ma_flow 3 none
set_option maxRecDepth 100000 in
theorem k_Ma_flow : Cond.code y_Ma_flow b_Ma_flow 3 none ∈ wd_tbl := wd_of 1954 rfl rfl
theorem d_Ma_flow_0 : decode b_Ma_flow 0 = .ok (.aload_n 0, 1) := by decide +kernel
theorem d_Ma_flow_1 : decode b_Ma_flow 1 = .ok (.getfield 9, 3) := by decide +kernel
theorem d_Ma_flow_4 : decode b_Ma_flow 4 = .ok (.aload_n 0, 1) := by decide +kernel
theorem d_Ma_flow_5 : decode b_Ma_flow 5 = .ok (.getfield 40, 3) := by decide +kernel
theorem d_Ma_flow_8 : decode b_Ma_flow 8 = .ok (.iconst 1, 1) := by decide +kernel
theorem d_Ma_flow_9 : decode b_Ma_flow 9 = .ok (.iadd, 1) := by decide +kernel
theorem d_Ma_flow_10 : decode b_Ma_flow 10 = .ok (.invokevirtual 67, 3) := by decide +kernel
theorem d_Ma_flow_13 : decode b_Ma_flow 13 = .ok (.istore_n 2, 1) := by decide +kernel
theorem d_Ma_flow_14 : decode b_Ma_flow 14 = .ok (.iload_n 1, 1) := by decide +kernel
theorem d_Ma_flow_15 : decode b_Ma_flow 15 = .ok (.tableswitch 322 18 30 #[65, 73, 81, 88, 134, 178, 196, 237, 237, 256, 256, 275, 296], 65) := by decide +kernel
theorem d_Ma_flow_80 : decode b_Ma_flow 80 = .ok (.aload_n 0, 1) := by decide +kernel
theorem d_Ma_flow_81 : decode b_Ma_flow 81 = .ok (.iload_n 2, 1) := by decide +kernel
theorem d_Ma_flow_82 : decode b_Ma_flow 82 = .ok (.putfield 40, 3) := by decide +kernel
theorem d_Ma_flow_85 : decode b_Ma_flow 85 = .ok (.goto 258, 3) := by decide +kernel
theorem d_Ma_flow_88 : decode b_Ma_flow 88 = .ok (.aload_n 0, 1) := by decide +kernel
theorem d_Ma_flow_89 : decode b_Ma_flow 89 = .ok (.iload_n 2, 1) := by decide +kernel
theorem d_Ma_flow_90 : decode b_Ma_flow 90 = .ok (.invokevirtual 288, 3) := by decide +kernel
theorem d_Ma_flow_93 : decode b_Ma_flow 93 = .ok (.goto 250, 3) := by decide +kernel
theorem d_Ma_flow_96 : decode b_Ma_flow 96 = .ok (.aload_n 0, 1) := by decide +kernel
theorem d_Ma_flow_97 : decode b_Ma_flow 97 = .ok (.invokevirtual 291, 3) := by decide +kernel
theorem d_Ma_flow_100 : decode b_Ma_flow 100 = .ok (.goto 243, 3) := by decide +kernel
theorem d_Ma_flow_103 : decode b_Ma_flow 103 = .ok (.aload_n 0, 1) := by decide +kernel
theorem d_Ma_flow_104 : decode b_Ma_flow 104 = .ok (.iload_n 2, 1) := by decide +kernel
theorem d_Ma_flow_105 : decode b_Ma_flow 105 = .ok (.putfield 171, 3) := by decide +kernel
theorem d_Ma_flow_108 : decode b_Ma_flow 108 = .ok (.aload_n 0, 1) := by decide +kernel
theorem d_Ma_flow_109 : decode b_Ma_flow 109 = .ok (.aload_n 0, 1) := by decide +kernel
theorem d_Ma_flow_110 : decode b_Ma_flow 110 = .ok (.getfield 9, 3) := by decide +kernel
theorem d_Ma_flow_113 : decode b_Ma_flow 113 = .ok (.aload_n 0, 1) := by decide +kernel
theorem d_Ma_flow_114 : decode b_Ma_flow 114 = .ok (.getfield 40, 3) := by decide +kernel
theorem d_Ma_flow_117 : decode b_Ma_flow 117 = .ok (.iconst 2, 1) := by decide +kernel
theorem d_Ma_flow_118 : decode b_Ma_flow 118 = .ok (.iadd, 1) := by decide +kernel
theorem d_Ma_flow_119 : decode b_Ma_flow 119 = .ok (.invokevirtual 67, 3) := by decide +kernel
theorem d_Ma_flow_122 : decode b_Ma_flow 122 = .ok (.putfield 57, 3) := by decide +kernel
theorem d_Ma_flow_125 : decode b_Ma_flow 125 = .ok (.aload_n 0, 1) := by decide +kernel
theorem d_Ma_flow_126 : decode b_Ma_flow 126 = .ok (.aload_n 0, 1) := by decide +kernel
theorem d_Ma_flow_127 : decode b_Ma_flow 127 = .ok (.getfield 33, 3) := by decide +kernel
theorem d_Ma_flow_130 : decode b_Ma_flow 130 = .ok (.getfield 168, 3) := by decide +kernel
theorem d_Ma_flow_133 : decode b_Ma_flow 133 = .ok (.putfield 165, 3) := by decide +kernel
theorem d_Ma_flow_136 : decode b_Ma_flow 136 = .ok (.aload_n 0, 1) := by decide +kernel
theorem d_Ma_flow_137 : decode b_Ma_flow 137 = .ok (.dup, 1) := by decide +kernel
theorem d_Ma_flow_138 : decode b_Ma_flow 138 = .ok (.getfield 40, 3) := by decide +kernel
theorem d_Ma_flow_141 : decode b_Ma_flow 141 = .ok (.iconst 3, 1) := by decide +kernel
theorem d_Ma_flow_142 : decode b_Ma_flow 142 = .ok (.iadd, 1) := by decide +kernel
theorem d_Ma_flow_143 : decode b_Ma_flow 143 = .ok (.putfield 40, 3) := by decide +kernel
theorem d_Ma_flow_146 : decode b_Ma_flow 146 = .ok (.goto 197, 3) := by decide +kernel
theorem d_Ma_flow_149 : decode b_Ma_flow 149 = .ok (.aload_n 0, 1) := by decide +kernel
theorem d_Ma_flow_150 : decode b_Ma_flow 150 = .ok (.getfield 33, 3) := by decide +kernel
theorem d_Ma_flow_153 : decode b_Ma_flow 153 = .ok (.iconst 0, 1) := by decide +kernel
theorem d_Ma_flow_154 : decode b_Ma_flow 154 = .ok (.invokevirtual 138, 3) := by decide +kernel
theorem d_Ma_flow_157 : decode b_Ma_flow 157 = .ok (.iconst 0, 1) := by decide +kernel
theorem d_Ma_flow_158 : decode b_Ma_flow 158 = .ok (.invokestatic 105, 3) := by decide +kernel
theorem d_Ma_flow_161 : decode b_Ma_flow 161 = .ok (.lcmp, 1) := by decide +kernel
theorem d_Ma_flow_162 : decode b_Ma_flow 162 = .ok (.ifCond .eq 10, 3) := by decide +kernel
theorem d_Ma_flow_165 : decode b_Ma_flow 165 = .ok (.aload_n 0, 1) := by decide +kernel
theorem d_Ma_flow_166 : decode b_Ma_flow 166 = .ok (.invokevirtual 149, 3) := by decide +kernel
theorem d_Ma_flow_169 : decode b_Ma_flow 169 = .ok (.goto 174, 3) := by decide +kernel
theorem d_Ma_flow_172 : decode b_Ma_flow 172 = .ok (.aload_n 0, 1) := by decide +kernel
theorem d_Ma_flow_173 : decode b_Ma_flow 173 = .ok (.getfield 33, 3) := by decide +kernel
theorem d_Ma_flow_176 : decode b_Ma_flow 176 = .ok (.iconst 1, 1) := by decide +kernel
theorem d_Ma_flow_177 : decode b_Ma_flow 177 = .ok (.invokevirtual 109, 3) := by decide +kernel
theorem d_Ma_flow_180 : decode b_Ma_flow 180 = .ok (.aload_n 0, 1) := by decide +kernel
theorem d_Ma_flow_181 : decode b_Ma_flow 181 = .ok (.dup, 1) := by decide +kernel
theorem d_Ma_flow_182 : decode b_Ma_flow 182 = .ok (.getfield 40, 3) := by decide +kernel
theorem d_Ma_flow_185 : decode b_Ma_flow 185 = .ok (.iconst 1, 1) := by decide +kernel
theorem d_Ma_flow_186 : decode b_Ma_flow 186 = .ok (.iadd, 1) := by decide +kernel
theorem d_Ma_flow_187 : decode b_Ma_flow 187 = .ok (.putfield 40, 3) := by decide +kernel
theorem d_Ma_flow_190 : decode b_Ma_flow 190 = .ok (.goto 153, 3) := by decide +kernel
theorem d_Ma_flow_193 : decode b_Ma_flow 193 = .ok (.aload_n 0, 1) := by decide +kernel
theorem d_Ma_flow_194 : decode b_Ma_flow 194 = .ok (.iconst 0, 1) := by decide +kernel
theorem d_Ma_flow_195 : decode b_Ma_flow 195 = .ok (.putfield 57, 3) := by decide +kernel
theorem d_Ma_flow_198 : decode b_Ma_flow 198 = .ok (.aload_n 0, 1) := by decide +kernel
theorem d_Ma_flow_199 : decode b_Ma_flow 199 = .ok (.dup, 1) := by decide +kernel
theorem d_Ma_flow_200 : decode b_Ma_flow 200 = .ok (.getfield 40, 3) := by decide +kernel
theorem d_Ma_flow_203 : decode b_Ma_flow 203 = .ok (.iconst 1, 1) := by decide +kernel
theorem d_Ma_flow_204 : decode b_Ma_flow 204 = .ok (.iadd, 1) := by decide +kernel
theorem d_Ma_flow_205 : decode b_Ma_flow 205 = .ok (.putfield 40, 3) := by decide +kernel
theorem d_Ma_flow_208 : decode b_Ma_flow 208 = .ok (.goto 135, 3) := by decide +kernel
theorem d_Ma_flow_211 : decode b_Ma_flow 211 = .ok (.aload_n 0, 1) := by decide +kernel
theorem d_Ma_flow_212 : decode b_Ma_flow 212 = .ok (.getfield 33, 3) := by decide +kernel
theorem d_Ma_flow_215 : decode b_Ma_flow 215 = .ok (.iload_n 2, 1) := by decide +kernel
theorem d_Ma_flow_216 : decode b_Ma_flow 216 = .ok (.invokevirtual 109, 3) := by decide +kernel
theorem d_Ma_flow_219 : decode b_Ma_flow 219 = .ok (.aload_n 0, 1) := by decide +kernel
theorem d_Ma_flow_220 : decode b_Ma_flow 220 = .ok (.getfield 33, 3) := by decide +kernel
theorem d_Ma_flow_223 : decode b_Ma_flow 223 = .ok (.aload_n 0, 1) := by decide +kernel
theorem d_Ma_flow_224 : decode b_Ma_flow 224 = .ok (.getfield 9, 3) := by decide +kernel
theorem d_Ma_flow_227 : decode b_Ma_flow 227 = .ok (.aload_n 0, 1) := by decide +kernel
theorem d_Ma_flow_228 : decode b_Ma_flow 228 = .ok (.getfield 40, 3) := by decide +kernel
theorem d_Ma_flow_231 : decode b_Ma_flow 231 = .ok (.iconst 2, 1) := by decide +kernel
theorem d_Ma_flow_232 : decode b_Ma_flow 232 = .ok (.iadd, 1) := by decide +kernel
theorem d_Ma_flow_233 : decode b_Ma_flow 233 = .ok (.invokevirtual 67, 3) := by decide +kernel
theorem d_Ma_flow_236 : decode b_Ma_flow 236 = .ok (.invokevirtual 294, 3) := by decide +kernel
theorem d_Ma_flow_239 : decode b_Ma_flow 239 = .ok (.aload_n 0, 1) := by decide +kernel
theorem d_Ma_flow_240 : decode b_Ma_flow 240 = .ok (.dup, 1) := by decide +kernel
theorem d_Ma_flow_241 : decode b_Ma_flow 241 = .ok (.getfield 40, 3) := by decide +kernel
theorem d_Ma_flow_244 : decode b_Ma_flow 244 = .ok (.iconst 3, 1) := by decide +kernel
theorem d_Ma_flow_245 : decode b_Ma_flow 245 = .ok (.iadd, 1) := by decide +kernel
theorem d_Ma_flow_246 : decode b_Ma_flow 246 = .ok (.putfield 40, 3) := by decide +kernel
theorem d_Ma_flow_249 : decode b_Ma_flow 249 = .ok (.goto 94, 3) := by decide +kernel
theorem d_Ma_flow_252 : decode b_Ma_flow 252 = .ok (.aload_n 0, 1) := by decide +kernel
theorem d_Ma_flow_253 : decode b_Ma_flow 253 = .ok (.iload_n 2, 1) := by decide +kernel
theorem d_Ma_flow_254 : decode b_Ma_flow 254 = .ok (.iload_n 1, 1) := by decide +kernel
theorem d_Ma_flow_255 : decode b_Ma_flow 255 = .ok (.bipush 26, 2) := by decide +kernel
theorem d_Ma_flow_257 : decode b_Ma_flow 257 = .ok (.if_icmp .ne 7, 3) := by decide +kernel
theorem d_Ma_flow_260 : decode b_Ma_flow 260 = .ok (.iconst 1, 1) := by decide +kernel
theorem d_Ma_flow_261 : decode b_Ma_flow 261 = .ok (.goto 4, 3) := by decide +kernel
theorem d_Ma_flow_264 : decode b_Ma_flow 264 = .ok (.iconst 0, 1) := by decide +kernel
theorem d_Ma_flow_265 : decode b_Ma_flow 265 = .ok (.invokevirtual 297, 3) := by decide +kernel
theorem d_Ma_flow_268 : decode b_Ma_flow 268 = .ok (.goto 75, 3) := by decide +kernel
theorem d_Ma_flow_271 : decode b_Ma_flow 271 = .ok (.aload_n 0, 1) := by decide +kernel
theorem d_Ma_flow_272 : decode b_Ma_flow 272 = .ok (.iload_n 2, 1) := by decide +kernel
theorem d_Ma_flow_273 : decode b_Ma_flow 273 = .ok (.iload_n 1, 1) := by decide +kernel
theorem d_Ma_flow_274 : decode b_Ma_flow 274 = .ok (.bipush 28, 2) := by decide +kernel
theorem d_Ma_flow_276 : decode b_Ma_flow 276 = .ok (.if_icmp .ne 7, 3) := by decide +kernel
theorem d_Ma_flow_279 : decode b_Ma_flow 279 = .ok (.iconst 1, 1) := by decide +kernel
theorem d_Ma_flow_280 : decode b_Ma_flow 280 = .ok (.goto 4, 3) := by decide +kernel
theorem d_Ma_flow_283 : decode b_Ma_flow 283 = .ok (.iconst 0, 1) := by decide +kernel
theorem d_Ma_flow_284 : decode b_Ma_flow 284 = .ok (.invokevirtual 301, 3) := by decide +kernel
theorem d_Ma_flow_287 : decode b_Ma_flow 287 = .ok (.goto 56, 3) := by decide +kernel
theorem d_Ma_flow_290 : decode b_Ma_flow 290 = .ok (.aload_n 0, 1) := by decide +kernel
theorem d_Ma_flow_291 : decode b_Ma_flow 291 = .ok (.getfield 33, 3) := by decide +kernel
theorem d_Ma_flow_294 : decode b_Ma_flow 294 = .ok (.iload_n 2, 1) := by decide +kernel
theorem d_Ma_flow_295 : decode b_Ma_flow 295 = .ok (.invokevirtual 304, 3) := by decide +kernel
theorem d_Ma_flow_298 : decode b_Ma_flow 298 = .ok (.aload_n 0, 1) := by decide +kernel
theorem d_Ma_flow_299 : decode b_Ma_flow 299 = .ok (.dup, 1) := by decide +kernel
theorem d_Ma_flow_300 : decode b_Ma_flow 300 = .ok (.getfield 40, 3) := by decide +kernel
theorem d_Ma_flow_303 : decode b_Ma_flow 303 = .ok (.iconst 2, 1) := by decide +kernel
theorem d_Ma_flow_304 : decode b_Ma_flow 304 = .ok (.iadd, 1) := by decide +kernel
theorem d_Ma_flow_305 : decode b_Ma_flow 305 = .ok (.putfield 40, 3) := by decide +kernel
theorem d_Ma_flow_308 : decode b_Ma_flow 308 = .ok (.goto 35, 3) := by decide +kernel
theorem d_Ma_flow_311 : decode b_Ma_flow 311 = .ok (.aload_n 0, 1) := by decide +kernel
theorem d_Ma_flow_312 : decode b_Ma_flow 312 = .ok (.getfield 33, 3) := by decide +kernel
theorem d_Ma_flow_315 : decode b_Ma_flow 315 = .ok (.dup, 1) := by decide +kernel
theorem d_Ma_flow_316 : decode b_Ma_flow 316 = .ok (.getfield 155, 3) := by decide +kernel
theorem d_Ma_flow_319 : decode b_Ma_flow 319 = .ok (.iconst 1, 1) := by decide +kernel
theorem d_Ma_flow_320 : decode b_Ma_flow 320 = .ok (.isub, 1) := by decide +kernel
theorem d_Ma_flow_321 : decode b_Ma_flow 321 = .ok (.putfield 155, 3) := by decide +kernel
theorem d_Ma_flow_324 : decode b_Ma_flow 324 = .ok (.aload_n 0, 1) := by decide +kernel
theorem d_Ma_flow_325 : decode b_Ma_flow 325 = .ok (.dup, 1) := by decide +kernel
theorem d_Ma_flow_326 : decode b_Ma_flow 326 = .ok (.getfield 40, 3) := by decide +kernel
theorem d_Ma_flow_329 : decode b_Ma_flow 329 = .ok (.iconst 1, 1) := by decide +kernel
theorem d_Ma_flow_330 : decode b_Ma_flow 330 = .ok (.iadd, 1) := by decide +kernel
theorem d_Ma_flow_331 : decode b_Ma_flow 331 = .ok (.putfield 40, 3) := by decide +kernel
theorem d_Ma_flow_334 : decode b_Ma_flow 334 = .ok (.goto 9, 3) := by decide +kernel
theorem d_Ma_flow_337 : decode b_Ma_flow 337 = .ok (.aload_n 0, 1) := by decide +kernel
theorem d_Ma_flow_338 : decode b_Ma_flow 338 = .ok (.iload_n 1, 1) := by decide +kernel
theorem d_Ma_flow_339 : decode b_Ma_flow 339 = .ok (.iload_n 2, 1) := by decide +kernel
theorem d_Ma_flow_340 : decode b_Ma_flow 340 = .ok (.invokevirtual 307, 3) := by decide +kernel
theorem d_Ma_flow_343 : decode b_Ma_flow 343 = .ok (.return_, 1) := by decide +kernel
set_option maxRecDepth 100000 in
theorem hl_Ma_flow : Cond.methodLink R_Ma 85 y_Ma_flow ∈ wd_tbl := wd_of 1951 (by decide +kernel) rfl
set_option maxRecDepth 100000 in
theorem hi_Ma_flow : Cond.instanceMethod y_Ma_flow ∈ wd_tbl := wd_of 1953 (by decide +kernel) rfl
set_option maxRecDepth 100000 in
theorem hs_Ma_flow : Cond.selects R_Ma y_Ma_flow y_Ma_flow ∈ wd_tbl := wd_of 110 (by decide +kernel) rfl
theorem hd_Ma_flow : y_Ma_flow.cls = R_Ma ∧ y_Ma_flow.cls ≠ "java/lang/invoke/MethodHandle" ∧ y_Ma_flow.cls ≠ "java/lang/invoke/VarHandle" ∧ (parseMethodDescriptor y_Ma_flow.desc).map (fun d => d.parameters.length) = some 1 := by decide +kernel
def rm_Ma_flow (mc ms : Nat) : Room := { frames := 5, cells := mc, slots := ms, locals := 176 }
theorem rm_Ma_flow_Co_at {mc ms : Nat} : (rm_Co_at).frames + 1 ≤ (rm_Ma_flow mc ms).frames ∧ 8 + (2 + 11) + (rm_Co_at).locals ≤ (rm_Ma_flow mc ms).locals := by
  show 0 + 1 ≤ 5 ∧ 8 + (2 + 11) + 0 ≤ 176
  decide
theorem rm_Ma_flow_Ma_tries {mc ms : Nat} {mc2 ms2 : Nat} : (rm_Ma_tries mc2 ms2).frames + 1 ≤ (rm_Ma_flow mc ms).frames ∧ 8 + (6 + 11) + (rm_Ma_tries mc2 ms2).locals ≤ (rm_Ma_flow mc ms).locals := by
  show 4 + 1 ≤ 5 ∧ 8 + (6 + 11) + 151 ≤ 176
  decide
theorem rm_Ma_flow_Ma_match {mc ms : Nat} {mc2 ms2 : Nat} : (rm_Ma_match mc2 ms2).frames + 1 ≤ (rm_Ma_flow mc ms).frames ∧ 8 + (3 + 11) + (rm_Ma_match mc2 ms2).locals ≤ (rm_Ma_flow mc ms).locals := by
  show 4 + 1 ≤ 5 ∧ 8 + (3 + 11) + 151 ≤ 176
  decide
theorem rm_Ma_flow_Fr_below {mc ms : Nat} : (rm_Fr_below).frames + 1 ≤ (rm_Ma_flow mc ms).frames ∧ 8 + (3 + 11) + (rm_Fr_below).locals ≤ (rm_Ma_flow mc ms).locals := by
  show 0 + 1 ≤ 5 ∧ 8 + (3 + 11) + 0 ≤ 176
  decide
theorem rm_Ma_flow_Ma_atom {mc ms : Nat} : (rm_Ma_atom).frames + 1 ≤ (rm_Ma_flow mc ms).frames ∧ 8 + (1 + 11) + (rm_Ma_atom).locals ≤ (rm_Ma_flow mc ms).locals := by
  show 1 + 1 ≤ 5 ∧ 8 + (1 + 11) + 21 ≤ 176
  decide
theorem rm_Ma_flow_Ma_guardFails {mc ms : Nat} : (rm_Ma_guardFails).frames + 1 ≤ (rm_Ma_flow mc ms).frames ∧ 8 + (1 + 11) + (rm_Ma_guardFails).locals ≤ (rm_Ma_flow mc ms).locals := by
  show 2 + 1 ≤ 5 ∧ 8 + (1 + 11) + 44 ≤ 176
  decide
theorem rm_Ma_flow_Fr_drop {mc ms : Nat} : (rm_Fr_drop).frames + 1 ≤ (rm_Ma_flow mc ms).frames ∧ 8 + (2 + 11) + (rm_Fr_drop).locals ≤ (rm_Ma_flow mc ms).locals := by
  show 1 + 1 ≤ 5 ∧ 8 + (2 + 11) + 23 ≤ 176
  decide
theorem rm_Ma_flow_Fr_setLine {mc ms : Nat} : (rm_Fr_setLine).frames + 1 ≤ (rm_Ma_flow mc ms).frames ∧ 8 + (2 + 11) + (rm_Fr_setLine).locals ≤ (rm_Ma_flow mc ms).locals := by
  show 1 + 1 ≤ 5 ∧ 8 + (2 + 11) + 22 ≤ 176
  decide
theorem rm_Ma_flow_Ma_call {mc ms : Nat} : (rm_Ma_call).frames + 1 ≤ (rm_Ma_flow mc ms).frames ∧ 8 + (3 + 11) + (rm_Ma_call).locals ≤ (rm_Ma_flow mc ms).locals := by
  show 3 + 1 ≤ 5 ∧ 8 + (3 + 11) + 97 ≤ 176
  decide
theorem rm_Ma_flow_Ma_apply {mc ms : Nat} {mc2 ms2 : Nat} : (rm_Ma_apply mc2 ms2).frames + 1 ≤ (rm_Ma_flow mc ms).frames ∧ 8 + (6 + 11) + (rm_Ma_apply mc2 ms2).locals ≤ (rm_Ma_flow mc ms).locals := by
  show 4 + 1 ≤ 5 ∧ 8 + (6 + 11) + 132 ≤ 176
  decide
theorem rm_Ma_flow_Fr_catchTo {mc ms : Nat} {mc2 ms2 : Nat} : (rm_Fr_catchTo mc2 ms2).frames + 1 ≤ (rm_Ma_flow mc ms).frames ∧ 8 + (3 + 11) + (rm_Fr_catchTo mc2 ms2).locals ≤ (rm_Ma_flow mc ms).locals := by
  show 2 + 1 ≤ 5 ∧ 8 + (3 + 11) + 82 ≤ 176
  decide
theorem rm_Ma_flow_Ma_waitOrLeave {mc ms : Nat} {mc2 ms2 : Nat} : (rm_Ma_waitOrLeave mc2 ms2).frames + 1 ≤ (rm_Ma_flow mc ms).frames ∧ 8 + (3 + 11) + (rm_Ma_waitOrLeave mc2 ms2).locals ≤ (rm_Ma_flow mc ms).locals := by
  show 4 + 1 ≤ 5 ∧ 8 + (3 + 11) + 126 ≤ 176
  decide
def fb_Ma_flow_343 (N : Nat) (G : Unit) (u : CS) : Option (CS × Unit) := some (u, ())
set_option maxRecDepth 100000 in
set_option maxHeartbeats 4000000 in
theorem wb_Ma_flow_343 {p : Program} {l : Launch} {e : Env} {s : State} {m : MethodId} {args : Array Value} {below : List Frame} {meth : Method} {c : Code} {s0 : State} {b0 : Nat} {D : va_G} {cB cI cJ cZ cS cP : ClassId} {A : Nat → Prop} {sk sv : Nat → Nat} {uN uS mc ms : Nat} {ad0 : Nat → Nat} (C0 : XCx p s s0 b0 m args meth c R_Ma b_Ma_flow 3 none D cB cI cJ cZ cS cP A) (hE : ENV s0 b0 sk sv) (N : Nat) (G : Unit) (hG : True) : ∀ (u : CS) (x : CS × Unit), fb_Ma_flow_343 N G u = some x → (uN + mc = x.1.1.1 ∧ uS + ms = x.1.1.2) → ∀ (ad : Nat → Nat) (ce sl : Nat), AB uN uS ad0 u ad ce sl → ∀ (H : Heap) (locs : List Loc), va_P D cls (wC cB cI cJ cZ cS cP ad u) H → va_D A (wC cB cI cJ cZ cS cP ad u) → va_S A s.heap H locs → ∀ (ls : Array Slot), lv_has ls 3 [] → W p l e (rm_Ma_flow mc ms) s m args below meth c H locs ce sl (MQ below (xQ D cB cI cJ cZ cS cP A ad0 uN x.1 none) args s mc ms A) (F0 m 343 ls []) := by
  intro u x hf hm ad ce sl hB H locs hP hD hS ls hl
  obtain ⟨hx, hb, hr, hml, ht, hown, hK, hA, hlocks, hA0, hO, hbs⟩ := id C0
  unfold fb_Ma_flow_343 at hf
  exact yr_v C0 hP hD hS hB hm hf d_Ma_flow_343
def fb_Ma_flow_284 (N : Nat) (G : Unit) (u : CS) (t0 : Nat) (t1 : Int32) (t2 : Int32) : Option (CS × Unit) := ck (isO u t0 5) (bx (gw u (fm_Ma_apply N u t0 t1 t2)) (fun u1 r1 => gw u1 (fb_Ma_flow_343 N G u1)))
set_option maxRecDepth 100000 in
set_option maxHeartbeats 4000000 in
theorem wb_Ma_flow_284 {p : Program} {l : Launch} {e : Env} {s : State} {m : MethodId} {args : Array Value} {below : List Frame} {meth : Method} {c : Code} {s0 : State} {b0 : Nat} {D : va_G} {cB cI cJ cZ cS cP : ClassId} {A : Nat → Prop} {sk sv : Nat → Nat} {uN uS mc ms : Nat} {ad0 : Nat → Nat} (C0 : XCx p s s0 b0 m args meth c R_Ma b_Ma_flow 3 none D cB cI cJ cZ cS cP A) (hE : ENV s0 b0 sk sv) (N : Nat) (G : Unit) (hG : True) : ∀ (u : CS) (t0 : Nat) (t1 : Int32) (t2 : Int32) (x : CS × Unit), fb_Ma_flow_284 N G u t0 t1 t2 = some x → (uN + mc = x.1.1.1 ∧ uS + ms = x.1.1.2) → ∀ (ad : Nat → Nat) (ce sl : Nat), AB uN uS ad0 u ad ce sl → ∀ (H : Heap) (locs : List Loc), va_P D cls (wC cB cI cJ cZ cS cP ad u) H → va_D A (wC cB cI cJ cZ cS cP ad u) → va_S A s.heap H locs → ∀ (ls : Array Slot), lv_has ls 3 [] → W p l e (rm_Ma_flow mc ms) s m args below meth c H locs ce sl (MQ below (xQ D cB cI cJ cZ cS cP A ad0 uN x.1 none) args s mc ms A) (F0 m 284 ls [.int t2, .int t1, .ref (ad t0)]) := by
  intro u t0 t1 t2 x hf hm ad ce sl hB H locs hP hD hS ls hl
  obtain ⟨hx, hb, hr, hml, ht, hown, hK, hA, hlocks, hA0, hO, hbs⟩ := id C0
  unfold fb_Ma_flow_284 at hf
  obtain ⟨hO9, hf⟩ := ck_some hf
  obtain ⟨u1, r1, hc1, hf⟩ := bx_some hf
  obtain ⟨hc1, hq1⟩ := gw_some hc1
  obtain ⟨hf, hw1⟩ := gw_some hf
  refine yV (i := t0) (As := [.int t1, .int t2]) (rest := []) C0 hP hD hS ck_Ma hO9 (c_Ma_apply N hE hc1 (gm hq1)) k_Ma_apply (wd_of 2000 (by decide +kernel) rfl) hi_Ma_apply hs_Ma_apply hini_Ma rfl rfl hd_Ma_apply rfl rm_Ma_flow_Ma_apply hl.1 (Nat.le_of_ble_eq_true rfl) d_Ma_flow_284 rfl (gm hq1) hB hm hw1 (fun ad1 H locs ce sl hg1 hB hP hD hS => ?_)
  refine lv_goto (tgt := 343) hx hb d_Ma_flow_287 (by decide) ?_
  exact wb_Ma_flow_343 C0 hE N G hG _ _ hf hm _ _ _ hB H locs hP hD hS ls (lv_sub hl [] rfl)
def fb_Ma_flow_265 (N : Nat) (G : Unit) (u : CS) (t0 : Nat) (t1 : Int32) (t2 : Int32) : Option (CS × Unit) := ck (isO u t0 5) (bx (gz u (fm_Ma_call N u t0 t1 t2)) (fun u2 r2 => gw u2 (fb_Ma_flow_343 N G u2)))
set_option maxRecDepth 100000 in
set_option maxHeartbeats 4000000 in
theorem wb_Ma_flow_265 {p : Program} {l : Launch} {e : Env} {s : State} {m : MethodId} {args : Array Value} {below : List Frame} {meth : Method} {c : Code} {s0 : State} {b0 : Nat} {D : va_G} {cB cI cJ cZ cS cP : ClassId} {A : Nat → Prop} {sk sv : Nat → Nat} {uN uS mc ms : Nat} {ad0 : Nat → Nat} (C0 : XCx p s s0 b0 m args meth c R_Ma b_Ma_flow 3 none D cB cI cJ cZ cS cP A) (hE : ENV s0 b0 sk sv) (N : Nat) (G : Unit) (hG : True) : ∀ (u : CS) (t0 : Nat) (t1 : Int32) (t2 : Int32) (x : CS × Unit), fb_Ma_flow_265 N G u t0 t1 t2 = some x → (uN + mc = x.1.1.1 ∧ uS + ms = x.1.1.2) → ∀ (ad : Nat → Nat) (ce sl : Nat), AB uN uS ad0 u ad ce sl → ∀ (H : Heap) (locs : List Loc), va_P D cls (wC cB cI cJ cZ cS cP ad u) H → va_D A (wC cB cI cJ cZ cS cP ad u) → va_S A s.heap H locs → ∀ (ls : Array Slot), lv_has ls 3 [] → W p l e (rm_Ma_flow mc ms) s m args below meth c H locs ce sl (MQ below (xQ D cB cI cJ cZ cS cP A ad0 uN x.1 none) args s mc ms A) (F0 m 265 ls [.int t2, .int t1, .ref (ad t0)]) := by
  intro u t0 t1 t2 x hf hm ad ce sl hB H locs hP hD hS ls hl
  obtain ⟨hx, hb, hr, hml, ht, hown, hK, hA, hlocks, hA0, hO, hbs⟩ := id C0
  unfold fb_Ma_flow_265 at hf
  obtain ⟨hO9, hf⟩ := ck_some hf
  obtain ⟨u2, r2, hc2, hf⟩ := bx_some hf
  obtain ⟨hc2, hz2⟩ := gz_some hc2
  obtain ⟨hf, hw2⟩ := gw_some hf
  refine xV0 (i := t0) (As := [.int t1, .int t2]) (rest := []) C0 hP hD hS ck_Ma hO9 (c_Ma_call N hE hc2) k_Ma_call (wd_of 1979 (by decide +kernel) rfl) hi_Ma_call hs_Ma_call hini_Ma rfl rfl hd_Ma_call rfl rm_Ma_flow_Ma_call hl.1 (Nat.le_of_ble_eq_true rfl) d_Ma_flow_265 rfl (hB.fit hm hz2 hw2) (fun H locs hP hD hS => ?_)
  have hB := hB.same2 hz2
  refine lv_goto (tgt := 343) hx hb d_Ma_flow_268 (by decide) ?_
  exact wb_Ma_flow_343 C0 hE N G hG _ _ hf hm _ _ _ hB H locs hP hD hS ls (lv_sub hl [] rfl)
def fb_Ma_flow_0 (N : Nat) (G : Unit) (u : CS) (v0 : Nat) (v1 : Int32) : Option (CS × Unit) := bo (gR u v0 5 0) (fun r3 => bo (gI u v0 5 5) (fun r4 => bo r3 (fun j6 => ck (isO u j6 2) (bx (gz u (fm_Co_at N u j6 (r4 + 1))) (fun u5 r5 => gw u5 (br (decide (v1 = 18)) (bo (pF u5 v0 5 5 (.inl r5)) (fun w7 => fb_Ma_flow_343 N G w7)) (br (decide (v1 = 19)) (ck (isO u5 v0 5) (ck (List.all [some v0] (okR u5.1.1)) (bx (gw u5 (fm_Ma_tries N u5 v0 r5)) (fun u8 r8 => gw u8 (fb_Ma_flow_343 N G u8))))) (br (decide (v1 = 20)) (ck (isO u5 v0 5) (ck (List.all [some v0] (okR u5.1.1)) (bx (gw u5 (fm_Ma_match N u5 v0)) (fun u9 r9 => gw u9 (fb_Ma_flow_343 N G u9))))) (br (decide (v1 = 21)) (bo (pF u5 v0 5 13 (.inl r5)) (fun w10 => bo (gR w10 v0 5 0) (fun r11 => bo (gI w10 v0 5 5) (fun r12 => bo r11 (fun j14 => ck (isO w10 j14 2) (bx (gz w10 (fm_Co_at N w10 j14 (r12 + 2))) (fun u13 r13 => gw u13 (bo (pF u13 v0 5 12 (.inl r13)) (fun w15 => bo (gR w15 v0 5 4) (fun r16 => bo r16 (fun j17 => bo (gI w15 j17 4 6) (fun r18 => bo (pF w15 v0 5 14 (.inl r18)) (fun w19 => bo (gI w19 v0 5 5) (fun r20 => bo (pF w19 v0 5 5 (.inl (r20 + 3))) (fun w21 => fb_Ma_flow_343 N G w21))))))))))))))) (br (decide (v1 = 22)) (bo (gR u5 v0 5 4) (fun r22 => bo r22 (fun j24 => ck (isO u5 j24 4) (bx (gz u5 (fm_Fr_below N u5 j24 0)) (fun u23 r23 => gw u23 (bx (gz u23 (fm_Ma_atom N u23 0)) (fun u25 r25 => gw u25 (br (decide ((lg_cmp r23 r25) = 0)) (bo (gR u25 v0 5 4) (fun r26 => bo r26 (fun j28 => ck (isO u25 j28 4) (bx (gz u25 (fm_Fr_drop N u25 j28 1)) (fun u27 r27 => gw u27 (bo (gI u27 v0 5 5) (fun r29 => bo (pF u27 v0 5 5 (.inl (r29 + 1))) (fun w30 => fb_Ma_flow_343 N G w30)))))))) (ck (isO u25 v0 5) (bx (gz u25 (fm_Ma_guardFails N u25 v0)) (fun u31 r31 => gw u31 (fb_Ma_flow_343 N G u31)))))))))))) (br (decide (v1 = 23)) (bo (pF u5 v0 5 12 (.inl 0)) (fun w32 => bo (gI w32 v0 5 5) (fun r33 => bo (pF w32 v0 5 5 (.inl (r33 + 1))) (fun w34 => fb_Ma_flow_343 N G w34)))) (br (decide (v1 = 24)) (bo (gR u5 v0 5 4) (fun r35 => bo r35 (fun j37 => ck (isO u5 j37 4) (bx (gz u5 (fm_Fr_drop N u5 j37 r5)) (fun u36 r36 => gw u36 (bo (gR u36 v0 5 4) (fun r38 => bo (gR u36 v0 5 0) (fun r39 => bo (gI u36 v0 5 5) (fun r40 => bo r39 (fun j42 => ck (isO u36 j42 2) (bx (gz u36 (fm_Co_at N u36 j42 (r40 + 2))) (fun u41 r41 => gw u41 (bo r38 (fun j44 => ck (isO u41 j44 4) (bx (gz u41 (fm_Fr_setLine N u41 j44 r41)) (fun u43 r43 => gw u43 (bo (gI u43 v0 5 5) (fun r45 => bo (pF u43 v0 5 5 (.inl (r45 + 3))) (fun w46 => fb_Ma_flow_343 N G w46))))))))))))))))))) (br (decide (v1 = 25)) (br (decide (v1 = 26)) (fb_Ma_flow_265 N G u5 (v0) (r5) (1)) (fb_Ma_flow_265 N G u5 (v0) (r5) (0))) (br (decide (v1 = 26)) (br (decide (v1 = 26)) (fb_Ma_flow_265 N G u5 (v0) (r5) (1)) (fb_Ma_flow_265 N G u5 (v0) (r5) (0))) (br (decide (v1 = 27)) (br (decide (v1 = 28)) (fb_Ma_flow_284 N G u5 (v0) (r5) (1)) (fb_Ma_flow_284 N G u5 (v0) (r5) (0))) (br (decide (v1 = 28)) (br (decide (v1 = 28)) (fb_Ma_flow_284 N G u5 (v0) (r5) (1)) (fb_Ma_flow_284 N G u5 (v0) (r5) (0))) (br (decide (v1 = 29)) (bo (gR u5 v0 5 4) (fun r47 => bo r47 (fun j49 => ck (isO u5 j49 4) (ck (List.all [some v0] (okR u5.1.1)) (bx (gw u5 (fm_Fr_catchTo N u5 j49 r5)) (fun u48 r48 => gw u48 (bo (gI u48 v0 5 5) (fun r50 => bo (pF u48 v0 5 5 (.inl (r50 + 2))) (fun w51 => fb_Ma_flow_343 N G w51))))))))) (br (decide (v1 = 30)) (bo (gR u5 v0 5 4) (fun r52 => bo r52 (fun j53 => bo (gI u5 j53 4 8) (fun r54 => bo (pF u5 j53 4 8 (.inl (r54 - 1))) (fun w55 => bo (gI w55 v0 5 5) (fun r56 => bo (pF w55 v0 5 5 (.inl (r56 + 1))) (fun w57 => fb_Ma_flow_343 N G w57))))))) (ck (isO u5 v0 5) (ck (List.all [some v0] (okR u5.1.1)) (bx (gw u5 (fm_Ma_waitOrLeave N u5 v0 v1 r5)) (fun u58 r58 => gw u58 (fb_Ma_flow_343 N G u58)))))))))))))))))))))))
set_option maxRecDepth 100000 in
set_option maxHeartbeats 4000000 in
theorem wb_Ma_flow_0 {p : Program} {l : Launch} {e : Env} {s : State} {m : MethodId} {args : Array Value} {below : List Frame} {meth : Method} {c : Code} {s0 : State} {b0 : Nat} {D : va_G} {cB cI cJ cZ cS cP : ClassId} {A : Nat → Prop} {sk sv : Nat → Nat} {uN uS mc ms : Nat} {ad0 : Nat → Nat} (C0 : XCx p s s0 b0 m args meth c R_Ma b_Ma_flow 3 none D cB cI cJ cZ cS cP A) (hE : ENV s0 b0 sk sv) (N : Nat) (G : Unit) (hG : True) : ∀ (u : CS) (v0 : Nat) (v1 : Int32) (x : CS × Unit), fb_Ma_flow_0 N G u v0 v1 = some x → (uN + mc = x.1.1.1 ∧ uS + ms = x.1.1.2) → ∀ (ad : Nat → Nat) (ce sl : Nat), AB uN uS ad0 u ad ce sl → ∀ (H : Heap) (locs : List Loc), va_P D cls (wC cB cI cJ cZ cS cP ad u) H → va_D A (wC cB cI cJ cZ cS cP ad u) → va_S A s.heap H locs → ∀ (ls : Array Slot), lv_has ls 3 [(0, .ref (ad v0)), (1, .int v1)] → W p l e (rm_Ma_flow mc ms) s m args below meth c H locs ce sl (MQ below (xQ D cB cI cJ cZ cS cP A ad0 uN x.1 none) args s mc ms A) (F0 m 0 ls []) := by
  intro u v0 v1 x hf hm ad ce sl hB H locs hP hD hS ls hl
  obtain ⟨hx, hb, hr, hml, ht, hown, hK, hA, hlocks, hA0, hO, hbs⟩ := id C0
  unfold fb_Ma_flow_0 at hf
  refine lv_aload_n hx hb d_Ma_flow_0 rfl (lv_at hl 0 rfl) ?_
  obtain ⟨r3, g3, hf⟩ := bo_some hf
  refine xg_R (i := v0) (k := 0) hx hb ht hown ck_Ma hK hP (by decide) fk_Ma_9 g3 d_Ma_flow_1 ?_
  refine lv_aload_n hx hb d_Ma_flow_4 rfl (lv_at hl 0 rfl) ?_
  obtain ⟨r4, g4, hf⟩ := bo_some hf
  refine xg_I (i := v0) (k := 5) hx hb ht hown ck_Ma hK hP (by decide) fk_Ma_40 g4 d_Ma_flow_5 ?_
  refine lv_iconst (v := 1) hx hb d_Ma_flow_8 (by decide) ?_
  refine lv_iadd hx hb d_Ma_flow_9 ?_
  obtain ⟨j6, ej6, hf⟩ := bo_some hf
  rw [ej6]
  obtain ⟨hO9, hf⟩ := ck_some hf
  obtain ⟨u5, r5, hc5, hf⟩ := bx_some hf
  obtain ⟨hc5, hz5⟩ := gz_some hc5
  obtain ⟨hf, hw5⟩ := gw_some hf
  refine xV0 (i := j6) (As := [.int (r4 + 1)]) (rest := []) C0 hP hD hS ck_Co hO9 (c_Co_at N hc5) k_Co_at (wd_of 1644 (by decide +kernel) rfl) hi_Co_at hs_Co_at hini_Co rfl rfl hd_Co_at rfl rm_Ma_flow_Co_at hl.1 (Nat.le_of_ble_eq_true rfl) d_Ma_flow_10 rfl (hB.fit hm hz5 hw5) (fun H locs hP hD hS => ?_)
  have hB := hB.same2 hz5
  refine lv_istore_n (lv' := [(2, .int r5), (0, .ref (ad v0)), (1, .int v1)]) hx hb d_Ma_flow_13 rfl hl (by decide) (by first | rfl | simp [List.filter, cat_rf]) (fun ls hl => ?_)
  refine lv_iload_n hx hb d_Ma_flow_14 rfl (lv_at hl 2 rfl) ?_
  by_cases hc18 : v1 = 18
  · rw [br_p _ hc18] at hf
    refine lv_tableIn (tgt := 80) hx hb d_Ma_flow_15 (by rw [hc18]; decide) (by rw [hc18]; decide) (by rw [hc18]; rfl) (by decide) ?_
    refine lv_aload_n hx hb d_Ma_flow_80 rfl (lv_at hl 1 rfl) ?_
    refine lv_iload_n hx hb d_Ma_flow_81 rfl (lv_at hl 0 rfl) ?_
    obtain ⟨w7, g7, hf⟩ := bo_some hf
    refine xp (i := v0) (k := 5) (v := (.inl r5)) hx hb ht hown ck_Ma hK hP hD hS (by decide) fk_Ma_40 rfl g7 rfl rfl d_Ma_flow_82 (fun H locs hP hD hS => ?_)
    have hB := hB.same (pF_c g7)
    refine lv_goto (tgt := 343) hx hb d_Ma_flow_85 (by decide) ?_
    exact wb_Ma_flow_343 C0 hE N G hG _ _ hf hm _ _ _ hB H locs hP hD hS ls (lv_sub hl [] rfl)
  · rw [br_n _ hc18] at hf
    by_cases hc19 : v1 = 19
    · rw [br_p _ hc19] at hf
      refine lv_tableIn (tgt := 88) hx hb d_Ma_flow_15 (by rw [hc19]; decide) (by rw [hc19]; decide) (by rw [hc19]; rfl) (by decide) ?_
      refine lv_aload_n hx hb d_Ma_flow_88 rfl (lv_at hl 1 rfl) ?_
      refine lv_iload_n hx hb d_Ma_flow_89 rfl (lv_at hl 0 rfl) ?_
      obtain ⟨hO9, hf⟩ := ck_some hf
      obtain ⟨hk8, hf⟩ := ck_some hf
      obtain ⟨u8, r8, hc8, hf⟩ := bx_some hf
      obtain ⟨hc8, hq8⟩ := gw_some hc8
      obtain ⟨hf, hw8⟩ := gw_some hf
      refine yV (i := v0) (As := [.int r5]) (rest := []) C0 hP hD hS ck_Ma hO9 (c_Ma_tries N hE hc8 (gm hq8)) k_Ma_tries (wd_of 1955 (by decide +kernel) rfl) hi_Ma_tries hs_Ma_tries hini_Ma rfl rfl hd_Ma_tries rfl rm_Ma_flow_Ma_tries hl.1 (Nat.le_of_ble_eq_true rfl) d_Ma_flow_90 rfl (gm hq8) hB hm hw8 (fun ad8 H locs ce sl hg8 hB hP hD hS => ?_)
      have q8_0 : ad8 v0 = ad v0 := ko_O (k := 0) hk8 rfl hg8
      have hl : lv_has ls 3 [(2, .int r5), (0, .ref (ad8 v0)), (1, .int v1)] := by simp only [q8_0]; exact hl
      refine lv_goto (tgt := 343) hx hb d_Ma_flow_93 (by decide) ?_
      exact wb_Ma_flow_343 C0 hE N G hG _ _ hf hm _ _ _ hB H locs hP hD hS ls (lv_sub hl [] rfl)
    · rw [br_n _ hc19] at hf
      by_cases hc20 : v1 = 20
      · rw [br_p _ hc20] at hf
        refine lv_tableIn (tgt := 96) hx hb d_Ma_flow_15 (by rw [hc20]; decide) (by rw [hc20]; decide) (by rw [hc20]; rfl) (by decide) ?_
        refine lv_aload_n hx hb d_Ma_flow_96 rfl (lv_at hl 1 rfl) ?_
        obtain ⟨hO9, hf⟩ := ck_some hf
        obtain ⟨hk9, hf⟩ := ck_some hf
        obtain ⟨u9, r9, hc9, hf⟩ := bx_some hf
        obtain ⟨hc9, hq9⟩ := gw_some hc9
        obtain ⟨hf, hw9⟩ := gw_some hf
        refine yV (i := v0) (As := []) (rest := []) C0 hP hD hS ck_Ma hO9 (c_Ma_match N hE hc9 (gm hq9)) k_Ma_match (wd_of 1967 (by decide +kernel) rfl) hi_Ma_match hs_Ma_match hini_Ma rfl rfl hd_Ma_match rfl rm_Ma_flow_Ma_match hl.1 (Nat.le_of_ble_eq_true rfl) d_Ma_flow_97 rfl (gm hq9) hB hm hw9 (fun ad9 H locs ce sl hg9 hB hP hD hS => ?_)
        have q9_0 : ad9 v0 = ad v0 := ko_O (k := 0) hk9 rfl hg9
        have hl : lv_has ls 3 [(2, .int r5), (0, .ref (ad9 v0)), (1, .int v1)] := by simp only [q9_0]; exact hl
        refine lv_goto (tgt := 343) hx hb d_Ma_flow_100 (by decide) ?_
        exact wb_Ma_flow_343 C0 hE N G hG _ _ hf hm _ _ _ hB H locs hP hD hS ls (lv_sub hl [] rfl)
      · rw [br_n _ hc20] at hf
        by_cases hc21 : v1 = 21
        · rw [br_p _ hc21] at hf
          refine lv_tableIn (tgt := 103) hx hb d_Ma_flow_15 (by rw [hc21]; decide) (by rw [hc21]; decide) (by rw [hc21]; rfl) (by decide) ?_
          refine lv_aload_n hx hb d_Ma_flow_103 rfl (lv_at hl 1 rfl) ?_
          refine lv_iload_n hx hb d_Ma_flow_104 rfl (lv_at hl 0 rfl) ?_
          obtain ⟨w10, g10, hf⟩ := bo_some hf
          refine xp (i := v0) (k := 13) (v := (.inl r5)) hx hb ht hown ck_Ma hK hP hD hS (by decide) fk_Ma_171 rfl g10 rfl rfl d_Ma_flow_105 (fun H locs hP hD hS => ?_)
          have hB := hB.same (pF_c g10)
          refine lv_aload_n hx hb d_Ma_flow_108 rfl (lv_at hl 1 rfl) ?_
          refine lv_aload_n hx hb d_Ma_flow_109 rfl (lv_at hl 1 rfl) ?_
          obtain ⟨r11, g11, hf⟩ := bo_some hf
          refine xg_R (i := v0) (k := 0) hx hb ht hown ck_Ma hK hP (by decide) fk_Ma_9 g11 d_Ma_flow_110 ?_
          refine lv_aload_n hx hb d_Ma_flow_113 rfl (lv_at hl 1 rfl) ?_
          obtain ⟨r12, g12, hf⟩ := bo_some hf
          refine xg_I (i := v0) (k := 5) hx hb ht hown ck_Ma hK hP (by decide) fk_Ma_40 g12 d_Ma_flow_114 ?_
          refine lv_iconst (v := 2) hx hb d_Ma_flow_117 (by decide) ?_
          refine lv_iadd hx hb d_Ma_flow_118 ?_
          obtain ⟨j14, ej14, hf⟩ := bo_some hf
          rw [ej14]
          obtain ⟨hO9, hf⟩ := ck_some hf
          obtain ⟨u13, r13, hc13, hf⟩ := bx_some hf
          obtain ⟨hc13, hz13⟩ := gz_some hc13
          obtain ⟨hf, hw13⟩ := gw_some hf
          refine xV0 (i := j14) (As := [.int (r12 + 2)]) (rest := [.ref (ad v0)]) C0 hP hD hS ck_Co hO9 (c_Co_at N hc13) k_Co_at (wd_of 1644 (by decide +kernel) rfl) hi_Co_at hs_Co_at hini_Co rfl rfl hd_Co_at rfl rm_Ma_flow_Co_at hl.1 (Nat.le_of_ble_eq_true rfl) d_Ma_flow_119 rfl (hB.fit hm hz13 hw13) (fun H locs hP hD hS => ?_)
          have hB := hB.same2 hz13
          obtain ⟨w15, g15, hf⟩ := bo_some hf
          refine xp (i := v0) (k := 12) (v := (.inl r13)) hx hb ht hown ck_Ma hK hP hD hS (by decide) fk_Ma_57 rfl g15 rfl rfl d_Ma_flow_122 (fun H locs hP hD hS => ?_)
          have hB := hB.same (pF_c g15)
          refine lv_aload_n hx hb d_Ma_flow_125 rfl (lv_at hl 1 rfl) ?_
          refine lv_aload_n hx hb d_Ma_flow_126 rfl (lv_at hl 1 rfl) ?_
          obtain ⟨r16, g16, hf⟩ := bo_some hf
          refine xg_R (i := v0) (k := 4) hx hb ht hown ck_Ma hK hP (by decide) fk_Ma_33 g16 d_Ma_flow_127 ?_
          obtain ⟨j17, ej17, hf⟩ := bo_some hf
          rw [ej17]
          obtain ⟨r18, g18, hf⟩ := bo_some hf
          refine xg_I (i := j17) (k := 6) hx hb ht hown ck_Fr hK hP (by decide) fk_Ma_168 g18 d_Ma_flow_130 ?_
          obtain ⟨w19, g19, hf⟩ := bo_some hf
          refine xp (i := v0) (k := 14) (v := (.inl r18)) hx hb ht hown ck_Ma hK hP hD hS (by decide) fk_Ma_165 rfl g19 rfl rfl d_Ma_flow_133 (fun H locs hP hD hS => ?_)
          have hB := hB.same (pF_c g19)
          refine lv_aload_n hx hb d_Ma_flow_136 rfl (lv_at hl 1 rfl) ?_
          refine lv_dup hx hb d_Ma_flow_137 rfl ?_
          obtain ⟨r20, g20, hf⟩ := bo_some hf
          refine xg_I (i := v0) (k := 5) hx hb ht hown ck_Ma hK hP (by decide) fk_Ma_40 g20 d_Ma_flow_138 ?_
          refine lv_iconst (v := 3) hx hb d_Ma_flow_141 (by decide) ?_
          refine lv_iadd hx hb d_Ma_flow_142 ?_
          obtain ⟨w21, g21, hf⟩ := bo_some hf
          refine xp (i := v0) (k := 5) (v := (.inl (r20 + 3))) hx hb ht hown ck_Ma hK hP hD hS (by decide) fk_Ma_40 rfl g21 rfl rfl d_Ma_flow_143 (fun H locs hP hD hS => ?_)
          have hB := hB.same (pF_c g21)
          refine lv_goto (tgt := 343) hx hb d_Ma_flow_146 (by decide) ?_
          exact wb_Ma_flow_343 C0 hE N G hG _ _ hf hm _ _ _ hB H locs hP hD hS ls (lv_sub hl [] rfl)
        · rw [br_n _ hc21] at hf
          by_cases hc22 : v1 = 22
          · rw [br_p _ hc22] at hf
            refine lv_tableIn (tgt := 149) hx hb d_Ma_flow_15 (by rw [hc22]; decide) (by rw [hc22]; decide) (by rw [hc22]; rfl) (by decide) ?_
            refine lv_aload_n hx hb d_Ma_flow_149 rfl (lv_at hl 1 rfl) ?_
            obtain ⟨r22, g22, hf⟩ := bo_some hf
            refine xg_R (i := v0) (k := 4) hx hb ht hown ck_Ma hK hP (by decide) fk_Ma_33 g22 d_Ma_flow_150 ?_
            refine lv_iconst (v := 0) hx hb d_Ma_flow_153 (by decide) ?_
            obtain ⟨j24, ej24, hf⟩ := bo_some hf
            rw [ej24]
            obtain ⟨hO9, hf⟩ := ck_some hf
            obtain ⟨u23, r23, hc23, hf⟩ := bx_some hf
            obtain ⟨hc23, hz23⟩ := gz_some hc23
            obtain ⟨hf, hw23⟩ := gw_some hf
            refine xV0 (i := j24) (As := [.int 0]) (rest := []) C0 hP hD hS ck_Fr hO9 (c_Fr_below N hc23) k_Fr_below (wd_of 1653 (by decide +kernel) rfl) hi_Fr_below hs_Fr_below hini_Fr rfl rfl hd_Fr_below rfl rm_Ma_flow_Fr_below hl.1 (Nat.le_of_ble_eq_true rfl) d_Ma_flow_154 rfl (hB.fit hm hz23 hw23) (fun H locs hP hD hS => ?_)
            have hB := hB.same2 hz23
            refine lv_iconst (v := 0) hx hb d_Ma_flow_157 (by decide) ?_
            obtain ⟨u25, r25, hc25, hf⟩ := bx_some hf
            obtain ⟨hc25, hz25⟩ := gz_some hc25
            obtain ⟨hf, hw25⟩ := gw_some hf
            refine xS0 (As := [.int 0]) (rest := [.long r23]) C0 hP hD hS (c_Ma_atom N hc25) k_Ma_atom (wd_of 1668 (by decide +kernel) rfl) ht_Ma_atom hini_Ma rfl rfl hd_Ma_atom rfl rm_Ma_flow_Ma_atom hl.1 (Nat.le_of_ble_eq_true rfl) d_Ma_flow_158 rfl (hB.fit hm hz25 hw25) (fun H locs hP hD hS => ?_)
            have hB := hB.same2 hz25
            refine W.lcmp hx hb d_Ma_flow_161 ?_
            refine lv_if_eq (tgt := 172) hx hb d_Ma_flow_162 (by decide) (fun hc => ?_) (fun hc => ?_)
            · rw [br_p _ hc] at hf
              refine lv_aload_n hx hb d_Ma_flow_172 rfl (lv_at hl 1 rfl) ?_
              obtain ⟨r26, g26, hf⟩ := bo_some hf
              refine xg_R (i := v0) (k := 4) hx hb ht hown ck_Ma hK hP (by decide) fk_Ma_33 g26 d_Ma_flow_173 ?_
              refine lv_iconst (v := 1) hx hb d_Ma_flow_176 (by decide) ?_
              obtain ⟨j28, ej28, hf⟩ := bo_some hf
              rw [ej28]
              obtain ⟨hO9, hf⟩ := ck_some hf
              obtain ⟨u27, r27, hc27, hf⟩ := bx_some hf
              obtain ⟨hc27, hz27⟩ := gz_some hc27
              obtain ⟨hf, hw27⟩ := gw_some hf
              refine xV0 (i := j28) (As := [.int 1]) (rest := []) C0 hP hD hS ck_Fr hO9 (c_Fr_drop N hE hc27) k_Fr_drop (wd_of 1748 (by decide +kernel) rfl) hi_Fr_drop hs_Fr_drop hini_Fr rfl rfl hd_Fr_drop rfl rm_Ma_flow_Fr_drop hl.1 (Nat.le_of_ble_eq_true rfl) d_Ma_flow_177 rfl (hB.fit hm hz27 hw27) (fun H locs hP hD hS => ?_)
              have hB := hB.same2 hz27
              refine lv_aload_n hx hb d_Ma_flow_180 rfl (lv_at hl 1 rfl) ?_
              refine lv_dup hx hb d_Ma_flow_181 rfl ?_
              obtain ⟨r29, g29, hf⟩ := bo_some hf
              refine xg_I (i := v0) (k := 5) hx hb ht hown ck_Ma hK hP (by decide) fk_Ma_40 g29 d_Ma_flow_182 ?_
              refine lv_iconst (v := 1) hx hb d_Ma_flow_185 (by decide) ?_
              refine lv_iadd hx hb d_Ma_flow_186 ?_
              obtain ⟨w30, g30, hf⟩ := bo_some hf
              refine xp (i := v0) (k := 5) (v := (.inl (r29 + 1))) hx hb ht hown ck_Ma hK hP hD hS (by decide) fk_Ma_40 rfl g30 rfl rfl d_Ma_flow_187 (fun H locs hP hD hS => ?_)
              have hB := hB.same (pF_c g30)
              refine lv_goto (tgt := 343) hx hb d_Ma_flow_190 (by decide) ?_
              exact wb_Ma_flow_343 C0 hE N G hG _ _ hf hm _ _ _ hB H locs hP hD hS ls (lv_sub hl [] rfl)
            · rw [br_n _ hc] at hf
              refine lv_aload_n hx hb d_Ma_flow_165 rfl (lv_at hl 1 rfl) ?_
              obtain ⟨hO9, hf⟩ := ck_some hf
              obtain ⟨u31, r31, hc31, hf⟩ := bx_some hf
              obtain ⟨hc31, hz31⟩ := gz_some hc31
              obtain ⟨hf, hw31⟩ := gw_some hf
              refine xV0 (i := v0) (As := []) (rest := []) C0 hP hD hS ck_Ma hO9 (c_Ma_guardFails N hE hc31) k_Ma_guardFails (wd_of 1971 (by decide +kernel) rfl) hi_Ma_guardFails hs_Ma_guardFails hini_Ma rfl rfl hd_Ma_guardFails rfl rm_Ma_flow_Ma_guardFails hl.1 (Nat.le_of_ble_eq_true rfl) d_Ma_flow_166 rfl (hB.fit hm hz31 hw31) (fun H locs hP hD hS => ?_)
              have hB := hB.same2 hz31
              refine lv_goto (tgt := 343) hx hb d_Ma_flow_169 (by decide) ?_
              exact wb_Ma_flow_343 C0 hE N G hG _ _ hf hm _ _ _ hB H locs hP hD hS ls (lv_sub hl [] rfl)
          · rw [br_n _ hc22] at hf
            by_cases hc23 : v1 = 23
            · rw [br_p _ hc23] at hf
              refine lv_tableIn (tgt := 193) hx hb d_Ma_flow_15 (by rw [hc23]; decide) (by rw [hc23]; decide) (by rw [hc23]; rfl) (by decide) ?_
              refine lv_aload_n hx hb d_Ma_flow_193 rfl (lv_at hl 1 rfl) ?_
              refine lv_iconst (v := 0) hx hb d_Ma_flow_194 (by decide) ?_
              obtain ⟨w32, g32, hf⟩ := bo_some hf
              refine xp (i := v0) (k := 12) (v := (.inl 0)) hx hb ht hown ck_Ma hK hP hD hS (by decide) fk_Ma_57 rfl g32 rfl rfl d_Ma_flow_195 (fun H locs hP hD hS => ?_)
              have hB := hB.same (pF_c g32)
              refine lv_aload_n hx hb d_Ma_flow_198 rfl (lv_at hl 1 rfl) ?_
              refine lv_dup hx hb d_Ma_flow_199 rfl ?_
              obtain ⟨r33, g33, hf⟩ := bo_some hf
              refine xg_I (i := v0) (k := 5) hx hb ht hown ck_Ma hK hP (by decide) fk_Ma_40 g33 d_Ma_flow_200 ?_
              refine lv_iconst (v := 1) hx hb d_Ma_flow_203 (by decide) ?_
              refine lv_iadd hx hb d_Ma_flow_204 ?_
              obtain ⟨w34, g34, hf⟩ := bo_some hf
              refine xp (i := v0) (k := 5) (v := (.inl (r33 + 1))) hx hb ht hown ck_Ma hK hP hD hS (by decide) fk_Ma_40 rfl g34 rfl rfl d_Ma_flow_205 (fun H locs hP hD hS => ?_)
              have hB := hB.same (pF_c g34)
              refine lv_goto (tgt := 343) hx hb d_Ma_flow_208 (by decide) ?_
              exact wb_Ma_flow_343 C0 hE N G hG _ _ hf hm _ _ _ hB H locs hP hD hS ls (lv_sub hl [] rfl)
            · rw [br_n _ hc23] at hf
              by_cases hc24 : v1 = 24
              · rw [br_p _ hc24] at hf
                refine lv_tableIn (tgt := 211) hx hb d_Ma_flow_15 (by rw [hc24]; decide) (by rw [hc24]; decide) (by rw [hc24]; rfl) (by decide) ?_
                refine lv_aload_n hx hb d_Ma_flow_211 rfl (lv_at hl 1 rfl) ?_
                obtain ⟨r35, g35, hf⟩ := bo_some hf
                refine xg_R (i := v0) (k := 4) hx hb ht hown ck_Ma hK hP (by decide) fk_Ma_33 g35 d_Ma_flow_212 ?_
                refine lv_iload_n hx hb d_Ma_flow_215 rfl (lv_at hl 0 rfl) ?_
                obtain ⟨j37, ej37, hf⟩ := bo_some hf
                rw [ej37]
                obtain ⟨hO9, hf⟩ := ck_some hf
                obtain ⟨u36, r36, hc36, hf⟩ := bx_some hf
                obtain ⟨hc36, hz36⟩ := gz_some hc36
                obtain ⟨hf, hw36⟩ := gw_some hf
                refine xV0 (i := j37) (As := [.int r5]) (rest := []) C0 hP hD hS ck_Fr hO9 (c_Fr_drop N hE hc36) k_Fr_drop (wd_of 1748 (by decide +kernel) rfl) hi_Fr_drop hs_Fr_drop hini_Fr rfl rfl hd_Fr_drop rfl rm_Ma_flow_Fr_drop hl.1 (Nat.le_of_ble_eq_true rfl) d_Ma_flow_216 rfl (hB.fit hm hz36 hw36) (fun H locs hP hD hS => ?_)
                have hB := hB.same2 hz36
                refine lv_aload_n hx hb d_Ma_flow_219 rfl (lv_at hl 1 rfl) ?_
                obtain ⟨r38, g38, hf⟩ := bo_some hf
                refine xg_R (i := v0) (k := 4) hx hb ht hown ck_Ma hK hP (by decide) fk_Ma_33 g38 d_Ma_flow_220 ?_
                refine lv_aload_n hx hb d_Ma_flow_223 rfl (lv_at hl 1 rfl) ?_
                obtain ⟨r39, g39, hf⟩ := bo_some hf
                refine xg_R (i := v0) (k := 0) hx hb ht hown ck_Ma hK hP (by decide) fk_Ma_9 g39 d_Ma_flow_224 ?_
                refine lv_aload_n hx hb d_Ma_flow_227 rfl (lv_at hl 1 rfl) ?_
                obtain ⟨r40, g40, hf⟩ := bo_some hf
                refine xg_I (i := v0) (k := 5) hx hb ht hown ck_Ma hK hP (by decide) fk_Ma_40 g40 d_Ma_flow_228 ?_
                refine lv_iconst (v := 2) hx hb d_Ma_flow_231 (by decide) ?_
                refine lv_iadd hx hb d_Ma_flow_232 ?_
                obtain ⟨j42, ej42, hf⟩ := bo_some hf
                rw [ej42]
                obtain ⟨hO9, hf⟩ := ck_some hf
                obtain ⟨u41, r41, hc41, hf⟩ := bx_some hf
                obtain ⟨hc41, hz41⟩ := gz_some hc41
                obtain ⟨hf, hw41⟩ := gw_some hf
                refine xV0 (i := j42) (As := [.int (r40 + 2)]) (rest := [va_rf (Option.map ad r38)]) C0 hP hD hS ck_Co hO9 (c_Co_at N hc41) k_Co_at (wd_of 1644 (by decide +kernel) rfl) hi_Co_at hs_Co_at hini_Co rfl rfl hd_Co_at rfl rm_Ma_flow_Co_at hl.1 (c8 (Nat.le_of_ble_eq_true rfl)) d_Ma_flow_233 rfl (hB.fit hm hz41 hw41) (fun H locs hP hD hS => ?_)
                have hB := hB.same2 hz41
                obtain ⟨j44, ej44, hf⟩ := bo_some hf
                rw [ej44]
                obtain ⟨hO9, hf⟩ := ck_some hf
                obtain ⟨u43, r43, hc43, hf⟩ := bx_some hf
                obtain ⟨hc43, hz43⟩ := gz_some hc43
                obtain ⟨hf, hw43⟩ := gw_some hf
                refine xV0 (i := j44) (As := [.int r41]) (rest := []) C0 hP hD hS ck_Fr hO9 (c_Fr_setLine N hc43) k_Fr_setLine (wd_of 1975 (by decide +kernel) rfl) hi_Fr_setLine hs_Fr_setLine hini_Fr rfl rfl hd_Fr_setLine rfl rm_Ma_flow_Fr_setLine hl.1 (Nat.le_of_ble_eq_true rfl) d_Ma_flow_236 rfl (hB.fit hm hz43 hw43) (fun H locs hP hD hS => ?_)
                have hB := hB.same2 hz43
                refine lv_aload_n hx hb d_Ma_flow_239 rfl (lv_at hl 1 rfl) ?_
                refine lv_dup hx hb d_Ma_flow_240 rfl ?_
                obtain ⟨r45, g45, hf⟩ := bo_some hf
                refine xg_I (i := v0) (k := 5) hx hb ht hown ck_Ma hK hP (by decide) fk_Ma_40 g45 d_Ma_flow_241 ?_
                refine lv_iconst (v := 3) hx hb d_Ma_flow_244 (by decide) ?_
                refine lv_iadd hx hb d_Ma_flow_245 ?_
                obtain ⟨w46, g46, hf⟩ := bo_some hf
                refine xp (i := v0) (k := 5) (v := (.inl (r45 + 3))) hx hb ht hown ck_Ma hK hP hD hS (by decide) fk_Ma_40 rfl g46 rfl rfl d_Ma_flow_246 (fun H locs hP hD hS => ?_)
                have hB := hB.same (pF_c g46)
                refine lv_goto (tgt := 343) hx hb d_Ma_flow_249 (by decide) ?_
                exact wb_Ma_flow_343 C0 hE N G hG _ _ hf hm _ _ _ hB H locs hP hD hS ls (lv_sub hl [] rfl)
              · rw [br_n _ hc24] at hf
                by_cases hc25 : v1 = 25
                · rw [br_p _ hc25] at hf
                  refine lv_tableIn (tgt := 252) hx hb d_Ma_flow_15 (by rw [hc25]; decide) (by rw [hc25]; decide) (by rw [hc25]; rfl) (by decide) ?_
                  refine lv_aload_n hx hb d_Ma_flow_252 rfl (lv_at hl 1 rfl) ?_
                  refine lv_iload_n hx hb d_Ma_flow_253 rfl (lv_at hl 0 rfl) ?_
                  refine lv_iload_n hx hb d_Ma_flow_254 rfl (lv_at hl 2 rfl) ?_
                  refine lv_bipush (v := 26) hx hb d_Ma_flow_255 (by decide) ?_
                  refine lv_icmp_ne (tgt := 264) hx hb d_Ma_flow_257 (by decide) (fun hc => ?_) (fun hc => ?_)
                  · rw [br_n _ hc] at hf
                    refine lv_iconst (v := 0) hx hb d_Ma_flow_264 (by decide) ?_
                    exact wb_Ma_flow_265 C0 hE N G hG _ _ _ _ _ hf hm _ _ _ hB H locs hP hD hS ls (lv_sub hl [] rfl)
                  · rw [br_p _ hc] at hf
                    refine lv_iconst (v := 1) hx hb d_Ma_flow_260 (by decide) ?_
                    refine lv_goto (tgt := 265) hx hb d_Ma_flow_261 (by decide) ?_
                    exact wb_Ma_flow_265 C0 hE N G hG _ _ _ _ _ hf hm _ _ _ hB H locs hP hD hS ls (lv_sub hl [] rfl)
                · rw [br_n _ hc25] at hf
                  by_cases hc26 : v1 = 26
                  · rw [br_p _ hc26] at hf
                    refine lv_tableIn (tgt := 252) hx hb d_Ma_flow_15 (by rw [hc26]; decide) (by rw [hc26]; decide) (by rw [hc26]; rfl) (by decide) ?_
                    refine lv_aload_n hx hb d_Ma_flow_252 rfl (lv_at hl 1 rfl) ?_
                    refine lv_iload_n hx hb d_Ma_flow_253 rfl (lv_at hl 0 rfl) ?_
                    refine lv_iload_n hx hb d_Ma_flow_254 rfl (lv_at hl 2 rfl) ?_
                    refine lv_bipush (v := 26) hx hb d_Ma_flow_255 (by decide) ?_
                    refine lv_icmp_ne (tgt := 264) hx hb d_Ma_flow_257 (by decide) (fun hc => ?_) (fun hc => ?_)
                    · rw [br_n _ hc] at hf
                      refine lv_iconst (v := 0) hx hb d_Ma_flow_264 (by decide) ?_
                      exact wb_Ma_flow_265 C0 hE N G hG _ _ _ _ _ hf hm _ _ _ hB H locs hP hD hS ls (lv_sub hl [] rfl)
                    · rw [br_p _ hc] at hf
                      refine lv_iconst (v := 1) hx hb d_Ma_flow_260 (by decide) ?_
                      refine lv_goto (tgt := 265) hx hb d_Ma_flow_261 (by decide) ?_
                      exact wb_Ma_flow_265 C0 hE N G hG _ _ _ _ _ hf hm _ _ _ hB H locs hP hD hS ls (lv_sub hl [] rfl)
                  · rw [br_n _ hc26] at hf
                    by_cases hc27 : v1 = 27
                    · rw [br_p _ hc27] at hf
                      refine lv_tableIn (tgt := 271) hx hb d_Ma_flow_15 (by rw [hc27]; decide) (by rw [hc27]; decide) (by rw [hc27]; rfl) (by decide) ?_
                      refine lv_aload_n hx hb d_Ma_flow_271 rfl (lv_at hl 1 rfl) ?_
                      refine lv_iload_n hx hb d_Ma_flow_272 rfl (lv_at hl 0 rfl) ?_
                      refine lv_iload_n hx hb d_Ma_flow_273 rfl (lv_at hl 2 rfl) ?_
                      refine lv_bipush (v := 28) hx hb d_Ma_flow_274 (by decide) ?_
                      refine lv_icmp_ne (tgt := 283) hx hb d_Ma_flow_276 (by decide) (fun hc => ?_) (fun hc => ?_)
                      · rw [br_n _ hc] at hf
                        refine lv_iconst (v := 0) hx hb d_Ma_flow_283 (by decide) ?_
                        exact wb_Ma_flow_284 C0 hE N G hG _ _ _ _ _ hf hm _ _ _ hB H locs hP hD hS ls (lv_sub hl [] rfl)
                      · rw [br_p _ hc] at hf
                        refine lv_iconst (v := 1) hx hb d_Ma_flow_279 (by decide) ?_
                        refine lv_goto (tgt := 284) hx hb d_Ma_flow_280 (by decide) ?_
                        exact wb_Ma_flow_284 C0 hE N G hG _ _ _ _ _ hf hm _ _ _ hB H locs hP hD hS ls (lv_sub hl [] rfl)
                    · rw [br_n _ hc27] at hf
                      by_cases hc28 : v1 = 28
                      · rw [br_p _ hc28] at hf
                        refine lv_tableIn (tgt := 271) hx hb d_Ma_flow_15 (by rw [hc28]; decide) (by rw [hc28]; decide) (by rw [hc28]; rfl) (by decide) ?_
                        refine lv_aload_n hx hb d_Ma_flow_271 rfl (lv_at hl 1 rfl) ?_
                        refine lv_iload_n hx hb d_Ma_flow_272 rfl (lv_at hl 0 rfl) ?_
                        refine lv_iload_n hx hb d_Ma_flow_273 rfl (lv_at hl 2 rfl) ?_
                        refine lv_bipush (v := 28) hx hb d_Ma_flow_274 (by decide) ?_
                        refine lv_icmp_ne (tgt := 283) hx hb d_Ma_flow_276 (by decide) (fun hc => ?_) (fun hc => ?_)
                        · rw [br_n _ hc] at hf
                          refine lv_iconst (v := 0) hx hb d_Ma_flow_283 (by decide) ?_
                          exact wb_Ma_flow_284 C0 hE N G hG _ _ _ _ _ hf hm _ _ _ hB H locs hP hD hS ls (lv_sub hl [] rfl)
                        · rw [br_p _ hc] at hf
                          refine lv_iconst (v := 1) hx hb d_Ma_flow_279 (by decide) ?_
                          refine lv_goto (tgt := 284) hx hb d_Ma_flow_280 (by decide) ?_
                          exact wb_Ma_flow_284 C0 hE N G hG _ _ _ _ _ hf hm _ _ _ hB H locs hP hD hS ls (lv_sub hl [] rfl)
                      · rw [br_n _ hc28] at hf
                        by_cases hc29 : v1 = 29
                        · rw [br_p _ hc29] at hf
                          refine lv_tableIn (tgt := 290) hx hb d_Ma_flow_15 (by rw [hc29]; decide) (by rw [hc29]; decide) (by rw [hc29]; rfl) (by decide) ?_
                          refine lv_aload_n hx hb d_Ma_flow_290 rfl (lv_at hl 1 rfl) ?_
                          obtain ⟨r47, g47, hf⟩ := bo_some hf
                          refine xg_R (i := v0) (k := 4) hx hb ht hown ck_Ma hK hP (by decide) fk_Ma_33 g47 d_Ma_flow_291 ?_
                          refine lv_iload_n hx hb d_Ma_flow_294 rfl (lv_at hl 0 rfl) ?_
                          obtain ⟨j49, ej49, hf⟩ := bo_some hf
                          rw [ej49]
                          obtain ⟨hO9, hf⟩ := ck_some hf
                          obtain ⟨hk48, hf⟩ := ck_some hf
                          obtain ⟨u48, r48, hc48, hf⟩ := bx_some hf
                          obtain ⟨hc48, hq48⟩ := gw_some hc48
                          obtain ⟨hf, hw48⟩ := gw_some hf
                          refine yV (i := j49) (As := [.int r5]) (rest := []) C0 hP hD hS ck_Fr hO9 (c_Fr_catchTo N hE hc48 (gm hq48)) k_Fr_catchTo (wd_of 2008 (by decide +kernel) rfl) hi_Fr_catchTo hs_Fr_catchTo hini_Fr rfl rfl hd_Fr_catchTo rfl rm_Ma_flow_Fr_catchTo hl.1 (Nat.le_of_ble_eq_true rfl) d_Ma_flow_295 rfl (gm hq48) hB hm hw48 (fun ad48 H locs ce sl hg48 hB hP hD hS => ?_)
                          have q48_0 : ad48 v0 = ad v0 := ko_O (k := 0) hk48 rfl hg48
                          have hl : lv_has ls 3 [(2, .int r5), (0, .ref (ad48 v0)), (1, .int v1)] := by simp only [q48_0]; exact hl
                          refine lv_aload_n hx hb d_Ma_flow_298 rfl (lv_at hl 1 rfl) ?_
                          refine lv_dup hx hb d_Ma_flow_299 rfl ?_
                          obtain ⟨r50, g50, hf⟩ := bo_some hf
                          refine xg_I (i := v0) (k := 5) hx hb ht hown ck_Ma hK hP (by decide) fk_Ma_40 g50 d_Ma_flow_300 ?_
                          refine lv_iconst (v := 2) hx hb d_Ma_flow_303 (by decide) ?_
                          refine lv_iadd hx hb d_Ma_flow_304 ?_
                          obtain ⟨w51, g51, hf⟩ := bo_some hf
                          refine xp (i := v0) (k := 5) (v := (.inl (r50 + 2))) hx hb ht hown ck_Ma hK hP hD hS (by decide) fk_Ma_40 rfl g51 rfl rfl d_Ma_flow_305 (fun H locs hP hD hS => ?_)
                          have hB := hB.same (pF_c g51)
                          refine lv_goto (tgt := 343) hx hb d_Ma_flow_308 (by decide) ?_
                          exact wb_Ma_flow_343 C0 hE N G hG _ _ hf hm _ _ _ hB H locs hP hD hS ls (lv_sub hl [] rfl)
                        · rw [br_n _ hc29] at hf
                          by_cases hc30 : v1 = 30
                          · rw [br_p _ hc30] at hf
                            refine lv_tableIn (tgt := 311) hx hb d_Ma_flow_15 (by rw [hc30]; decide) (by rw [hc30]; decide) (by rw [hc30]; rfl) (by decide) ?_
                            refine lv_aload_n hx hb d_Ma_flow_311 rfl (lv_at hl 1 rfl) ?_
                            obtain ⟨r52, g52, hf⟩ := bo_some hf
                            refine xg_R (i := v0) (k := 4) hx hb ht hown ck_Ma hK hP (by decide) fk_Ma_33 g52 d_Ma_flow_312 ?_
                            refine lv_dup hx hb d_Ma_flow_315 (cat_rf _) ?_
                            obtain ⟨j53, ej53, hf⟩ := bo_some hf
                            rw [ej53]
                            obtain ⟨r54, g54, hf⟩ := bo_some hf
                            refine xg_I (i := j53) (k := 8) hx hb ht hown ck_Fr hK hP (by decide) fk_Ma_155 g54 d_Ma_flow_316 ?_
                            refine lv_iconst (v := 1) hx hb d_Ma_flow_319 (by decide) ?_
                            refine lv_isub hx hb d_Ma_flow_320 ?_
                            obtain ⟨w55, g55, hf⟩ := bo_some hf
                            refine xp (i := j53) (k := 8) (v := (.inl (r54 - 1))) hx hb ht hown ck_Fr hK hP hD hS (by decide) fk_Ma_155 rfl g55 rfl rfl d_Ma_flow_321 (fun H locs hP hD hS => ?_)
                            have hB := hB.same (pF_c g55)
                            refine lv_aload_n hx hb d_Ma_flow_324 rfl (lv_at hl 1 rfl) ?_
                            refine lv_dup hx hb d_Ma_flow_325 rfl ?_
                            obtain ⟨r56, g56, hf⟩ := bo_some hf
                            refine xg_I (i := v0) (k := 5) hx hb ht hown ck_Ma hK hP (by decide) fk_Ma_40 g56 d_Ma_flow_326 ?_
                            refine lv_iconst (v := 1) hx hb d_Ma_flow_329 (by decide) ?_
                            refine lv_iadd hx hb d_Ma_flow_330 ?_
                            obtain ⟨w57, g57, hf⟩ := bo_some hf
                            refine xp (i := v0) (k := 5) (v := (.inl (r56 + 1))) hx hb ht hown ck_Ma hK hP hD hS (by decide) fk_Ma_40 rfl g57 rfl rfl d_Ma_flow_331 (fun H locs hP hD hS => ?_)
                            have hB := hB.same (pF_c g57)
                            refine lv_goto (tgt := 343) hx hb d_Ma_flow_334 (by decide) ?_
                            exact wb_Ma_flow_343 C0 hE N G hG _ _ hf hm _ _ _ hB H locs hP hD hS ls (lv_sub hl [] rfl)
                          · rw [br_n _ hc30] at hf
                            refine lv_tableOut (tgt := 337) hx hb d_Ma_flow_15 (by have z0 := tiN hc18; have z1 := tiN hc19; have z2 := tiN hc20; have z3 := tiN hc21; have z4 := tiN hc22; have z5 := tiN hc23; have z6 := tiN hc24; have z7 := tiN hc25; have z8 := tiN hc26; have z9 := tiN hc27; have z10 := tiN hc28; have z11 := tiN hc29; have z12 := tiN hc30; rw [show (18 : Int32).toInt = 18 from by decide] at z0; rw [show (19 : Int32).toInt = 19 from by decide] at z1; rw [show (20 : Int32).toInt = 20 from by decide] at z2; rw [show (21 : Int32).toInt = 21 from by decide] at z3; rw [show (22 : Int32).toInt = 22 from by decide] at z4; rw [show (23 : Int32).toInt = 23 from by decide] at z5; rw [show (24 : Int32).toInt = 24 from by decide] at z6; rw [show (25 : Int32).toInt = 25 from by decide] at z7; rw [show (26 : Int32).toInt = 26 from by decide] at z8; rw [show (27 : Int32).toInt = 27 from by decide] at z9; rw [show (28 : Int32).toInt = 28 from by decide] at z10; rw [show (29 : Int32).toInt = 29 from by decide] at z11; rw [show (30 : Int32).toInt = 30 from by decide] at z12; omega) (by decide) ?_
                            refine lv_aload_n hx hb d_Ma_flow_337 rfl (lv_at hl 1 rfl) ?_
                            refine lv_iload_n hx hb d_Ma_flow_338 rfl (lv_at hl 2 rfl) ?_
                            refine lv_iload_n hx hb d_Ma_flow_339 rfl (lv_at hl 0 rfl) ?_
                            obtain ⟨hO9, hf⟩ := ck_some hf
                            obtain ⟨hk58, hf⟩ := ck_some hf
                            obtain ⟨u58, r58, hc58, hf⟩ := bx_some hf
                            obtain ⟨hc58, hq58⟩ := gw_some hc58
                            obtain ⟨hf, hw58⟩ := gw_some hf
                            refine yV (i := v0) (As := [.int v1, .int r5]) (rest := []) C0 hP hD hS ck_Ma hO9 (c_Ma_waitOrLeave N hE hc58 (gm hq58)) k_Ma_waitOrLeave (wd_of 2012 (by decide +kernel) rfl) hi_Ma_waitOrLeave hs_Ma_waitOrLeave hini_Ma rfl rfl hd_Ma_waitOrLeave rfl rm_Ma_flow_Ma_waitOrLeave hl.1 (Nat.le_of_ble_eq_true rfl) d_Ma_flow_340 rfl (gm hq58) hB hm hw58 (fun ad58 H locs ce sl hg58 hB hP hD hS => ?_)
                            have q58_0 : ad58 v0 = ad v0 := ko_O (k := 0) hk58 rfl hg58
                            have hl : lv_has ls 3 [(2, .int r5), (0, .ref (ad58 v0)), (1, .int v1)] := by simp only [q58_0]; exact hl
                            exact wb_Ma_flow_343 C0 hE N G hG _ _ hf hm _ _ _ hB H locs hP hD hS ls (lv_sub hl [] rfl)
def fm_Ma_flow (N : Nat) (u : CS) (v0 : Nat) (v1 : Int32) : Option (CS × Unit) := fb_Ma_flow_0 N () u v0 v1
set_option maxRecDepth 100000 in
set_option maxHeartbeats 4000000 in
theorem c_Ma_flow (N : Nat) {l : Launch} {s0 : State} {b0 : Nat} {D : va_G} {cB cI cJ cZ cS cP : ClassId} {sk sv : Nat → Nat} {ad : Nat → Nat} {u : CS} {sz mc ms : Nat} {v0 : Nat} {v1 : Int32} {x : CS × Unit} (hE : ENV s0 b0 sk sv) (hf : fm_Ma_flow N u v0 v1 = some x) (hm : u.1.1 + mc = x.1.1.1 ∧ u.1.2 + ms = x.1.1.2) : Met l y_Ma_flow (wd_ws y_Ma_flow b_Ma_flow 3 none) (rm_Ma_flow mc ms) (xPc s0 b0 D cB cI cJ cZ cS cP ad u sz [.ref (ad v0), .int v1]) (xQ D cB cI cJ cZ cS cP (xA cB cI cJ cZ cS cP ad u sz) ad u.1.1 x.1 none) mc ms (xA cB cI cJ cZ cS cP ad u sz) :=
  xMet (by decide) rfl (Nat.le_of_ble_eq_true rfl) (fun p e s m below meth c ls hsz hnm C0 hP hD hS hl =>
    wb_Ma_flow_0 C0 hE N () trivial u _ _ x hf hm ad 0 0 ⟨rfl, rfl, fun _ _ => rfl⟩ s.heap [] hP hD hS ls (lv_sub hl [0, 1] rfl))
abbrev b_Ma_wrap : ByteArray := prog_5_method_9_code
def y_Ma_wrap : MethodName := ⟨R_Ma, "wrap", "(I)Z"⟩
def w_Ma_wrap : List Cond := wd_ws y_Ma_wrap b_Ma_wrap 2 (some .boolean)
set_option maxRecDepth 100000 in
theorem k_Ma_wrap : Cond.code y_Ma_wrap b_Ma_wrap 2 (some .boolean) ∈ wd_tbl := wd_of 2045 rfl rfl
theorem d_Ma_wrap_0 : decode b_Ma_wrap 0 = .ok (.aload_n 0, 1) := by decide +kernel
theorem d_Ma_wrap_1 : decode b_Ma_wrap 1 = .ok (.iconst 3, 1) := by decide +kernel
theorem d_Ma_wrap_2 : decode b_Ma_wrap 2 = .ok (.invokevirtual 135, 3) := by decide +kernel
theorem d_Ma_wrap_5 : decode b_Ma_wrap 5 = .ok (.ifCond .ne 5, 3) := by decide +kernel
theorem d_Ma_wrap_8 : decode b_Ma_wrap 8 = .ok (.iconst 0, 1) := by decide +kernel
theorem d_Ma_wrap_9 : decode b_Ma_wrap 9 = .ok (.ireturn, 1) := by decide +kernel
theorem d_Ma_wrap_10 : decode b_Ma_wrap 10 = .ok (.aload_n 0, 1) := by decide +kernel
theorem d_Ma_wrap_11 : decode b_Ma_wrap 11 = .ok (.iconst 1, 1) := by decide +kernel
theorem d_Ma_wrap_12 : decode b_Ma_wrap 12 = .ok (.aload_n 0, 1) := by decide +kernel
theorem d_Ma_wrap_13 : decode b_Ma_wrap 13 = .ok (.getfield 23, 3) := by decide +kernel
theorem d_Ma_wrap_16 : decode b_Ma_wrap 16 = .ok (.iload_n 1, 1) := by decide +kernel
theorem d_Ma_wrap_17 : decode b_Ma_wrap 17 = .ok (.aload_n 0, 1) := by decide +kernel
theorem d_Ma_wrap_18 : decode b_Ma_wrap 18 = .ok (.getfield 33, 3) := by decide +kernel
theorem d_Ma_wrap_21 : decode b_Ma_wrap 21 = .ok (.iconst 0, 1) := by decide +kernel
theorem d_Ma_wrap_22 : decode b_Ma_wrap 22 = .ok (.invokevirtual 138, 3) := by decide +kernel
theorem d_Ma_wrap_25 : decode b_Ma_wrap 25 = .ok (.invokevirtual 141, 3) := by decide +kernel
theorem d_Ma_wrap_28 : decode b_Ma_wrap 28 = .ok (.invokevirtual 145, 3) := by decide +kernel
theorem d_Ma_wrap_31 : decode b_Ma_wrap 31 = .ok (.iconst 1, 1) := by decide +kernel
theorem d_Ma_wrap_32 : decode b_Ma_wrap 32 = .ok (.ireturn, 1) := by decide +kernel
set_option maxRecDepth 100000 in
theorem hl_Ma_wrap : Cond.methodLink R_Ma 152 y_Ma_wrap ∈ wd_tbl := wd_of 2042 (by decide +kernel) rfl
set_option maxRecDepth 100000 in
theorem hi_Ma_wrap : Cond.instanceMethod y_Ma_wrap ∈ wd_tbl := wd_of 2044 (by decide +kernel) rfl
set_option maxRecDepth 100000 in
theorem hs_Ma_wrap : Cond.selects R_Ma y_Ma_wrap y_Ma_wrap ∈ wd_tbl := wd_of 125 (by decide +kernel) rfl
theorem hd_Ma_wrap : y_Ma_wrap.cls = R_Ma ∧ y_Ma_wrap.cls ≠ "java/lang/invoke/MethodHandle" ∧ y_Ma_wrap.cls ≠ "java/lang/invoke/VarHandle" ∧ (parseMethodDescriptor y_Ma_wrap.desc).map (fun d => d.parameters.length) = some 1 := by decide +kernel
def rm_Ma_wrap (mc ms : Nat) : Room := { frames := 4, cells := mc, slots := ms, locals := 127 }
theorem rm_Ma_wrap_Ma_room {mc ms : Nat} : (rm_Ma_room).frames + 1 ≤ (rm_Ma_wrap mc ms).frames ∧ 8 + (2 + 11) + (rm_Ma_room).locals ≤ (rm_Ma_wrap mc ms).locals := by
  show 3 + 1 ≤ 4 ∧ 8 + (2 + 11) + 97 ≤ 127
  decide
theorem rm_Ma_wrap_Fr_below {mc ms : Nat} : (rm_Fr_below).frames + 1 ≤ (rm_Ma_wrap mc ms).frames ∧ 8 + (3 + 11) + (rm_Fr_below).locals ≤ (rm_Ma_wrap mc ms).locals := by
  show 0 + 1 ≤ 4 ∧ 8 + (3 + 11) + 0 ≤ 127
  decide
theorem rm_Ma_wrap_Pr_pair {mc ms : Nat} : (rm_Pr_pair).frames + 1 ≤ (rm_Ma_wrap mc ms).frames ∧ 8 + (5 + 11) + (rm_Pr_pair).locals ≤ (rm_Ma_wrap mc ms).locals := by
  show 1 + 1 ≤ 4 ∧ 8 + (5 + 11) + 21 ≤ 127
  decide
theorem rm_Ma_wrap_Ma_answer {mc ms : Nat} {mc2 ms2 : Nat} : (rm_Ma_answer mc2 ms2).frames + 1 ≤ (rm_Ma_wrap mc ms).frames ∧ 8 + (4 + 11) + (rm_Ma_answer mc2 ms2).locals ≤ (rm_Ma_wrap mc ms).locals := by
  show 3 + 1 ≤ 4 ∧ 8 + (4 + 11) + 104 ≤ 127
  decide
def fb_Ma_wrap_0 (N : Nat) (G : Unit) (u : CS) (v0 : Nat) (v1 : Int32) : Option (CS × Int32) := ck (isO u v0 5) (bx (gz u (fm_Ma_room N u v0 3)) (fun u1 r1 => gw u1 (br (decide (r1 = 0)) (ck (isb 0) (some (u1, 0))) (bo (gR u1 v0 5 3) (fun r2 => bo (gR u1 v0 5 4) (fun r3 => bo r3 (fun j5 => ck (isO u1 j5 4) (bx (gz u1 (fm_Fr_below N u1 j5 0)) (fun u4 r4 => gw u4 (bo r2 (fun j7 => ck (isO u4 j7 7) (bx (gz u4 (fm_Pr_pair N u4 j7 v1 r4)) (fun u6 r6 => gw u6 (ck (isO u6 v0 5) (ck (List.all [some v0] (okR u6.1.1)) (bx (gw u6 (fm_Ma_answer N u6 v0 1 r6)) (fun u8 r8 => gw u8 (ck (isb 1) (some (u8, 1))))))))))))))))))))
set_option maxRecDepth 100000 in
set_option maxHeartbeats 4000000 in
theorem wb_Ma_wrap_0 {p : Program} {l : Launch} {e : Env} {s : State} {m : MethodId} {args : Array Value} {below : List Frame} {meth : Method} {c : Code} {s0 : State} {b0 : Nat} {D : va_G} {cB cI cJ cZ cS cP : ClassId} {A : Nat → Prop} {sk sv : Nat → Nat} {uN uS mc ms : Nat} {ad0 : Nat → Nat} (C0 : XCx p s s0 b0 m args meth c R_Ma b_Ma_wrap 2 (some .boolean) D cB cI cJ cZ cS cP A) (hE : ENV s0 b0 sk sv) (N : Nat) (G : Unit) (hG : True) : ∀ (u : CS) (v0 : Nat) (v1 : Int32) (x : CS × Int32), fb_Ma_wrap_0 N G u v0 v1 = some x → (uN + mc = x.1.1.1 ∧ uS + ms = x.1.1.2) → ∀ (ad : Nat → Nat) (ce sl : Nat), AB uN uS ad0 u ad ce sl → ∀ (H : Heap) (locs : List Loc), va_P D cls (wC cB cI cJ cZ cS cP ad u) H → va_D A (wC cB cI cJ cZ cS cP ad u) → va_S A s.heap H locs → ∀ (ls : Array Slot), lv_has ls 2 [(0, .ref (ad v0)), (1, .int v1)] → W p l e (rm_Ma_wrap mc ms) s m args below meth c H locs ce sl (MQ below (xQ D cB cI cJ cZ cS cP A ad0 uN x.1 (some (.inl x.2))) args s mc ms A) (F0 m 0 ls []) := by
  intro u v0 v1 x hf hm ad ce sl hB H locs hP hD hS ls hl
  obtain ⟨hx, hb, hr, hml, ht, hown, hK, hA, hlocks, hA0, hO, hbs⟩ := id C0
  unfold fb_Ma_wrap_0 at hf
  refine lv_aload_n hx hb d_Ma_wrap_0 rfl (lv_at hl 0 rfl) ?_
  refine lv_iconst (v := 3) hx hb d_Ma_wrap_1 (by decide) ?_
  obtain ⟨hO9, hf⟩ := ck_some hf
  obtain ⟨u1, r1, hc1, hf⟩ := bx_some hf
  obtain ⟨hc1, hz1⟩ := gz_some hc1
  obtain ⟨hf, hw1⟩ := gw_some hf
  refine xV0 (i := v0) (As := [.int 3]) (rest := []) C0 hP hD hS ck_Ma hO9 (c_Ma_room N hE hc1) k_Ma_room (wd_of 1853 (by decide +kernel) rfl) hi_Ma_room hs_Ma_room hini_Ma rfl rfl hd_Ma_room rfl rm_Ma_wrap_Ma_room hl.1 (Nat.le_of_ble_eq_true rfl) d_Ma_wrap_2 rfl (hB.fit hm hz1 hw1) (fun H locs hP hD hS => ?_)
  have hB := hB.same2 hz1
  refine lv_if_ne (tgt := 10) hx hb d_Ma_wrap_5 (by decide) (fun hc => ?_) (fun hc => ?_)
  · rw [br_n _ hc] at hf
    refine lv_aload_n hx hb d_Ma_wrap_10 rfl (lv_at hl 0 rfl) ?_
    refine lv_iconst (v := 1) hx hb d_Ma_wrap_11 (by decide) ?_
    refine lv_aload_n hx hb d_Ma_wrap_12 rfl (lv_at hl 0 rfl) ?_
    obtain ⟨r2, g2, hf⟩ := bo_some hf
    refine xg_R (i := v0) (k := 3) hx hb ht hown ck_Ma hK hP (by decide) fk_Ma_23 g2 d_Ma_wrap_13 ?_
    refine lv_iload_n hx hb d_Ma_wrap_16 rfl (lv_at hl 1 rfl) ?_
    refine lv_aload_n hx hb d_Ma_wrap_17 rfl (lv_at hl 0 rfl) ?_
    obtain ⟨r3, g3, hf⟩ := bo_some hf
    refine xg_R (i := v0) (k := 4) hx hb ht hown ck_Ma hK hP (by decide) fk_Ma_33 g3 d_Ma_wrap_18 ?_
    refine lv_iconst (v := 0) hx hb d_Ma_wrap_21 (by decide) ?_
    obtain ⟨j5, ej5, hf⟩ := bo_some hf
    rw [ej5]
    obtain ⟨hO9, hf⟩ := ck_some hf
    obtain ⟨u4, r4, hc4, hf⟩ := bx_some hf
    obtain ⟨hc4, hz4⟩ := gz_some hc4
    obtain ⟨hf, hw4⟩ := gw_some hf
    refine xV0 (i := j5) (As := [.int 0]) (rest := [.int v1, va_rf (Option.map ad r2), .int 1, .ref (ad v0)]) C0 hP hD hS ck_Fr hO9 (c_Fr_below N hc4) k_Fr_below (wd_of 1653 (by decide +kernel) rfl) hi_Fr_below hs_Fr_below hini_Fr rfl rfl hd_Fr_below rfl rm_Ma_wrap_Fr_below hl.1 (c8 (Nat.le_of_ble_eq_true rfl)) d_Ma_wrap_22 rfl (hB.fit hm hz4 hw4) (fun H locs hP hD hS => ?_)
    have hB := hB.same2 hz4
    obtain ⟨j7, ej7, hf⟩ := bo_some hf
    rw [ej7]
    obtain ⟨hO9, hf⟩ := ck_some hf
    obtain ⟨u6, r6, hc6, hf⟩ := bx_some hf
    obtain ⟨hc6, hz6⟩ := gz_some hc6
    obtain ⟨hf, hw6⟩ := gw_some hf
    refine xV0 (i := j7) (As := [.int v1, .long r4]) (rest := [.int 1, .ref (ad v0)]) C0 hP hD hS ck_Pr hO9 (c_Pr_pair N hc6) k_Pr_pair (wd_of 2046 (by decide +kernel) rfl) hi_Pr_pair hs_Pr_pair hini_Pr rfl rfl hd_Pr_pair rfl rm_Ma_wrap_Pr_pair hl.1 (Nat.le_of_ble_eq_true rfl) d_Ma_wrap_25 rfl (hB.fit hm hz6 hw6) (fun H locs hP hD hS => ?_)
    have hB := hB.same2 hz6
    obtain ⟨hO9, hf⟩ := ck_some hf
    obtain ⟨hk8, hf⟩ := ck_some hf
    obtain ⟨u8, r8, hc8, hf⟩ := bx_some hf
    obtain ⟨hc8, hq8⟩ := gw_some hc8
    obtain ⟨hf, hw8⟩ := gw_some hf
    refine yV (i := v0) (As := [.int 1, .long r6]) (rest := []) C0 hP hD hS ck_Ma hO9 (c_Ma_answer N hE hc8 (gm hq8)) k_Ma_answer (wd_of 1744 (by decide +kernel) rfl) hi_Ma_answer hs_Ma_answer hini_Ma rfl rfl hd_Ma_answer rfl rm_Ma_wrap_Ma_answer hl.1 (Nat.le_of_ble_eq_true rfl) d_Ma_wrap_28 rfl (gm hq8) hB hm hw8 (fun ad8 H locs ce sl hg8 hB hP hD hS => ?_)
    have q8_0 : ad8 v0 = ad v0 := ko_O (k := 0) hk8 rfl hg8
    have hl : lv_has ls 2 [(0, .ref (ad8 v0)), (1, .int v1)] := by simp only [q8_0]; exact hl
    refine lv_iconst (v := 1) hx hb d_Ma_wrap_31 (by decide) ?_
    obtain ⟨hz, hf⟩ := ck_some hf
    exact yr_z C0 hP hD hS hB hm hz hf d_Ma_wrap_32
  · rw [br_p _ hc] at hf
    refine lv_iconst (v := 0) hx hb d_Ma_wrap_8 (by decide) ?_
    obtain ⟨hz, hf⟩ := ck_some hf
    exact yr_z C0 hP hD hS hB hm hz hf d_Ma_wrap_9
def fm_Ma_wrap (N : Nat) (u : CS) (v0 : Nat) (v1 : Int32) : Option (CS × Int32) := fb_Ma_wrap_0 N () u v0 v1
set_option maxRecDepth 100000 in
set_option maxHeartbeats 4000000 in
theorem c_Ma_wrap (N : Nat) {l : Launch} {s0 : State} {b0 : Nat} {D : va_G} {cB cI cJ cZ cS cP : ClassId} {sk sv : Nat → Nat} {ad : Nat → Nat} {u : CS} {sz mc ms : Nat} {v0 : Nat} {v1 : Int32} {x : CS × Int32} (hE : ENV s0 b0 sk sv) (hf : fm_Ma_wrap N u v0 v1 = some x) (hm : u.1.1 + mc = x.1.1.1 ∧ u.1.2 + ms = x.1.1.2) : Met l y_Ma_wrap (wd_ws y_Ma_wrap b_Ma_wrap 2 (some .boolean)) (rm_Ma_wrap mc ms) (xPc s0 b0 D cB cI cJ cZ cS cP ad u sz [.ref (ad v0), .int v1]) (xQ D cB cI cJ cZ cS cP (xA cB cI cJ cZ cS cP ad u sz) ad u.1.1 x.1 (some (.inl x.2))) mc ms (xA cB cI cJ cZ cS cP ad u sz) :=
  xMet (by decide) rfl (Nat.le_of_ble_eq_true rfl) (fun p e s m below meth c ls hsz hnm C0 hP hD hS hl =>
    wb_Ma_wrap_0 C0 hE N () trivial u _ _ x hf hm ad 0 0 ⟨rfl, rfl, fun _ _ => rfl⟩ s.heap [] hP hD hS ls (lv_sub hl [0, 1] rfl))
abbrev b_Ma_raise : ByteArray := prog_5_method_10_code
def y_Ma_raise : MethodName := ⟨R_Ma, "raise", "()V"⟩
def w_Ma_raise : List Cond := wd_ws y_Ma_raise b_Ma_raise 4 none
set_option maxRecDepth 100000 in
theorem k_Ma_raise : Cond.code y_Ma_raise b_Ma_raise 4 none ∈ wd_tbl := wd_of 2041 rfl rfl
theorem d_Ma_raise_0 : decode b_Ma_raise 0 = .ok (.aload_n 0, 1) := by decide +kernel
theorem d_Ma_raise_1 : decode b_Ma_raise 1 = .ok (.getfield 54, 3) := by decide +kernel
theorem d_Ma_raise_4 : decode b_Ma_raise 4 = .ok (.istore_n 1, 1) := by decide +kernel
theorem d_Ma_raise_5 : decode b_Ma_raise 5 = .ok (.aload_n 0, 1) := by decide +kernel
theorem d_Ma_raise_6 : decode b_Ma_raise 6 = .ok (.iconst 0, 1) := by decide +kernel
theorem d_Ma_raise_7 : decode b_Ma_raise 7 = .ok (.putfield 54, 3) := by decide +kernel
theorem d_Ma_raise_10 : decode b_Ma_raise 10 = .ok (.aload_n 0, 1) := by decide +kernel
theorem d_Ma_raise_11 : decode b_Ma_raise 11 = .ok (.getfield 57, 3) := by decide +kernel
theorem d_Ma_raise_14 : decode b_Ma_raise 14 = .ok (.ifCond .eq 8, 3) := by decide +kernel
theorem d_Ma_raise_17 : decode b_Ma_raise 17 = .ok (.aload_n 0, 1) := by decide +kernel
theorem d_Ma_raise_18 : decode b_Ma_raise 18 = .ok (.invokevirtual 149, 3) := by decide +kernel
theorem d_Ma_raise_21 : decode b_Ma_raise 21 = .ok (.return_, 1) := by decide +kernel
theorem d_Ma_raise_22 : decode b_Ma_raise 22 = .ok (.aload_n 0, 1) := by decide +kernel
theorem d_Ma_raise_23 : decode b_Ma_raise 23 = .ok (.getfield 116, 3) := by decide +kernel
theorem d_Ma_raise_26 : decode b_Ma_raise 26 = .ok (.iconst (-1), 1) := by decide +kernel
theorem d_Ma_raise_27 : decode b_Ma_raise 27 = .ok (.if_icmp .eq 38, 3) := by decide +kernel
theorem d_Ma_raise_30 : decode b_Ma_raise 30 = .ok (.aload_n 0, 1) := by decide +kernel
theorem d_Ma_raise_31 : decode b_Ma_raise 31 = .ok (.getfield 33, 3) := by decide +kernel
theorem d_Ma_raise_34 : decode b_Ma_raise 34 = .ok (.aload_n 0, 1) := by decide +kernel
theorem d_Ma_raise_35 : decode b_Ma_raise 35 = .ok (.getfield 119, 3) := by decide +kernel
theorem d_Ma_raise_38 : decode b_Ma_raise 38 = .ok (.invokevirtual 112, 3) := by decide +kernel
theorem d_Ma_raise_41 : decode b_Ma_raise 41 = .ok (.aload_n 0, 1) := by decide +kernel
theorem d_Ma_raise_42 : decode b_Ma_raise 42 = .ok (.aload_n 0, 1) := by decide +kernel
theorem d_Ma_raise_43 : decode b_Ma_raise 43 = .ok (.getfield 116, 3) := by decide +kernel
theorem d_Ma_raise_46 : decode b_Ma_raise 46 = .ok (.invokevirtual 152, 3) := by decide +kernel
theorem d_Ma_raise_49 : decode b_Ma_raise 49 = .ok (.ifCond .ne 4, 3) := by decide +kernel
theorem d_Ma_raise_52 : decode b_Ma_raise 52 = .ok (.return_, 1) := by decide +kernel
theorem d_Ma_raise_53 : decode b_Ma_raise 53 = .ok (.aload_n 0, 1) := by decide +kernel
theorem d_Ma_raise_54 : decode b_Ma_raise 54 = .ok (.aload_n 0, 1) := by decide +kernel
theorem d_Ma_raise_55 : decode b_Ma_raise 55 = .ok (.getfield 33, 3) := by decide +kernel
theorem d_Ma_raise_58 : decode b_Ma_raise 58 = .ok (.iconst 0, 1) := by decide +kernel
theorem d_Ma_raise_59 : decode b_Ma_raise 59 = .ok (.invokevirtual 138, 3) := by decide +kernel
theorem d_Ma_raise_62 : decode b_Ma_raise 62 = .ok (.putfield 119, 3) := by decide +kernel
theorem d_Ma_raise_65 : decode b_Ma_raise 65 = .ok (.aload_n 0, 1) := by decide +kernel
theorem d_Ma_raise_66 : decode b_Ma_raise 66 = .ok (.getfield 33, 3) := by decide +kernel
theorem d_Ma_raise_69 : decode b_Ma_raise 69 = .ok (.getfield 155, 3) := by decide +kernel
theorem d_Ma_raise_72 : decode b_Ma_raise 72 = .ok (.ifCond .ne 56, 3) := by decide +kernel
theorem d_Ma_raise_75 : decode b_Ma_raise 75 = .ok (.iload_n 1, 1) := by decide +kernel
theorem d_Ma_raise_76 : decode b_Ma_raise 76 = .ok (.iconst 2, 1) := by decide +kernel
theorem d_Ma_raise_77 : decode b_Ma_raise 77 = .ok (.if_icmp .ne 10, 3) := by decide +kernel
theorem d_Ma_raise_80 : decode b_Ma_raise 80 = .ok (.aload_n 0, 1) := by decide +kernel
theorem d_Ma_raise_81 : decode b_Ma_raise 81 = .ok (.getfield 119, 3) := by decide +kernel
theorem d_Ma_raise_84 : decode b_Ma_raise 84 = .ok (.goto 26, 3) := by decide +kernel
theorem d_Ma_raise_87 : decode b_Ma_raise 87 = .ok (.aload_n 0, 1) := by decide +kernel
theorem d_Ma_raise_88 : decode b_Ma_raise 88 = .ok (.getfield 23, 3) := by decide +kernel
theorem d_Ma_raise_91 : decode b_Ma_raise 91 = .ok (.iload_n 1, 1) := by decide +kernel
theorem d_Ma_raise_92 : decode b_Ma_raise 92 = .ok (.iconst 1, 1) := by decide +kernel
theorem d_Ma_raise_93 : decode b_Ma_raise 93 = .ok (.if_icmp .ne 8, 3) := by decide +kernel
theorem d_Ma_raise_96 : decode b_Ma_raise 96 = .ok (.bipush 7, 2) := by decide +kernel
theorem d_Ma_raise_98 : decode b_Ma_raise 98 = .ok (.goto 5, 3) := by decide +kernel
theorem d_Ma_raise_101 : decode b_Ma_raise 101 = .ok (.bipush 19, 2) := by decide +kernel
theorem d_Ma_raise_103 : decode b_Ma_raise 103 = .ok (.aload_n 0, 1) := by decide +kernel
theorem d_Ma_raise_104 : decode b_Ma_raise 104 = .ok (.getfield 119, 3) := by decide +kernel
theorem d_Ma_raise_107 : decode b_Ma_raise 107 = .ok (.invokevirtual 141, 3) := by decide +kernel
theorem d_Ma_raise_110 : decode b_Ma_raise 110 = .ok (.lstore_n 2, 1) := by decide +kernel
theorem d_Ma_raise_111 : decode b_Ma_raise 111 = .ok (.aload_n 0, 1) := by decide +kernel
theorem d_Ma_raise_112 : decode b_Ma_raise 112 = .ok (.getfield 15, 3) := by decide +kernel
theorem d_Ma_raise_115 : decode b_Ma_raise 115 = .ok (.aload_n 0, 1) := by decide +kernel
theorem d_Ma_raise_116 : decode b_Ma_raise 116 = .ok (.getfield 23, 3) := by decide +kernel
theorem d_Ma_raise_119 : decode b_Ma_raise 119 = .ok (.lload_n 2, 1) := by decide +kernel
theorem d_Ma_raise_120 : decode b_Ma_raise 120 = .ok (.aload_n 0, 1) := by decide +kernel
theorem d_Ma_raise_121 : decode b_Ma_raise 121 = .ok (.getfield 23, 3) := by decide +kernel
theorem d_Ma_raise_124 : decode b_Ma_raise 124 = .ok (.invokevirtual 158, 3) := by decide +kernel
theorem d_Ma_raise_127 : decode b_Ma_raise 127 = .ok (.return_, 1) := by decide +kernel
theorem d_Ma_raise_128 : decode b_Ma_raise 128 = .ok (.aload_n 0, 1) := by decide +kernel
theorem d_Ma_raise_129 : decode b_Ma_raise 129 = .ok (.aload_n 0, 1) := by decide +kernel
theorem d_Ma_raise_130 : decode b_Ma_raise 130 = .ok (.getfield 33, 3) := by decide +kernel
theorem d_Ma_raise_133 : decode b_Ma_raise 133 = .ok (.invokevirtual 162, 3) := by decide +kernel
theorem d_Ma_raise_136 : decode b_Ma_raise 136 = .ok (.putfield 40, 3) := by decide +kernel
theorem d_Ma_raise_139 : decode b_Ma_raise 139 = .ok (.aload_n 0, 1) := by decide +kernel
theorem d_Ma_raise_140 : decode b_Ma_raise 140 = .ok (.getfield 33, 3) := by decide +kernel
theorem d_Ma_raise_143 : decode b_Ma_raise 143 = .ok (.aload_n 0, 1) := by decide +kernel
theorem d_Ma_raise_144 : decode b_Ma_raise 144 = .ok (.getfield 119, 3) := by decide +kernel
theorem d_Ma_raise_147 : decode b_Ma_raise 147 = .ok (.invokevirtual 112, 3) := by decide +kernel
theorem d_Ma_raise_150 : decode b_Ma_raise 150 = .ok (.iload_n 1, 1) := by decide +kernel
theorem d_Ma_raise_151 : decode b_Ma_raise 151 = .ok (.iconst 3, 1) := by decide +kernel
theorem d_Ma_raise_152 : decode b_Ma_raise 152 = .ok (.if_icmp .eq 20, 3) := by decide +kernel
theorem d_Ma_raise_155 : decode b_Ma_raise 155 = .ok (.aload_n 0, 1) := by decide +kernel
theorem d_Ma_raise_156 : decode b_Ma_raise 156 = .ok (.iload_n 1, 1) := by decide +kernel
theorem d_Ma_raise_157 : decode b_Ma_raise 157 = .ok (.iconst 1, 1) := by decide +kernel
theorem d_Ma_raise_158 : decode b_Ma_raise 158 = .ok (.if_icmp .ne 8, 3) := by decide +kernel
theorem d_Ma_raise_161 : decode b_Ma_raise 161 = .ok (.bipush 7, 2) := by decide +kernel
theorem d_Ma_raise_163 : decode b_Ma_raise 163 = .ok (.goto 5, 3) := by decide +kernel
theorem d_Ma_raise_166 : decode b_Ma_raise 166 = .ok (.bipush 8, 2) := by decide +kernel
theorem d_Ma_raise_168 : decode b_Ma_raise 168 = .ok (.invokevirtual 152, 3) := by decide +kernel
theorem d_Ma_raise_171 : decode b_Ma_raise 171 = .ok (.pop, 1) := by decide +kernel
theorem d_Ma_raise_172 : decode b_Ma_raise 172 = .ok (.return_, 1) := by decide +kernel
set_option maxRecDepth 100000 in
theorem hl_Ma_raise : Cond.methodLink R_Ma 88 y_Ma_raise ∈ wd_tbl := wd_of 2038 (by decide +kernel) rfl
set_option maxRecDepth 100000 in
theorem hi_Ma_raise : Cond.instanceMethod y_Ma_raise ∈ wd_tbl := wd_of 2040 (by decide +kernel) rfl
set_option maxRecDepth 100000 in
theorem hs_Ma_raise : Cond.selects R_Ma y_Ma_raise y_Ma_raise ∈ wd_tbl := wd_of 124 (by decide +kernel) rfl
theorem hd_Ma_raise : y_Ma_raise.cls = R_Ma ∧ y_Ma_raise.cls ≠ "java/lang/invoke/MethodHandle" ∧ y_Ma_raise.cls ≠ "java/lang/invoke/VarHandle" ∧ (parseMethodDescriptor y_Ma_raise.desc).map (fun d => d.parameters.length) = some 0 := by decide +kernel
def rm_Ma_raise (mc ms : Nat) : Room := { frames := 5, cells := mc, slots := ms, locals := 148 }
theorem rm_Ma_raise_Ma_guardFails {mc ms : Nat} : (rm_Ma_guardFails).frames + 1 ≤ (rm_Ma_raise mc ms).frames ∧ 8 + (1 + 11) + (rm_Ma_guardFails).locals ≤ (rm_Ma_raise mc ms).locals := by
  show 2 + 1 ≤ 5 ∧ 8 + (1 + 11) + 44 ≤ 148
  decide
theorem rm_Ma_raise_Fr_push {mc ms : Nat} {mc2 ms2 : Nat} : (rm_Fr_push mc2 ms2).frames + 1 ≤ (rm_Ma_raise mc ms).frames ∧ 8 + (3 + 11) + (rm_Fr_push mc2 ms2).locals ≤ (rm_Ma_raise mc ms).locals := by
  show 2 + 1 ≤ 5 ∧ 8 + (3 + 11) + 82 ≤ 148
  decide
theorem rm_Ma_raise_Ma_wrap {mc ms : Nat} {mc2 ms2 : Nat} : (rm_Ma_wrap mc2 ms2).frames + 1 ≤ (rm_Ma_raise mc ms).frames ∧ 8 + (2 + 11) + (rm_Ma_wrap mc2 ms2).locals ≤ (rm_Ma_raise mc ms).locals := by
  show 4 + 1 ≤ 5 ∧ 8 + (2 + 11) + 127 ≤ 148
  decide
theorem rm_Ma_raise_Fr_below {mc ms : Nat} : (rm_Fr_below).frames + 1 ≤ (rm_Ma_raise mc ms).frames ∧ 8 + (3 + 11) + (rm_Fr_below).locals ≤ (rm_Ma_raise mc ms).locals := by
  show 0 + 1 ≤ 5 ∧ 8 + (3 + 11) + 0 ≤ 148
  decide
theorem rm_Ma_raise_Pr_pair {mc ms : Nat} : (rm_Pr_pair).frames + 1 ≤ (rm_Ma_raise mc ms).frames ∧ 8 + (5 + 11) + (rm_Pr_pair).locals ≤ (rm_Ma_raise mc ms).locals := by
  show 1 + 1 ≤ 5 ∧ 8 + (5 + 11) + 21 ≤ 148
  decide
theorem rm_Ma_raise_Wl_endsWith {mc ms : Nat} : (rm_Wl_endsWith).frames + 1 ≤ (rm_Ma_raise mc ms).frames ∧ 8 + (5 + 11) + (rm_Wl_endsWith).locals ≤ (rm_Ma_raise mc ms).locals := by
  show 0 + 1 ≤ 5 ∧ 8 + (5 + 11) + 0 ≤ 148
  decide
theorem rm_Ma_raise_Fr_unwind {mc ms : Nat} : (rm_Fr_unwind).frames + 1 ≤ (rm_Ma_raise mc ms).frames ∧ 8 + (2 + 11) + (rm_Fr_unwind).locals ≤ (rm_Ma_raise mc ms).locals := by
  show 0 + 1 ≤ 5 ∧ 8 + (2 + 11) + 0 ≤ 148
  decide
def fb_Ma_raise_172 (N : Nat) (G : Unit) (u : CS) : Option (CS × Unit) := some (u, ())
set_option maxRecDepth 100000 in
set_option maxHeartbeats 4000000 in
theorem wb_Ma_raise_172 {p : Program} {l : Launch} {e : Env} {s : State} {m : MethodId} {args : Array Value} {below : List Frame} {meth : Method} {c : Code} {s0 : State} {b0 : Nat} {D : va_G} {cB cI cJ cZ cS cP : ClassId} {A : Nat → Prop} {sk sv : Nat → Nat} {uN uS mc ms : Nat} {ad0 : Nat → Nat} (C0 : XCx p s s0 b0 m args meth c R_Ma b_Ma_raise 4 none D cB cI cJ cZ cS cP A) (hE : ENV s0 b0 sk sv) (N : Nat) (G : Unit) (hG : True) : ∀ (u : CS) (x : CS × Unit), fb_Ma_raise_172 N G u = some x → (uN + mc = x.1.1.1 ∧ uS + ms = x.1.1.2) → ∀ (ad : Nat → Nat) (ce sl : Nat), AB uN uS ad0 u ad ce sl → ∀ (H : Heap) (locs : List Loc), va_P D cls (wC cB cI cJ cZ cS cP ad u) H → va_D A (wC cB cI cJ cZ cS cP ad u) → va_S A s.heap H locs → ∀ (ls : Array Slot), lv_has ls 4 [] → W p l e (rm_Ma_raise mc ms) s m args below meth c H locs ce sl (MQ below (xQ D cB cI cJ cZ cS cP A ad0 uN x.1 none) args s mc ms A) (F0 m 172 ls []) := by
  intro u x hf hm ad ce sl hB H locs hP hD hS ls hl
  obtain ⟨hx, hb, hr, hml, ht, hown, hK, hA, hlocks, hA0, hO, hbs⟩ := id C0
  unfold fb_Ma_raise_172 at hf
  exact yr_v C0 hP hD hS hB hm hf d_Ma_raise_172
def fb_Ma_raise_168 (N : Nat) (G : Unit) (u : CS) (t0 : Nat) (t1 : Int32) : Option (CS × Unit) := ck (isO u t0 5) (bx (gw u (fm_Ma_wrap N u t0 t1)) (fun u1 r1 => gw u1 (fb_Ma_raise_172 N G u1)))
set_option maxRecDepth 100000 in
set_option maxHeartbeats 4000000 in
theorem wb_Ma_raise_168 {p : Program} {l : Launch} {e : Env} {s : State} {m : MethodId} {args : Array Value} {below : List Frame} {meth : Method} {c : Code} {s0 : State} {b0 : Nat} {D : va_G} {cB cI cJ cZ cS cP : ClassId} {A : Nat → Prop} {sk sv : Nat → Nat} {uN uS mc ms : Nat} {ad0 : Nat → Nat} (C0 : XCx p s s0 b0 m args meth c R_Ma b_Ma_raise 4 none D cB cI cJ cZ cS cP A) (hE : ENV s0 b0 sk sv) (N : Nat) (G : Unit) (hG : True) : ∀ (u : CS) (t0 : Nat) (t1 : Int32) (x : CS × Unit), fb_Ma_raise_168 N G u t0 t1 = some x → (uN + mc = x.1.1.1 ∧ uS + ms = x.1.1.2) → ∀ (ad : Nat → Nat) (ce sl : Nat), AB uN uS ad0 u ad ce sl → ∀ (H : Heap) (locs : List Loc), va_P D cls (wC cB cI cJ cZ cS cP ad u) H → va_D A (wC cB cI cJ cZ cS cP ad u) → va_S A s.heap H locs → ∀ (ls : Array Slot), lv_has ls 4 [] → W p l e (rm_Ma_raise mc ms) s m args below meth c H locs ce sl (MQ below (xQ D cB cI cJ cZ cS cP A ad0 uN x.1 none) args s mc ms A) (F0 m 168 ls [.int t1, .ref (ad t0)]) := by
  intro u t0 t1 x hf hm ad ce sl hB H locs hP hD hS ls hl
  obtain ⟨hx, hb, hr, hml, ht, hown, hK, hA, hlocks, hA0, hO, hbs⟩ := id C0
  unfold fb_Ma_raise_168 at hf
  obtain ⟨hO9, hf⟩ := ck_some hf
  obtain ⟨u1, r1, hc1, hf⟩ := bx_some hf
  obtain ⟨hc1, hq1⟩ := gw_some hc1
  obtain ⟨hf, hw1⟩ := gw_some hf
  refine yV (i := t0) (As := [.int t1]) (rest := []) C0 hP hD hS ck_Ma hO9 (c_Ma_wrap N hE hc1 (gm hq1)) k_Ma_wrap (wd_of 2042 (by decide +kernel) rfl) hi_Ma_wrap hs_Ma_wrap hini_Ma rfl rfl hd_Ma_wrap rfl rm_Ma_raise_Ma_wrap hl.1 (Nat.le_of_ble_eq_true rfl) d_Ma_raise_168 rfl (gm hq1) hB hm hw1 (fun ad1 H locs ce sl hg1 hB hP hD hS => ?_)
  refine lv_pop hx hb d_Ma_raise_171 rfl ?_
  exact wb_Ma_raise_172 C0 hE N G hG _ _ hf hm _ _ _ hB H locs hP hD hS ls (lv_sub hl [] rfl)
def fb_Ma_raise_110 (N : Nat) (G : Unit) (u : CS) (v0 : Nat) (t0 : Int64) : Option (CS × Unit) := bo (gR u v0 5 1) (fun r2 => bo (gR u v0 5 3) (fun r3 => bo (gR u v0 5 3) (fun r4 => bo r2 (fun j6 => ck (isO u j6 12) (bx (gz u (fm_Wl_endsWith N u j6 r3 t0 r4)) (fun u5 r5 => gw u5 (some (u5, ()))))))))
set_option maxRecDepth 100000 in
set_option maxHeartbeats 4000000 in
theorem wb_Ma_raise_110 {p : Program} {l : Launch} {e : Env} {s : State} {m : MethodId} {args : Array Value} {below : List Frame} {meth : Method} {c : Code} {s0 : State} {b0 : Nat} {D : va_G} {cB cI cJ cZ cS cP : ClassId} {A : Nat → Prop} {sk sv : Nat → Nat} {uN uS mc ms : Nat} {ad0 : Nat → Nat} (C0 : XCx p s s0 b0 m args meth c R_Ma b_Ma_raise 4 none D cB cI cJ cZ cS cP A) (hE : ENV s0 b0 sk sv) (N : Nat) (G : Unit) (hG : True) : ∀ (u : CS) (v0 : Nat) (t0 : Int64) (x : CS × Unit), fb_Ma_raise_110 N G u v0 t0 = some x → (uN + mc = x.1.1.1 ∧ uS + ms = x.1.1.2) → ∀ (ad : Nat → Nat) (ce sl : Nat), AB uN uS ad0 u ad ce sl → ∀ (H : Heap) (locs : List Loc), va_P D cls (wC cB cI cJ cZ cS cP ad u) H → va_D A (wC cB cI cJ cZ cS cP ad u) → va_S A s.heap H locs → ∀ (ls : Array Slot), lv_has ls 4 [(0, .ref (ad v0))] → W p l e (rm_Ma_raise mc ms) s m args below meth c H locs ce sl (MQ below (xQ D cB cI cJ cZ cS cP A ad0 uN x.1 none) args s mc ms A) (F0 m 110 ls [.long t0]) := by
  intro u v0 t0 x hf hm ad ce sl hB H locs hP hD hS ls hl
  obtain ⟨hx, hb, hr, hml, ht, hown, hK, hA, hlocks, hA0, hO, hbs⟩ := id C0
  unfold fb_Ma_raise_110 at hf
  refine lv_lstore_n (lv' := [(2, .long t0), (0, .ref (ad v0))]) hx hb d_Ma_raise_110 rfl hl (by decide) (by first | rfl | simp [List.filter, cat_rf]) (fun ls hl => ?_)
  refine lv_aload_n hx hb d_Ma_raise_111 rfl (lv_at hl 1 rfl) ?_
  obtain ⟨r2, g2, hf⟩ := bo_some hf
  refine xg_R (i := v0) (k := 1) hx hb ht hown ck_Ma hK hP (by decide) fk_Ma_15 g2 d_Ma_raise_112 ?_
  refine lv_aload_n hx hb d_Ma_raise_115 rfl (lv_at hl 1 rfl) ?_
  obtain ⟨r3, g3, hf⟩ := bo_some hf
  refine xg_R (i := v0) (k := 3) hx hb ht hown ck_Ma hK hP (by decide) fk_Ma_23 g3 d_Ma_raise_116 ?_
  refine lv_lload_n hx hb d_Ma_raise_119 rfl (lv_at hl 0 rfl) ?_
  refine lv_aload_n hx hb d_Ma_raise_120 rfl (lv_at hl 1 rfl) ?_
  obtain ⟨r4, g4, hf⟩ := bo_some hf
  refine xg_R (i := v0) (k := 3) hx hb ht hown ck_Ma hK hP (by decide) fk_Ma_23 g4 d_Ma_raise_121 ?_
  obtain ⟨j6, ej6, hf⟩ := bo_some hf
  rw [ej6]
  obtain ⟨hO9, hf⟩ := ck_some hf
  obtain ⟨u5, r5, hc5, hf⟩ := bx_some hf
  obtain ⟨hc5, hz5⟩ := gz_some hc5
  obtain ⟨hf, hw5⟩ := gw_some hf
  refine xV0 (i := j6) (As := [va_rf (Option.map ad r3), .long t0, va_rf (Option.map ad r4)]) (rest := []) C0 hP hD hS ck_Wl hO9 (c_Wl_endsWith N hc5) k_Wl_endsWith (wd_of 2051 (by decide +kernel) rfl) hi_Wl_endsWith hs_Wl_endsWith hini_Wl rfl rfl hd_Wl_endsWith rfl rm_Ma_raise_Wl_endsWith hl.1 (Nat.le_of_ble_eq_true rfl) d_Ma_raise_124 rfl (hB.fit hm hz5 hw5) (fun H locs hP hD hS => ?_)
  have hB := hB.same2 hz5
  exact yr_v C0 hP hD hS hB hm hf d_Ma_raise_127
def fb_Ma_raise_103 (N : Nat) (G : Unit) (u : CS) (v0 : Nat) (t0 : Option Nat) (t1 : Int32) : Option (CS × Unit) := bo (gJ u v0 5 10) (fun r7 => bo t0 (fun j9 => ck (isO u j9 7) (bx (gz u (fm_Pr_pair N u j9 t1 r7)) (fun u8 r8 => gw u8 (fb_Ma_raise_110 N G u8 (v0) (r8))))))
set_option maxRecDepth 100000 in
set_option maxHeartbeats 4000000 in
theorem wb_Ma_raise_103 {p : Program} {l : Launch} {e : Env} {s : State} {m : MethodId} {args : Array Value} {below : List Frame} {meth : Method} {c : Code} {s0 : State} {b0 : Nat} {D : va_G} {cB cI cJ cZ cS cP : ClassId} {A : Nat → Prop} {sk sv : Nat → Nat} {uN uS mc ms : Nat} {ad0 : Nat → Nat} (C0 : XCx p s s0 b0 m args meth c R_Ma b_Ma_raise 4 none D cB cI cJ cZ cS cP A) (hE : ENV s0 b0 sk sv) (N : Nat) (G : Unit) (hG : True) : ∀ (u : CS) (v0 : Nat) (t0 : Option Nat) (t1 : Int32) (x : CS × Unit), fb_Ma_raise_103 N G u v0 t0 t1 = some x → (uN + mc = x.1.1.1 ∧ uS + ms = x.1.1.2) → ∀ (ad : Nat → Nat) (ce sl : Nat), AB uN uS ad0 u ad ce sl → ∀ (H : Heap) (locs : List Loc), va_P D cls (wC cB cI cJ cZ cS cP ad u) H → va_D A (wC cB cI cJ cZ cS cP ad u) → va_S A s.heap H locs → ∀ (ls : Array Slot), lv_has ls 4 [(0, .ref (ad v0))] → W p l e (rm_Ma_raise mc ms) s m args below meth c H locs ce sl (MQ below (xQ D cB cI cJ cZ cS cP A ad0 uN x.1 none) args s mc ms A) (F0 m 103 ls [.int t1, va_rf (Option.map ad t0)]) := by
  intro u v0 t0 t1 x hf hm ad ce sl hB H locs hP hD hS ls hl
  obtain ⟨hx, hb, hr, hml, ht, hown, hK, hA, hlocks, hA0, hO, hbs⟩ := id C0
  unfold fb_Ma_raise_103 at hf
  refine lv_aload_n hx hb d_Ma_raise_103 rfl (lv_at hl 0 rfl) ?_
  obtain ⟨r7, g7, hf⟩ := bo_some hf
  refine xg_J (i := v0) (k := 10) hx hb ht hown ck_Ma hK hP (by decide) fk_Ma_119 g7 d_Ma_raise_104 ?_
  obtain ⟨j9, ej9, hf⟩ := bo_some hf
  rw [ej9]
  obtain ⟨hO9, hf⟩ := ck_some hf
  obtain ⟨u8, r8, hc8, hf⟩ := bx_some hf
  obtain ⟨hc8, hz8⟩ := gz_some hc8
  obtain ⟨hf, hw8⟩ := gw_some hf
  refine xV0 (i := j9) (As := [.int t1, .long r7]) (rest := []) C0 hP hD hS ck_Pr hO9 (c_Pr_pair N hc8) k_Pr_pair (wd_of 2046 (by decide +kernel) rfl) hi_Pr_pair hs_Pr_pair hini_Pr rfl rfl hd_Pr_pair rfl rm_Ma_raise_Pr_pair hl.1 (Nat.le_of_ble_eq_true rfl) d_Ma_raise_107 rfl (hB.fit hm hz8 hw8) (fun H locs hP hD hS => ?_)
  have hB := hB.same2 hz8
  exact wb_Ma_raise_110 C0 hE N G hG _ _ _ _ hf hm _ _ _ hB H locs hP hD hS ls (lv_sub hl [0] rfl)
def fb_Ma_raise_65 (N : Nat) (G : Unit) (u : CS) (v0 : Nat) (v1 : Int32) : Option (CS × Unit) := bo (gR u v0 5 4) (fun r10 => bo r10 (fun j11 => bo (gI u j11 4 8) (fun r12 => br (decide (r12 = 0)) (br (decide (v1 = 2)) (bo (gJ u v0 5 10) (fun r22 => fb_Ma_raise_110 N G u (v0) (r22))) (bo (gR u v0 5 3) (fun r21 => br (decide (v1 = 1)) (fb_Ma_raise_103 N G u (v0) (r21) (7)) (fb_Ma_raise_103 N G u (v0) (r21) (19))))) (bo (gR u v0 5 4) (fun r13 => bo r13 (fun j15 => ck (isO u j15 4) (bx (gz u (fm_Fr_unwind N u j15)) (fun u14 r14 => gw u14 (bo (pF u14 v0 5 5 (.inl r14)) (fun w16 => bo (gR w16 v0 5 4) (fun r17 => bo (gJ w16 v0 5 10) (fun r18 => bo r17 (fun j20 => ck (isO w16 j20 4) (ck (List.all [some v0] (okR w16.1.1)) (bx (gw w16 (fm_Fr_push N w16 j20 r18)) (fun u19 r19 => gw u19 (br (decide (v1 = 3)) (fb_Ma_raise_172 N G u19) (br (decide (v1 = 1)) (fb_Ma_raise_168 N G u19 (v0) (7)) (fb_Ma_raise_168 N G u19 (v0) (8))))))))))))))))))))
set_option maxRecDepth 100000 in
set_option maxHeartbeats 4000000 in
theorem wb_Ma_raise_65 {p : Program} {l : Launch} {e : Env} {s : State} {m : MethodId} {args : Array Value} {below : List Frame} {meth : Method} {c : Code} {s0 : State} {b0 : Nat} {D : va_G} {cB cI cJ cZ cS cP : ClassId} {A : Nat → Prop} {sk sv : Nat → Nat} {uN uS mc ms : Nat} {ad0 : Nat → Nat} (C0 : XCx p s s0 b0 m args meth c R_Ma b_Ma_raise 4 none D cB cI cJ cZ cS cP A) (hE : ENV s0 b0 sk sv) (N : Nat) (G : Unit) (hG : True) : ∀ (u : CS) (v0 : Nat) (v1 : Int32) (x : CS × Unit), fb_Ma_raise_65 N G u v0 v1 = some x → (uN + mc = x.1.1.1 ∧ uS + ms = x.1.1.2) → ∀ (ad : Nat → Nat) (ce sl : Nat), AB uN uS ad0 u ad ce sl → ∀ (H : Heap) (locs : List Loc), va_P D cls (wC cB cI cJ cZ cS cP ad u) H → va_D A (wC cB cI cJ cZ cS cP ad u) → va_S A s.heap H locs → ∀ (ls : Array Slot), lv_has ls 4 [(0, .ref (ad v0)), (1, .int v1)] → W p l e (rm_Ma_raise mc ms) s m args below meth c H locs ce sl (MQ below (xQ D cB cI cJ cZ cS cP A ad0 uN x.1 none) args s mc ms A) (F0 m 65 ls []) := by
  intro u v0 v1 x hf hm ad ce sl hB H locs hP hD hS ls hl
  obtain ⟨hx, hb, hr, hml, ht, hown, hK, hA, hlocks, hA0, hO, hbs⟩ := id C0
  unfold fb_Ma_raise_65 at hf
  refine lv_aload_n hx hb d_Ma_raise_65 rfl (lv_at hl 0 rfl) ?_
  obtain ⟨r10, g10, hf⟩ := bo_some hf
  refine xg_R (i := v0) (k := 4) hx hb ht hown ck_Ma hK hP (by decide) fk_Ma_33 g10 d_Ma_raise_66 ?_
  obtain ⟨j11, ej11, hf⟩ := bo_some hf
  rw [ej11]
  obtain ⟨r12, g12, hf⟩ := bo_some hf
  refine xg_I (i := j11) (k := 8) hx hb ht hown ck_Fr hK hP (by decide) fk_Ma_155 g12 d_Ma_raise_69 ?_
  refine lv_if_ne (tgt := 128) hx hb d_Ma_raise_72 (by decide) (fun hc => ?_) (fun hc => ?_)
  · rw [br_n _ hc] at hf
    refine lv_aload_n hx hb d_Ma_raise_128 rfl (lv_at hl 0 rfl) ?_
    refine lv_aload_n hx hb d_Ma_raise_129 rfl (lv_at hl 0 rfl) ?_
    obtain ⟨r13, g13, hf⟩ := bo_some hf
    refine xg_R (i := v0) (k := 4) hx hb ht hown ck_Ma hK hP (by decide) fk_Ma_33 g13 d_Ma_raise_130 ?_
    obtain ⟨j15, ej15, hf⟩ := bo_some hf
    rw [ej15]
    obtain ⟨hO9, hf⟩ := ck_some hf
    obtain ⟨u14, r14, hc14, hf⟩ := bx_some hf
    obtain ⟨hc14, hz14⟩ := gz_some hc14
    obtain ⟨hf, hw14⟩ := gw_some hf
    refine xV0 (i := j15) (As := []) (rest := [.ref (ad v0)]) C0 hP hD hS ck_Fr hO9 (c_Fr_unwind N hc14) k_Fr_unwind (wd_of 2052 (by decide +kernel) rfl) hi_Fr_unwind hs_Fr_unwind hini_Fr rfl rfl hd_Fr_unwind rfl rm_Ma_raise_Fr_unwind hl.1 (Nat.le_of_ble_eq_true rfl) d_Ma_raise_133 rfl (hB.fit hm hz14 hw14) (fun H locs hP hD hS => ?_)
    have hB := hB.same2 hz14
    obtain ⟨w16, g16, hf⟩ := bo_some hf
    refine xp (i := v0) (k := 5) (v := (.inl r14)) hx hb ht hown ck_Ma hK hP hD hS (by decide) fk_Ma_40 rfl g16 rfl rfl d_Ma_raise_136 (fun H locs hP hD hS => ?_)
    have hB := hB.same (pF_c g16)
    refine lv_aload_n hx hb d_Ma_raise_139 rfl (lv_at hl 0 rfl) ?_
    obtain ⟨r17, g17, hf⟩ := bo_some hf
    refine xg_R (i := v0) (k := 4) hx hb ht hown ck_Ma hK hP (by decide) fk_Ma_33 g17 d_Ma_raise_140 ?_
    refine lv_aload_n hx hb d_Ma_raise_143 rfl (lv_at hl 0 rfl) ?_
    obtain ⟨r18, g18, hf⟩ := bo_some hf
    refine xg_J (i := v0) (k := 10) hx hb ht hown ck_Ma hK hP (by decide) fk_Ma_119 g18 d_Ma_raise_144 ?_
    obtain ⟨j20, ej20, hf⟩ := bo_some hf
    rw [ej20]
    obtain ⟨hO9, hf⟩ := ck_some hf
    obtain ⟨hk19, hf⟩ := ck_some hf
    obtain ⟨u19, r19, hc19, hf⟩ := bx_some hf
    obtain ⟨hc19, hq19⟩ := gw_some hc19
    obtain ⟨hf, hw19⟩ := gw_some hf
    refine yV (i := j20) (As := [.long r18]) (rest := []) C0 hP hD hS ck_Fr hO9 (c_Fr_push N hE hc19 (gm hq19)) k_Fr_push (wd_of 1753 (by decide +kernel) rfl) hi_Fr_push hs_Fr_push hini_Fr rfl rfl hd_Fr_push rfl rm_Ma_raise_Fr_push hl.1 (Nat.le_of_ble_eq_true rfl) d_Ma_raise_147 rfl (gm hq19) hB hm hw19 (fun ad19 H locs ce sl hg19 hB hP hD hS => ?_)
    have q19_0 : ad19 v0 = ad v0 := ko_O (k := 0) hk19 rfl hg19
    have hl : lv_has ls 4 [(0, .ref (ad19 v0)), (1, .int v1)] := by simp only [q19_0]; exact hl
    refine lv_iload_n hx hb d_Ma_raise_150 rfl (lv_at hl 1 rfl) ?_
    refine lv_iconst (v := 3) hx hb d_Ma_raise_151 (by decide) ?_
    refine lv_icmp_eq (tgt := 172) hx hb d_Ma_raise_152 (by decide) (fun hc => ?_) (fun hc => ?_)
    · rw [br_p _ hc] at hf
      exact wb_Ma_raise_172 C0 hE N G hG _ _ hf hm _ _ _ hB H locs hP hD hS ls (lv_sub hl [] rfl)
    · rw [br_n _ hc] at hf
      refine lv_aload_n hx hb d_Ma_raise_155 rfl (lv_at hl 0 rfl) ?_
      refine lv_iload_n hx hb d_Ma_raise_156 rfl (lv_at hl 1 rfl) ?_
      refine lv_iconst (v := 1) hx hb d_Ma_raise_157 (by decide) ?_
      refine lv_icmp_ne (tgt := 166) hx hb d_Ma_raise_158 (by decide) (fun hc => ?_) (fun hc => ?_)
      · rw [br_n _ hc] at hf
        refine lv_bipush (v := 8) hx hb d_Ma_raise_166 (by decide) ?_
        exact wb_Ma_raise_168 C0 hE N G hG _ _ _ _ hf hm _ _ _ hB H locs hP hD hS ls (lv_sub hl [] rfl)
      · rw [br_p _ hc] at hf
        refine lv_bipush (v := 7) hx hb d_Ma_raise_161 (by decide) ?_
        refine lv_goto (tgt := 168) hx hb d_Ma_raise_163 (by decide) ?_
        exact wb_Ma_raise_168 C0 hE N G hG _ _ _ _ hf hm _ _ _ hB H locs hP hD hS ls (lv_sub hl [] rfl)
  · rw [br_p _ hc] at hf
    refine lv_iload_n hx hb d_Ma_raise_75 rfl (lv_at hl 1 rfl) ?_
    refine lv_iconst (v := 2) hx hb d_Ma_raise_76 (by decide) ?_
    refine lv_icmp_ne (tgt := 87) hx hb d_Ma_raise_77 (by decide) (fun hc => ?_) (fun hc => ?_)
    · rw [br_n _ hc] at hf
      refine lv_aload_n hx hb d_Ma_raise_87 rfl (lv_at hl 0 rfl) ?_
      obtain ⟨r21, g21, hf⟩ := bo_some hf
      refine xg_R (i := v0) (k := 3) hx hb ht hown ck_Ma hK hP (by decide) fk_Ma_23 g21 d_Ma_raise_88 ?_
      refine lv_iload_n hx hb d_Ma_raise_91 rfl (lv_at hl 1 rfl) ?_
      refine lv_iconst (v := 1) hx hb d_Ma_raise_92 (by decide) ?_
      refine lv_icmp_ne (tgt := 101) hx hb d_Ma_raise_93 (by decide) (fun hc => ?_) (fun hc => ?_)
      · rw [br_n _ hc] at hf
        refine lv_bipush (v := 19) hx hb d_Ma_raise_101 (by decide) ?_
        exact wb_Ma_raise_103 C0 hE N G hG _ _ _ _ _ hf hm _ _ _ hB H locs hP hD hS ls (lv_sub hl [0] rfl)
      · rw [br_p _ hc] at hf
        refine lv_bipush (v := 7) hx hb d_Ma_raise_96 (by decide) ?_
        refine lv_goto (tgt := 103) hx hb d_Ma_raise_98 (by decide) ?_
        exact wb_Ma_raise_103 C0 hE N G hG _ _ _ _ _ hf hm _ _ _ hB H locs hP hD hS ls (lv_sub hl [0] rfl)
    · rw [br_p _ hc] at hf
      refine lv_aload_n hx hb d_Ma_raise_80 rfl (lv_at hl 0 rfl) ?_
      obtain ⟨r22, g22, hf⟩ := bo_some hf
      refine xg_J (i := v0) (k := 10) hx hb ht hown ck_Ma hK hP (by decide) fk_Ma_119 g22 d_Ma_raise_81 ?_
      refine lv_goto (tgt := 110) hx hb d_Ma_raise_84 (by decide) ?_
      exact wb_Ma_raise_110 C0 hE N G hG _ _ _ _ hf hm _ _ _ hB H locs hP hD hS ls (lv_sub hl [0] rfl)
def fb_Ma_raise_0 (N : Nat) (G : Unit) (u : CS) (v0 : Nat) : Option (CS × Unit) := bo (gI u v0 5 9) (fun r23 => bo (pF u v0 5 9 (.inl 0)) (fun w24 => bo (gI w24 v0 5 12) (fun r25 => br (decide (r25 = 0)) (bo (gI w24 v0 5 11) (fun r26 => br (decide (r26 = (-1))) (fb_Ma_raise_65 N G w24 (v0) (r23)) (bo (gR w24 v0 5 4) (fun r27 => bo (gJ w24 v0 5 10) (fun r28 => bo r27 (fun j30 => ck (isO w24 j30 4) (ck (List.all [some v0] (okR w24.1.1)) (bx (gw w24 (fm_Fr_push N w24 j30 r28)) (fun u29 r29 => gw u29 (bo (gI u29 v0 5 11) (fun r31 => ck (isO u29 v0 5) (ck (List.all [some v0] (okR u29.1.1)) (bx (gw u29 (fm_Ma_wrap N u29 v0 r31)) (fun u32 r32 => gw u32 (br (decide (r32 = 0)) (some (u32, ())) (bo (gR u32 v0 5 4) (fun r33 => bo r33 (fun j35 => ck (isO u32 j35 4) (bx (gz u32 (fm_Fr_below N u32 j35 0)) (fun u34 r34 => gw u34 (bo (pF u34 v0 5 10 (.inr (.inl r34))) (fun w36 => fb_Ma_raise_65 N G w36 (v0) (r23))))))))))))))))))))))) (ck (isO w24 v0 5) (bx (gz w24 (fm_Ma_guardFails N w24 v0)) (fun u37 r37 => gw u37 (some (u37, ()))))))))
set_option maxRecDepth 100000 in
set_option maxHeartbeats 4000000 in
theorem wb_Ma_raise_0 {p : Program} {l : Launch} {e : Env} {s : State} {m : MethodId} {args : Array Value} {below : List Frame} {meth : Method} {c : Code} {s0 : State} {b0 : Nat} {D : va_G} {cB cI cJ cZ cS cP : ClassId} {A : Nat → Prop} {sk sv : Nat → Nat} {uN uS mc ms : Nat} {ad0 : Nat → Nat} (C0 : XCx p s s0 b0 m args meth c R_Ma b_Ma_raise 4 none D cB cI cJ cZ cS cP A) (hE : ENV s0 b0 sk sv) (N : Nat) (G : Unit) (hG : True) : ∀ (u : CS) (v0 : Nat) (x : CS × Unit), fb_Ma_raise_0 N G u v0 = some x → (uN + mc = x.1.1.1 ∧ uS + ms = x.1.1.2) → ∀ (ad : Nat → Nat) (ce sl : Nat), AB uN uS ad0 u ad ce sl → ∀ (H : Heap) (locs : List Loc), va_P D cls (wC cB cI cJ cZ cS cP ad u) H → va_D A (wC cB cI cJ cZ cS cP ad u) → va_S A s.heap H locs → ∀ (ls : Array Slot), lv_has ls 4 [(0, .ref (ad v0))] → W p l e (rm_Ma_raise mc ms) s m args below meth c H locs ce sl (MQ below (xQ D cB cI cJ cZ cS cP A ad0 uN x.1 none) args s mc ms A) (F0 m 0 ls []) := by
  intro u v0 x hf hm ad ce sl hB H locs hP hD hS ls hl
  obtain ⟨hx, hb, hr, hml, ht, hown, hK, hA, hlocks, hA0, hO, hbs⟩ := id C0
  unfold fb_Ma_raise_0 at hf
  refine lv_aload_n hx hb d_Ma_raise_0 rfl (lv_at hl 0 rfl) ?_
  obtain ⟨r23, g23, hf⟩ := bo_some hf
  refine xg_I (i := v0) (k := 9) hx hb ht hown ck_Ma hK hP (by decide) fk_Ma_54 g23 d_Ma_raise_1 ?_
  refine lv_istore_n (lv' := [(1, .int r23), (0, .ref (ad v0))]) hx hb d_Ma_raise_4 rfl hl (by decide) (by first | rfl | simp [List.filter, cat_rf]) (fun ls hl => ?_)
  refine lv_aload_n hx hb d_Ma_raise_5 rfl (lv_at hl 1 rfl) ?_
  refine lv_iconst (v := 0) hx hb d_Ma_raise_6 (by decide) ?_
  obtain ⟨w24, g24, hf⟩ := bo_some hf
  refine xp (i := v0) (k := 9) (v := (.inl 0)) hx hb ht hown ck_Ma hK hP hD hS (by decide) fk_Ma_54 rfl g24 rfl rfl d_Ma_raise_7 (fun H locs hP hD hS => ?_)
  have hB := hB.same (pF_c g24)
  refine lv_aload_n hx hb d_Ma_raise_10 rfl (lv_at hl 1 rfl) ?_
  obtain ⟨r25, g25, hf⟩ := bo_some hf
  refine xg_I (i := v0) (k := 12) hx hb ht hown ck_Ma hK hP (by decide) fk_Ma_57 g25 d_Ma_raise_11 ?_
  refine lv_if_eq (tgt := 22) hx hb d_Ma_raise_14 (by decide) (fun hc => ?_) (fun hc => ?_)
  · rw [br_p _ hc] at hf
    refine lv_aload_n hx hb d_Ma_raise_22 rfl (lv_at hl 1 rfl) ?_
    obtain ⟨r26, g26, hf⟩ := bo_some hf
    refine xg_I (i := v0) (k := 11) hx hb ht hown ck_Ma hK hP (by decide) fk_Ma_116 g26 d_Ma_raise_23 ?_
    refine lv_iconst (v := (-1)) hx hb d_Ma_raise_26 (by decide) ?_
    refine lv_icmp_eq (tgt := 65) hx hb d_Ma_raise_27 (by decide) (fun hc => ?_) (fun hc => ?_)
    · rw [br_p _ hc] at hf
      exact wb_Ma_raise_65 C0 hE N G hG _ _ _ _ hf hm _ _ _ hB H locs hP hD hS ls (lv_sub hl [1, 0] rfl)
    · rw [br_n _ hc] at hf
      refine lv_aload_n hx hb d_Ma_raise_30 rfl (lv_at hl 1 rfl) ?_
      obtain ⟨r27, g27, hf⟩ := bo_some hf
      refine xg_R (i := v0) (k := 4) hx hb ht hown ck_Ma hK hP (by decide) fk_Ma_33 g27 d_Ma_raise_31 ?_
      refine lv_aload_n hx hb d_Ma_raise_34 rfl (lv_at hl 1 rfl) ?_
      obtain ⟨r28, g28, hf⟩ := bo_some hf
      refine xg_J (i := v0) (k := 10) hx hb ht hown ck_Ma hK hP (by decide) fk_Ma_119 g28 d_Ma_raise_35 ?_
      obtain ⟨j30, ej30, hf⟩ := bo_some hf
      rw [ej30]
      obtain ⟨hO9, hf⟩ := ck_some hf
      obtain ⟨hk29, hf⟩ := ck_some hf
      obtain ⟨u29, r29, hc29, hf⟩ := bx_some hf
      obtain ⟨hc29, hq29⟩ := gw_some hc29
      obtain ⟨hf, hw29⟩ := gw_some hf
      refine yV (i := j30) (As := [.long r28]) (rest := []) C0 hP hD hS ck_Fr hO9 (c_Fr_push N hE hc29 (gm hq29)) k_Fr_push (wd_of 1753 (by decide +kernel) rfl) hi_Fr_push hs_Fr_push hini_Fr rfl rfl hd_Fr_push rfl rm_Ma_raise_Fr_push hl.1 (Nat.le_of_ble_eq_true rfl) d_Ma_raise_38 rfl (gm hq29) hB hm hw29 (fun ad29 H locs ce sl hg29 hB hP hD hS => ?_)
      have q29_0 : ad29 v0 = ad v0 := ko_O (k := 0) hk29 rfl hg29
      have hl : lv_has ls 4 [(1, .int r23), (0, .ref (ad29 v0))] := by simp only [q29_0]; exact hl
      refine lv_aload_n hx hb d_Ma_raise_41 rfl (lv_at hl 1 rfl) ?_
      refine lv_aload_n hx hb d_Ma_raise_42 rfl (lv_at hl 1 rfl) ?_
      obtain ⟨r31, g31, hf⟩ := bo_some hf
      refine xg_I (i := v0) (k := 11) hx hb ht hown ck_Ma hK hP (by decide) fk_Ma_116 g31 d_Ma_raise_43 ?_
      obtain ⟨hO9, hf⟩ := ck_some hf
      obtain ⟨hk32, hf⟩ := ck_some hf
      obtain ⟨u32, r32, hc32, hf⟩ := bx_some hf
      obtain ⟨hc32, hq32⟩ := gw_some hc32
      obtain ⟨hf, hw32⟩ := gw_some hf
      refine yV (i := v0) (As := [.int r31]) (rest := []) C0 hP hD hS ck_Ma hO9 (c_Ma_wrap N hE hc32 (gm hq32)) k_Ma_wrap (wd_of 2042 (by decide +kernel) rfl) hi_Ma_wrap hs_Ma_wrap hini_Ma rfl rfl hd_Ma_wrap rfl rm_Ma_raise_Ma_wrap hl.1 (Nat.le_of_ble_eq_true rfl) d_Ma_raise_46 rfl (gm hq32) hB hm hw32 (fun ad32 H locs ce sl hg32 hB hP hD hS => ?_)
      have q32_0 : ad32 v0 = ad29 v0 := ko_O (k := 0) hk32 rfl hg32
      have hl : lv_has ls 4 [(1, .int r23), (0, .ref (ad32 v0))] := by simp only [q32_0]; exact hl
      refine lv_if_ne (tgt := 53) hx hb d_Ma_raise_49 (by decide) (fun hc => ?_) (fun hc => ?_)
      · rw [br_n _ hc] at hf
        refine lv_aload_n hx hb d_Ma_raise_53 rfl (lv_at hl 1 rfl) ?_
        refine lv_aload_n hx hb d_Ma_raise_54 rfl (lv_at hl 1 rfl) ?_
        obtain ⟨r33, g33, hf⟩ := bo_some hf
        refine xg_R (i := v0) (k := 4) hx hb ht hown ck_Ma hK hP (by decide) fk_Ma_33 g33 d_Ma_raise_55 ?_
        refine lv_iconst (v := 0) hx hb d_Ma_raise_58 (by decide) ?_
        obtain ⟨j35, ej35, hf⟩ := bo_some hf
        rw [ej35]
        obtain ⟨hO9, hf⟩ := ck_some hf
        obtain ⟨u34, r34, hc34, hf⟩ := bx_some hf
        obtain ⟨hc34, hz34⟩ := gz_some hc34
        obtain ⟨hf, hw34⟩ := gw_some hf
        refine xV0 (i := j35) (As := [.int 0]) (rest := [.ref (ad32 v0)]) C0 hP hD hS ck_Fr hO9 (c_Fr_below N hc34) k_Fr_below (wd_of 1653 (by decide +kernel) rfl) hi_Fr_below hs_Fr_below hini_Fr rfl rfl hd_Fr_below rfl rm_Ma_raise_Fr_below hl.1 (Nat.le_of_ble_eq_true rfl) d_Ma_raise_59 rfl (hB.fit hm hz34 hw34) (fun H locs hP hD hS => ?_)
        have hB := hB.same2 hz34
        obtain ⟨w36, g36, hf⟩ := bo_some hf
        refine xp (i := v0) (k := 10) (v := (.inr (.inl r34))) hx hb ht hown ck_Ma hK hP hD hS (by decide) fk_Ma_119 rfl g36 rfl rfl d_Ma_raise_62 (fun H locs hP hD hS => ?_)
        have hB := hB.same (pF_c g36)
        exact wb_Ma_raise_65 C0 hE N G hG _ _ _ _ hf hm _ _ _ hB H locs hP hD hS ls (lv_sub hl [1, 0] rfl)
      · rw [br_p _ hc] at hf
        exact yr_v C0 hP hD hS hB hm hf d_Ma_raise_52
  · rw [br_n _ hc] at hf
    refine lv_aload_n hx hb d_Ma_raise_17 rfl (lv_at hl 1 rfl) ?_
    obtain ⟨hO9, hf⟩ := ck_some hf
    obtain ⟨u37, r37, hc37, hf⟩ := bx_some hf
    obtain ⟨hc37, hz37⟩ := gz_some hc37
    obtain ⟨hf, hw37⟩ := gw_some hf
    refine xV0 (i := v0) (As := []) (rest := []) C0 hP hD hS ck_Ma hO9 (c_Ma_guardFails N hE hc37) k_Ma_guardFails (wd_of 1971 (by decide +kernel) rfl) hi_Ma_guardFails hs_Ma_guardFails hini_Ma rfl rfl hd_Ma_guardFails rfl rm_Ma_raise_Ma_guardFails hl.1 (Nat.le_of_ble_eq_true rfl) d_Ma_raise_18 rfl (hB.fit hm hz37 hw37) (fun H locs hP hD hS => ?_)
    have hB := hB.same2 hz37
    exact yr_v C0 hP hD hS hB hm hf d_Ma_raise_21
def fm_Ma_raise (N : Nat) (u : CS) (v0 : Nat) : Option (CS × Unit) := fb_Ma_raise_0 N () u v0
set_option maxRecDepth 100000 in
set_option maxHeartbeats 4000000 in
theorem c_Ma_raise (N : Nat) {l : Launch} {s0 : State} {b0 : Nat} {D : va_G} {cB cI cJ cZ cS cP : ClassId} {sk sv : Nat → Nat} {ad : Nat → Nat} {u : CS} {sz mc ms : Nat} {v0 : Nat} {x : CS × Unit} (hE : ENV s0 b0 sk sv) (hf : fm_Ma_raise N u v0 = some x) (hm : u.1.1 + mc = x.1.1.1 ∧ u.1.2 + ms = x.1.1.2) : Met l y_Ma_raise (wd_ws y_Ma_raise b_Ma_raise 4 none) (rm_Ma_raise mc ms) (xPc s0 b0 D cB cI cJ cZ cS cP ad u sz [.ref (ad v0)]) (xQ D cB cI cJ cZ cS cP (xA cB cI cJ cZ cS cP ad u sz) ad u.1.1 x.1 none) mc ms (xA cB cI cJ cZ cS cP ad u sz) :=
  xMet (by decide) rfl (Nat.le_of_ble_eq_true rfl) (fun p e s m below meth c ls hsz hnm C0 hP hD hS hl =>
    wb_Ma_raise_0 C0 hE N () trivial u _ x hf hm ad 0 0 ⟨rfl, rfl, fun _ _ => rfl⟩ s.heap [] hP hD hS ls (lv_sub hl [0] rfl))
abbrev b_Wl_tellWatchers : ByteArray := prog_12_method_18_code
def y_Wl_tellWatchers : MethodName := ⟨R_Wl, "tellWatchers", "(LMailHouse$Process;)V"⟩
def w_Wl_tellWatchers : List Cond := wd_ws y_Wl_tellWatchers b_Wl_tellWatchers 5 none
set_option maxRecDepth 100000 in
theorem k_Wl_tellWatchers : Cond.code y_Wl_tellWatchers b_Wl_tellWatchers 5 none ∈ wd_tbl := wd_of 2066 rfl rfl
theorem d_Wl_tellWatchers_0 : decode b_Wl_tellWatchers 0 = .ok (.iconst 0, 1) := by decide +kernel
theorem d_Wl_tellWatchers_1 : decode b_Wl_tellWatchers 1 = .ok (.istore_n 2, 1) := by decide +kernel
theorem d_Wl_tellWatchers_2 : decode b_Wl_tellWatchers 2 = .ok (.iconst 0, 1) := by decide +kernel
theorem d_Wl_tellWatchers_3 : decode b_Wl_tellWatchers 3 = .ok (.istore_n 3, 1) := by decide +kernel
theorem d_Wl_tellWatchers_4 : decode b_Wl_tellWatchers 4 = .ok (.iload_n 3, 1) := by decide +kernel
theorem d_Wl_tellWatchers_5 : decode b_Wl_tellWatchers 5 = .ok (.aload_n 0, 1) := by decide +kernel
theorem d_Wl_tellWatchers_6 : decode b_Wl_tellWatchers 6 = .ok (.getfield 58, 3) := by decide +kernel
theorem d_Wl_tellWatchers_9 : decode b_Wl_tellWatchers 9 = .ok (.if_icmp .ge 89, 3) := by decide +kernel
theorem d_Wl_tellWatchers_12 : decode b_Wl_tellWatchers 12 = .ok (.aload_n 0, 1) := by decide +kernel
theorem d_Wl_tellWatchers_13 : decode b_Wl_tellWatchers 13 = .ok (.aload_n 0, 1) := by decide +kernel
theorem d_Wl_tellWatchers_14 : decode b_Wl_tellWatchers 14 = .ok (.getfield 17, 3) := by decide +kernel
theorem d_Wl_tellWatchers_17 : decode b_Wl_tellWatchers 17 = .ok (.iload_n 3, 1) := by decide +kernel
theorem d_Wl_tellWatchers_18 : decode b_Wl_tellWatchers 18 = .ok (.iaload, 1) := by decide +kernel
theorem d_Wl_tellWatchers_19 : decode b_Wl_tellWatchers 19 = .ok (.invokevirtual 172, 3) := by decide +kernel
theorem d_Wl_tellWatchers_22 : decode b_Wl_tellWatchers 22 = .ok (.astore 4, 2) := by decide +kernel
theorem d_Wl_tellWatchers_24 : decode b_Wl_tellWatchers 24 = .ok (.aload_n 0, 1) := by decide +kernel
theorem d_Wl_tellWatchers_25 : decode b_Wl_tellWatchers 25 = .ok (.getfield 21, 3) := by decide +kernel
theorem d_Wl_tellWatchers_28 : decode b_Wl_tellWatchers 28 = .ok (.iload_n 3, 1) := by decide +kernel
theorem d_Wl_tellWatchers_29 : decode b_Wl_tellWatchers 29 = .ok (.iaload, 1) := by decide +kernel
theorem d_Wl_tellWatchers_30 : decode b_Wl_tellWatchers 30 = .ok (.aload_n 1, 1) := by decide +kernel
theorem d_Wl_tellWatchers_31 : decode b_Wl_tellWatchers 31 = .ok (.getfield 145, 3) := by decide +kernel
theorem d_Wl_tellWatchers_34 : decode b_Wl_tellWatchers 34 = .ok (.if_icmp .ne 36, 3) := by decide +kernel
theorem d_Wl_tellWatchers_37 : decode b_Wl_tellWatchers 37 = .ok (.aload 4, 2) := by decide +kernel
theorem d_Wl_tellWatchers_39 : decode b_Wl_tellWatchers 39 = .ok (.ifnull 31, 3) := by decide +kernel
theorem d_Wl_tellWatchers_42 : decode b_Wl_tellWatchers 42 = .ok (.aload_n 0, 1) := by decide +kernel
theorem d_Wl_tellWatchers_43 : decode b_Wl_tellWatchers 43 = .ok (.aload 4, 2) := by decide +kernel
theorem d_Wl_tellWatchers_45 : decode b_Wl_tellWatchers 45 = .ok (.iconst 5, 1) := by decide +kernel
theorem d_Wl_tellWatchers_46 : decode b_Wl_tellWatchers 46 = .ok (.aload_n 1, 1) := by decide +kernel
theorem d_Wl_tellWatchers_47 : decode b_Wl_tellWatchers 47 = .ok (.getfield 145, 3) := by decide +kernel
theorem d_Wl_tellWatchers_50 : decode b_Wl_tellWatchers 50 = .ok (.aload_n 0, 1) := by decide +kernel
theorem d_Wl_tellWatchers_51 : decode b_Wl_tellWatchers 51 = .ok (.getfield 24, 3) := by decide +kernel
theorem d_Wl_tellWatchers_54 : decode b_Wl_tellWatchers 54 = .ok (.iload_n 3, 1) := by decide +kernel
theorem d_Wl_tellWatchers_55 : decode b_Wl_tellWatchers 55 = .ok (.iaload, 1) := by decide +kernel
theorem d_Wl_tellWatchers_56 : decode b_Wl_tellWatchers 56 = .ok (.aload_n 1, 1) := by decide +kernel
theorem d_Wl_tellWatchers_57 : decode b_Wl_tellWatchers 57 = .ok (.getfield 159, 3) := by decide +kernel
theorem d_Wl_tellWatchers_60 : decode b_Wl_tellWatchers 60 = .ok (.aload_n 1, 1) := by decide +kernel
theorem d_Wl_tellWatchers_61 : decode b_Wl_tellWatchers 61 = .ok (.getfield 162, 3) := by decide +kernel
theorem d_Wl_tellWatchers_64 : decode b_Wl_tellWatchers 64 = .ok (.invokevirtual 151, 3) := by decide +kernel
theorem d_Wl_tellWatchers_67 : decode b_Wl_tellWatchers 67 = .ok (.goto 25, 3) := by decide +kernel
theorem d_Wl_tellWatchers_70 : decode b_Wl_tellWatchers 70 = .ok (.aload_n 0, 1) := by decide +kernel
theorem d_Wl_tellWatchers_71 : decode b_Wl_tellWatchers 71 = .ok (.getfield 17, 3) := by decide +kernel
theorem d_Wl_tellWatchers_74 : decode b_Wl_tellWatchers 74 = .ok (.iload_n 3, 1) := by decide +kernel
theorem d_Wl_tellWatchers_75 : decode b_Wl_tellWatchers 75 = .ok (.iaload, 1) := by decide +kernel
theorem d_Wl_tellWatchers_76 : decode b_Wl_tellWatchers 76 = .ok (.aload_n 1, 1) := by decide +kernel
theorem d_Wl_tellWatchers_77 : decode b_Wl_tellWatchers 77 = .ok (.getfield 145, 3) := by decide +kernel
theorem d_Wl_tellWatchers_80 : decode b_Wl_tellWatchers 80 = .ok (.if_icmp .eq 12, 3) := by decide +kernel
theorem d_Wl_tellWatchers_83 : decode b_Wl_tellWatchers 83 = .ok (.aload_n 0, 1) := by decide +kernel
theorem d_Wl_tellWatchers_84 : decode b_Wl_tellWatchers 84 = .ok (.iload_n 3, 1) := by decide +kernel
theorem d_Wl_tellWatchers_85 : decode b_Wl_tellWatchers 85 = .ok (.iload_n 2, 1) := by decide +kernel
theorem d_Wl_tellWatchers_86 : decode b_Wl_tellWatchers 86 = .ok (.invokevirtual 94, 3) := by decide +kernel
theorem d_Wl_tellWatchers_89 : decode b_Wl_tellWatchers 89 = .ok (.iinc 2 1, 3) := by decide +kernel
theorem d_Wl_tellWatchers_92 : decode b_Wl_tellWatchers 92 = .ok (.iinc 3 1, 3) := by decide +kernel
theorem d_Wl_tellWatchers_95 : decode b_Wl_tellWatchers 95 = .ok (.goto (-91), 3) := by decide +kernel
theorem d_Wl_tellWatchers_98 : decode b_Wl_tellWatchers 98 = .ok (.aload_n 0, 1) := by decide +kernel
theorem d_Wl_tellWatchers_99 : decode b_Wl_tellWatchers 99 = .ok (.iload_n 2, 1) := by decide +kernel
theorem d_Wl_tellWatchers_100 : decode b_Wl_tellWatchers 100 = .ok (.putfield 58, 3) := by decide +kernel
theorem d_Wl_tellWatchers_103 : decode b_Wl_tellWatchers 103 = .ok (.return_, 1) := by decide +kernel
set_option maxRecDepth 100000 in
theorem hl_Wl_tellWatchers : Cond.methodLink R_Wl 183 y_Wl_tellWatchers ∈ wd_tbl := wd_of 2063 (by decide +kernel) rfl
set_option maxRecDepth 100000 in
theorem hi_Wl_tellWatchers : Cond.instanceMethod y_Wl_tellWatchers ∈ wd_tbl := wd_of 2065 (by decide +kernel) rfl
set_option maxRecDepth 100000 in
theorem hs_Wl_tellWatchers : Cond.selects R_Wl y_Wl_tellWatchers y_Wl_tellWatchers ∈ wd_tbl := wd_of 126 (by decide +kernel) rfl
theorem hd_Wl_tellWatchers : y_Wl_tellWatchers.cls = R_Wl ∧ y_Wl_tellWatchers.cls ≠ "java/lang/invoke/MethodHandle" ∧ y_Wl_tellWatchers.cls ≠ "java/lang/invoke/VarHandle" ∧ (parseMethodDescriptor y_Wl_tellWatchers.desc).map (fun d => d.parameters.length) = some 1 := by decide +kernel
def rm_Wl_tellWatchers : Room := { frames := 4, cells := 0, slots := 0, locals := 130 }
theorem rm_Wl_tellWatchers_Wl_find : (rm_Wl_find).frames + 1 ≤ rm_Wl_tellWatchers.frames ∧ 8 + (2 + 11) + (rm_Wl_find).locals ≤ rm_Wl_tellWatchers.locals := by
  show 0 + 1 ≤ 4 ∧ 8 + (2 + 11) + 0 ≤ 130
  decide
theorem rm_Wl_tellWatchers_Wl_post : (rm_Wl_post).frames + 1 ≤ rm_Wl_tellWatchers.frames ∧ 8 + (14 + 11) + (rm_Wl_post).locals ≤ rm_Wl_tellWatchers.locals := by
  show 3 + 1 ≤ 4 ∧ 8 + (14 + 11) + 97 ≤ 130
  decide
theorem rm_Wl_tellWatchers_Wl_keepWatch : (rm_Wl_keepWatch).frames + 1 ≤ rm_Wl_tellWatchers.frames ∧ 8 + (3 + 11) + (rm_Wl_keepWatch).locals ≤ rm_Wl_tellWatchers.locals := by
  show 0 + 1 ≤ 4 ∧ 8 + (3 + 11) + 0 ≤ 130
  decide
def fb_Wl_tellWatchers_92 (N : Nat) (G : (CS → Nat → Option Nat → Int32 → Int32 → Option (CS × Unit))) (u : CS) (v0 : Nat) (v1 : Option Nat) (v2 : Int32) (v3 : Int32) : Option (CS × Unit) := G u (v0) (v1) (v2) ((v3 + 1))
set_option maxRecDepth 100000 in
set_option maxHeartbeats 4000000 in
theorem wb_Wl_tellWatchers_92 {p : Program} {l : Launch} {e : Env} {s : State} {m : MethodId} {args : Array Value} {below : List Frame} {meth : Method} {c : Code} {s0 : State} {b0 : Nat} {D : va_G} {cB cI cJ cZ cS cP : ClassId} {A : Nat → Prop} {sk sv : Nat → Nat} {ad : Nat → Nat} (C0 : XCx p s s0 b0 m args meth c R_Wl b_Wl_tellWatchers 5 none D cB cI cJ cZ cS cP A) (hE : ENV s0 b0 sk sv) (N : Nat) (G : (CS → Nat → Option Nat → Int32 → Int32 → Option (CS × Unit))) (hG : (∀ (u : CS) (v0 : Nat) (v1 : Option Nat) (v2 : Int32) (v3 : Int32) (x : CS × Unit), G u v0 v1 v2 v3 = some x → ∀ (H : Heap) (locs : List Loc), va_P D cls (wC cB cI cJ cZ cS cP ad u) H → va_D A (wC cB cI cJ cZ cS cP ad u) → va_S A s.heap H locs → ∀ (ls : Array Slot), lv_has ls 5 [(0, .ref (ad v0)), (1, va_rf (Option.map ad v1)), (2, .int v2), (3, .int v3)] → W p l e rm_Wl_tellWatchers s m args below meth c H locs 0 0 (MQ below (xQ0 D cB cI cJ cZ cS cP A ad x.1 none) args s 0 0 A) (F0 m 4 ls []))) : ∀ (u : CS) (v0 : Nat) (v1 : Option Nat) (v2 : Int32) (v3 : Int32) (x : CS × Unit), fb_Wl_tellWatchers_92 N G u v0 v1 v2 v3 = some x → ∀ (H : Heap) (locs : List Loc), va_P D cls (wC cB cI cJ cZ cS cP ad u) H → va_D A (wC cB cI cJ cZ cS cP ad u) → va_S A s.heap H locs → ∀ (ls : Array Slot), lv_has ls 5 [(0, .ref (ad v0)), (1, va_rf (Option.map ad v1)), (2, .int v2), (3, .int v3)] → W p l e rm_Wl_tellWatchers s m args below meth c H locs 0 0 (MQ below (xQ0 D cB cI cJ cZ cS cP A ad x.1 none) args s 0 0 A) (F0 m 92 ls []) := by
  intro u v0 v1 v2 v3 x hf H locs hP hD hS ls hl
  obtain ⟨hx, hb, hr, hml, ht, hown, hK, hA, hlocks, hA0, hO, hbs⟩ := id C0
  unfold fb_Wl_tellWatchers_92 at hf
  refine lv_iinc (v := (v3 + 1)) (lv' := [(3, .int (v3 + 1)), (0, .ref (ad v0)), (1, va_rf (Option.map ad v1)), (2, .int v2)]) hx hb d_Wl_tellWatchers_92 hl (k := 3) rfl rfl (by decide) (by first | rfl | simp [List.filter, cat_rf]) (fun ls hl => ?_)
  refine lv_goto (tgt := 4) hx hb d_Wl_tellWatchers_95 (by decide) ?_
  exact hG _ _ _ _ _ _ hf H locs hP hD hS ls (lv_sub hl [1, 2, 3, 0] rfl)
def fb_Wl_tellWatchers_70 (N : Nat) (G : (CS → Nat → Option Nat → Int32 → Int32 → Option (CS × Unit))) (u : CS) (v0 : Nat) (v1 : Option Nat) (v2 : Int32) (v3 : Int32) : Option (CS × Unit) := bo (gR u v0 12 7) (fun r1 => bo r1 (fun j2 => bo (aI u j2 4 v3) (fun r3 => bo v1 (fun j4 => bo (gI u j4 7 0) (fun r5 => br (decide (r3 = r5)) (fb_Wl_tellWatchers_92 N G u (v0) (v1) (v2) (v3)) (ck (isO u v0 12) (bx (fm_Wl_keepWatch N u v0 v3 v2) (fun u6 r6 => fb_Wl_tellWatchers_92 N G u6 (v0) (v1) ((v2 + 1)) (v3)))))))))
set_option maxRecDepth 100000 in
set_option maxHeartbeats 4000000 in
theorem wb_Wl_tellWatchers_70 {p : Program} {l : Launch} {e : Env} {s : State} {m : MethodId} {args : Array Value} {below : List Frame} {meth : Method} {c : Code} {s0 : State} {b0 : Nat} {D : va_G} {cB cI cJ cZ cS cP : ClassId} {A : Nat → Prop} {sk sv : Nat → Nat} {ad : Nat → Nat} (C0 : XCx p s s0 b0 m args meth c R_Wl b_Wl_tellWatchers 5 none D cB cI cJ cZ cS cP A) (hE : ENV s0 b0 sk sv) (N : Nat) (G : (CS → Nat → Option Nat → Int32 → Int32 → Option (CS × Unit))) (hG : (∀ (u : CS) (v0 : Nat) (v1 : Option Nat) (v2 : Int32) (v3 : Int32) (x : CS × Unit), G u v0 v1 v2 v3 = some x → ∀ (H : Heap) (locs : List Loc), va_P D cls (wC cB cI cJ cZ cS cP ad u) H → va_D A (wC cB cI cJ cZ cS cP ad u) → va_S A s.heap H locs → ∀ (ls : Array Slot), lv_has ls 5 [(0, .ref (ad v0)), (1, va_rf (Option.map ad v1)), (2, .int v2), (3, .int v3)] → W p l e rm_Wl_tellWatchers s m args below meth c H locs 0 0 (MQ below (xQ0 D cB cI cJ cZ cS cP A ad x.1 none) args s 0 0 A) (F0 m 4 ls []))) : ∀ (u : CS) (v0 : Nat) (v1 : Option Nat) (v2 : Int32) (v3 : Int32) (x : CS × Unit), fb_Wl_tellWatchers_70 N G u v0 v1 v2 v3 = some x → ∀ (H : Heap) (locs : List Loc), va_P D cls (wC cB cI cJ cZ cS cP ad u) H → va_D A (wC cB cI cJ cZ cS cP ad u) → va_S A s.heap H locs → ∀ (ls : Array Slot), lv_has ls 5 [(0, .ref (ad v0)), (1, va_rf (Option.map ad v1)), (2, .int v2), (3, .int v3)] → W p l e rm_Wl_tellWatchers s m args below meth c H locs 0 0 (MQ below (xQ0 D cB cI cJ cZ cS cP A ad x.1 none) args s 0 0 A) (F0 m 70 ls []) := by
  intro u v0 v1 v2 v3 x hf H locs hP hD hS ls hl
  obtain ⟨hx, hb, hr, hml, ht, hown, hK, hA, hlocks, hA0, hO, hbs⟩ := id C0
  unfold fb_Wl_tellWatchers_70 at hf
  refine lv_aload_n hx hb d_Wl_tellWatchers_70 rfl (lv_at hl 0 rfl) ?_
  obtain ⟨r1, g1, hf⟩ := bo_some hf
  refine xg_R (i := v0) (k := 7) hx hb ht hown ck_Wl hK hP (by decide) fk_Wl_17 g1 d_Wl_tellWatchers_71 ?_
  refine lv_iload_n hx hb d_Wl_tellWatchers_74 rfl (lv_at hl 3 rfl) ?_
  obtain ⟨j2, ej2, hf⟩ := bo_some hf
  rw [ej2]
  obtain ⟨r3, g3, hf⟩ := bo_some hf
  refine xl_I (i := j2) hx hb hK hP g3 d_Wl_tellWatchers_75 ?_
  refine x_aload_n hx hb d_Wl_tellWatchers_76 rfl (lv_at hl 1 rfl) ?_
  obtain ⟨j4, ej4, hf⟩ := bo_some hf
  rw [ej4]
  obtain ⟨r5, g5, hf⟩ := bo_some hf
  refine xg_I (i := j4) (k := 0) hx hb ht hown ck_Pr hK hP (by decide) fk_Wl_145 g5 d_Wl_tellWatchers_77 ?_
  refine lv_icmp_eq (tgt := 92) hx hb d_Wl_tellWatchers_80 (by decide) (fun hc => ?_) (fun hc => ?_)
  · rw [br_p _ hc] at hf
    exact wb_Wl_tellWatchers_92 C0 hE N G hG _ _ _ _ _ _ hf H locs hP hD hS ls (lv_sub hl [0, 1, 2, 3] rfl)
  · rw [br_n _ hc] at hf
    refine lv_aload_n hx hb d_Wl_tellWatchers_83 rfl (lv_at hl 0 rfl) ?_
    refine lv_iload_n hx hb d_Wl_tellWatchers_84 rfl (lv_at hl 3 rfl) ?_
    refine lv_iload_n hx hb d_Wl_tellWatchers_85 rfl (lv_at hl 2 rfl) ?_
    obtain ⟨hO9, hf⟩ := ck_some hf
    obtain ⟨u6, r6, hc6, hf⟩ := bx_some hf
    refine xV0 (i := v0) (As := [.int v3, .int v2]) (rest := []) C0 hP hD hS ck_Wl hO9 (c_Wl_keepWatch N hc6) k_Wl_keepWatch (wd_of 1798 (by decide +kernel) rfl) hi_Wl_keepWatch hs_Wl_keepWatch hini_Wl rfl rfl hd_Wl_keepWatch rfl rm_Wl_tellWatchers_Wl_keepWatch hl.1 (Nat.le_of_ble_eq_true rfl) d_Wl_tellWatchers_86 rfl ⟨Nat.zero_le _, Nat.zero_le _⟩ (fun H locs hP hD hS => ?_)
    refine lv_iinc (v := (v2 + 1)) (lv' := [(2, .int (v2 + 1)), (0, .ref (ad v0)), (1, va_rf (Option.map ad v1)), (3, .int v3)]) hx hb d_Wl_tellWatchers_89 hl (k := 2) rfl rfl (by decide) (by first | rfl | simp [List.filter, cat_rf]) (fun ls hl => ?_)
    exact wb_Wl_tellWatchers_92 C0 hE N G hG _ _ _ _ _ _ hf H locs hP hD hS ls (lv_sub hl [1, 2, 0, 3] rfl)
def fb_Wl_tellWatchers_4 (N : Nat) (G : (CS → Nat → Option Nat → Int32 → Int32 → Option (CS × Unit))) (u : CS) (v0 : Nat) (v1 : Option Nat) (v2 : Int32) (v3 : Int32) : Option (CS × Unit) := bo (gI u v0 12 10) (fun r7 => br (decide (r7 ≤ v3)) (bo (pF u v0 12 10 (.inl v2)) (fun w8 => some (w8, ()))) (bo (gR u v0 12 7) (fun r9 => bo r9 (fun j10 => bo (aI u j10 4 v3) (fun r11 => ck (isO u v0 12) (bx (fm_Wl_find N u v0 r11) (fun u12 r12 => bo (gR u12 v0 12 8) (fun r13 => bo r13 (fun j14 => bo (aI u12 j14 4 v3) (fun r15 => bo v1 (fun j16 => bo (gI u12 j16 7 0) (fun r17 => br (decide (r15 = r17)) (br (decide (r12 = none)) (fb_Wl_tellWatchers_70 N G u12 (v0) (v1) (v2) (v3)) (bo v1 (fun j18 => bo (gI u12 j18 7 0) (fun r19 => bo (gR u12 v0 12 9) (fun r20 => bo r20 (fun j21 => bo (aI u12 j21 4 v3) (fun r22 => bo v1 (fun j23 => bo (gJ u12 j23 7 16) (fun r24 => bo v1 (fun j25 => bo (gR u12 j25 7 17) (fun r26 => ck (isO u12 v0 12) (bx (fm_Wl_post N u12 v0 r12 5 r19 r22 r24 r26) (fun u27 r27 => fb_Wl_tellWatchers_92 N G u27 (v0) (v1) (v2) (v3)))))))))))))) (fb_Wl_tellWatchers_70 N G u12 (v0) (v1) (v2) (v3))))))))))))))
set_option maxRecDepth 100000 in
set_option maxHeartbeats 4000000 in
theorem wb_Wl_tellWatchers_4 {p : Program} {l : Launch} {e : Env} {s : State} {m : MethodId} {args : Array Value} {below : List Frame} {meth : Method} {c : Code} {s0 : State} {b0 : Nat} {D : va_G} {cB cI cJ cZ cS cP : ClassId} {A : Nat → Prop} {sk sv : Nat → Nat} {ad : Nat → Nat} (C0 : XCx p s s0 b0 m args meth c R_Wl b_Wl_tellWatchers 5 none D cB cI cJ cZ cS cP A) (hE : ENV s0 b0 sk sv) (N : Nat) (G : (CS → Nat → Option Nat → Int32 → Int32 → Option (CS × Unit))) (hG : (∀ (u : CS) (v0 : Nat) (v1 : Option Nat) (v2 : Int32) (v3 : Int32) (x : CS × Unit), G u v0 v1 v2 v3 = some x → ∀ (H : Heap) (locs : List Loc), va_P D cls (wC cB cI cJ cZ cS cP ad u) H → va_D A (wC cB cI cJ cZ cS cP ad u) → va_S A s.heap H locs → ∀ (ls : Array Slot), lv_has ls 5 [(0, .ref (ad v0)), (1, va_rf (Option.map ad v1)), (2, .int v2), (3, .int v3)] → W p l e rm_Wl_tellWatchers s m args below meth c H locs 0 0 (MQ below (xQ0 D cB cI cJ cZ cS cP A ad x.1 none) args s 0 0 A) (F0 m 4 ls []))) : ∀ (u : CS) (v0 : Nat) (v1 : Option Nat) (v2 : Int32) (v3 : Int32) (x : CS × Unit), fb_Wl_tellWatchers_4 N G u v0 v1 v2 v3 = some x → ∀ (H : Heap) (locs : List Loc), va_P D cls (wC cB cI cJ cZ cS cP ad u) H → va_D A (wC cB cI cJ cZ cS cP ad u) → va_S A s.heap H locs → ∀ (ls : Array Slot), lv_has ls 5 [(0, .ref (ad v0)), (1, va_rf (Option.map ad v1)), (2, .int v2), (3, .int v3)] → W p l e rm_Wl_tellWatchers s m args below meth c H locs 0 0 (MQ below (xQ0 D cB cI cJ cZ cS cP A ad x.1 none) args s 0 0 A) (F0 m 4 ls []) := by
  intro u v0 v1 v2 v3 x hf H locs hP hD hS ls hl
  obtain ⟨hx, hb, hr, hml, ht, hown, hK, hA, hlocks, hA0, hO, hbs⟩ := id C0
  unfold fb_Wl_tellWatchers_4 at hf
  refine lv_iload_n hx hb d_Wl_tellWatchers_4 rfl (lv_at hl 3 rfl) ?_
  refine lv_aload_n hx hb d_Wl_tellWatchers_5 rfl (lv_at hl 0 rfl) ?_
  obtain ⟨r7, g7, hf⟩ := bo_some hf
  refine xg_I (i := v0) (k := 10) hx hb ht hown ck_Wl hK hP (by decide) fk_Wl_58 g7 d_Wl_tellWatchers_6 ?_
  refine lv_icmp_ge (tgt := 98) hx hb d_Wl_tellWatchers_9 (by decide) (fun hc => ?_) (fun hc => ?_)
  · rw [br_p _ hc] at hf
    refine lv_aload_n hx hb d_Wl_tellWatchers_98 rfl (lv_at hl 0 rfl) ?_
    refine lv_iload_n hx hb d_Wl_tellWatchers_99 rfl (lv_at hl 2 rfl) ?_
    obtain ⟨w8, g8, hf⟩ := bo_some hf
    refine xp (i := v0) (k := 10) (v := (.inl v2)) hx hb ht hown ck_Wl hK hP hD hS (by decide) fk_Wl_58 rfl g8 rfl rfl d_Wl_tellWatchers_100 (fun H locs hP hD hS => ?_)
    exact xr0_v C0 hP hD hS hf d_Wl_tellWatchers_103
  · rw [br_n _ hc] at hf
    refine lv_aload_n hx hb d_Wl_tellWatchers_12 rfl (lv_at hl 0 rfl) ?_
    refine lv_aload_n hx hb d_Wl_tellWatchers_13 rfl (lv_at hl 0 rfl) ?_
    obtain ⟨r9, g9, hf⟩ := bo_some hf
    refine xg_R (i := v0) (k := 7) hx hb ht hown ck_Wl hK hP (by decide) fk_Wl_17 g9 d_Wl_tellWatchers_14 ?_
    refine lv_iload_n hx hb d_Wl_tellWatchers_17 rfl (lv_at hl 3 rfl) ?_
    obtain ⟨j10, ej10, hf⟩ := bo_some hf
    rw [ej10]
    obtain ⟨r11, g11, hf⟩ := bo_some hf
    refine xl_I (i := j10) hx hb hK hP g11 d_Wl_tellWatchers_18 ?_
    obtain ⟨hO9, hf⟩ := ck_some hf
    obtain ⟨u12, r12, hc12, hf⟩ := bx_some hf
    refine xV0 (i := v0) (As := [.int r11]) (rest := []) C0 hP hD hS ck_Wl hO9 (c_Wl_find N hE hc12) k_Wl_find (wd_of 2060 (by decide +kernel) rfl) hi_Wl_find hs_Wl_find hini_Wl rfl rfl hd_Wl_find rfl rm_Wl_tellWatchers_Wl_find hl.1 (Nat.le_of_ble_eq_true rfl) d_Wl_tellWatchers_19 rfl ⟨Nat.zero_le _, Nat.zero_le _⟩ (fun H locs hP hD hS => ?_)
    refine x_astore (lv' := [(4, va_rf (Option.map ad r12)), (0, .ref (ad v0)), (1, va_rf (Option.map ad v1)), (2, .int v2), (3, .int v3)]) hx hb d_Wl_tellWatchers_22 hl (by decide) (by first | rfl | simp [List.filter, cat_rf]) (fun ls hl => ?_)
    refine lv_aload_n hx hb d_Wl_tellWatchers_24 rfl (lv_at hl 1 rfl) ?_
    obtain ⟨r13, g13, hf⟩ := bo_some hf
    refine xg_R (i := v0) (k := 8) hx hb ht hown ck_Wl hK hP (by decide) fk_Wl_21 g13 d_Wl_tellWatchers_25 ?_
    refine lv_iload_n hx hb d_Wl_tellWatchers_28 rfl (lv_at hl 4 rfl) ?_
    obtain ⟨j14, ej14, hf⟩ := bo_some hf
    rw [ej14]
    obtain ⟨r15, g15, hf⟩ := bo_some hf
    refine xl_I (i := j14) hx hb hK hP g15 d_Wl_tellWatchers_29 ?_
    refine x_aload_n hx hb d_Wl_tellWatchers_30 rfl (lv_at hl 2 rfl) ?_
    obtain ⟨j16, ej16, hf⟩ := bo_some hf
    rw [ej16]
    obtain ⟨r17, g17, hf⟩ := bo_some hf
    refine xg_I (i := j16) (k := 0) hx hb ht hown ck_Pr hK hP (by decide) fk_Wl_145 g17 d_Wl_tellWatchers_31 ?_
    refine lv_icmp_ne (tgt := 70) hx hb d_Wl_tellWatchers_34 (by decide) (fun hc => ?_) (fun hc => ?_)
    · rw [br_n _ hc] at hf
      exact wb_Wl_tellWatchers_70 C0 hE N G hG _ _ _ _ _ _ hf H locs hP hD hS ls (lv_sub hl [1, 2, 3, 4] rfl)
    · rw [br_p _ hc] at hf
      refine x_aload hx hb d_Wl_tellWatchers_37 (lv_at hl 0 rfl) ?_
      refine x_ifnull (r := r12) (tgt := 70) hx hb d_Wl_tellWatchers_39 (by decide) (fun hc => ?_) (fun hc => ?_)
      · rw [br_p _ hc] at hf
        exact wb_Wl_tellWatchers_70 C0 hE N G hG _ _ _ _ _ _ hf H locs hP hD hS ls (lv_sub hl [1, 2, 3, 4] rfl)
      · rw [br_n _ hc] at hf
        refine lv_aload_n hx hb d_Wl_tellWatchers_42 rfl (lv_at hl 1 rfl) ?_
        refine x_aload hx hb d_Wl_tellWatchers_43 (lv_at hl 0 rfl) ?_
        refine lv_iconst (v := 5) hx hb d_Wl_tellWatchers_45 (by decide) ?_
        refine x_aload_n hx hb d_Wl_tellWatchers_46 rfl (lv_at hl 2 rfl) ?_
        obtain ⟨j18, ej18, hf⟩ := bo_some hf
        rw [ej18]
        obtain ⟨r19, g19, hf⟩ := bo_some hf
        refine xg_I (i := j18) (k := 0) hx hb ht hown ck_Pr hK hP (by decide) fk_Wl_145 g19 d_Wl_tellWatchers_47 ?_
        refine lv_aload_n hx hb d_Wl_tellWatchers_50 rfl (lv_at hl 1 rfl) ?_
        obtain ⟨r20, g20, hf⟩ := bo_some hf
        refine xg_R (i := v0) (k := 9) hx hb ht hown ck_Wl hK hP (by decide) fk_Wl_24 g20 d_Wl_tellWatchers_51 ?_
        refine lv_iload_n hx hb d_Wl_tellWatchers_54 rfl (lv_at hl 4 rfl) ?_
        obtain ⟨j21, ej21, hf⟩ := bo_some hf
        rw [ej21]
        obtain ⟨r22, g22, hf⟩ := bo_some hf
        refine xl_I (i := j21) hx hb hK hP g22 d_Wl_tellWatchers_55 ?_
        refine x_aload_n hx hb d_Wl_tellWatchers_56 rfl (lv_at hl 2 rfl) ?_
        obtain ⟨j23, ej23, hf⟩ := bo_some hf
        rw [ej23]
        obtain ⟨r24, g24, hf⟩ := bo_some hf
        refine xg_J (i := j23) (k := 16) hx hb ht hown ck_Pr hK hP (by decide) fk_Wl_159 g24 d_Wl_tellWatchers_57 ?_
        refine x_aload_n hx hb d_Wl_tellWatchers_60 rfl (lv_at hl 2 rfl) ?_
        obtain ⟨j25, ej25, hf⟩ := bo_some hf
        rw [ej25]
        obtain ⟨r26, g26, hf⟩ := bo_some hf
        refine xg_R (i := j25) (k := 17) hx hb ht hown ck_Pr hK hP (by decide) fk_Wl_162 g26 d_Wl_tellWatchers_61 ?_
        obtain ⟨hO9, hf⟩ := ck_some hf
        obtain ⟨u27, r27, hc27, hf⟩ := bx_some hf
        refine xV0 (i := v0) (As := [va_rf (Option.map ad r12), .int 5, .int r19, .int r22, .long r24, va_rf (Option.map ad r26)]) (rest := []) C0 hP hD hS ck_Wl hO9 (c_Wl_post N hE hc27) k_Wl_post (wd_of 1810 (by decide +kernel) rfl) hi_Wl_post hs_Wl_post hini_Wl rfl rfl hd_Wl_post rfl rm_Wl_tellWatchers_Wl_post hl.1 (Nat.le_of_ble_eq_true rfl) d_Wl_tellWatchers_64 rfl ⟨Nat.zero_le _, Nat.zero_le _⟩ (fun H locs hP hD hS => ?_)
        refine lv_goto (tgt := 92) hx hb d_Wl_tellWatchers_67 (by decide) ?_
        exact wb_Wl_tellWatchers_92 C0 hE N G hG _ _ _ _ _ _ hf H locs hP hD hS ls (lv_sub hl [1, 2, 3, 4] rfl)
def fb_Wl_tellWatchers_0 (N : Nat) (G : (CS → Nat → Option Nat → Int32 → Int32 → Option (CS × Unit))) (u : CS) (v0 : Nat) (v1 : Option Nat) : Option (CS × Unit) := G u (v0) (v1) (0) (0)
set_option maxRecDepth 100000 in
set_option maxHeartbeats 4000000 in
theorem wb_Wl_tellWatchers_0 {p : Program} {l : Launch} {e : Env} {s : State} {m : MethodId} {args : Array Value} {below : List Frame} {meth : Method} {c : Code} {s0 : State} {b0 : Nat} {D : va_G} {cB cI cJ cZ cS cP : ClassId} {A : Nat → Prop} {sk sv : Nat → Nat} {ad : Nat → Nat} (C0 : XCx p s s0 b0 m args meth c R_Wl b_Wl_tellWatchers 5 none D cB cI cJ cZ cS cP A) (hE : ENV s0 b0 sk sv) (N : Nat) (G : (CS → Nat → Option Nat → Int32 → Int32 → Option (CS × Unit))) (hG : (∀ (u : CS) (v0 : Nat) (v1 : Option Nat) (v2 : Int32) (v3 : Int32) (x : CS × Unit), G u v0 v1 v2 v3 = some x → ∀ (H : Heap) (locs : List Loc), va_P D cls (wC cB cI cJ cZ cS cP ad u) H → va_D A (wC cB cI cJ cZ cS cP ad u) → va_S A s.heap H locs → ∀ (ls : Array Slot), lv_has ls 5 [(0, .ref (ad v0)), (1, va_rf (Option.map ad v1)), (2, .int v2), (3, .int v3)] → W p l e rm_Wl_tellWatchers s m args below meth c H locs 0 0 (MQ below (xQ0 D cB cI cJ cZ cS cP A ad x.1 none) args s 0 0 A) (F0 m 4 ls []))) : ∀ (u : CS) (v0 : Nat) (v1 : Option Nat) (x : CS × Unit), fb_Wl_tellWatchers_0 N G u v0 v1 = some x → ∀ (H : Heap) (locs : List Loc), va_P D cls (wC cB cI cJ cZ cS cP ad u) H → va_D A (wC cB cI cJ cZ cS cP ad u) → va_S A s.heap H locs → ∀ (ls : Array Slot), lv_has ls 5 [(0, .ref (ad v0)), (1, va_rf (Option.map ad v1))] → W p l e rm_Wl_tellWatchers s m args below meth c H locs 0 0 (MQ below (xQ0 D cB cI cJ cZ cS cP A ad x.1 none) args s 0 0 A) (F0 m 0 ls []) := by
  intro u v0 v1 x hf H locs hP hD hS ls hl
  obtain ⟨hx, hb, hr, hml, ht, hown, hK, hA, hlocks, hA0, hO, hbs⟩ := id C0
  unfold fb_Wl_tellWatchers_0 at hf
  refine lv_iconst (v := 0) hx hb d_Wl_tellWatchers_0 (by decide) ?_
  refine lv_istore_n (lv' := [(2, .int 0), (0, .ref (ad v0)), (1, va_rf (Option.map ad v1))]) hx hb d_Wl_tellWatchers_1 rfl hl (by decide) (by first | rfl | simp [List.filter, cat_rf]) (fun ls hl => ?_)
  refine lv_iconst (v := 0) hx hb d_Wl_tellWatchers_2 (by decide) ?_
  refine lv_istore_n (lv' := [(3, .int 0), (2, .int 0), (0, .ref (ad v0)), (1, va_rf (Option.map ad v1))]) hx hb d_Wl_tellWatchers_3 rfl hl (by decide) (by first | rfl | simp [List.filter, cat_rf]) (fun ls hl => ?_)
  exact hG _ _ _ _ _ _ hf H locs hP hD hS ls (lv_sub hl [2, 3, 1, 0] rfl)
def gg_Wl_tellWatchers (N : Nat) : Nat → ((CS → Nat → Option Nat → Int32 → Int32 → Option (CS × Unit)))
  | 0 => fun _ _ _ _ _ => none
  | n + 1 => fb_Wl_tellWatchers_4 N (gg_Wl_tellWatchers N n)
theorem wg_Wl_tellWatchers {p : Program} {l : Launch} {e : Env} {s : State} {m : MethodId} {args : Array Value} {below : List Frame} {meth : Method} {c : Code} {s0 : State} {b0 : Nat} {D : va_G} {cB cI cJ cZ cS cP : ClassId} {A : Nat → Prop} {sk sv : Nat → Nat} {ad : Nat → Nat} (C0 : XCx p s s0 b0 m args meth c R_Wl b_Wl_tellWatchers 5 none D cB cI cJ cZ cS cP A) (hE : ENV s0 b0 sk sv) (N : Nat) : ∀ n : Nat, (∀ (u : CS) (v0 : Nat) (v1 : Option Nat) (v2 : Int32) (v3 : Int32) (x : CS × Unit), gg_Wl_tellWatchers N n u v0 v1 v2 v3 = some x → ∀ (H : Heap) (locs : List Loc), va_P D cls (wC cB cI cJ cZ cS cP ad u) H → va_D A (wC cB cI cJ cZ cS cP ad u) → va_S A s.heap H locs → ∀ (ls : Array Slot), lv_has ls 5 [(0, .ref (ad v0)), (1, va_rf (Option.map ad v1)), (2, .int v2), (3, .int v3)] → W p l e rm_Wl_tellWatchers s m args below meth c H locs 0 0 (MQ below (xQ0 D cB cI cJ cZ cS cP A ad x.1 none) args s 0 0 A) (F0 m 4 ls []))
  | 0 => (fun u v0 v1 v2 v3 x hf => by cases hf)
  | n + 1 => wb_Wl_tellWatchers_4 C0 hE N (gg_Wl_tellWatchers N n) (wg_Wl_tellWatchers C0 hE N n)
def fm_Wl_tellWatchers (N : Nat) (u : CS) (v0 : Nat) (v1 : Option Nat) : Option (CS × Unit) := fb_Wl_tellWatchers_0 N (gg_Wl_tellWatchers N N) u v0 v1
set_option maxRecDepth 100000 in
set_option maxHeartbeats 4000000 in
theorem c_Wl_tellWatchers (N : Nat) {l : Launch} {s0 : State} {b0 : Nat} {D : va_G} {cB cI cJ cZ cS cP : ClassId} {sk sv : Nat → Nat} {ad : Nat → Nat} {u : CS} {sz : Nat} {v0 : Nat} {v1 : Option Nat} {x : CS × Unit} (hE : ENV s0 b0 sk sv) (hf : fm_Wl_tellWatchers N u v0 v1 = some x) : Met l y_Wl_tellWatchers (wd_ws y_Wl_tellWatchers b_Wl_tellWatchers 5 none) rm_Wl_tellWatchers (xPc s0 b0 D cB cI cJ cZ cS cP ad u sz [.ref (ad v0), va_rf (Option.map ad v1)]) (xQ0 D cB cI cJ cZ cS cP (xA cB cI cJ cZ cS cP ad u sz) ad x.1 none) 0 0 (xA cB cI cJ cZ cS cP ad u sz) :=
  xMet (by decide) rfl (by cases v1 <;> exact Nat.le_of_ble_eq_true rfl) (fun p e s m below meth c ls hsz hnm C0 hP hD hS hl =>
    wb_Wl_tellWatchers_0 C0 hE N (gg_Wl_tellWatchers N N) (wg_Wl_tellWatchers C0 hE N N) u _ _ x hf s.heap [] hP hD hS ls (by rw [show lv_args 0 [.ref (ad v0), va_rf (Option.map ad v1)] = [(0, .ref (ad v0)), (1, va_rf (Option.map ad v1))] from by cases v1 <;> rfl] at hl; exact lv_sub hl [0, 1] rfl))
abbrev b_Wl_settle : ByteArray := prog_12_method_17_code
def y_Wl_settle : MethodName := ⟨R_Wl, "settle", "()V"⟩
def w_Wl_settle : List Cond := wd_ws y_Wl_settle b_Wl_settle 4 none
set_option maxRecDepth 100000 in
theorem k_Wl_settle : Cond.code y_Wl_settle b_Wl_settle 4 none ∈ wd_tbl := wd_of 2059 rfl rfl
theorem d_Wl_settle_0 : decode b_Wl_settle 0 = .ok (.aload_n 0, 1) := by decide +kernel
theorem d_Wl_settle_1 : decode b_Wl_settle 1 = .ok (.getfield 67, 3) := by decide +kernel
theorem d_Wl_settle_4 : decode b_Wl_settle 4 = .ok (.aload_n 0, 1) := by decide +kernel
theorem d_Wl_settle_5 : decode b_Wl_settle 5 = .ok (.getfield 64, 3) := by decide +kernel
theorem d_Wl_settle_8 : decode b_Wl_settle 8 = .ok (.if_icmp .ge 109, 3) := by decide +kernel
theorem d_Wl_settle_11 : decode b_Wl_settle 11 = .ok (.aload_n 0, 1) := by decide +kernel
theorem d_Wl_settle_12 : decode b_Wl_settle 12 = .ok (.getfield 11, 3) := by decide +kernel
theorem d_Wl_settle_15 : decode b_Wl_settle 15 = .ok (.aload_n 0, 1) := by decide +kernel
theorem d_Wl_settle_16 : decode b_Wl_settle 16 = .ok (.getfield 34, 3) := by decide +kernel
theorem d_Wl_settle_19 : decode b_Wl_settle 19 = .ok (.aload_n 0, 1) := by decide +kernel
theorem d_Wl_settle_20 : decode b_Wl_settle 20 = .ok (.getfield 67, 3) := by decide +kernel
theorem d_Wl_settle_23 : decode b_Wl_settle 23 = .ok (.iaload, 1) := by decide +kernel
theorem d_Wl_settle_24 : decode b_Wl_settle 24 = .ok (.aaload, 1) := by decide +kernel
theorem d_Wl_settle_25 : decode b_Wl_settle 25 = .ok (.astore_n 1, 1) := by decide +kernel
theorem d_Wl_settle_26 : decode b_Wl_settle 26 = .ok (.aload_n 1, 1) := by decide +kernel
theorem d_Wl_settle_27 : decode b_Wl_settle 27 = .ok (.ifnonnull 6, 3) := by decide +kernel
theorem d_Wl_settle_30 : decode b_Wl_settle 30 = .ok (.goto 74, 3) := by decide +kernel
theorem d_Wl_settle_33 : decode b_Wl_settle 33 = .ok (.aload_n 1, 1) := by decide +kernel
theorem d_Wl_settle_34 : decode b_Wl_settle 34 = .ok (.iconst (-1), 1) := by decide +kernel
theorem d_Wl_settle_35 : decode b_Wl_settle 35 = .ok (.putfield 88, 3) := by decide +kernel
theorem d_Wl_settle_38 : decode b_Wl_settle 38 = .ok (.iconst 0, 1) := by decide +kernel
theorem d_Wl_settle_39 : decode b_Wl_settle 39 = .ok (.istore_n 2, 1) := by decide +kernel
theorem d_Wl_settle_40 : decode b_Wl_settle 40 = .ok (.iload_n 2, 1) := by decide +kernel
theorem d_Wl_settle_41 : decode b_Wl_settle 41 = .ok (.aload_n 1, 1) := by decide +kernel
theorem d_Wl_settle_42 : decode b_Wl_settle 42 = .ok (.getfield 166, 3) := by decide +kernel
theorem d_Wl_settle_45 : decode b_Wl_settle 45 = .ok (.if_icmp .ge 49, 3) := by decide +kernel
theorem d_Wl_settle_48 : decode b_Wl_settle 48 = .ok (.aload_n 0, 1) := by decide +kernel
theorem d_Wl_settle_49 : decode b_Wl_settle 49 = .ok (.aload_n 1, 1) := by decide +kernel
theorem d_Wl_settle_50 : decode b_Wl_settle 50 = .ok (.getfield 169, 3) := by decide +kernel
theorem d_Wl_settle_53 : decode b_Wl_settle 53 = .ok (.iload_n 2, 1) := by decide +kernel
theorem d_Wl_settle_54 : decode b_Wl_settle 54 = .ok (.iaload, 1) := by decide +kernel
theorem d_Wl_settle_55 : decode b_Wl_settle 55 = .ok (.invokevirtual 172, 3) := by decide +kernel
theorem d_Wl_settle_58 : decode b_Wl_settle 58 = .ok (.astore_n 3, 1) := by decide +kernel
theorem d_Wl_settle_59 : decode b_Wl_settle 59 = .ok (.aload_n 3, 1) := by decide +kernel
theorem d_Wl_settle_60 : decode b_Wl_settle 60 = .ok (.ifnull 28, 3) := by decide +kernel
theorem d_Wl_settle_63 : decode b_Wl_settle 63 = .ok (.aload_n 3, 1) := by decide +kernel
theorem d_Wl_settle_64 : decode b_Wl_settle 64 = .ok (.aload_n 1, 1) := by decide +kernel
theorem d_Wl_settle_65 : decode b_Wl_settle 65 = .ok (.getfield 145, 3) := by decide +kernel
theorem d_Wl_settle_68 : decode b_Wl_settle 68 = .ok (.invokevirtual 176, 3) := by decide +kernel
theorem d_Wl_settle_71 : decode b_Wl_settle 71 = .ok (.aload_n 0, 1) := by decide +kernel
theorem d_Wl_settle_72 : decode b_Wl_settle 72 = .ok (.aload_n 1, 1) := by decide +kernel
theorem d_Wl_settle_73 : decode b_Wl_settle 73 = .ok (.getfield 145, 3) := by decide +kernel
theorem d_Wl_settle_76 : decode b_Wl_settle 76 = .ok (.aload_n 3, 1) := by decide +kernel
theorem d_Wl_settle_77 : decode b_Wl_settle 77 = .ok (.aload_n 1, 1) := by decide +kernel
theorem d_Wl_settle_78 : decode b_Wl_settle 78 = .ok (.getfield 159, 3) := by decide +kernel
theorem d_Wl_settle_81 : decode b_Wl_settle 81 = .ok (.aload_n 1, 1) := by decide +kernel
theorem d_Wl_settle_82 : decode b_Wl_settle 82 = .ok (.getfield 162, 3) := by decide +kernel
theorem d_Wl_settle_85 : decode b_Wl_settle 85 = .ok (.invokevirtual 179, 3) := by decide +kernel
theorem d_Wl_settle_88 : decode b_Wl_settle 88 = .ok (.iinc 2 1, 3) := by decide +kernel
theorem d_Wl_settle_91 : decode b_Wl_settle 91 = .ok (.goto (-51), 3) := by decide +kernel
theorem d_Wl_settle_94 : decode b_Wl_settle 94 = .ok (.aload_n 1, 1) := by decide +kernel
theorem d_Wl_settle_95 : decode b_Wl_settle 95 = .ok (.iconst 0, 1) := by decide +kernel
theorem d_Wl_settle_96 : decode b_Wl_settle 96 = .ok (.putfield 166, 3) := by decide +kernel
theorem d_Wl_settle_99 : decode b_Wl_settle 99 = .ok (.aload_n 0, 1) := by decide +kernel
theorem d_Wl_settle_100 : decode b_Wl_settle 100 = .ok (.aload_n 1, 1) := by decide +kernel
theorem d_Wl_settle_101 : decode b_Wl_settle 101 = .ok (.invokevirtual 183, 3) := by decide +kernel
theorem d_Wl_settle_104 : decode b_Wl_settle 104 = .ok (.aload_n 0, 1) := by decide +kernel
theorem d_Wl_settle_105 : decode b_Wl_settle 105 = .ok (.dup, 1) := by decide +kernel
theorem d_Wl_settle_106 : decode b_Wl_settle 106 = .ok (.getfield 67, 3) := by decide +kernel
theorem d_Wl_settle_109 : decode b_Wl_settle 109 = .ok (.iconst 1, 1) := by decide +kernel
theorem d_Wl_settle_110 : decode b_Wl_settle 110 = .ok (.iadd, 1) := by decide +kernel
theorem d_Wl_settle_111 : decode b_Wl_settle 111 = .ok (.putfield 67, 3) := by decide +kernel
theorem d_Wl_settle_114 : decode b_Wl_settle 114 = .ok (.goto (-114), 3) := by decide +kernel
theorem d_Wl_settle_117 : decode b_Wl_settle 117 = .ok (.return_, 1) := by decide +kernel
set_option maxRecDepth 100000 in
theorem hi_Wl_settle : Cond.instanceMethod y_Wl_settle ∈ wd_tbl := wd_of 2057 (by decide +kernel) rfl
set_option maxRecDepth 100000 in
theorem hs_Wl_settle : Cond.selects R_Wl y_Wl_settle y_Wl_settle ∈ wd_tbl := wd_of 2058 (by decide +kernel) rfl
theorem hd_Wl_settle : y_Wl_settle.cls = R_Wl ∧ y_Wl_settle.cls ≠ "java/lang/invoke/MethodHandle" ∧ y_Wl_settle.cls ≠ "java/lang/invoke/VarHandle" ∧ (parseMethodDescriptor y_Wl_settle.desc).map (fun d => d.parameters.length) = some 0 := by decide +kernel
def rm_Wl_settle : Room := { frames := 5, cells := 0, slots := 0, locals := 156 }
theorem rm_Wl_settle_Wl_find : (rm_Wl_find).frames + 1 ≤ rm_Wl_settle.frames ∧ 8 + (2 + 11) + (rm_Wl_find).locals ≤ rm_Wl_settle.locals := by
  show 0 + 1 ≤ 5 ∧ 8 + (2 + 11) + 0 ≤ 156
  decide
theorem rm_Wl_settle_Pr_removeLink : (rm_Pr_removeLink).frames + 1 ≤ rm_Wl_settle.frames ∧ 8 + (3 + 11) + (rm_Pr_removeLink).locals ≤ rm_Wl_settle.locals := by
  show 1 + 1 ≤ 5 ∧ 8 + (3 + 11) + 48 ≤ 156
  decide
theorem rm_Wl_settle_Wl_signal : (rm_Wl_signal).frames + 1 ≤ rm_Wl_settle.frames ∧ 8 + (7 + 11) + (rm_Wl_signal).locals ≤ rm_Wl_settle.locals := by
  show 4 + 1 ≤ 5 ∧ 8 + (7 + 11) + 130 ≤ 156
  decide
theorem rm_Wl_settle_Wl_tellWatchers : (rm_Wl_tellWatchers).frames + 1 ≤ rm_Wl_settle.frames ∧ 8 + (5 + 11) + (rm_Wl_tellWatchers).locals ≤ rm_Wl_settle.locals := by
  show 4 + 1 ≤ 5 ∧ 8 + (5 + 11) + 130 ≤ 156
  decide
def fb_Wl_settle_104 (N : Nat) (G : (CS → Nat → Option (CS × Unit)) × (CS → Nat → Option Nat → Int32 → Option (CS × Unit))) (u : CS) (v0 : Nat) : Option (CS × Unit) := bo (gI u v0 12 16) (fun r1 => bo (pF u v0 12 16 (.inl (r1 + 1))) (fun w2 => G.1 w2 (v0)))
set_option maxRecDepth 100000 in
set_option maxHeartbeats 4000000 in
theorem wb_Wl_settle_104 {p : Program} {l : Launch} {e : Env} {s : State} {m : MethodId} {args : Array Value} {below : List Frame} {meth : Method} {c : Code} {s0 : State} {b0 : Nat} {D : va_G} {cB cI cJ cZ cS cP : ClassId} {A : Nat → Prop} {sk sv : Nat → Nat} {ad : Nat → Nat} (C0 : XCx p s s0 b0 m args meth c R_Wl b_Wl_settle 4 none D cB cI cJ cZ cS cP A) (hE : ENV s0 b0 sk sv) (N : Nat) (G : (CS → Nat → Option (CS × Unit)) × (CS → Nat → Option Nat → Int32 → Option (CS × Unit))) (hG : (∀ (u : CS) (v0 : Nat) (x : CS × Unit), G.1 u v0 = some x → ∀ (H : Heap) (locs : List Loc), va_P D cls (wC cB cI cJ cZ cS cP ad u) H → va_D A (wC cB cI cJ cZ cS cP ad u) → va_S A s.heap H locs → ∀ (ls : Array Slot), lv_has ls 4 [(0, .ref (ad v0))] → W p l e rm_Wl_settle s m args below meth c H locs 0 0 (MQ below (xQ0 D cB cI cJ cZ cS cP A ad x.1 none) args s 0 0 A) (F0 m 0 ls [])) ∧ (∀ (u : CS) (v0 : Nat) (v1 : Option Nat) (v2 : Int32) (x : CS × Unit), G.2 u v0 v1 v2 = some x → ∀ (H : Heap) (locs : List Loc), va_P D cls (wC cB cI cJ cZ cS cP ad u) H → va_D A (wC cB cI cJ cZ cS cP ad u) → va_S A s.heap H locs → ∀ (ls : Array Slot), lv_has ls 4 [(0, .ref (ad v0)), (1, va_rf (Option.map ad v1)), (2, .int v2)] → W p l e rm_Wl_settle s m args below meth c H locs 0 0 (MQ below (xQ0 D cB cI cJ cZ cS cP A ad x.1 none) args s 0 0 A) (F0 m 40 ls []))) : ∀ (u : CS) (v0 : Nat) (x : CS × Unit), fb_Wl_settle_104 N G u v0 = some x → ∀ (H : Heap) (locs : List Loc), va_P D cls (wC cB cI cJ cZ cS cP ad u) H → va_D A (wC cB cI cJ cZ cS cP ad u) → va_S A s.heap H locs → ∀ (ls : Array Slot), lv_has ls 4 [(0, .ref (ad v0))] → W p l e rm_Wl_settle s m args below meth c H locs 0 0 (MQ below (xQ0 D cB cI cJ cZ cS cP A ad x.1 none) args s 0 0 A) (F0 m 104 ls []) := by
  intro u v0 x hf H locs hP hD hS ls hl
  obtain ⟨hx, hb, hr, hml, ht, hown, hK, hA, hlocks, hA0, hO, hbs⟩ := id C0
  unfold fb_Wl_settle_104 at hf
  refine lv_aload_n hx hb d_Wl_settle_104 rfl (lv_at hl 0 rfl) ?_
  refine lv_dup hx hb d_Wl_settle_105 rfl ?_
  obtain ⟨r1, g1, hf⟩ := bo_some hf
  refine xg_I (i := v0) (k := 16) hx hb ht hown ck_Wl hK hP (by decide) fk_Wl_67 g1 d_Wl_settle_106 ?_
  refine lv_iconst (v := 1) hx hb d_Wl_settle_109 (by decide) ?_
  refine lv_iadd hx hb d_Wl_settle_110 ?_
  obtain ⟨w2, g2, hf⟩ := bo_some hf
  refine xp (i := v0) (k := 16) (v := (.inl (r1 + 1))) hx hb ht hown ck_Wl hK hP hD hS (by decide) fk_Wl_67 rfl g2 rfl rfl d_Wl_settle_111 (fun H locs hP hD hS => ?_)
  refine lv_goto (tgt := 0) hx hb d_Wl_settle_114 (by decide) ?_
  exact hG.1 _ _ _ hf H locs hP hD hS ls (lv_sub hl [0] rfl)
def fb_Wl_settle_88 (N : Nat) (G : (CS → Nat → Option (CS × Unit)) × (CS → Nat → Option Nat → Int32 → Option (CS × Unit))) (u : CS) (v0 : Nat) (v1 : Option Nat) (v2 : Int32) : Option (CS × Unit) := G.2 u (v0) (v1) ((v2 + 1))
set_option maxRecDepth 100000 in
set_option maxHeartbeats 4000000 in
theorem wb_Wl_settle_88 {p : Program} {l : Launch} {e : Env} {s : State} {m : MethodId} {args : Array Value} {below : List Frame} {meth : Method} {c : Code} {s0 : State} {b0 : Nat} {D : va_G} {cB cI cJ cZ cS cP : ClassId} {A : Nat → Prop} {sk sv : Nat → Nat} {ad : Nat → Nat} (C0 : XCx p s s0 b0 m args meth c R_Wl b_Wl_settle 4 none D cB cI cJ cZ cS cP A) (hE : ENV s0 b0 sk sv) (N : Nat) (G : (CS → Nat → Option (CS × Unit)) × (CS → Nat → Option Nat → Int32 → Option (CS × Unit))) (hG : (∀ (u : CS) (v0 : Nat) (x : CS × Unit), G.1 u v0 = some x → ∀ (H : Heap) (locs : List Loc), va_P D cls (wC cB cI cJ cZ cS cP ad u) H → va_D A (wC cB cI cJ cZ cS cP ad u) → va_S A s.heap H locs → ∀ (ls : Array Slot), lv_has ls 4 [(0, .ref (ad v0))] → W p l e rm_Wl_settle s m args below meth c H locs 0 0 (MQ below (xQ0 D cB cI cJ cZ cS cP A ad x.1 none) args s 0 0 A) (F0 m 0 ls [])) ∧ (∀ (u : CS) (v0 : Nat) (v1 : Option Nat) (v2 : Int32) (x : CS × Unit), G.2 u v0 v1 v2 = some x → ∀ (H : Heap) (locs : List Loc), va_P D cls (wC cB cI cJ cZ cS cP ad u) H → va_D A (wC cB cI cJ cZ cS cP ad u) → va_S A s.heap H locs → ∀ (ls : Array Slot), lv_has ls 4 [(0, .ref (ad v0)), (1, va_rf (Option.map ad v1)), (2, .int v2)] → W p l e rm_Wl_settle s m args below meth c H locs 0 0 (MQ below (xQ0 D cB cI cJ cZ cS cP A ad x.1 none) args s 0 0 A) (F0 m 40 ls []))) : ∀ (u : CS) (v0 : Nat) (v1 : Option Nat) (v2 : Int32) (x : CS × Unit), fb_Wl_settle_88 N G u v0 v1 v2 = some x → ∀ (H : Heap) (locs : List Loc), va_P D cls (wC cB cI cJ cZ cS cP ad u) H → va_D A (wC cB cI cJ cZ cS cP ad u) → va_S A s.heap H locs → ∀ (ls : Array Slot), lv_has ls 4 [(0, .ref (ad v0)), (1, va_rf (Option.map ad v1)), (2, .int v2)] → W p l e rm_Wl_settle s m args below meth c H locs 0 0 (MQ below (xQ0 D cB cI cJ cZ cS cP A ad x.1 none) args s 0 0 A) (F0 m 88 ls []) := by
  intro u v0 v1 v2 x hf H locs hP hD hS ls hl
  obtain ⟨hx, hb, hr, hml, ht, hown, hK, hA, hlocks, hA0, hO, hbs⟩ := id C0
  unfold fb_Wl_settle_88 at hf
  refine lv_iinc (v := (v2 + 1)) (lv' := [(2, .int (v2 + 1)), (0, .ref (ad v0)), (1, va_rf (Option.map ad v1))]) hx hb d_Wl_settle_88 hl (k := 2) rfl rfl (by decide) (by first | rfl | simp [List.filter, cat_rf]) (fun ls hl => ?_)
  refine lv_goto (tgt := 40) hx hb d_Wl_settle_91 (by decide) ?_
  exact hG.2 _ _ _ _ _ hf H locs hP hD hS ls (lv_sub hl [1, 2, 0] rfl)
def fb_Wl_settle_40 (N : Nat) (G : (CS → Nat → Option (CS × Unit)) × (CS → Nat → Option Nat → Int32 → Option (CS × Unit))) (u : CS) (v0 : Nat) (v1 : Option Nat) (v2 : Int32) : Option (CS × Unit) := bo v1 (fun j3 => bo (gI u j3 7 15) (fun r4 => br (decide (r4 ≤ v2)) (bo v1 (fun j5 => bo (pF u j5 7 15 (.inl 0)) (fun w6 => ck (isO w6 v0 12) (bx (fm_Wl_tellWatchers N w6 v0 v1) (fun u7 r7 => fb_Wl_settle_104 N G u7 (v0)))))) (bo v1 (fun j8 => bo (gR u j8 7 14) (fun r9 => bo r9 (fun j10 => bo (aI u j10 4 v2) (fun r11 => ck (isO u v0 12) (bx (fm_Wl_find N u v0 r11) (fun u12 r12 => br (decide (r12 = none)) (fb_Wl_settle_88 N G u12 (v0) (v1) (v2)) (bo v1 (fun j13 => bo (gI u12 j13 7 0) (fun r14 => bo r12 (fun j16 => ck (isO u12 j16 7) (bx (fm_Pr_removeLink N u12 j16 r14) (fun u15 r15 => bo v1 (fun j17 => bo (gI u15 j17 7 0) (fun r18 => bo v1 (fun j19 => bo (gJ u15 j19 7 16) (fun r20 => bo v1 (fun j21 => bo (gR u15 j21 7 17) (fun r22 => ck (isO u15 v0 12) (bx (fm_Wl_signal N u15 v0 r18 r12 r20 r22) (fun u23 r23 => fb_Wl_settle_88 N G u23 (v0) (v1) (v2))))))))))))))))))))))))
set_option maxRecDepth 100000 in
set_option maxHeartbeats 4000000 in
theorem wb_Wl_settle_40 {p : Program} {l : Launch} {e : Env} {s : State} {m : MethodId} {args : Array Value} {below : List Frame} {meth : Method} {c : Code} {s0 : State} {b0 : Nat} {D : va_G} {cB cI cJ cZ cS cP : ClassId} {A : Nat → Prop} {sk sv : Nat → Nat} {ad : Nat → Nat} (C0 : XCx p s s0 b0 m args meth c R_Wl b_Wl_settle 4 none D cB cI cJ cZ cS cP A) (hE : ENV s0 b0 sk sv) (N : Nat) (G : (CS → Nat → Option (CS × Unit)) × (CS → Nat → Option Nat → Int32 → Option (CS × Unit))) (hG : (∀ (u : CS) (v0 : Nat) (x : CS × Unit), G.1 u v0 = some x → ∀ (H : Heap) (locs : List Loc), va_P D cls (wC cB cI cJ cZ cS cP ad u) H → va_D A (wC cB cI cJ cZ cS cP ad u) → va_S A s.heap H locs → ∀ (ls : Array Slot), lv_has ls 4 [(0, .ref (ad v0))] → W p l e rm_Wl_settle s m args below meth c H locs 0 0 (MQ below (xQ0 D cB cI cJ cZ cS cP A ad x.1 none) args s 0 0 A) (F0 m 0 ls [])) ∧ (∀ (u : CS) (v0 : Nat) (v1 : Option Nat) (v2 : Int32) (x : CS × Unit), G.2 u v0 v1 v2 = some x → ∀ (H : Heap) (locs : List Loc), va_P D cls (wC cB cI cJ cZ cS cP ad u) H → va_D A (wC cB cI cJ cZ cS cP ad u) → va_S A s.heap H locs → ∀ (ls : Array Slot), lv_has ls 4 [(0, .ref (ad v0)), (1, va_rf (Option.map ad v1)), (2, .int v2)] → W p l e rm_Wl_settle s m args below meth c H locs 0 0 (MQ below (xQ0 D cB cI cJ cZ cS cP A ad x.1 none) args s 0 0 A) (F0 m 40 ls []))) : ∀ (u : CS) (v0 : Nat) (v1 : Option Nat) (v2 : Int32) (x : CS × Unit), fb_Wl_settle_40 N G u v0 v1 v2 = some x → ∀ (H : Heap) (locs : List Loc), va_P D cls (wC cB cI cJ cZ cS cP ad u) H → va_D A (wC cB cI cJ cZ cS cP ad u) → va_S A s.heap H locs → ∀ (ls : Array Slot), lv_has ls 4 [(0, .ref (ad v0)), (1, va_rf (Option.map ad v1)), (2, .int v2)] → W p l e rm_Wl_settle s m args below meth c H locs 0 0 (MQ below (xQ0 D cB cI cJ cZ cS cP A ad x.1 none) args s 0 0 A) (F0 m 40 ls []) := by
  intro u v0 v1 v2 x hf H locs hP hD hS ls hl
  obtain ⟨hx, hb, hr, hml, ht, hown, hK, hA, hlocks, hA0, hO, hbs⟩ := id C0
  unfold fb_Wl_settle_40 at hf
  refine lv_iload_n hx hb d_Wl_settle_40 rfl (lv_at hl 2 rfl) ?_
  refine x_aload_n hx hb d_Wl_settle_41 rfl (lv_at hl 1 rfl) ?_
  obtain ⟨j3, ej3, hf⟩ := bo_some hf
  rw [ej3]
  obtain ⟨r4, g4, hf⟩ := bo_some hf
  refine xg_I (i := j3) (k := 15) hx hb ht hown ck_Pr hK hP (by decide) fk_Wl_166 g4 d_Wl_settle_42 ?_
  refine lv_icmp_ge (tgt := 94) hx hb d_Wl_settle_45 (by decide) (fun hc => ?_) (fun hc => ?_)
  · rw [br_p _ hc] at hf
    refine x_aload_n hx hb d_Wl_settle_94 rfl (lv_at hl 1 rfl) ?_
    refine lv_iconst (v := 0) hx hb d_Wl_settle_95 (by decide) ?_
    obtain ⟨j5, ej5, hf⟩ := bo_some hf
    rw [ej5]
    obtain ⟨w6, g6, hf⟩ := bo_some hf
    refine xp (i := j5) (k := 15) (v := (.inl 0)) hx hb ht hown ck_Pr hK hP hD hS (by decide) fk_Wl_166 rfl g6 rfl rfl d_Wl_settle_96 (fun H locs hP hD hS => ?_)
    refine lv_aload_n hx hb d_Wl_settle_99 rfl (lv_at hl 0 rfl) ?_
    refine x_aload_n hx hb d_Wl_settle_100 rfl (lv_at hl 1 rfl) ?_
    obtain ⟨hO9, hf⟩ := ck_some hf
    obtain ⟨u7, r7, hc7, hf⟩ := bx_some hf
    refine xV0 (i := v0) (As := [va_rf (Option.map ad v1)]) (rest := []) C0 hP hD hS ck_Wl hO9 (c_Wl_tellWatchers N hE hc7) k_Wl_tellWatchers (wd_of 2063 (by decide +kernel) rfl) hi_Wl_tellWatchers hs_Wl_tellWatchers hini_Wl rfl rfl hd_Wl_tellWatchers rfl rm_Wl_settle_Wl_tellWatchers hl.1 (Nat.le_of_ble_eq_true rfl) d_Wl_settle_101 rfl ⟨Nat.zero_le _, Nat.zero_le _⟩ (fun H locs hP hD hS => ?_)
    exact wb_Wl_settle_104 C0 hE N G hG _ _ _ hf H locs hP hD hS ls (lv_sub hl [0] rfl)
  · rw [br_n _ hc] at hf
    refine lv_aload_n hx hb d_Wl_settle_48 rfl (lv_at hl 0 rfl) ?_
    refine x_aload_n hx hb d_Wl_settle_49 rfl (lv_at hl 1 rfl) ?_
    obtain ⟨j8, ej8, hf⟩ := bo_some hf
    rw [ej8]
    obtain ⟨r9, g9, hf⟩ := bo_some hf
    refine xg_R (i := j8) (k := 14) hx hb ht hown ck_Pr hK hP (by decide) fk_Wl_169 g9 d_Wl_settle_50 ?_
    refine lv_iload_n hx hb d_Wl_settle_53 rfl (lv_at hl 2 rfl) ?_
    obtain ⟨j10, ej10, hf⟩ := bo_some hf
    rw [ej10]
    obtain ⟨r11, g11, hf⟩ := bo_some hf
    refine xl_I (i := j10) hx hb hK hP g11 d_Wl_settle_54 ?_
    obtain ⟨hO9, hf⟩ := ck_some hf
    obtain ⟨u12, r12, hc12, hf⟩ := bx_some hf
    refine xV0 (i := v0) (As := [.int r11]) (rest := []) C0 hP hD hS ck_Wl hO9 (c_Wl_find N hE hc12) k_Wl_find (wd_of 2060 (by decide +kernel) rfl) hi_Wl_find hs_Wl_find hini_Wl rfl rfl hd_Wl_find rfl rm_Wl_settle_Wl_find hl.1 (Nat.le_of_ble_eq_true rfl) d_Wl_settle_55 rfl ⟨Nat.zero_le _, Nat.zero_le _⟩ (fun H locs hP hD hS => ?_)
    refine x_astore_n (lv' := [(3, va_rf (Option.map ad r12)), (0, .ref (ad v0)), (1, va_rf (Option.map ad v1)), (2, .int v2)]) hx hb d_Wl_settle_58 rfl hl (by decide) (by first | rfl | simp [List.filter, cat_rf]) (fun ls hl => ?_)
    refine x_aload_n hx hb d_Wl_settle_59 rfl (lv_at hl 0 rfl) ?_
    refine x_ifnull (r := r12) (tgt := 88) hx hb d_Wl_settle_60 (by decide) (fun hc => ?_) (fun hc => ?_)
    · rw [br_p _ hc] at hf
      exact wb_Wl_settle_88 C0 hE N G hG _ _ _ _ _ hf H locs hP hD hS ls (lv_sub hl [1, 2, 3] rfl)
    · rw [br_n _ hc] at hf
      refine x_aload_n hx hb d_Wl_settle_63 rfl (lv_at hl 0 rfl) ?_
      refine x_aload_n hx hb d_Wl_settle_64 rfl (lv_at hl 2 rfl) ?_
      obtain ⟨j13, ej13, hf⟩ := bo_some hf
      rw [ej13]
      obtain ⟨r14, g14, hf⟩ := bo_some hf
      refine xg_I (i := j13) (k := 0) hx hb ht hown ck_Pr hK hP (by decide) fk_Wl_145 g14 d_Wl_settle_65 ?_
      obtain ⟨j16, ej16, hf⟩ := bo_some hf
      rw [ej16]
      obtain ⟨hO9, hf⟩ := ck_some hf
      obtain ⟨u15, r15, hc15, hf⟩ := bx_some hf
      refine xV0 (i := j16) (As := [.int r14]) (rest := []) C0 hP hD hS ck_Pr hO9 (c_Pr_removeLink N hE hc15) k_Pr_removeLink (wd_of 2061 (by decide +kernel) rfl) hi_Pr_removeLink hs_Pr_removeLink hini_Pr rfl rfl hd_Pr_removeLink rfl rm_Wl_settle_Pr_removeLink hl.1 (Nat.le_of_ble_eq_true rfl) d_Wl_settle_68 rfl ⟨Nat.zero_le _, Nat.zero_le _⟩ (fun H locs hP hD hS => ?_)
      refine lv_aload_n hx hb d_Wl_settle_71 rfl (lv_at hl 1 rfl) ?_
      refine x_aload_n hx hb d_Wl_settle_72 rfl (lv_at hl 2 rfl) ?_
      obtain ⟨j17, ej17, hf⟩ := bo_some hf
      rw [ej17]
      obtain ⟨r18, g18, hf⟩ := bo_some hf
      refine xg_I (i := j17) (k := 0) hx hb ht hown ck_Pr hK hP (by decide) fk_Wl_145 g18 d_Wl_settle_73 ?_
      refine x_aload_n hx hb d_Wl_settle_76 rfl (lv_at hl 0 rfl) ?_
      refine x_aload_n hx hb d_Wl_settle_77 rfl (lv_at hl 2 rfl) ?_
      obtain ⟨j19, ej19, hf⟩ := bo_some hf
      rw [ej19]
      obtain ⟨r20, g20, hf⟩ := bo_some hf
      refine xg_J (i := j19) (k := 16) hx hb ht hown ck_Pr hK hP (by decide) fk_Wl_159 g20 d_Wl_settle_78 ?_
      refine x_aload_n hx hb d_Wl_settle_81 rfl (lv_at hl 2 rfl) ?_
      obtain ⟨j21, ej21, hf⟩ := bo_some hf
      rw [ej21]
      obtain ⟨r22, g22, hf⟩ := bo_some hf
      refine xg_R (i := j21) (k := 17) hx hb ht hown ck_Pr hK hP (by decide) fk_Wl_162 g22 d_Wl_settle_82 ?_
      obtain ⟨hO9, hf⟩ := ck_some hf
      obtain ⟨u23, r23, hc23, hf⟩ := bx_some hf
      refine xV0 (i := v0) (As := [.int r18, va_rf (Option.map ad r12), .long r20, va_rf (Option.map ad r22)]) (rest := []) C0 hP hD hS ck_Wl hO9 (c_Wl_signal N hE hc23) k_Wl_signal (wd_of 2062 (by decide +kernel) rfl) hi_Wl_signal hs_Wl_signal hini_Wl rfl rfl hd_Wl_signal rfl rm_Wl_settle_Wl_signal hl.1 (Nat.le_of_ble_eq_true rfl) d_Wl_settle_85 rfl ⟨Nat.zero_le _, Nat.zero_le _⟩ (fun H locs hP hD hS => ?_)
      exact wb_Wl_settle_88 C0 hE N G hG _ _ _ _ _ hf H locs hP hD hS ls (lv_sub hl [1, 2, 3] rfl)
def fb_Wl_settle_0 (N : Nat) (G : (CS → Nat → Option (CS × Unit)) × (CS → Nat → Option Nat → Int32 → Option (CS × Unit))) (u : CS) (v0 : Nat) : Option (CS × Unit) := bo (gI u v0 12 16) (fun r24 => bo (gI u v0 12 15) (fun r25 => br (decide (r25 ≤ r24)) (some (u, ())) (bo (gR u v0 12 1) (fun r26 => bo (gR u v0 12 14) (fun r27 => bo (gI u v0 12 16) (fun r28 => bo r27 (fun j29 => bo (aI u j29 4 r28) (fun r30 => bo r26 (fun j31 => bo (aP u j31 r30) (fun r32 => br (decide (r32 = none)) (fb_Wl_settle_104 N G u (v0)) (bo r32 (fun j33 => bo (pF u j33 7 12 (.inl (-1))) (fun w34 => G.2 w34 (v0) (r32) (0))))))))))))))
set_option maxRecDepth 100000 in
set_option maxHeartbeats 4000000 in
theorem wb_Wl_settle_0 {p : Program} {l : Launch} {e : Env} {s : State} {m : MethodId} {args : Array Value} {below : List Frame} {meth : Method} {c : Code} {s0 : State} {b0 : Nat} {D : va_G} {cB cI cJ cZ cS cP : ClassId} {A : Nat → Prop} {sk sv : Nat → Nat} {ad : Nat → Nat} (C0 : XCx p s s0 b0 m args meth c R_Wl b_Wl_settle 4 none D cB cI cJ cZ cS cP A) (hE : ENV s0 b0 sk sv) (N : Nat) (G : (CS → Nat → Option (CS × Unit)) × (CS → Nat → Option Nat → Int32 → Option (CS × Unit))) (hG : (∀ (u : CS) (v0 : Nat) (x : CS × Unit), G.1 u v0 = some x → ∀ (H : Heap) (locs : List Loc), va_P D cls (wC cB cI cJ cZ cS cP ad u) H → va_D A (wC cB cI cJ cZ cS cP ad u) → va_S A s.heap H locs → ∀ (ls : Array Slot), lv_has ls 4 [(0, .ref (ad v0))] → W p l e rm_Wl_settle s m args below meth c H locs 0 0 (MQ below (xQ0 D cB cI cJ cZ cS cP A ad x.1 none) args s 0 0 A) (F0 m 0 ls [])) ∧ (∀ (u : CS) (v0 : Nat) (v1 : Option Nat) (v2 : Int32) (x : CS × Unit), G.2 u v0 v1 v2 = some x → ∀ (H : Heap) (locs : List Loc), va_P D cls (wC cB cI cJ cZ cS cP ad u) H → va_D A (wC cB cI cJ cZ cS cP ad u) → va_S A s.heap H locs → ∀ (ls : Array Slot), lv_has ls 4 [(0, .ref (ad v0)), (1, va_rf (Option.map ad v1)), (2, .int v2)] → W p l e rm_Wl_settle s m args below meth c H locs 0 0 (MQ below (xQ0 D cB cI cJ cZ cS cP A ad x.1 none) args s 0 0 A) (F0 m 40 ls []))) : ∀ (u : CS) (v0 : Nat) (x : CS × Unit), fb_Wl_settle_0 N G u v0 = some x → ∀ (H : Heap) (locs : List Loc), va_P D cls (wC cB cI cJ cZ cS cP ad u) H → va_D A (wC cB cI cJ cZ cS cP ad u) → va_S A s.heap H locs → ∀ (ls : Array Slot), lv_has ls 4 [(0, .ref (ad v0))] → W p l e rm_Wl_settle s m args below meth c H locs 0 0 (MQ below (xQ0 D cB cI cJ cZ cS cP A ad x.1 none) args s 0 0 A) (F0 m 0 ls []) := by
  intro u v0 x hf H locs hP hD hS ls hl
  obtain ⟨hx, hb, hr, hml, ht, hown, hK, hA, hlocks, hA0, hO, hbs⟩ := id C0
  unfold fb_Wl_settle_0 at hf
  refine lv_aload_n hx hb d_Wl_settle_0 rfl (lv_at hl 0 rfl) ?_
  obtain ⟨r24, g24, hf⟩ := bo_some hf
  refine xg_I (i := v0) (k := 16) hx hb ht hown ck_Wl hK hP (by decide) fk_Wl_67 g24 d_Wl_settle_1 ?_
  refine lv_aload_n hx hb d_Wl_settle_4 rfl (lv_at hl 0 rfl) ?_
  obtain ⟨r25, g25, hf⟩ := bo_some hf
  refine xg_I (i := v0) (k := 15) hx hb ht hown ck_Wl hK hP (by decide) fk_Wl_64 g25 d_Wl_settle_5 ?_
  refine lv_icmp_ge (tgt := 117) hx hb d_Wl_settle_8 (by decide) (fun hc => ?_) (fun hc => ?_)
  · rw [br_p _ hc] at hf
    exact xr0_v C0 hP hD hS hf d_Wl_settle_117
  · rw [br_n _ hc] at hf
    refine lv_aload_n hx hb d_Wl_settle_11 rfl (lv_at hl 0 rfl) ?_
    obtain ⟨r26, g26, hf⟩ := bo_some hf
    refine xg_R (i := v0) (k := 1) hx hb ht hown ck_Wl hK hP (by decide) fk_Wl_11 g26 d_Wl_settle_12 ?_
    refine lv_aload_n hx hb d_Wl_settle_15 rfl (lv_at hl 0 rfl) ?_
    obtain ⟨r27, g27, hf⟩ := bo_some hf
    refine xg_R (i := v0) (k := 14) hx hb ht hown ck_Wl hK hP (by decide) fk_Wl_34 g27 d_Wl_settle_16 ?_
    refine lv_aload_n hx hb d_Wl_settle_19 rfl (lv_at hl 0 rfl) ?_
    obtain ⟨r28, g28, hf⟩ := bo_some hf
    refine xg_I (i := v0) (k := 16) hx hb ht hown ck_Wl hK hP (by decide) fk_Wl_67 g28 d_Wl_settle_20 ?_
    obtain ⟨j29, ej29, hf⟩ := bo_some hf
    rw [ej29]
    obtain ⟨r30, g30, hf⟩ := bo_some hf
    refine xl_I (i := j29) hx hb hK hP g30 d_Wl_settle_23 ?_
    obtain ⟨j31, ej31, hf⟩ := bo_some hf
    rw [ej31]
    obtain ⟨r32, g32, hf⟩ := bo_some hf
    refine xl_P (i := j31) hx hb hK hP g32 d_Wl_settle_24 ?_
    refine x_astore_n (lv' := [(1, va_rf (Option.map ad r32)), (0, .ref (ad v0))]) hx hb d_Wl_settle_25 rfl hl (by decide) (by first | rfl | simp [List.filter, cat_rf]) (fun ls hl => ?_)
    refine x_aload_n hx hb d_Wl_settle_26 rfl (lv_at hl 0 rfl) ?_
    refine x_ifnonnull (r := r32) (tgt := 33) hx hb d_Wl_settle_27 (by decide) (fun hc => ?_) (fun hc => ?_)
    · rw [br_n _ hc] at hf
      refine x_aload_n hx hb d_Wl_settle_33 rfl (lv_at hl 0 rfl) ?_
      refine lv_iconst (v := (-1)) hx hb d_Wl_settle_34 (by decide) ?_
      obtain ⟨j33, ej33, hf⟩ := bo_some hf
      rw [ej33]
      obtain ⟨w34, g34, hf⟩ := bo_some hf
      refine xp (i := j33) (k := 12) (v := (.inl (-1))) hx hb ht hown ck_Pr hK hP hD hS (by decide) fk_Wl_88 rfl g34 rfl rfl d_Wl_settle_35 (fun H locs hP hD hS => ?_)
      refine lv_iconst (v := 0) hx hb d_Wl_settle_38 (by decide) ?_
      refine lv_istore_n (lv' := [(2, .int 0), (1, va_rf (Option.map ad r32)), (0, .ref (ad v0))]) hx hb d_Wl_settle_39 rfl hl (by decide) (by first | rfl | simp [List.filter, cat_rf]) (fun ls hl => ?_)
      exact hG.2 _ _ _ _ _ hf H locs hP hD hS ls (lv_sub hl [2, 1, 0] rfl)
    · rw [br_p _ hc] at hf
      refine lv_goto (tgt := 104) hx hb d_Wl_settle_30 (by decide) ?_
      exact wb_Wl_settle_104 C0 hE N G hG _ _ _ hf H locs hP hD hS ls (lv_sub hl [1] rfl)
def gg_Wl_settle (N : Nat) : Nat → ((CS → Nat → Option (CS × Unit)) × (CS → Nat → Option Nat → Int32 → Option (CS × Unit)))
  | 0 => (fun _ _ => none, fun _ _ _ _ => none)
  | n + 1 => (fb_Wl_settle_0 N (gg_Wl_settle N n), fb_Wl_settle_40 N (gg_Wl_settle N n))
theorem wg_Wl_settle {p : Program} {l : Launch} {e : Env} {s : State} {m : MethodId} {args : Array Value} {below : List Frame} {meth : Method} {c : Code} {s0 : State} {b0 : Nat} {D : va_G} {cB cI cJ cZ cS cP : ClassId} {A : Nat → Prop} {sk sv : Nat → Nat} {ad : Nat → Nat} (C0 : XCx p s s0 b0 m args meth c R_Wl b_Wl_settle 4 none D cB cI cJ cZ cS cP A) (hE : ENV s0 b0 sk sv) (N : Nat) : ∀ n : Nat, (∀ (u : CS) (v0 : Nat) (x : CS × Unit), (gg_Wl_settle N n).1 u v0 = some x → ∀ (H : Heap) (locs : List Loc), va_P D cls (wC cB cI cJ cZ cS cP ad u) H → va_D A (wC cB cI cJ cZ cS cP ad u) → va_S A s.heap H locs → ∀ (ls : Array Slot), lv_has ls 4 [(0, .ref (ad v0))] → W p l e rm_Wl_settle s m args below meth c H locs 0 0 (MQ below (xQ0 D cB cI cJ cZ cS cP A ad x.1 none) args s 0 0 A) (F0 m 0 ls [])) ∧ (∀ (u : CS) (v0 : Nat) (v1 : Option Nat) (v2 : Int32) (x : CS × Unit), (gg_Wl_settle N n).2 u v0 v1 v2 = some x → ∀ (H : Heap) (locs : List Loc), va_P D cls (wC cB cI cJ cZ cS cP ad u) H → va_D A (wC cB cI cJ cZ cS cP ad u) → va_S A s.heap H locs → ∀ (ls : Array Slot), lv_has ls 4 [(0, .ref (ad v0)), (1, va_rf (Option.map ad v1)), (2, .int v2)] → W p l e rm_Wl_settle s m args below meth c H locs 0 0 (MQ below (xQ0 D cB cI cJ cZ cS cP A ad x.1 none) args s 0 0 A) (F0 m 40 ls []))
  | 0 => ⟨(fun u v0 x hf => by cases hf), (fun u v0 v1 v2 x hf => by cases hf)⟩
  | n + 1 => ⟨wb_Wl_settle_0 C0 hE N (gg_Wl_settle N n) (wg_Wl_settle C0 hE N n), wb_Wl_settle_40 C0 hE N (gg_Wl_settle N n) (wg_Wl_settle C0 hE N n)⟩
def fm_Wl_settle (N : Nat) (u : CS) (v0 : Nat) : Option (CS × Unit) := fb_Wl_settle_0 N (gg_Wl_settle N N) u v0
set_option maxRecDepth 100000 in
set_option maxHeartbeats 4000000 in
theorem c_Wl_settle (N : Nat) {l : Launch} {s0 : State} {b0 : Nat} {D : va_G} {cB cI cJ cZ cS cP : ClassId} {sk sv : Nat → Nat} {ad : Nat → Nat} {u : CS} {sz : Nat} {v0 : Nat} {x : CS × Unit} (hE : ENV s0 b0 sk sv) (hf : fm_Wl_settle N u v0 = some x) : Met l y_Wl_settle (wd_ws y_Wl_settle b_Wl_settle 4 none) rm_Wl_settle (xPc s0 b0 D cB cI cJ cZ cS cP ad u sz [.ref (ad v0)]) (xQ0 D cB cI cJ cZ cS cP (xA cB cI cJ cZ cS cP ad u sz) ad x.1 none) 0 0 (xA cB cI cJ cZ cS cP ad u sz) :=
  xMet (by decide) rfl (Nat.le_of_ble_eq_true rfl) (fun p e s m below meth c ls hsz hnm C0 hP hD hS hl =>
    wb_Wl_settle_0 C0 hE N (gg_Wl_settle N N) (wg_Wl_settle C0 hE N N) u _ x hf s.heap [] hP hD hS ls (lv_sub hl [0] rfl))
abbrev b_Ma_goOn : ByteArray := prog_5_method_2_code
def y_Ma_goOn : MethodName := ⟨R_Ma, "goOn", "(LMailHouse$Process;I)I"⟩
def w_Ma_goOn : List Cond := wd_ws y_Ma_goOn b_Ma_goOn 5 (some .int)
set_option maxRecDepth 100000 in
theorem k_Ma_goOn : Cond.code y_Ma_goOn b_Ma_goOn 5 (some .int) ∈ wd_tbl := wd_of 1638 rfl rfl
theorem d_Ma_goOn_0 : decode b_Ma_goOn 0 = .ok (.aload_n 0, 1) := by decide +kernel
theorem d_Ma_goOn_1 : decode b_Ma_goOn 1 = .ok (.aload_n 1, 1) := by decide +kernel
theorem d_Ma_goOn_2 : decode b_Ma_goOn 2 = .ok (.putfield 23, 3) := by decide +kernel
theorem d_Ma_goOn_5 : decode b_Ma_goOn 5 = .ok (.aload_n 0, 1) := by decide +kernel
theorem d_Ma_goOn_6 : decode b_Ma_goOn 6 = .ok (.aload_n 1, 1) := by decide +kernel
theorem d_Ma_goOn_7 : decode b_Ma_goOn 7 = .ok (.getfield 27, 3) := by decide +kernel
theorem d_Ma_goOn_10 : decode b_Ma_goOn 10 = .ok (.putfield 33, 3) := by decide +kernel
theorem d_Ma_goOn_13 : decode b_Ma_goOn 13 = .ok (.aload_n 0, 1) := by decide +kernel
theorem d_Ma_goOn_14 : decode b_Ma_goOn 14 = .ok (.aload_n 0, 1) := by decide +kernel
theorem d_Ma_goOn_15 : decode b_Ma_goOn 15 = .ok (.getfield 33, 3) := by decide +kernel
theorem d_Ma_goOn_18 : decode b_Ma_goOn 18 = .ok (.invokevirtual 34, 3) := by decide +kernel
theorem d_Ma_goOn_21 : decode b_Ma_goOn 21 = .ok (.putfield 40, 3) := by decide +kernel
theorem d_Ma_goOn_24 : decode b_Ma_goOn 24 = .ok (.aload_n 0, 1) := by decide +kernel
theorem d_Ma_goOn_25 : decode b_Ma_goOn 25 = .ok (.iconst 0, 1) := by decide +kernel
theorem d_Ma_goOn_26 : decode b_Ma_goOn 26 = .ok (.putfield 44, 3) := by decide +kernel
theorem d_Ma_goOn_29 : decode b_Ma_goOn 29 = .ok (.aload_n 0, 1) := by decide +kernel
theorem d_Ma_goOn_30 : decode b_Ma_goOn 30 = .ok (.iload_n 2, 1) := by decide +kernel
theorem d_Ma_goOn_31 : decode b_Ma_goOn 31 = .ok (.putfield 47, 3) := by decide +kernel
theorem d_Ma_goOn_34 : decode b_Ma_goOn 34 = .ok (.aload_n 0, 1) := by decide +kernel
theorem d_Ma_goOn_35 : decode b_Ma_goOn 35 = .ok (.iconst 0, 1) := by decide +kernel
theorem d_Ma_goOn_36 : decode b_Ma_goOn 36 = .ok (.putfield 50, 3) := by decide +kernel
theorem d_Ma_goOn_39 : decode b_Ma_goOn 39 = .ok (.aload_n 0, 1) := by decide +kernel
theorem d_Ma_goOn_40 : decode b_Ma_goOn 40 = .ok (.iconst 0, 1) := by decide +kernel
theorem d_Ma_goOn_41 : decode b_Ma_goOn 41 = .ok (.putfield 54, 3) := by decide +kernel
theorem d_Ma_goOn_44 : decode b_Ma_goOn 44 = .ok (.aload_n 0, 1) := by decide +kernel
theorem d_Ma_goOn_45 : decode b_Ma_goOn 45 = .ok (.iconst 0, 1) := by decide +kernel
theorem d_Ma_goOn_46 : decode b_Ma_goOn 46 = .ok (.putfield 57, 3) := by decide +kernel
theorem d_Ma_goOn_49 : decode b_Ma_goOn 49 = .ok (.aload_n 0, 1) := by decide +kernel
theorem d_Ma_goOn_50 : decode b_Ma_goOn 50 = .ok (.getfield 23, 3) := by decide +kernel
theorem d_Ma_goOn_53 : decode b_Ma_goOn 53 = .ok (.iconst 0, 1) := by decide +kernel
theorem d_Ma_goOn_54 : decode b_Ma_goOn 54 = .ok (.putfield 60, 3) := by decide +kernel
theorem d_Ma_goOn_57 : decode b_Ma_goOn 57 = .ok (.aload_n 0, 1) := by decide +kernel
theorem d_Ma_goOn_58 : decode b_Ma_goOn 58 = .ok (.getfield 33, 3) := by decide +kernel
theorem d_Ma_goOn_61 : decode b_Ma_goOn 61 = .ok (.iconst 0, 1) := by decide +kernel
theorem d_Ma_goOn_62 : decode b_Ma_goOn 62 = .ok (.putfield 63, 3) := by decide +kernel
theorem d_Ma_goOn_65 : decode b_Ma_goOn 65 = .ok (.iconst 0, 1) := by decide +kernel
theorem d_Ma_goOn_66 : decode b_Ma_goOn 66 = .ok (.istore_n 3, 1) := by decide +kernel
theorem d_Ma_goOn_67 : decode b_Ma_goOn 67 = .ok (.iload_n 3, 1) := by decide +kernel
theorem d_Ma_goOn_68 : decode b_Ma_goOn 68 = .ok (.ldc 66, 2) := by decide +kernel
theorem d_Ma_goOn_70 : decode b_Ma_goOn 70 = .ok (.if_icmp .ge 149, 3) := by decide +kernel
theorem d_Ma_goOn_73 : decode b_Ma_goOn 73 = .ok (.aload_n 0, 1) := by decide +kernel
theorem d_Ma_goOn_74 : decode b_Ma_goOn 74 = .ok (.getfield 23, 3) := by decide +kernel
theorem d_Ma_goOn_77 : decode b_Ma_goOn 77 = .ok (.getfield 60, 3) := by decide +kernel
theorem d_Ma_goOn_80 : decode b_Ma_goOn 80 = .ok (.ifCond .ne 139, 3) := by decide +kernel
theorem d_Ma_goOn_83 : decode b_Ma_goOn 83 = .ok (.aload_n 0, 1) := by decide +kernel
theorem d_Ma_goOn_84 : decode b_Ma_goOn 84 = .ok (.getfield 50, 3) := by decide +kernel
theorem d_Ma_goOn_87 : decode b_Ma_goOn 87 = .ok (.ifCond .ne 132, 3) := by decide +kernel
theorem d_Ma_goOn_90 : decode b_Ma_goOn 90 = .ok (.aload_n 0, 1) := by decide +kernel
theorem d_Ma_goOn_91 : decode b_Ma_goOn 91 = .ok (.getfield 9, 3) := by decide +kernel
theorem d_Ma_goOn_94 : decode b_Ma_goOn 94 = .ok (.aload_n 0, 1) := by decide +kernel
theorem d_Ma_goOn_95 : decode b_Ma_goOn 95 = .ok (.getfield 40, 3) := by decide +kernel
theorem d_Ma_goOn_98 : decode b_Ma_goOn 98 = .ok (.invokevirtual 67, 3) := by decide +kernel
theorem d_Ma_goOn_101 : decode b_Ma_goOn 101 = .ok (.istore 4, 2) := by decide +kernel
theorem d_Ma_goOn_103 : decode b_Ma_goOn 103 = .ok (.iload 4, 2) := by decide +kernel
theorem d_Ma_goOn_105 : decode b_Ma_goOn 105 = .ok (.bipush 39, 2) := by decide +kernel
theorem d_Ma_goOn_107 : decode b_Ma_goOn 107 = .ok (.if_icmp .ne 23, 3) := by decide +kernel
theorem d_Ma_goOn_110 : decode b_Ma_goOn 110 = .ok (.aload_n 0, 1) := by decide +kernel
theorem d_Ma_goOn_111 : decode b_Ma_goOn 111 = .ok (.aload_n 0, 1) := by decide +kernel
theorem d_Ma_goOn_112 : decode b_Ma_goOn 112 = .ok (.getfield 9, 3) := by decide +kernel
theorem d_Ma_goOn_115 : decode b_Ma_goOn 115 = .ok (.aload_n 0, 1) := by decide +kernel
theorem d_Ma_goOn_116 : decode b_Ma_goOn 116 = .ok (.getfield 40, 3) := by decide +kernel
theorem d_Ma_goOn_119 : decode b_Ma_goOn 119 = .ok (.iconst 1, 1) := by decide +kernel
theorem d_Ma_goOn_120 : decode b_Ma_goOn 120 = .ok (.iadd, 1) := by decide +kernel
theorem d_Ma_goOn_121 : decode b_Ma_goOn 121 = .ok (.invokevirtual 67, 3) := by decide +kernel
theorem d_Ma_goOn_124 : decode b_Ma_goOn 124 = .ok (.invokevirtual 72, 3) := by decide +kernel
theorem d_Ma_goOn_127 : decode b_Ma_goOn 127 = .ok (.goto 68, 3) := by decide +kernel
theorem d_Ma_goOn_130 : decode b_Ma_goOn 130 = .ok (.iload 4, 2) := by decide +kernel
theorem d_Ma_goOn_132 : decode b_Ma_goOn 132 = .ok (.bipush 40, 2) := by decide +kernel
theorem d_Ma_goOn_134 : decode b_Ma_goOn 134 = .ok (.if_icmp .ne 23, 3) := by decide +kernel
theorem d_Ma_goOn_137 : decode b_Ma_goOn 137 = .ok (.aload_n 0, 1) := by decide +kernel
theorem d_Ma_goOn_138 : decode b_Ma_goOn 138 = .ok (.aload_n 0, 1) := by decide +kernel
theorem d_Ma_goOn_139 : decode b_Ma_goOn 139 = .ok (.getfield 9, 3) := by decide +kernel
theorem d_Ma_goOn_142 : decode b_Ma_goOn 142 = .ok (.aload_n 0, 1) := by decide +kernel
theorem d_Ma_goOn_143 : decode b_Ma_goOn 143 = .ok (.getfield 40, 3) := by decide +kernel
theorem d_Ma_goOn_146 : decode b_Ma_goOn 146 = .ok (.iconst 1, 1) := by decide +kernel
theorem d_Ma_goOn_147 : decode b_Ma_goOn 147 = .ok (.iadd, 1) := by decide +kernel
theorem d_Ma_goOn_148 : decode b_Ma_goOn 148 = .ok (.invokevirtual 67, 3) := by decide +kernel
theorem d_Ma_goOn_151 : decode b_Ma_goOn 151 = .ok (.invokevirtual 76, 3) := by decide +kernel
theorem d_Ma_goOn_154 : decode b_Ma_goOn 154 = .ok (.goto 41, 3) := by decide +kernel
theorem d_Ma_goOn_157 : decode b_Ma_goOn 157 = .ok (.iload 4, 2) := by decide +kernel
theorem d_Ma_goOn_159 : decode b_Ma_goOn 159 = .ok (.bipush 8, 2) := by decide +kernel
theorem d_Ma_goOn_161 : decode b_Ma_goOn 161 = .ok (.if_icmp .ge 12, 3) := by decide +kernel
theorem d_Ma_goOn_164 : decode b_Ma_goOn 164 = .ok (.aload_n 0, 1) := by decide +kernel
theorem d_Ma_goOn_165 : decode b_Ma_goOn 165 = .ok (.iload 4, 2) := by decide +kernel
theorem d_Ma_goOn_167 : decode b_Ma_goOn 167 = .ok (.invokevirtual 79, 3) := by decide +kernel
theorem d_Ma_goOn_170 : decode b_Ma_goOn 170 = .ok (.goto 25, 3) := by decide +kernel
theorem d_Ma_goOn_173 : decode b_Ma_goOn 173 = .ok (.iload 4, 2) := by decide +kernel
theorem d_Ma_goOn_175 : decode b_Ma_goOn 175 = .ok (.bipush 18, 2) := by decide +kernel
theorem d_Ma_goOn_177 : decode b_Ma_goOn 177 = .ok (.if_icmp .ge 12, 3) := by decide +kernel
theorem d_Ma_goOn_180 : decode b_Ma_goOn 180 = .ok (.aload_n 0, 1) := by decide +kernel
theorem d_Ma_goOn_181 : decode b_Ma_goOn 181 = .ok (.iload 4, 2) := by decide +kernel
theorem d_Ma_goOn_183 : decode b_Ma_goOn 183 = .ok (.invokevirtual 82, 3) := by decide +kernel
theorem d_Ma_goOn_186 : decode b_Ma_goOn 186 = .ok (.goto 9, 3) := by decide +kernel
theorem d_Ma_goOn_189 : decode b_Ma_goOn 189 = .ok (.aload_n 0, 1) := by decide +kernel
theorem d_Ma_goOn_190 : decode b_Ma_goOn 190 = .ok (.iload 4, 2) := by decide +kernel
theorem d_Ma_goOn_192 : decode b_Ma_goOn 192 = .ok (.invokevirtual 85, 3) := by decide +kernel
theorem d_Ma_goOn_195 : decode b_Ma_goOn 195 = .ok (.aload_n 0, 1) := by decide +kernel
theorem d_Ma_goOn_196 : decode b_Ma_goOn 196 = .ok (.getfield 54, 3) := by decide +kernel
theorem d_Ma_goOn_199 : decode b_Ma_goOn 199 = .ok (.ifCond .eq 7, 3) := by decide +kernel
theorem d_Ma_goOn_202 : decode b_Ma_goOn 202 = .ok (.aload_n 0, 1) := by decide +kernel
theorem d_Ma_goOn_203 : decode b_Ma_goOn 203 = .ok (.invokevirtual 88, 3) := by decide +kernel
theorem d_Ma_goOn_206 : decode b_Ma_goOn 206 = .ok (.aload_n 0, 1) := by decide +kernel
theorem d_Ma_goOn_207 : decode b_Ma_goOn 207 = .ok (.getfield 15, 3) := by decide +kernel
theorem d_Ma_goOn_210 : decode b_Ma_goOn 210 = .ok (.invokevirtual 91, 3) := by decide +kernel
theorem d_Ma_goOn_213 : decode b_Ma_goOn 213 = .ok (.iinc 3 1, 3) := by decide +kernel
theorem d_Ma_goOn_216 : decode b_Ma_goOn 216 = .ok (.goto (-149), 3) := by decide +kernel
theorem d_Ma_goOn_219 : decode b_Ma_goOn 219 = .ok (.aload_n 0, 1) := by decide +kernel
theorem d_Ma_goOn_220 : decode b_Ma_goOn 220 = .ok (.getfield 33, 3) := by decide +kernel
theorem d_Ma_goOn_223 : decode b_Ma_goOn 223 = .ok (.aload_n 0, 1) := by decide +kernel
theorem d_Ma_goOn_224 : decode b_Ma_goOn 224 = .ok (.getfield 40, 3) := by decide +kernel
theorem d_Ma_goOn_227 : decode b_Ma_goOn 227 = .ok (.invokevirtual 96, 3) := by decide +kernel
theorem d_Ma_goOn_230 : decode b_Ma_goOn 230 = .ok (.aload_n 0, 1) := by decide +kernel
theorem d_Ma_goOn_231 : decode b_Ma_goOn 231 = .ok (.getfield 44, 3) := by decide +kernel
theorem d_Ma_goOn_234 : decode b_Ma_goOn 234 = .ok (.ireturn, 1) := by decide +kernel
set_option maxRecDepth 100000 in
theorem hi_Ma_goOn : Cond.instanceMethod y_Ma_goOn ∈ wd_tbl := wd_of 1636 (by decide +kernel) rfl
set_option maxRecDepth 100000 in
theorem hs_Ma_goOn : Cond.selects R_Ma y_Ma_goOn y_Ma_goOn ∈ wd_tbl := wd_of 1637 (by decide +kernel) rfl
theorem hd_Ma_goOn : y_Ma_goOn.cls = R_Ma ∧ y_Ma_goOn.cls ≠ "java/lang/invoke/MethodHandle" ∧ y_Ma_goOn.cls ≠ "java/lang/invoke/VarHandle" ∧ (parseMethodDescriptor y_Ma_goOn.desc).map (fun d => d.parameters.length) = some 2 := by decide +kernel
def rm_Ma_goOn (mc ms : Nat) : Room := { frames := 7, cells := mc, slots := ms, locals := 203 }
theorem rm_Ma_goOn_Fr_place {mc ms : Nat} : (rm_Fr_place).frames + 1 ≤ (rm_Ma_goOn mc ms).frames ∧ 8 + (1 + 11) + (rm_Fr_place).locals ≤ (rm_Ma_goOn mc ms).locals := by
  show 1 + 1 ≤ 7 ∧ 8 + (1 + 11) + 22 ≤ 203
  decide
theorem rm_Ma_goOn_Co_at {mc ms : Nat} : (rm_Co_at).frames + 1 ≤ (rm_Ma_goOn mc ms).frames ∧ 8 + (2 + 11) + (rm_Co_at).locals ≤ (rm_Ma_goOn mc ms).locals := by
  show 0 + 1 ≤ 7 ∧ 8 + (2 + 11) + 0 ≤ 203
  decide
theorem rm_Ma_goOn_Ma_predefined {mc ms : Nat} {mc2 ms2 : Nat} : (rm_Ma_predefined mc2 ms2).frames + 1 ≤ (rm_Ma_goOn mc ms).frames ∧ 8 + (2 + 11) + (rm_Ma_predefined mc2 ms2).locals ≤ (rm_Ma_goOn mc ms).locals := by
  show 6 + 1 ≤ 7 ∧ 8 + (2 + 11) + 179 ≤ 203
  decide
theorem rm_Ma_goOn_Ma_toward {mc ms : Nat} {mc2 ms2 : Nat} : (rm_Ma_toward mc2 ms2).frames + 1 ≤ (rm_Ma_goOn mc ms).frames ∧ 8 + (7 + 11) + (rm_Ma_toward mc2 ms2).locals ≤ (rm_Ma_goOn mc ms).locals := by
  show 5 + 1 ≤ 7 ∧ 8 + (7 + 11) + 156 ≤ 203
  decide
theorem rm_Ma_goOn_Ma_making {mc ms : Nat} {mc2 ms2 : Nat} : (rm_Ma_making mc2 ms2).frames + 1 ≤ (rm_Ma_goOn mc ms).frames ∧ 8 + (3 + 11) + (rm_Ma_making mc2 ms2).locals ≤ (rm_Ma_goOn mc ms).locals := by
  show 5 + 1 ≤ 7 ∧ 8 + (3 + 11) + 150 ≤ 203
  decide
theorem rm_Ma_goOn_Ma_value {mc ms : Nat} {mc2 ms2 : Nat} : (rm_Ma_value mc2 ms2).frames + 1 ≤ (rm_Ma_goOn mc ms).frames ∧ 8 + (4 + 11) + (rm_Ma_value mc2 ms2).locals ≤ (rm_Ma_goOn mc ms).locals := by
  show 6 + 1 ≤ 7 ∧ 8 + (4 + 11) + 180 ≤ 203
  decide
theorem rm_Ma_goOn_Ma_flow {mc ms : Nat} {mc2 ms2 : Nat} : (rm_Ma_flow mc2 ms2).frames + 1 ≤ (rm_Ma_goOn mc ms).frames ∧ 8 + (3 + 11) + (rm_Ma_flow mc2 ms2).locals ≤ (rm_Ma_goOn mc ms).locals := by
  show 5 + 1 ≤ 7 ∧ 8 + (3 + 11) + 176 ≤ 203
  decide
theorem rm_Ma_goOn_Ma_raise {mc ms : Nat} {mc2 ms2 : Nat} : (rm_Ma_raise mc2 ms2).frames + 1 ≤ (rm_Ma_goOn mc ms).frames ∧ 8 + (4 + 11) + (rm_Ma_raise mc2 ms2).locals ≤ (rm_Ma_goOn mc ms).locals := by
  show 5 + 1 ≤ 7 ∧ 8 + (4 + 11) + 148 ≤ 203
  decide
theorem rm_Ma_goOn_Wl_settle {mc ms : Nat} : (rm_Wl_settle).frames + 1 ≤ (rm_Ma_goOn mc ms).frames ∧ 8 + (4 + 11) + (rm_Wl_settle).locals ≤ (rm_Ma_goOn mc ms).locals := by
  show 5 + 1 ≤ 7 ∧ 8 + (4 + 11) + 156 ≤ 203
  decide
theorem rm_Ma_goOn_Fr_setPlace {mc ms : Nat} : (rm_Fr_setPlace).frames + 1 ≤ (rm_Ma_goOn mc ms).frames ∧ 8 + (2 + 11) + (rm_Fr_setPlace).locals ≤ (rm_Ma_goOn mc ms).locals := by
  show 1 + 1 ≤ 7 ∧ 8 + (2 + 11) + 22 ≤ 203
  decide
def fb_Ma_goOn_219 (N : Nat) (G : (CS → Nat → Int32 → Option (CS × Int32))) (u : CS) (v0 : Nat) : Option (CS × Int32) := bo (gR u v0 5 4) (fun r1 => bo (gI u v0 5 5) (fun r2 => bo r1 (fun j4 => ck (isO u j4 4) (bx (gz u (fm_Fr_setPlace N u j4 r2)) (fun u3 r3 => gw u3 (bo (gI u3 v0 5 6) (fun r5 => some (u3, r5))))))))
set_option maxRecDepth 100000 in
set_option maxHeartbeats 4000000 in
theorem wb_Ma_goOn_219 {p : Program} {l : Launch} {e : Env} {s : State} {m : MethodId} {args : Array Value} {below : List Frame} {meth : Method} {c : Code} {s0 : State} {b0 : Nat} {D : va_G} {cB cI cJ cZ cS cP : ClassId} {A : Nat → Prop} {sk sv : Nat → Nat} {uN uS mc ms : Nat} {ad0 : Nat → Nat} (C0 : XCx p s s0 b0 m args meth c R_Ma b_Ma_goOn 5 (some .int) D cB cI cJ cZ cS cP A) (hE : ENV s0 b0 sk sv) (N : Nat) (G : (CS → Nat → Int32 → Option (CS × Int32))) (hG : (∀ (u : CS) (v0 : Nat) (v3 : Int32) (x : CS × Int32), G u v0 v3 = some x → (uN + mc = x.1.1.1 ∧ uS + ms = x.1.1.2) → ∀ (ad : Nat → Nat) (ce sl : Nat), AB uN uS ad0 u ad ce sl → ∀ (H : Heap) (locs : List Loc), va_P D cls (wC cB cI cJ cZ cS cP ad u) H → va_D A (wC cB cI cJ cZ cS cP ad u) → va_S A s.heap H locs → ∀ (ls : Array Slot), lv_has ls 5 [(0, .ref (ad v0)), (3, .int v3)] → W p l e (rm_Ma_goOn mc ms) s m args below meth c H locs ce sl (MQ below (xQ D cB cI cJ cZ cS cP A ad0 uN x.1 (some (.inl x.2))) args s mc ms A) (F0 m 67 ls []))) : ∀ (u : CS) (v0 : Nat) (x : CS × Int32), fb_Ma_goOn_219 N G u v0 = some x → (uN + mc = x.1.1.1 ∧ uS + ms = x.1.1.2) → ∀ (ad : Nat → Nat) (ce sl : Nat), AB uN uS ad0 u ad ce sl → ∀ (H : Heap) (locs : List Loc), va_P D cls (wC cB cI cJ cZ cS cP ad u) H → va_D A (wC cB cI cJ cZ cS cP ad u) → va_S A s.heap H locs → ∀ (ls : Array Slot), lv_has ls 5 [(0, .ref (ad v0))] → W p l e (rm_Ma_goOn mc ms) s m args below meth c H locs ce sl (MQ below (xQ D cB cI cJ cZ cS cP A ad0 uN x.1 (some (.inl x.2))) args s mc ms A) (F0 m 219 ls []) := by
  intro u v0 x hf hm ad ce sl hB H locs hP hD hS ls hl
  obtain ⟨hx, hb, hr, hml, ht, hown, hK, hA, hlocks, hA0, hO, hbs⟩ := id C0
  unfold fb_Ma_goOn_219 at hf
  refine lv_aload_n hx hb d_Ma_goOn_219 rfl (lv_at hl 0 rfl) ?_
  obtain ⟨r1, g1, hf⟩ := bo_some hf
  refine xg_R (i := v0) (k := 4) hx hb ht hown ck_Ma hK hP (by decide) fk_Ma_33 g1 d_Ma_goOn_220 ?_
  refine lv_aload_n hx hb d_Ma_goOn_223 rfl (lv_at hl 0 rfl) ?_
  obtain ⟨r2, g2, hf⟩ := bo_some hf
  refine xg_I (i := v0) (k := 5) hx hb ht hown ck_Ma hK hP (by decide) fk_Ma_40 g2 d_Ma_goOn_224 ?_
  obtain ⟨j4, ej4, hf⟩ := bo_some hf
  rw [ej4]
  obtain ⟨hO9, hf⟩ := ck_some hf
  obtain ⟨u3, r3, hc3, hf⟩ := bx_some hf
  obtain ⟨hc3, hz3⟩ := gz_some hc3
  obtain ⟨hf, hw3⟩ := gw_some hf
  refine xV0 (i := j4) (As := [.int r2]) (rest := []) C0 hP hD hS ck_Fr hO9 (c_Fr_setPlace N hc3) k_Fr_setPlace (wd_of 1996 (by decide +kernel) rfl) hi_Fr_setPlace hs_Fr_setPlace hini_Fr rfl rfl hd_Fr_setPlace rfl rm_Ma_goOn_Fr_setPlace hl.1 (Nat.le_of_ble_eq_true rfl) d_Ma_goOn_227 rfl (hB.fit hm hz3 hw3) (fun H locs hP hD hS => ?_)
  have hB := hB.same2 hz3
  refine lv_aload_n hx hb d_Ma_goOn_230 rfl (lv_at hl 0 rfl) ?_
  obtain ⟨r5, g5, hf⟩ := bo_some hf
  refine xg_I (i := v0) (k := 6) hx hb ht hown ck_Ma hK hP (by decide) fk_Ma_44 g5 d_Ma_goOn_231 ?_
  exact yr_i C0 hP hD hS hB hm hf d_Ma_goOn_234
def fb_Ma_goOn_206 (N : Nat) (G : (CS → Nat → Int32 → Option (CS × Int32))) (u : CS) (v0 : Nat) (v3 : Int32) : Option (CS × Int32) := bo (gR u v0 5 1) (fun r6 => bo r6 (fun j8 => ck (isO u j8 12) (bx (gz u (fm_Wl_settle N u j8)) (fun u7 r7 => gw u7 (G u7 (v0) ((v3 + 1)))))))
set_option maxRecDepth 100000 in
set_option maxHeartbeats 4000000 in
theorem wb_Ma_goOn_206 {p : Program} {l : Launch} {e : Env} {s : State} {m : MethodId} {args : Array Value} {below : List Frame} {meth : Method} {c : Code} {s0 : State} {b0 : Nat} {D : va_G} {cB cI cJ cZ cS cP : ClassId} {A : Nat → Prop} {sk sv : Nat → Nat} {uN uS mc ms : Nat} {ad0 : Nat → Nat} (C0 : XCx p s s0 b0 m args meth c R_Ma b_Ma_goOn 5 (some .int) D cB cI cJ cZ cS cP A) (hE : ENV s0 b0 sk sv) (N : Nat) (G : (CS → Nat → Int32 → Option (CS × Int32))) (hG : (∀ (u : CS) (v0 : Nat) (v3 : Int32) (x : CS × Int32), G u v0 v3 = some x → (uN + mc = x.1.1.1 ∧ uS + ms = x.1.1.2) → ∀ (ad : Nat → Nat) (ce sl : Nat), AB uN uS ad0 u ad ce sl → ∀ (H : Heap) (locs : List Loc), va_P D cls (wC cB cI cJ cZ cS cP ad u) H → va_D A (wC cB cI cJ cZ cS cP ad u) → va_S A s.heap H locs → ∀ (ls : Array Slot), lv_has ls 5 [(0, .ref (ad v0)), (3, .int v3)] → W p l e (rm_Ma_goOn mc ms) s m args below meth c H locs ce sl (MQ below (xQ D cB cI cJ cZ cS cP A ad0 uN x.1 (some (.inl x.2))) args s mc ms A) (F0 m 67 ls []))) : ∀ (u : CS) (v0 : Nat) (v3 : Int32) (x : CS × Int32), fb_Ma_goOn_206 N G u v0 v3 = some x → (uN + mc = x.1.1.1 ∧ uS + ms = x.1.1.2) → ∀ (ad : Nat → Nat) (ce sl : Nat), AB uN uS ad0 u ad ce sl → ∀ (H : Heap) (locs : List Loc), va_P D cls (wC cB cI cJ cZ cS cP ad u) H → va_D A (wC cB cI cJ cZ cS cP ad u) → va_S A s.heap H locs → ∀ (ls : Array Slot), lv_has ls 5 [(0, .ref (ad v0)), (3, .int v3)] → W p l e (rm_Ma_goOn mc ms) s m args below meth c H locs ce sl (MQ below (xQ D cB cI cJ cZ cS cP A ad0 uN x.1 (some (.inl x.2))) args s mc ms A) (F0 m 206 ls []) := by
  intro u v0 v3 x hf hm ad ce sl hB H locs hP hD hS ls hl
  obtain ⟨hx, hb, hr, hml, ht, hown, hK, hA, hlocks, hA0, hO, hbs⟩ := id C0
  unfold fb_Ma_goOn_206 at hf
  refine lv_aload_n hx hb d_Ma_goOn_206 rfl (lv_at hl 0 rfl) ?_
  obtain ⟨r6, g6, hf⟩ := bo_some hf
  refine xg_R (i := v0) (k := 1) hx hb ht hown ck_Ma hK hP (by decide) fk_Ma_15 g6 d_Ma_goOn_207 ?_
  obtain ⟨j8, ej8, hf⟩ := bo_some hf
  rw [ej8]
  obtain ⟨hO9, hf⟩ := ck_some hf
  obtain ⟨u7, r7, hc7, hf⟩ := bx_some hf
  obtain ⟨hc7, hz7⟩ := gz_some hc7
  obtain ⟨hf, hw7⟩ := gw_some hf
  refine xV0 (i := j8) (As := []) (rest := []) C0 hP hD hS ck_Wl hO9 (c_Wl_settle N hE hc7) k_Wl_settle (wd_of 2056 (by decide +kernel) rfl) hi_Wl_settle hs_Wl_settle hini_Wl rfl rfl hd_Wl_settle rfl rm_Ma_goOn_Wl_settle hl.1 (Nat.le_of_ble_eq_true rfl) d_Ma_goOn_210 rfl (hB.fit hm hz7 hw7) (fun H locs hP hD hS => ?_)
  have hB := hB.same2 hz7
  refine lv_iinc (v := (v3 + 1)) (lv' := [(3, .int (v3 + 1)), (0, .ref (ad v0))]) hx hb d_Ma_goOn_213 hl (k := 1) rfl rfl (by decide) (by first | rfl | simp [List.filter, cat_rf]) (fun ls hl => ?_)
  refine lv_goto (tgt := 67) hx hb d_Ma_goOn_216 (by decide) ?_
  exact hG _ _ _ _ hf hm _ _ _ hB H locs hP hD hS ls (lv_sub hl [1, 0] rfl)
def fb_Ma_goOn_195 (N : Nat) (G : (CS → Nat → Int32 → Option (CS × Int32))) (u : CS) (v0 : Nat) (v3 : Int32) : Option (CS × Int32) := bo (gI u v0 5 9) (fun r9 => br (decide (r9 = 0)) (fb_Ma_goOn_206 N G u (v0) (v3)) (ck (isO u v0 5) (ck (List.all [some v0] (okR u.1.1)) (bx (gw u (fm_Ma_raise N u v0)) (fun u10 r10 => gw u10 (fb_Ma_goOn_206 N G u10 (v0) (v3)))))))
set_option maxRecDepth 100000 in
set_option maxHeartbeats 4000000 in
theorem wb_Ma_goOn_195 {p : Program} {l : Launch} {e : Env} {s : State} {m : MethodId} {args : Array Value} {below : List Frame} {meth : Method} {c : Code} {s0 : State} {b0 : Nat} {D : va_G} {cB cI cJ cZ cS cP : ClassId} {A : Nat → Prop} {sk sv : Nat → Nat} {uN uS mc ms : Nat} {ad0 : Nat → Nat} (C0 : XCx p s s0 b0 m args meth c R_Ma b_Ma_goOn 5 (some .int) D cB cI cJ cZ cS cP A) (hE : ENV s0 b0 sk sv) (N : Nat) (G : (CS → Nat → Int32 → Option (CS × Int32))) (hG : (∀ (u : CS) (v0 : Nat) (v3 : Int32) (x : CS × Int32), G u v0 v3 = some x → (uN + mc = x.1.1.1 ∧ uS + ms = x.1.1.2) → ∀ (ad : Nat → Nat) (ce sl : Nat), AB uN uS ad0 u ad ce sl → ∀ (H : Heap) (locs : List Loc), va_P D cls (wC cB cI cJ cZ cS cP ad u) H → va_D A (wC cB cI cJ cZ cS cP ad u) → va_S A s.heap H locs → ∀ (ls : Array Slot), lv_has ls 5 [(0, .ref (ad v0)), (3, .int v3)] → W p l e (rm_Ma_goOn mc ms) s m args below meth c H locs ce sl (MQ below (xQ D cB cI cJ cZ cS cP A ad0 uN x.1 (some (.inl x.2))) args s mc ms A) (F0 m 67 ls []))) : ∀ (u : CS) (v0 : Nat) (v3 : Int32) (x : CS × Int32), fb_Ma_goOn_195 N G u v0 v3 = some x → (uN + mc = x.1.1.1 ∧ uS + ms = x.1.1.2) → ∀ (ad : Nat → Nat) (ce sl : Nat), AB uN uS ad0 u ad ce sl → ∀ (H : Heap) (locs : List Loc), va_P D cls (wC cB cI cJ cZ cS cP ad u) H → va_D A (wC cB cI cJ cZ cS cP ad u) → va_S A s.heap H locs → ∀ (ls : Array Slot), lv_has ls 5 [(0, .ref (ad v0)), (3, .int v3)] → W p l e (rm_Ma_goOn mc ms) s m args below meth c H locs ce sl (MQ below (xQ D cB cI cJ cZ cS cP A ad0 uN x.1 (some (.inl x.2))) args s mc ms A) (F0 m 195 ls []) := by
  intro u v0 v3 x hf hm ad ce sl hB H locs hP hD hS ls hl
  obtain ⟨hx, hb, hr, hml, ht, hown, hK, hA, hlocks, hA0, hO, hbs⟩ := id C0
  unfold fb_Ma_goOn_195 at hf
  refine lv_aload_n hx hb d_Ma_goOn_195 rfl (lv_at hl 0 rfl) ?_
  obtain ⟨r9, g9, hf⟩ := bo_some hf
  refine xg_I (i := v0) (k := 9) hx hb ht hown ck_Ma hK hP (by decide) fk_Ma_54 g9 d_Ma_goOn_196 ?_
  refine lv_if_eq (tgt := 206) hx hb d_Ma_goOn_199 (by decide) (fun hc => ?_) (fun hc => ?_)
  · rw [br_p _ hc] at hf
    exact wb_Ma_goOn_206 C0 hE N G hG _ _ _ _ hf hm _ _ _ hB H locs hP hD hS ls (lv_sub hl [0, 1] rfl)
  · rw [br_n _ hc] at hf
    refine lv_aload_n hx hb d_Ma_goOn_202 rfl (lv_at hl 0 rfl) ?_
    obtain ⟨hO9, hf⟩ := ck_some hf
    obtain ⟨hk10, hf⟩ := ck_some hf
    obtain ⟨u10, r10, hc10, hf⟩ := bx_some hf
    obtain ⟨hc10, hq10⟩ := gw_some hc10
    obtain ⟨hf, hw10⟩ := gw_some hf
    refine yV (i := v0) (As := []) (rest := []) C0 hP hD hS ck_Ma hO9 (c_Ma_raise N hE hc10 (gm hq10)) k_Ma_raise (wd_of 2038 (by decide +kernel) rfl) hi_Ma_raise hs_Ma_raise hini_Ma rfl rfl hd_Ma_raise rfl rm_Ma_goOn_Ma_raise hl.1 (Nat.le_of_ble_eq_true rfl) d_Ma_goOn_203 rfl (gm hq10) hB hm hw10 (fun ad10 H locs ce sl hg10 hB hP hD hS => ?_)
    have q10_0 : ad10 v0 = ad v0 := ko_O (k := 0) hk10 rfl hg10
    have hl : lv_has ls 5 [(0, .ref (ad10 v0)), (3, .int v3)] := by simp only [q10_0]; exact hl
    exact wb_Ma_goOn_206 C0 hE N G hG _ _ _ _ hf hm _ _ _ hB H locs hP hD hS ls (lv_sub hl [0, 1] rfl)
def fb_Ma_goOn_67 (N : Nat) (G : (CS → Nat → Int32 → Option (CS × Int32))) (u : CS) (v0 : Nat) (v3 : Int32) : Option (CS × Int32) := br (decide (1000000000 ≤ v3)) (fb_Ma_goOn_219 N G u (v0)) (bo (gR u v0 5 3) (fun r11 => bo r11 (fun j12 => bo (gI u j12 7 9) (fun r13 => br (decide (r13 = 0)) (bo (gI u v0 5 8) (fun r14 => br (decide (r14 = 0)) (bo (gR u v0 5 0) (fun r15 => bo (gI u v0 5 5) (fun r16 => bo r15 (fun j18 => ck (isO u j18 2) (bx (gz u (fm_Co_at N u j18 r16)) (fun u17 r17 => gw u17 (br (decide (r17 = 39)) (bo (gR u17 v0 5 0) (fun r27 => bo (gI u17 v0 5 5) (fun r28 => bo r27 (fun j30 => ck (isO u17 j30 2) (bx (gz u17 (fm_Co_at N u17 j30 (r28 + 1))) (fun u29 r29 => gw u29 (ck (isO u29 v0 5) (ck (List.all [some v0] (okR u29.1.1)) (bx (gw u29 (fm_Ma_predefined N u29 v0 r29)) (fun u31 r31 => gw u31 (fb_Ma_goOn_195 N G u31 (v0) (v3)))))))))))) (br (decide (r17 = 40)) (bo (gR u17 v0 5 0) (fun r22 => bo (gI u17 v0 5 5) (fun r23 => bo r22 (fun j25 => ck (isO u17 j25 2) (bx (gz u17 (fm_Co_at N u17 j25 (r23 + 1))) (fun u24 r24 => gw u24 (ck (isO u24 v0 5) (ck (List.all [some v0] (okR u24.1.1)) (bx (gw u24 (fm_Ma_toward N u24 v0 r24)) (fun u26 r26 => gw u26 (fb_Ma_goOn_195 N G u26 (v0) (v3)))))))))))) (br (decide (8 ≤ r17)) (br (decide (18 ≤ r17)) (ck (isO u17 v0 5) (ck (List.all [some v0] (okR u17.1.1)) (bx (gw u17 (fm_Ma_flow N u17 v0 r17)) (fun u19 r19 => gw u19 (fb_Ma_goOn_195 N G u19 (v0) (v3)))))) (ck (isO u17 v0 5) (ck (List.all [some v0] (okR u17.1.1)) (bx (gw u17 (fm_Ma_value N u17 v0 r17)) (fun u20 r20 => gw u20 (fb_Ma_goOn_195 N G u20 (v0) (v3))))))) (ck (isO u17 v0 5) (ck (List.all [some v0] (okR u17.1.1)) (bx (gw u17 (fm_Ma_making N u17 v0 r17)) (fun u21 r21 => gw u21 (fb_Ma_goOn_195 N G u21 (v0) (v3))))))))))))))) (fb_Ma_goOn_219 N G u (v0)))) (fb_Ma_goOn_219 N G u (v0))))))
set_option maxRecDepth 100000 in
set_option maxHeartbeats 4000000 in
theorem wb_Ma_goOn_67 {p : Program} {l : Launch} {e : Env} {s : State} {m : MethodId} {args : Array Value} {below : List Frame} {meth : Method} {c : Code} {s0 : State} {b0 : Nat} {D : va_G} {cB cI cJ cZ cS cP : ClassId} {A : Nat → Prop} {sk sv : Nat → Nat} {uN uS mc ms : Nat} {ad0 : Nat → Nat} (C0 : XCx p s s0 b0 m args meth c R_Ma b_Ma_goOn 5 (some .int) D cB cI cJ cZ cS cP A) (hE : ENV s0 b0 sk sv) (N : Nat) (G : (CS → Nat → Int32 → Option (CS × Int32))) (hG : (∀ (u : CS) (v0 : Nat) (v3 : Int32) (x : CS × Int32), G u v0 v3 = some x → (uN + mc = x.1.1.1 ∧ uS + ms = x.1.1.2) → ∀ (ad : Nat → Nat) (ce sl : Nat), AB uN uS ad0 u ad ce sl → ∀ (H : Heap) (locs : List Loc), va_P D cls (wC cB cI cJ cZ cS cP ad u) H → va_D A (wC cB cI cJ cZ cS cP ad u) → va_S A s.heap H locs → ∀ (ls : Array Slot), lv_has ls 5 [(0, .ref (ad v0)), (3, .int v3)] → W p l e (rm_Ma_goOn mc ms) s m args below meth c H locs ce sl (MQ below (xQ D cB cI cJ cZ cS cP A ad0 uN x.1 (some (.inl x.2))) args s mc ms A) (F0 m 67 ls []))) : ∀ (u : CS) (v0 : Nat) (v3 : Int32) (x : CS × Int32), fb_Ma_goOn_67 N G u v0 v3 = some x → (uN + mc = x.1.1.1 ∧ uS + ms = x.1.1.2) → ∀ (ad : Nat → Nat) (ce sl : Nat), AB uN uS ad0 u ad ce sl → ∀ (H : Heap) (locs : List Loc), va_P D cls (wC cB cI cJ cZ cS cP ad u) H → va_D A (wC cB cI cJ cZ cS cP ad u) → va_S A s.heap H locs → ∀ (ls : Array Slot), lv_has ls 5 [(0, .ref (ad v0)), (3, .int v3)] → W p l e (rm_Ma_goOn mc ms) s m args below meth c H locs ce sl (MQ below (xQ D cB cI cJ cZ cS cP A ad0 uN x.1 (some (.inl x.2))) args s mc ms A) (F0 m 67 ls []) := by
  intro u v0 v3 x hf hm ad ce sl hB H locs hP hD hS ls hl
  obtain ⟨hx, hb, hr, hml, ht, hown, hK, hA, hlocks, hA0, hO, hbs⟩ := id C0
  unfold fb_Ma_goOn_67 at hf
  refine lv_iload_n hx hb d_Ma_goOn_67 rfl (lv_at hl 1 rfl) ?_
  refine lv_ldc (v := 1000000000) hx hb hown (ht _ (wd_of 1643 (by decide +kernel) rfl)) d_Ma_goOn_68 ?_
  refine lv_icmp_ge (tgt := 219) hx hb d_Ma_goOn_70 (by decide) (fun hc => ?_) (fun hc => ?_)
  · rw [br_p _ hc] at hf
    exact wb_Ma_goOn_219 C0 hE N G hG _ _ _ hf hm _ _ _ hB H locs hP hD hS ls (lv_sub hl [0] rfl)
  · rw [br_n _ hc] at hf
    refine lv_aload_n hx hb d_Ma_goOn_73 rfl (lv_at hl 0 rfl) ?_
    obtain ⟨r11, g11, hf⟩ := bo_some hf
    refine xg_R (i := v0) (k := 3) hx hb ht hown ck_Ma hK hP (by decide) fk_Ma_23 g11 d_Ma_goOn_74 ?_
    obtain ⟨j12, ej12, hf⟩ := bo_some hf
    rw [ej12]
    obtain ⟨r13, g13, hf⟩ := bo_some hf
    refine xg_I (i := j12) (k := 9) hx hb ht hown ck_Pr hK hP (by decide) fk_Ma_60 g13 d_Ma_goOn_77 ?_
    refine lv_if_ne (tgt := 219) hx hb d_Ma_goOn_80 (by decide) (fun hc => ?_) (fun hc => ?_)
    · rw [br_n _ hc] at hf
      exact wb_Ma_goOn_219 C0 hE N G hG _ _ _ hf hm _ _ _ hB H locs hP hD hS ls (lv_sub hl [0] rfl)
    · rw [br_p _ hc] at hf
      refine lv_aload_n hx hb d_Ma_goOn_83 rfl (lv_at hl 0 rfl) ?_
      obtain ⟨r14, g14, hf⟩ := bo_some hf
      refine xg_I (i := v0) (k := 8) hx hb ht hown ck_Ma hK hP (by decide) fk_Ma_50 g14 d_Ma_goOn_84 ?_
      refine lv_if_ne (tgt := 219) hx hb d_Ma_goOn_87 (by decide) (fun hc => ?_) (fun hc => ?_)
      · rw [br_n _ hc] at hf
        exact wb_Ma_goOn_219 C0 hE N G hG _ _ _ hf hm _ _ _ hB H locs hP hD hS ls (lv_sub hl [0] rfl)
      · rw [br_p _ hc] at hf
        refine lv_aload_n hx hb d_Ma_goOn_90 rfl (lv_at hl 0 rfl) ?_
        obtain ⟨r15, g15, hf⟩ := bo_some hf
        refine xg_R (i := v0) (k := 0) hx hb ht hown ck_Ma hK hP (by decide) fk_Ma_9 g15 d_Ma_goOn_91 ?_
        refine lv_aload_n hx hb d_Ma_goOn_94 rfl (lv_at hl 0 rfl) ?_
        obtain ⟨r16, g16, hf⟩ := bo_some hf
        refine xg_I (i := v0) (k := 5) hx hb ht hown ck_Ma hK hP (by decide) fk_Ma_40 g16 d_Ma_goOn_95 ?_
        obtain ⟨j18, ej18, hf⟩ := bo_some hf
        rw [ej18]
        obtain ⟨hO9, hf⟩ := ck_some hf
        obtain ⟨u17, r17, hc17, hf⟩ := bx_some hf
        obtain ⟨hc17, hz17⟩ := gz_some hc17
        obtain ⟨hf, hw17⟩ := gw_some hf
        refine xV0 (i := j18) (As := [.int r16]) (rest := []) C0 hP hD hS ck_Co hO9 (c_Co_at N hc17) k_Co_at (wd_of 1644 (by decide +kernel) rfl) hi_Co_at hs_Co_at hini_Co rfl rfl hd_Co_at rfl rm_Ma_goOn_Co_at hl.1 (Nat.le_of_ble_eq_true rfl) d_Ma_goOn_98 rfl (hB.fit hm hz17 hw17) (fun H locs hP hD hS => ?_)
        have hB := hB.same2 hz17
        refine lv_istore (lv' := [(4, .int r17), (0, .ref (ad v0)), (3, .int v3)]) hx hb d_Ma_goOn_101 hl (by decide) (by first | rfl | simp [List.filter, cat_rf]) (fun ls hl => ?_)
        refine lv_iload hx hb d_Ma_goOn_103 (lv_at hl 0 rfl) ?_
        refine lv_bipush (v := 39) hx hb d_Ma_goOn_105 (by decide) ?_
        refine lv_icmp_ne (tgt := 130) hx hb d_Ma_goOn_107 (by decide) (fun hc => ?_) (fun hc => ?_)
        · rw [br_n _ hc] at hf
          refine lv_iload hx hb d_Ma_goOn_130 (lv_at hl 0 rfl) ?_
          refine lv_bipush (v := 40) hx hb d_Ma_goOn_132 (by decide) ?_
          refine lv_icmp_ne (tgt := 157) hx hb d_Ma_goOn_134 (by decide) (fun hc => ?_) (fun hc => ?_)
          · rw [br_n _ hc] at hf
            refine lv_iload hx hb d_Ma_goOn_157 (lv_at hl 0 rfl) ?_
            refine lv_bipush (v := 8) hx hb d_Ma_goOn_159 (by decide) ?_
            refine lv_icmp_ge (tgt := 173) hx hb d_Ma_goOn_161 (by decide) (fun hc => ?_) (fun hc => ?_)
            · rw [br_p _ hc] at hf
              refine lv_iload hx hb d_Ma_goOn_173 (lv_at hl 0 rfl) ?_
              refine lv_bipush (v := 18) hx hb d_Ma_goOn_175 (by decide) ?_
              refine lv_icmp_ge (tgt := 189) hx hb d_Ma_goOn_177 (by decide) (fun hc => ?_) (fun hc => ?_)
              · rw [br_p _ hc] at hf
                refine lv_aload_n hx hb d_Ma_goOn_189 rfl (lv_at hl 1 rfl) ?_
                refine lv_iload hx hb d_Ma_goOn_190 (lv_at hl 0 rfl) ?_
                obtain ⟨hO9, hf⟩ := ck_some hf
                obtain ⟨hk19, hf⟩ := ck_some hf
                obtain ⟨u19, r19, hc19, hf⟩ := bx_some hf
                obtain ⟨hc19, hq19⟩ := gw_some hc19
                obtain ⟨hf, hw19⟩ := gw_some hf
                refine yV (i := v0) (As := [.int r17]) (rest := []) C0 hP hD hS ck_Ma hO9 (c_Ma_flow N hE hc19 (gm hq19)) k_Ma_flow (wd_of 1951 (by decide +kernel) rfl) hi_Ma_flow hs_Ma_flow hini_Ma rfl rfl hd_Ma_flow rfl rm_Ma_goOn_Ma_flow hl.1 (Nat.le_of_ble_eq_true rfl) d_Ma_goOn_192 rfl (gm hq19) hB hm hw19 (fun ad19 H locs ce sl hg19 hB hP hD hS => ?_)
                have q19_0 : ad19 v0 = ad v0 := ko_O (k := 0) hk19 rfl hg19
                have hl : lv_has ls 5 [(4, .int r17), (0, .ref (ad19 v0)), (3, .int v3)] := by simp only [q19_0]; exact hl
                exact wb_Ma_goOn_195 C0 hE N G hG _ _ _ _ hf hm _ _ _ hB H locs hP hD hS ls (lv_sub hl [1, 2] rfl)
              · rw [br_n _ hc] at hf
                refine lv_aload_n hx hb d_Ma_goOn_180 rfl (lv_at hl 1 rfl) ?_
                refine lv_iload hx hb d_Ma_goOn_181 (lv_at hl 0 rfl) ?_
                obtain ⟨hO9, hf⟩ := ck_some hf
                obtain ⟨hk20, hf⟩ := ck_some hf
                obtain ⟨u20, r20, hc20, hf⟩ := bx_some hf
                obtain ⟨hc20, hq20⟩ := gw_some hc20
                obtain ⟨hf, hw20⟩ := gw_some hf
                refine yV (i := v0) (As := [.int r17]) (rest := []) C0 hP hD hS ck_Ma hO9 (c_Ma_value N hE hc20 (gm hq20)) k_Ma_value (wd_of 1885 (by decide +kernel) rfl) hi_Ma_value hs_Ma_value hini_Ma rfl rfl hd_Ma_value rfl rm_Ma_goOn_Ma_value hl.1 (Nat.le_of_ble_eq_true rfl) d_Ma_goOn_183 rfl (gm hq20) hB hm hw20 (fun ad20 H locs ce sl hg20 hB hP hD hS => ?_)
                have q20_0 : ad20 v0 = ad v0 := ko_O (k := 0) hk20 rfl hg20
                have hl : lv_has ls 5 [(4, .int r17), (0, .ref (ad20 v0)), (3, .int v3)] := by simp only [q20_0]; exact hl
                refine lv_goto (tgt := 195) hx hb d_Ma_goOn_186 (by decide) ?_
                exact wb_Ma_goOn_195 C0 hE N G hG _ _ _ _ hf hm _ _ _ hB H locs hP hD hS ls (lv_sub hl [1, 2] rfl)
            · rw [br_n _ hc] at hf
              refine lv_aload_n hx hb d_Ma_goOn_164 rfl (lv_at hl 1 rfl) ?_
              refine lv_iload hx hb d_Ma_goOn_165 (lv_at hl 0 rfl) ?_
              obtain ⟨hO9, hf⟩ := ck_some hf
              obtain ⟨hk21, hf⟩ := ck_some hf
              obtain ⟨u21, r21, hc21, hf⟩ := bx_some hf
              obtain ⟨hc21, hq21⟩ := gw_some hc21
              obtain ⟨hf, hw21⟩ := gw_some hf
              refine yV (i := v0) (As := [.int r17]) (rest := []) C0 hP hD hS ck_Ma hO9 (c_Ma_making N hE hc21 (gm hq21)) k_Ma_making (wd_of 1845 (by decide +kernel) rfl) hi_Ma_making hs_Ma_making hini_Ma rfl rfl hd_Ma_making rfl rm_Ma_goOn_Ma_making hl.1 (Nat.le_of_ble_eq_true rfl) d_Ma_goOn_167 rfl (gm hq21) hB hm hw21 (fun ad21 H locs ce sl hg21 hB hP hD hS => ?_)
              have q21_0 : ad21 v0 = ad v0 := ko_O (k := 0) hk21 rfl hg21
              have hl : lv_has ls 5 [(4, .int r17), (0, .ref (ad21 v0)), (3, .int v3)] := by simp only [q21_0]; exact hl
              refine lv_goto (tgt := 195) hx hb d_Ma_goOn_170 (by decide) ?_
              exact wb_Ma_goOn_195 C0 hE N G hG _ _ _ _ hf hm _ _ _ hB H locs hP hD hS ls (lv_sub hl [1, 2] rfl)
          · rw [br_p _ hc] at hf
            refine lv_aload_n hx hb d_Ma_goOn_137 rfl (lv_at hl 1 rfl) ?_
            refine lv_aload_n hx hb d_Ma_goOn_138 rfl (lv_at hl 1 rfl) ?_
            obtain ⟨r22, g22, hf⟩ := bo_some hf
            refine xg_R (i := v0) (k := 0) hx hb ht hown ck_Ma hK hP (by decide) fk_Ma_9 g22 d_Ma_goOn_139 ?_
            refine lv_aload_n hx hb d_Ma_goOn_142 rfl (lv_at hl 1 rfl) ?_
            obtain ⟨r23, g23, hf⟩ := bo_some hf
            refine xg_I (i := v0) (k := 5) hx hb ht hown ck_Ma hK hP (by decide) fk_Ma_40 g23 d_Ma_goOn_143 ?_
            refine lv_iconst (v := 1) hx hb d_Ma_goOn_146 (by decide) ?_
            refine lv_iadd hx hb d_Ma_goOn_147 ?_
            obtain ⟨j25, ej25, hf⟩ := bo_some hf
            rw [ej25]
            obtain ⟨hO9, hf⟩ := ck_some hf
            obtain ⟨u24, r24, hc24, hf⟩ := bx_some hf
            obtain ⟨hc24, hz24⟩ := gz_some hc24
            obtain ⟨hf, hw24⟩ := gw_some hf
            refine xV0 (i := j25) (As := [.int (r23 + 1)]) (rest := [.ref (ad v0)]) C0 hP hD hS ck_Co hO9 (c_Co_at N hc24) k_Co_at (wd_of 1644 (by decide +kernel) rfl) hi_Co_at hs_Co_at hini_Co rfl rfl hd_Co_at rfl rm_Ma_goOn_Co_at hl.1 (Nat.le_of_ble_eq_true rfl) d_Ma_goOn_148 rfl (hB.fit hm hz24 hw24) (fun H locs hP hD hS => ?_)
            have hB := hB.same2 hz24
            obtain ⟨hO9, hf⟩ := ck_some hf
            obtain ⟨hk26, hf⟩ := ck_some hf
            obtain ⟨u26, r26, hc26, hf⟩ := bx_some hf
            obtain ⟨hc26, hq26⟩ := gw_some hc26
            obtain ⟨hf, hw26⟩ := gw_some hf
            refine yV (i := v0) (As := [.int r24]) (rest := []) C0 hP hD hS ck_Ma hO9 (c_Ma_toward N hE hc26 (gm hq26)) k_Ma_toward (wd_of 1802 (by decide +kernel) rfl) hi_Ma_toward hs_Ma_toward hini_Ma rfl rfl hd_Ma_toward rfl rm_Ma_goOn_Ma_toward hl.1 (Nat.le_of_ble_eq_true rfl) d_Ma_goOn_151 rfl (gm hq26) hB hm hw26 (fun ad26 H locs ce sl hg26 hB hP hD hS => ?_)
            have q26_0 : ad26 v0 = ad v0 := ko_O (k := 0) hk26 rfl hg26
            have hl : lv_has ls 5 [(4, .int r17), (0, .ref (ad26 v0)), (3, .int v3)] := by simp only [q26_0]; exact hl
            refine lv_goto (tgt := 195) hx hb d_Ma_goOn_154 (by decide) ?_
            exact wb_Ma_goOn_195 C0 hE N G hG _ _ _ _ hf hm _ _ _ hB H locs hP hD hS ls (lv_sub hl [1, 2] rfl)
        · rw [br_p _ hc] at hf
          refine lv_aload_n hx hb d_Ma_goOn_110 rfl (lv_at hl 1 rfl) ?_
          refine lv_aload_n hx hb d_Ma_goOn_111 rfl (lv_at hl 1 rfl) ?_
          obtain ⟨r27, g27, hf⟩ := bo_some hf
          refine xg_R (i := v0) (k := 0) hx hb ht hown ck_Ma hK hP (by decide) fk_Ma_9 g27 d_Ma_goOn_112 ?_
          refine lv_aload_n hx hb d_Ma_goOn_115 rfl (lv_at hl 1 rfl) ?_
          obtain ⟨r28, g28, hf⟩ := bo_some hf
          refine xg_I (i := v0) (k := 5) hx hb ht hown ck_Ma hK hP (by decide) fk_Ma_40 g28 d_Ma_goOn_116 ?_
          refine lv_iconst (v := 1) hx hb d_Ma_goOn_119 (by decide) ?_
          refine lv_iadd hx hb d_Ma_goOn_120 ?_
          obtain ⟨j30, ej30, hf⟩ := bo_some hf
          rw [ej30]
          obtain ⟨hO9, hf⟩ := ck_some hf
          obtain ⟨u29, r29, hc29, hf⟩ := bx_some hf
          obtain ⟨hc29, hz29⟩ := gz_some hc29
          obtain ⟨hf, hw29⟩ := gw_some hf
          refine xV0 (i := j30) (As := [.int (r28 + 1)]) (rest := [.ref (ad v0)]) C0 hP hD hS ck_Co hO9 (c_Co_at N hc29) k_Co_at (wd_of 1644 (by decide +kernel) rfl) hi_Co_at hs_Co_at hini_Co rfl rfl hd_Co_at rfl rm_Ma_goOn_Co_at hl.1 (Nat.le_of_ble_eq_true rfl) d_Ma_goOn_121 rfl (hB.fit hm hz29 hw29) (fun H locs hP hD hS => ?_)
          have hB := hB.same2 hz29
          obtain ⟨hO9, hf⟩ := ck_some hf
          obtain ⟨hk31, hf⟩ := ck_some hf
          obtain ⟨u31, r31, hc31, hf⟩ := bx_some hf
          obtain ⟨hc31, hq31⟩ := gw_some hc31
          obtain ⟨hf, hw31⟩ := gw_some hf
          refine yV (i := v0) (As := [.int r29]) (rest := []) C0 hP hD hS ck_Ma hO9 (c_Ma_predefined N hE hc31 (gm hq31)) k_Ma_predefined (wd_of 1645 (by decide +kernel) rfl) hi_Ma_predefined hs_Ma_predefined hini_Ma rfl rfl hd_Ma_predefined rfl rm_Ma_goOn_Ma_predefined hl.1 (Nat.le_of_ble_eq_true rfl) d_Ma_goOn_124 rfl (gm hq31) hB hm hw31 (fun ad31 H locs ce sl hg31 hB hP hD hS => ?_)
          have q31_0 : ad31 v0 = ad v0 := ko_O (k := 0) hk31 rfl hg31
          have hl : lv_has ls 5 [(4, .int r17), (0, .ref (ad31 v0)), (3, .int v3)] := by simp only [q31_0]; exact hl
          refine lv_goto (tgt := 195) hx hb d_Ma_goOn_127 (by decide) ?_
          exact wb_Ma_goOn_195 C0 hE N G hG _ _ _ _ hf hm _ _ _ hB H locs hP hD hS ls (lv_sub hl [1, 2] rfl)
def fb_Ma_goOn_0 (N : Nat) (G : (CS → Nat → Int32 → Option (CS × Int32))) (u : CS) (v0 : Nat) (v1 : Option Nat) (v2 : Int32) : Option (CS × Int32) := bo (pF u v0 5 3 (.inr (.inr v1))) (fun w32 => bo v1 (fun j33 => bo (gR w32 j33 7 1) (fun r34 => bo (pF w32 v0 5 4 (.inr (.inr r34))) (fun w35 => bo (gR w35 v0 5 4) (fun r36 => bo r36 (fun j38 => ck (isO w35 j38 4) (bx (gz w35 (fm_Fr_place N w35 j38)) (fun u37 r37 => gw u37 (bo (pF u37 v0 5 5 (.inl r37)) (fun w39 => bo (pF w39 v0 5 6 (.inl 0)) (fun w40 => bo (pF w40 v0 5 7 (.inl v2)) (fun w41 => bo (pF w41 v0 5 8 (.inl 0)) (fun w42 => bo (pF w42 v0 5 9 (.inl 0)) (fun w43 => bo (pF w43 v0 5 12 (.inl 0)) (fun w44 => bo (gR w44 v0 5 3) (fun r45 => bo r45 (fun j46 => bo (pF w44 j46 7 9 (.inl 0)) (fun w47 => bo (gR w47 v0 5 4) (fun r48 => bo r48 (fun j49 => bo (pF w47 j49 4 9 (.inl 0)) (fun w50 => G w50 (v0) (0))))))))))))))))))))))
set_option maxRecDepth 100000 in
set_option maxHeartbeats 4000000 in
theorem wb_Ma_goOn_0 {p : Program} {l : Launch} {e : Env} {s : State} {m : MethodId} {args : Array Value} {below : List Frame} {meth : Method} {c : Code} {s0 : State} {b0 : Nat} {D : va_G} {cB cI cJ cZ cS cP : ClassId} {A : Nat → Prop} {sk sv : Nat → Nat} {uN uS mc ms : Nat} {ad0 : Nat → Nat} (C0 : XCx p s s0 b0 m args meth c R_Ma b_Ma_goOn 5 (some .int) D cB cI cJ cZ cS cP A) (hE : ENV s0 b0 sk sv) (N : Nat) (G : (CS → Nat → Int32 → Option (CS × Int32))) (hG : (∀ (u : CS) (v0 : Nat) (v3 : Int32) (x : CS × Int32), G u v0 v3 = some x → (uN + mc = x.1.1.1 ∧ uS + ms = x.1.1.2) → ∀ (ad : Nat → Nat) (ce sl : Nat), AB uN uS ad0 u ad ce sl → ∀ (H : Heap) (locs : List Loc), va_P D cls (wC cB cI cJ cZ cS cP ad u) H → va_D A (wC cB cI cJ cZ cS cP ad u) → va_S A s.heap H locs → ∀ (ls : Array Slot), lv_has ls 5 [(0, .ref (ad v0)), (3, .int v3)] → W p l e (rm_Ma_goOn mc ms) s m args below meth c H locs ce sl (MQ below (xQ D cB cI cJ cZ cS cP A ad0 uN x.1 (some (.inl x.2))) args s mc ms A) (F0 m 67 ls []))) : ∀ (u : CS) (v0 : Nat) (v1 : Option Nat) (v2 : Int32) (x : CS × Int32), fb_Ma_goOn_0 N G u v0 v1 v2 = some x → (uN + mc = x.1.1.1 ∧ uS + ms = x.1.1.2) → ∀ (ad : Nat → Nat) (ce sl : Nat), AB uN uS ad0 u ad ce sl → ∀ (H : Heap) (locs : List Loc), va_P D cls (wC cB cI cJ cZ cS cP ad u) H → va_D A (wC cB cI cJ cZ cS cP ad u) → va_S A s.heap H locs → ∀ (ls : Array Slot), lv_has ls 5 [(0, .ref (ad v0)), (1, va_rf (Option.map ad v1)), (2, .int v2)] → W p l e (rm_Ma_goOn mc ms) s m args below meth c H locs ce sl (MQ below (xQ D cB cI cJ cZ cS cP A ad0 uN x.1 (some (.inl x.2))) args s mc ms A) (F0 m 0 ls []) := by
  intro u v0 v1 v2 x hf hm ad ce sl hB H locs hP hD hS ls hl
  obtain ⟨hx, hb, hr, hml, ht, hown, hK, hA, hlocks, hA0, hO, hbs⟩ := id C0
  unfold fb_Ma_goOn_0 at hf
  refine lv_aload_n hx hb d_Ma_goOn_0 rfl (lv_at hl 0 rfl) ?_
  refine x_aload_n hx hb d_Ma_goOn_1 rfl (lv_at hl 1 rfl) ?_
  obtain ⟨w32, g32, hf⟩ := bo_some hf
  refine xp (i := v0) (k := 3) (v := (.inr (.inr v1))) hx hb ht hown ck_Ma hK hP hD hS (by decide) fk_Ma_23 rfl g32 (show narrow (.object "MailHouse$Process") (va_rf _) = va_rf _ from nr_obj _ _) (show fits (.object "MailHouse$Process") (va_rf _) = true from ft_obj _ _) d_Ma_goOn_2 (fun H locs hP hD hS => ?_)
  have hB := hB.same (pF_c g32)
  refine lv_aload_n hx hb d_Ma_goOn_5 rfl (lv_at hl 0 rfl) ?_
  refine x_aload_n hx hb d_Ma_goOn_6 rfl (lv_at hl 1 rfl) ?_
  obtain ⟨j33, ej33, hf⟩ := bo_some hf
  rw [ej33]
  obtain ⟨r34, g34, hf⟩ := bo_some hf
  refine xg_R (i := j33) (k := 1) hx hb ht hown ck_Pr hK hP (by decide) fk_Ma_27 g34 d_Ma_goOn_7 ?_
  obtain ⟨w35, g35, hf⟩ := bo_some hf
  refine xp (i := v0) (k := 4) (v := (.inr (.inr r34))) hx hb ht hown ck_Ma hK hP hD hS (by decide) fk_Ma_33 rfl g35 (show narrow (.object "MailHouse$Frames") (va_rf _) = va_rf _ from nr_obj _ _) (show fits (.object "MailHouse$Frames") (va_rf _) = true from ft_obj _ _) d_Ma_goOn_10 (fun H locs hP hD hS => ?_)
  have hB := hB.same (pF_c g35)
  refine lv_aload_n hx hb d_Ma_goOn_13 rfl (lv_at hl 0 rfl) ?_
  refine lv_aload_n hx hb d_Ma_goOn_14 rfl (lv_at hl 0 rfl) ?_
  obtain ⟨r36, g36, hf⟩ := bo_some hf
  refine xg_R (i := v0) (k := 4) hx hb ht hown ck_Ma hK hP (by decide) fk_Ma_33 g36 d_Ma_goOn_15 ?_
  obtain ⟨j38, ej38, hf⟩ := bo_some hf
  rw [ej38]
  obtain ⟨hO9, hf⟩ := ck_some hf
  obtain ⟨u37, r37, hc37, hf⟩ := bx_some hf
  obtain ⟨hc37, hz37⟩ := gz_some hc37
  obtain ⟨hf, hw37⟩ := gw_some hf
  refine xV0 (i := j38) (As := []) (rest := [.ref (ad v0)]) C0 hP hD hS ck_Fr hO9 (c_Fr_place N hc37) k_Fr_place (wd_of 1639 (by decide +kernel) rfl) hi_Fr_place hs_Fr_place hini_Fr rfl rfl hd_Fr_place rfl rm_Ma_goOn_Fr_place hl.1 (Nat.le_of_ble_eq_true rfl) d_Ma_goOn_18 rfl (hB.fit hm hz37 hw37) (fun H locs hP hD hS => ?_)
  have hB := hB.same2 hz37
  obtain ⟨w39, g39, hf⟩ := bo_some hf
  refine xp (i := v0) (k := 5) (v := (.inl r37)) hx hb ht hown ck_Ma hK hP hD hS (by decide) fk_Ma_40 rfl g39 rfl rfl d_Ma_goOn_21 (fun H locs hP hD hS => ?_)
  have hB := hB.same (pF_c g39)
  refine lv_aload_n hx hb d_Ma_goOn_24 rfl (lv_at hl 0 rfl) ?_
  refine lv_iconst (v := 0) hx hb d_Ma_goOn_25 (by decide) ?_
  obtain ⟨w40, g40, hf⟩ := bo_some hf
  refine xp (i := v0) (k := 6) (v := (.inl 0)) hx hb ht hown ck_Ma hK hP hD hS (by decide) fk_Ma_44 rfl g40 rfl rfl d_Ma_goOn_26 (fun H locs hP hD hS => ?_)
  have hB := hB.same (pF_c g40)
  refine lv_aload_n hx hb d_Ma_goOn_29 rfl (lv_at hl 0 rfl) ?_
  refine lv_iload_n hx hb d_Ma_goOn_30 rfl (lv_at hl 2 rfl) ?_
  obtain ⟨w41, g41, hf⟩ := bo_some hf
  refine xp (i := v0) (k := 7) (v := (.inl v2)) hx hb ht hown ck_Ma hK hP hD hS (by decide) fk_Ma_47 rfl g41 rfl rfl d_Ma_goOn_31 (fun H locs hP hD hS => ?_)
  have hB := hB.same (pF_c g41)
  refine lv_aload_n hx hb d_Ma_goOn_34 rfl (lv_at hl 0 rfl) ?_
  refine lv_iconst (v := 0) hx hb d_Ma_goOn_35 (by decide) ?_
  obtain ⟨w42, g42, hf⟩ := bo_some hf
  refine xp (i := v0) (k := 8) (v := (.inl 0)) hx hb ht hown ck_Ma hK hP hD hS (by decide) fk_Ma_50 rfl g42 rfl rfl d_Ma_goOn_36 (fun H locs hP hD hS => ?_)
  have hB := hB.same (pF_c g42)
  refine lv_aload_n hx hb d_Ma_goOn_39 rfl (lv_at hl 0 rfl) ?_
  refine lv_iconst (v := 0) hx hb d_Ma_goOn_40 (by decide) ?_
  obtain ⟨w43, g43, hf⟩ := bo_some hf
  refine xp (i := v0) (k := 9) (v := (.inl 0)) hx hb ht hown ck_Ma hK hP hD hS (by decide) fk_Ma_54 rfl g43 rfl rfl d_Ma_goOn_41 (fun H locs hP hD hS => ?_)
  have hB := hB.same (pF_c g43)
  refine lv_aload_n hx hb d_Ma_goOn_44 rfl (lv_at hl 0 rfl) ?_
  refine lv_iconst (v := 0) hx hb d_Ma_goOn_45 (by decide) ?_
  obtain ⟨w44, g44, hf⟩ := bo_some hf
  refine xp (i := v0) (k := 12) (v := (.inl 0)) hx hb ht hown ck_Ma hK hP hD hS (by decide) fk_Ma_57 rfl g44 rfl rfl d_Ma_goOn_46 (fun H locs hP hD hS => ?_)
  have hB := hB.same (pF_c g44)
  refine lv_aload_n hx hb d_Ma_goOn_49 rfl (lv_at hl 0 rfl) ?_
  obtain ⟨r45, g45, hf⟩ := bo_some hf
  refine xg_R (i := v0) (k := 3) hx hb ht hown ck_Ma hK hP (by decide) fk_Ma_23 g45 d_Ma_goOn_50 ?_
  refine lv_iconst (v := 0) hx hb d_Ma_goOn_53 (by decide) ?_
  obtain ⟨j46, ej46, hf⟩ := bo_some hf
  rw [ej46]
  obtain ⟨w47, g47, hf⟩ := bo_some hf
  refine xp (i := j46) (k := 9) (v := (.inl 0)) hx hb ht hown ck_Pr hK hP hD hS (by decide) fk_Ma_60 rfl g47 rfl rfl d_Ma_goOn_54 (fun H locs hP hD hS => ?_)
  have hB := hB.same (pF_c g47)
  refine lv_aload_n hx hb d_Ma_goOn_57 rfl (lv_at hl 0 rfl) ?_
  obtain ⟨r48, g48, hf⟩ := bo_some hf
  refine xg_R (i := v0) (k := 4) hx hb ht hown ck_Ma hK hP (by decide) fk_Ma_33 g48 d_Ma_goOn_58 ?_
  refine lv_iconst (v := 0) hx hb d_Ma_goOn_61 (by decide) ?_
  obtain ⟨j49, ej49, hf⟩ := bo_some hf
  rw [ej49]
  obtain ⟨w50, g50, hf⟩ := bo_some hf
  refine xp (i := j49) (k := 9) (v := (.inl 0)) hx hb ht hown ck_Fr hK hP hD hS (by decide) fk_Ma_63 rfl g50 rfl rfl d_Ma_goOn_62 (fun H locs hP hD hS => ?_)
  have hB := hB.same (pF_c g50)
  refine lv_iconst (v := 0) hx hb d_Ma_goOn_65 (by decide) ?_
  refine lv_istore_n (lv' := [(3, .int 0), (0, .ref (ad v0)), (1, va_rf (Option.map ad v1)), (2, .int v2)]) hx hb d_Ma_goOn_66 rfl hl (by decide) (by first | rfl | simp [List.filter, cat_rf]) (fun ls hl => ?_)
  exact hG _ _ _ _ hf hm _ _ _ hB H locs hP hD hS ls (lv_sub hl [1, 0] rfl)
def gg_Ma_goOn (N : Nat) : Nat → ((CS → Nat → Int32 → Option (CS × Int32)))
  | 0 => fun _ _ _ => none
  | n + 1 => fb_Ma_goOn_67 N (gg_Ma_goOn N n)
theorem wg_Ma_goOn {p : Program} {l : Launch} {e : Env} {s : State} {m : MethodId} {args : Array Value} {below : List Frame} {meth : Method} {c : Code} {s0 : State} {b0 : Nat} {D : va_G} {cB cI cJ cZ cS cP : ClassId} {A : Nat → Prop} {sk sv : Nat → Nat} {uN uS mc ms : Nat} {ad0 : Nat → Nat} (C0 : XCx p s s0 b0 m args meth c R_Ma b_Ma_goOn 5 (some .int) D cB cI cJ cZ cS cP A) (hE : ENV s0 b0 sk sv) (N : Nat) : ∀ n : Nat, (∀ (u : CS) (v0 : Nat) (v3 : Int32) (x : CS × Int32), gg_Ma_goOn N n u v0 v3 = some x → (uN + mc = x.1.1.1 ∧ uS + ms = x.1.1.2) → ∀ (ad : Nat → Nat) (ce sl : Nat), AB uN uS ad0 u ad ce sl → ∀ (H : Heap) (locs : List Loc), va_P D cls (wC cB cI cJ cZ cS cP ad u) H → va_D A (wC cB cI cJ cZ cS cP ad u) → va_S A s.heap H locs → ∀ (ls : Array Slot), lv_has ls 5 [(0, .ref (ad v0)), (3, .int v3)] → W p l e (rm_Ma_goOn mc ms) s m args below meth c H locs ce sl (MQ below (xQ D cB cI cJ cZ cS cP A ad0 uN x.1 (some (.inl x.2))) args s mc ms A) (F0 m 67 ls []))
  | 0 => (fun u v0 v3 x hf => by cases hf)
  | n + 1 => wb_Ma_goOn_67 C0 hE N (gg_Ma_goOn N n) (wg_Ma_goOn C0 hE N n)
def fm_Ma_goOn (N : Nat) (u : CS) (v0 : Nat) (v1 : Option Nat) (v2 : Int32) : Option (CS × Int32) := fb_Ma_goOn_0 N (gg_Ma_goOn N N) u v0 v1 v2
set_option maxRecDepth 100000 in
set_option maxHeartbeats 4000000 in
theorem c_Ma_goOn (N : Nat) {l : Launch} {s0 : State} {b0 : Nat} {D : va_G} {cB cI cJ cZ cS cP : ClassId} {sk sv : Nat → Nat} {ad : Nat → Nat} {u : CS} {sz mc ms : Nat} {v0 : Nat} {v1 : Option Nat} {v2 : Int32} {x : CS × Int32} (hE : ENV s0 b0 sk sv) (hf : fm_Ma_goOn N u v0 v1 v2 = some x) (hm : u.1.1 + mc = x.1.1.1 ∧ u.1.2 + ms = x.1.1.2) : Met l y_Ma_goOn (wd_ws y_Ma_goOn b_Ma_goOn 5 (some .int)) (rm_Ma_goOn mc ms) (xPc s0 b0 D cB cI cJ cZ cS cP ad u sz [.ref (ad v0), va_rf (Option.map ad v1), .int v2]) (xQ D cB cI cJ cZ cS cP (xA cB cI cJ cZ cS cP ad u sz) ad u.1.1 x.1 (some (.inl x.2))) mc ms (xA cB cI cJ cZ cS cP ad u sz) :=
  xMet (by decide) rfl (by cases v1 <;> exact Nat.le_of_ble_eq_true rfl) (fun p e s m below meth c ls hsz hnm C0 hP hD hS hl =>
    wb_Ma_goOn_0 C0 hE N (gg_Ma_goOn N N) (wg_Ma_goOn C0 hE N N) u _ _ _ x hf hm ad 0 0 ⟨rfl, rfl, fun _ _ => rfl⟩ s.heap [] hP hD hS ls (by rw [show lv_args 0 [.ref (ad v0), va_rf (Option.map ad v1), .int v2] = [(0, .ref (ad v0)), (1, va_rf (Option.map ad v1)), (2, .int v2)] from by cases v1 <;> rfl] at hl; exact lv_sub hl [0, 1, 2] rfl))
