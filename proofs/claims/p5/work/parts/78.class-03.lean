abbrev b_Cm_oneFunction : ByteArray := prog_3_method_5_code
def y_Cm_oneFunction : MethodName := ⟨R_Cm, "oneFunction", "(I)V"⟩
def w_Cm_oneFunction : List Cond := wd_ws y_Cm_oneFunction b_Cm_oneFunction 6 none
set_option maxRecDepth 100000 in
theorem k_Cm_oneFunction : Cond.code y_Cm_oneFunction b_Cm_oneFunction 6 none ∈ wd_tbl := wd_of 1118 rfl rfl
theorem d_Cm_oneFunction_0 : decode b_Cm_oneFunction 0 = .ok (.aload_n 0, 1) := by decide +kernel
theorem d_Cm_oneFunction_1 : decode b_Cm_oneFunction 1 = .ok (.getfield 39, 3) := by decide +kernel
theorem d_Cm_oneFunction_4 : decode b_Cm_oneFunction 4 = .ok (.getfield 93, 3) := by decide +kernel
theorem d_Cm_oneFunction_7 : decode b_Cm_oneFunction 7 = .ok (.aload_n 0, 1) := by decide +kernel
theorem d_Cm_oneFunction_8 : decode b_Cm_oneFunction 8 = .ok (.getfield 43, 3) := by decide +kernel
theorem d_Cm_oneFunction_11 : decode b_Cm_oneFunction 11 = .ok (.getfield 98, 3) := by decide +kernel
theorem d_Cm_oneFunction_14 : decode b_Cm_oneFunction 14 = .ok (.iload_n 1, 1) := by decide +kernel
theorem d_Cm_oneFunction_15 : decode b_Cm_oneFunction 15 = .ok (.iaload, 1) := by decide +kernel
theorem d_Cm_oneFunction_16 : decode b_Cm_oneFunction 16 = .ok (.iaload, 1) := by decide +kernel
theorem d_Cm_oneFunction_17 : decode b_Cm_oneFunction 17 = .ok (.istore_n 2, 1) := by decide +kernel
theorem d_Cm_oneFunction_18 : decode b_Cm_oneFunction 18 = .ok (.aload_n 0, 1) := by decide +kernel
theorem d_Cm_oneFunction_19 : decode b_Cm_oneFunction 19 = .ok (.getfield 43, 3) := by decide +kernel
theorem d_Cm_oneFunction_22 : decode b_Cm_oneFunction 22 = .ok (.aload_n 0, 1) := by decide +kernel
theorem d_Cm_oneFunction_23 : decode b_Cm_oneFunction 23 = .ok (.getfield 43, 3) := by decide +kernel
theorem d_Cm_oneFunction_26 : decode b_Cm_oneFunction 26 = .ok (.getfield 101, 3) := by decide +kernel
theorem d_Cm_oneFunction_29 : decode b_Cm_oneFunction 29 = .ok (.iload_n 1, 1) := by decide +kernel
theorem d_Cm_oneFunction_30 : decode b_Cm_oneFunction 30 = .ok (.iaload, 1) := by decide +kernel
theorem d_Cm_oneFunction_31 : decode b_Cm_oneFunction 31 = .ok (.aload_n 0, 1) := by decide +kernel
theorem d_Cm_oneFunction_32 : decode b_Cm_oneFunction 32 = .ok (.getfield 43, 3) := by decide +kernel
theorem d_Cm_oneFunction_35 : decode b_Cm_oneFunction 35 = .ok (.getfield 104, 3) := by decide +kernel
theorem d_Cm_oneFunction_38 : decode b_Cm_oneFunction 38 = .ok (.iload_n 1, 1) := by decide +kernel
theorem d_Cm_oneFunction_39 : decode b_Cm_oneFunction 39 = .ok (.iaload, 1) := by decide +kernel
theorem d_Cm_oneFunction_40 : decode b_Cm_oneFunction 40 = .ok (.invokevirtual 107, 3) := by decide +kernel
theorem d_Cm_oneFunction_43 : decode b_Cm_oneFunction 43 = .ok (.iload_n 1, 1) := by decide +kernel
theorem d_Cm_oneFunction_44 : decode b_Cm_oneFunction 44 = .ok (.if_icmp .ne 29, 3) := by decide +kernel
theorem d_Cm_oneFunction_47 : decode b_Cm_oneFunction 47 = .ok (.aload_n 0, 1) := by decide +kernel
theorem d_Cm_oneFunction_48 : decode b_Cm_oneFunction 48 = .ok (.aload_n 0, 1) := by decide +kernel
theorem d_Cm_oneFunction_49 : decode b_Cm_oneFunction 49 = .ok (.getfield 43, 3) := by decide +kernel
theorem d_Cm_oneFunction_52 : decode b_Cm_oneFunction 52 = .ok (.getfield 101, 3) := by decide +kernel
theorem d_Cm_oneFunction_55 : decode b_Cm_oneFunction 55 = .ok (.iload_n 1, 1) := by decide +kernel
theorem d_Cm_oneFunction_56 : decode b_Cm_oneFunction 56 = .ok (.iaload, 1) := by decide +kernel
theorem d_Cm_oneFunction_57 : decode b_Cm_oneFunction 57 = .ok (.aload_n 0, 1) := by decide +kernel
theorem d_Cm_oneFunction_58 : decode b_Cm_oneFunction 58 = .ok (.getfield 43, 3) := by decide +kernel
theorem d_Cm_oneFunction_61 : decode b_Cm_oneFunction 61 = .ok (.getfield 104, 3) := by decide +kernel
theorem d_Cm_oneFunction_64 : decode b_Cm_oneFunction 64 = .ok (.iload_n 1, 1) := by decide +kernel
theorem d_Cm_oneFunction_65 : decode b_Cm_oneFunction 65 = .ok (.iaload, 1) := by decide +kernel
theorem d_Cm_oneFunction_66 : decode b_Cm_oneFunction 66 = .ok (.invokevirtual 110, 3) := by decide +kernel
theorem d_Cm_oneFunction_69 : decode b_Cm_oneFunction 69 = .ok (.iconst (-1), 1) := by decide +kernel
theorem d_Cm_oneFunction_70 : decode b_Cm_oneFunction 70 = .ok (.if_icmp .eq 9, 3) := by decide +kernel
theorem d_Cm_oneFunction_73 : decode b_Cm_oneFunction 73 = .ok (.aload_n 0, 1) := by decide +kernel
theorem d_Cm_oneFunction_74 : decode b_Cm_oneFunction 74 = .ok (.iload_n 2, 1) := by decide +kernel
theorem d_Cm_oneFunction_75 : decode b_Cm_oneFunction 75 = .ok (.iconst 4, 1) := by decide +kernel
theorem d_Cm_oneFunction_76 : decode b_Cm_oneFunction 76 = .ok (.invokevirtual 89, 3) := by decide +kernel
theorem d_Cm_oneFunction_79 : decode b_Cm_oneFunction 79 = .ok (.aload_n 0, 1) := by decide +kernel
theorem d_Cm_oneFunction_80 : decode b_Cm_oneFunction 80 = .ok (.iconst 0, 1) := by decide +kernel
theorem d_Cm_oneFunction_81 : decode b_Cm_oneFunction 81 = .ok (.putfield 113, 3) := by decide +kernel
theorem d_Cm_oneFunction_84 : decode b_Cm_oneFunction 84 = .ok (.aload_n 0, 1) := by decide +kernel
theorem d_Cm_oneFunction_85 : decode b_Cm_oneFunction 85 = .ok (.iconst 0, 1) := by decide +kernel
theorem d_Cm_oneFunction_86 : decode b_Cm_oneFunction 86 = .ok (.putfield 116, 3) := by decide +kernel
theorem d_Cm_oneFunction_89 : decode b_Cm_oneFunction 89 = .ok (.aload_n 0, 1) := by decide +kernel
theorem d_Cm_oneFunction_90 : decode b_Cm_oneFunction 90 = .ok (.getfield 26, 3) := by decide +kernel
theorem d_Cm_oneFunction_93 : decode b_Cm_oneFunction 93 = .ok (.iconst 0, 1) := by decide +kernel
theorem d_Cm_oneFunction_94 : decode b_Cm_oneFunction 94 = .ok (.iconst 0, 1) := by decide +kernel
theorem d_Cm_oneFunction_95 : decode b_Cm_oneFunction 95 = .ok (.iastore, 1) := by decide +kernel
theorem d_Cm_oneFunction_96 : decode b_Cm_oneFunction 96 = .ok (.aload_n 0, 1) := by decide +kernel
theorem d_Cm_oneFunction_97 : decode b_Cm_oneFunction 97 = .ok (.getfield 29, 3) := by decide +kernel
theorem d_Cm_oneFunction_100 : decode b_Cm_oneFunction 100 = .ok (.iconst 0, 1) := by decide +kernel
theorem d_Cm_oneFunction_101 : decode b_Cm_oneFunction 101 = .ok (.iconst 0, 1) := by decide +kernel
theorem d_Cm_oneFunction_102 : decode b_Cm_oneFunction 102 = .ok (.iastore, 1) := by decide +kernel
theorem d_Cm_oneFunction_103 : decode b_Cm_oneFunction 103 = .ok (.aload_n 0, 1) := by decide +kernel
theorem d_Cm_oneFunction_104 : decode b_Cm_oneFunction 104 = .ok (.getfield 43, 3) := by decide +kernel
theorem d_Cm_oneFunction_107 : decode b_Cm_oneFunction 107 = .ok (.getfield 119, 3) := by decide +kernel
theorem d_Cm_oneFunction_110 : decode b_Cm_oneFunction 110 = .ok (.iload_n 1, 1) := by decide +kernel
theorem d_Cm_oneFunction_111 : decode b_Cm_oneFunction 111 = .ok (.aload_n 0, 1) := by decide +kernel
theorem d_Cm_oneFunction_112 : decode b_Cm_oneFunction 112 = .ok (.getfield 43, 3) := by decide +kernel
theorem d_Cm_oneFunction_115 : decode b_Cm_oneFunction 115 = .ok (.getfield 122, 3) := by decide +kernel
theorem d_Cm_oneFunction_118 : decode b_Cm_oneFunction 118 = .ok (.iastore, 1) := by decide +kernel
theorem d_Cm_oneFunction_119 : decode b_Cm_oneFunction 119 = .ok (.aload_n 0, 1) := by decide +kernel
theorem d_Cm_oneFunction_120 : decode b_Cm_oneFunction 120 = .ok (.getfield 43, 3) := by decide +kernel
theorem d_Cm_oneFunction_123 : decode b_Cm_oneFunction 123 = .ok (.getfield 98, 3) := by decide +kernel
theorem d_Cm_oneFunction_126 : decode b_Cm_oneFunction 126 = .ok (.iload_n 1, 1) := by decide +kernel
theorem d_Cm_oneFunction_127 : decode b_Cm_oneFunction 127 = .ok (.iaload, 1) := by decide +kernel
theorem d_Cm_oneFunction_128 : decode b_Cm_oneFunction 128 = .ok (.istore_n 3, 1) := by decide +kernel
theorem d_Cm_oneFunction_129 : decode b_Cm_oneFunction 129 = .ok (.iload_n 3, 1) := by decide +kernel
theorem d_Cm_oneFunction_130 : decode b_Cm_oneFunction 130 = .ok (.ifCond .eq 105, 3) := by decide +kernel
theorem d_Cm_oneFunction_133 : decode b_Cm_oneFunction 133 = .ok (.aload_n 0, 1) := by decide +kernel
theorem d_Cm_oneFunction_134 : decode b_Cm_oneFunction 134 = .ok (.getfield 39, 3) := by decide +kernel
theorem d_Cm_oneFunction_137 : decode b_Cm_oneFunction 137 = .ok (.getfield 93, 3) := by decide +kernel
theorem d_Cm_oneFunction_140 : decode b_Cm_oneFunction 140 = .ok (.iload_n 3, 1) := by decide +kernel
theorem d_Cm_oneFunction_141 : decode b_Cm_oneFunction 141 = .ok (.iaload, 1) := by decide +kernel
theorem d_Cm_oneFunction_142 : decode b_Cm_oneFunction 142 = .ok (.istore 4, 2) := by decide +kernel
theorem d_Cm_oneFunction_144 : decode b_Cm_oneFunction 144 = .ok (.aload_n 0, 1) := by decide +kernel
theorem d_Cm_oneFunction_145 : decode b_Cm_oneFunction 145 = .ok (.getfield 39, 3) := by decide +kernel
theorem d_Cm_oneFunction_148 : decode b_Cm_oneFunction 148 = .ok (.aload_n 0, 1) := by decide +kernel
theorem d_Cm_oneFunction_149 : decode b_Cm_oneFunction 149 = .ok (.getfield 39, 3) := by decide +kernel
theorem d_Cm_oneFunction_152 : decode b_Cm_oneFunction 152 = .ok (.getfield 125, 3) := by decide +kernel
theorem d_Cm_oneFunction_155 : decode b_Cm_oneFunction 155 = .ok (.iload_n 3, 1) := by decide +kernel
theorem d_Cm_oneFunction_156 : decode b_Cm_oneFunction 156 = .ok (.iaload, 1) := by decide +kernel
theorem d_Cm_oneFunction_157 : decode b_Cm_oneFunction 157 = .ok (.invokevirtual 128, 3) := by decide +kernel
theorem d_Cm_oneFunction_160 : decode b_Cm_oneFunction 160 = .ok (.istore 5, 2) := by decide +kernel
theorem d_Cm_oneFunction_162 : decode b_Cm_oneFunction 162 = .ok (.aload_n 0, 1) := by decide +kernel
theorem d_Cm_oneFunction_163 : decode b_Cm_oneFunction 163 = .ok (.getfield 35, 3) := by decide +kernel
theorem d_Cm_oneFunction_166 : decode b_Cm_oneFunction 166 = .ok (.getfield 132, 3) := by decide +kernel
theorem d_Cm_oneFunction_169 : decode b_Cm_oneFunction 169 = .ok (.iload 4, 2) := by decide +kernel
theorem d_Cm_oneFunction_171 : decode b_Cm_oneFunction 171 = .ok (.iaload, 1) := by decide +kernel
theorem d_Cm_oneFunction_172 : decode b_Cm_oneFunction 172 = .ok (.aload_n 0, 1) := by decide +kernel
theorem d_Cm_oneFunction_173 : decode b_Cm_oneFunction 173 = .ok (.getfield 43, 3) := by decide +kernel
theorem d_Cm_oneFunction_176 : decode b_Cm_oneFunction 176 = .ok (.getfield 101, 3) := by decide +kernel
theorem d_Cm_oneFunction_179 : decode b_Cm_oneFunction 179 = .ok (.iload_n 1, 1) := by decide +kernel
theorem d_Cm_oneFunction_180 : decode b_Cm_oneFunction 180 = .ok (.iaload, 1) := by decide +kernel
theorem d_Cm_oneFunction_181 : decode b_Cm_oneFunction 181 = .ok (.if_icmp .ne 17, 3) := by decide +kernel
theorem d_Cm_oneFunction_184 : decode b_Cm_oneFunction 184 = .ok (.iload 5, 2) := by decide +kernel
theorem d_Cm_oneFunction_186 : decode b_Cm_oneFunction 186 = .ok (.aload_n 0, 1) := by decide +kernel
theorem d_Cm_oneFunction_187 : decode b_Cm_oneFunction 187 = .ok (.getfield 43, 3) := by decide +kernel
theorem d_Cm_oneFunction_190 : decode b_Cm_oneFunction 190 = .ok (.getfield 104, 3) := by decide +kernel
theorem d_Cm_oneFunction_193 : decode b_Cm_oneFunction 193 = .ok (.iload_n 1, 1) := by decide +kernel
theorem d_Cm_oneFunction_194 : decode b_Cm_oneFunction 194 = .ok (.iaload, 1) := by decide +kernel
theorem d_Cm_oneFunction_195 : decode b_Cm_oneFunction 195 = .ok (.if_icmp .eq 10, 3) := by decide +kernel
theorem d_Cm_oneFunction_198 : decode b_Cm_oneFunction 198 = .ok (.aload_n 0, 1) := by decide +kernel
theorem d_Cm_oneFunction_199 : decode b_Cm_oneFunction 199 = .ok (.iload 4, 2) := by decide +kernel
theorem d_Cm_oneFunction_201 : decode b_Cm_oneFunction 201 = .ok (.iconst 4, 1) := by decide +kernel
theorem d_Cm_oneFunction_202 : decode b_Cm_oneFunction 202 = .ok (.invokevirtual 89, 3) := by decide +kernel
theorem d_Cm_oneFunction_205 : decode b_Cm_oneFunction 205 = .ok (.aload_n 0, 1) := by decide +kernel
theorem d_Cm_oneFunction_206 : decode b_Cm_oneFunction 206 = .ok (.iload_n 3, 1) := by decide +kernel
theorem d_Cm_oneFunction_207 : decode b_Cm_oneFunction 207 = .ok (.iload 5, 2) := by decide +kernel
theorem d_Cm_oneFunction_209 : decode b_Cm_oneFunction 209 = .ok (.aload_n 0, 1) := by decide +kernel
theorem d_Cm_oneFunction_210 : decode b_Cm_oneFunction 210 = .ok (.getfield 35, 3) := by decide +kernel
theorem d_Cm_oneFunction_213 : decode b_Cm_oneFunction 213 = .ok (.getfield 74, 3) := by decide +kernel
theorem d_Cm_oneFunction_216 : decode b_Cm_oneFunction 216 = .ok (.iload 4, 2) := by decide +kernel
theorem d_Cm_oneFunction_218 : decode b_Cm_oneFunction 218 = .ok (.iaload, 1) := by decide +kernel
theorem d_Cm_oneFunction_219 : decode b_Cm_oneFunction 219 = .ok (.invokevirtual 135, 3) := by decide +kernel
theorem d_Cm_oneFunction_222 : decode b_Cm_oneFunction 222 = .ok (.aload_n 0, 1) := by decide +kernel
theorem d_Cm_oneFunction_223 : decode b_Cm_oneFunction 223 = .ok (.getfield 39, 3) := by decide +kernel
theorem d_Cm_oneFunction_226 : decode b_Cm_oneFunction 226 = .ok (.getfield 139, 3) := by decide +kernel
theorem d_Cm_oneFunction_229 : decode b_Cm_oneFunction 229 = .ok (.iload_n 3, 1) := by decide +kernel
theorem d_Cm_oneFunction_230 : decode b_Cm_oneFunction 230 = .ok (.iaload, 1) := by decide +kernel
theorem d_Cm_oneFunction_231 : decode b_Cm_oneFunction 231 = .ok (.istore_n 3, 1) := by decide +kernel
theorem d_Cm_oneFunction_232 : decode b_Cm_oneFunction 232 = .ok (.goto (-103), 3) := by decide +kernel
theorem d_Cm_oneFunction_235 : decode b_Cm_oneFunction 235 = .ok (.aload_n 0, 1) := by decide +kernel
theorem d_Cm_oneFunction_236 : decode b_Cm_oneFunction 236 = .ok (.getfield 43, 3) := by decide +kernel
theorem d_Cm_oneFunction_239 : decode b_Cm_oneFunction 239 = .ok (.bipush 36, 2) := by decide +kernel
theorem d_Cm_oneFunction_241 : decode b_Cm_oneFunction 241 = .ok (.invokevirtual 142, 3) := by decide +kernel
theorem d_Cm_oneFunction_244 : decode b_Cm_oneFunction 244 = .ok (.aload_n 0, 1) := by decide +kernel
theorem d_Cm_oneFunction_245 : decode b_Cm_oneFunction 245 = .ok (.aload_n 0, 1) := by decide +kernel
theorem d_Cm_oneFunction_246 : decode b_Cm_oneFunction 246 = .ok (.getfield 55, 3) := by decide +kernel
theorem d_Cm_oneFunction_249 : decode b_Cm_oneFunction 249 = .ok (.ifCond .ne 14, 3) := by decide +kernel
theorem d_Cm_oneFunction_252 : decode b_Cm_oneFunction 252 = .ok (.aload_n 0, 1) := by decide +kernel
theorem d_Cm_oneFunction_253 : decode b_Cm_oneFunction 253 = .ok (.getfield 29, 3) := by decide +kernel
theorem d_Cm_oneFunction_256 : decode b_Cm_oneFunction 256 = .ok (.iconst 0, 1) := by decide +kernel
theorem d_Cm_oneFunction_257 : decode b_Cm_oneFunction 257 = .ok (.iaload, 1) := by decide +kernel
theorem d_Cm_oneFunction_258 : decode b_Cm_oneFunction 258 = .ok (.bipush 40, 2) := by decide +kernel
theorem d_Cm_oneFunction_260 : decode b_Cm_oneFunction 260 = .ok (.if_icmp .le 7, 3) := by decide +kernel
theorem d_Cm_oneFunction_263 : decode b_Cm_oneFunction 263 = .ok (.iconst 1, 1) := by decide +kernel
theorem d_Cm_oneFunction_264 : decode b_Cm_oneFunction 264 = .ok (.goto 4, 3) := by decide +kernel
theorem d_Cm_oneFunction_267 : decode b_Cm_oneFunction 267 = .ok (.iconst 0, 1) := by decide +kernel
theorem d_Cm_oneFunction_268 : decode b_Cm_oneFunction 268 = .ok (.putfield 55, 3) := by decide +kernel
theorem d_Cm_oneFunction_271 : decode b_Cm_oneFunction 271 = .ok (.return_, 1) := by decide +kernel
set_option maxRecDepth 100000 in
theorem hl_Cm_oneFunction : Cond.methodLink R_Cm 70 y_Cm_oneFunction ∈ wd_tbl := wd_of 1115 (by decide +kernel) rfl
set_option maxRecDepth 100000 in
theorem hi_Cm_oneFunction : Cond.instanceMethod y_Cm_oneFunction ∈ wd_tbl := wd_of 1117 (by decide +kernel) rfl
set_option maxRecDepth 100000 in
theorem hs_Cm_oneFunction : Cond.selects R_Cm y_Cm_oneFunction y_Cm_oneFunction ∈ wd_tbl := wd_of 37 (by decide +kernel) rfl
theorem hd_Cm_oneFunction : y_Cm_oneFunction.cls = R_Cm ∧ y_Cm_oneFunction.cls ≠ "java/lang/invoke/MethodHandle" ∧ y_Cm_oneFunction.cls ≠ "java/lang/invoke/VarHandle" ∧ (parseMethodDescriptor y_Cm_oneFunction.desc).map (fun d => d.parameters.length) = some 1 := by decide +kernel
def rm_Cm_oneFunction : Room := { frames := 605, cells := 0, slots := 0, locals := 15113 }
theorem rm_Cm_oneFunction_Co_seek : (rm_Co_seek).frames + 1 ≤ rm_Cm_oneFunction.frames ∧ 8 + (4 + 11) + (rm_Co_seek).locals ≤ rm_Cm_oneFunction.locals := by
  show 0 + 1 ≤ 605 ∧ 8 + (4 + 11) + 0 ≤ 15113
  decide
theorem rm_Cm_oneFunction_Cm_predefinedOf : (rm_Cm_predefinedOf).frames + 1 ≤ rm_Cm_oneFunction.frames ∧ 8 + (4 + 11) + (rm_Cm_predefinedOf).locals ≤ rm_Cm_oneFunction.locals := by
  show 3 + 1 ≤ 605 ∧ 8 + (4 + 11) + 71 ≤ 15113
  decide
theorem rm_Cm_oneFunction_Cm_fault : (rm_Cm_fault).frames + 1 ≤ rm_Cm_oneFunction.frames ∧ 8 + (3 + 11) + (rm_Cm_fault).locals ≤ rm_Cm_oneFunction.locals := by
  show 1 + 1 ≤ 605 ∧ 8 + (3 + 11) + 23 ≤ 15113
  decide
theorem rm_Cm_oneFunction_Tr_length : (rm_Tr_length).frames + 1 ≤ rm_Cm_oneFunction.frames ∧ 8 + (4 + 11) + (rm_Tr_length).locals ≤ rm_Cm_oneFunction.locals := by
  show 0 + 1 ≤ 605 ∧ 8 + (4 + 11) + 0 ≤ 15113
  decide
theorem rm_Cm_oneFunction_Cm_clause : (rm_Cm_clause).frames + 1 ≤ rm_Cm_oneFunction.frames ∧ 8 + (6 + 11) + (rm_Cm_clause).locals ≤ rm_Cm_oneFunction.locals := by
  show 604 + 1 ≤ 605 ∧ 8 + (6 + 11) + 15088 ≤ 15113
  decide
theorem rm_Cm_oneFunction_Co_put : (rm_Co_put).frames + 1 ≤ rm_Cm_oneFunction.frames ∧ 8 + (2 + 11) + (rm_Co_put).locals ≤ rm_Cm_oneFunction.locals := by
  show 0 + 1 ≤ 605 ∧ 8 + (2 + 11) + 0 ≤ 15113
  decide
def fb_Cm_oneFunction_268 (N : Nat) (G : (CS → Nat → Int32 → Int32 → Option (CS × Unit))) (u : CS) (t0 : Nat) (t1 : Int32) : Option (CS × Unit) := ck (isb t1) (bo (pF u t0 3 11 (.inl t1)) (fun w1 => some (w1, ())))
set_option maxRecDepth 100000 in
set_option maxHeartbeats 4000000 in
theorem wb_Cm_oneFunction_268 {p : Program} {l : Launch} {e : Env} {s : State} {m : MethodId} {args : Array Value} {below : List Frame} {meth : Method} {c : Code} {s0 : State} {b0 : Nat} {D : va_G} {cB cI cJ cZ cS cP : ClassId} {A : Nat → Prop} {sk sv : Nat → Nat} {ad : Nat → Nat} (C0 : XCx p s s0 b0 m args meth c R_Cm b_Cm_oneFunction 6 none D cB cI cJ cZ cS cP A) (hE : ENV s0 b0 sk sv) (N : Nat) (G : (CS → Nat → Int32 → Int32 → Option (CS × Unit))) (hG : (∀ (u : CS) (v0 : Nat) (v1 : Int32) (v3 : Int32) (x : CS × Unit), G u v0 v1 v3 = some x → ∀ (H : Heap) (locs : List Loc), va_P D cls (wC cB cI cJ cZ cS cP ad u) H → va_D A (wC cB cI cJ cZ cS cP ad u) → va_S A s.heap H locs → ∀ (ls : Array Slot), lv_has ls 6 [(0, .ref (ad v0)), (1, .int v1), (3, .int v3)] → W p l e rm_Cm_oneFunction s m args below meth c H locs 0 0 (MQ below (xQ0 D cB cI cJ cZ cS cP A ad x.1 none) args s 0 0 A) (F0 m 129 ls []))) : ∀ (u : CS) (t0 : Nat) (t1 : Int32) (x : CS × Unit), fb_Cm_oneFunction_268 N G u t0 t1 = some x → ∀ (H : Heap) (locs : List Loc), va_P D cls (wC cB cI cJ cZ cS cP ad u) H → va_D A (wC cB cI cJ cZ cS cP ad u) → va_S A s.heap H locs → ∀ (ls : Array Slot), lv_has ls 6 [] → W p l e rm_Cm_oneFunction s m args below meth c H locs 0 0 (MQ below (xQ0 D cB cI cJ cZ cS cP A ad x.1 none) args s 0 0 A) (F0 m 268 ls [.int t1, .ref (ad t0)]) := by
  intro u t0 t1 x hf H locs hP hD hS ls hl
  obtain ⟨hx, hb, hr, hml, ht, hown, hK, hA, hlocks, hA0, hO, hbs⟩ := id C0
  unfold fb_Cm_oneFunction_268 at hf
  obtain ⟨hz, hf⟩ := ck_some hf
  obtain ⟨w1, g1, hf⟩ := bo_some hf
  refine xp (i := t0) (k := 11) (v := (.inl t1)) hx hb ht hown ck_Cm hK hP hD hS (by decide) fk_Cm_55 rfl g1 (isb_n hz) (isb_f hz) d_Cm_oneFunction_268 (fun H locs hP hD hS => ?_)
  exact xr0_v C0 hP hD hS hf d_Cm_oneFunction_271
def fb_Cm_oneFunction_263 (N : Nat) (G : (CS → Nat → Int32 → Int32 → Option (CS × Unit))) (u : CS) (t0 : Nat) : Option (CS × Unit) := fb_Cm_oneFunction_268 N G u (t0) (1)
set_option maxRecDepth 100000 in
set_option maxHeartbeats 4000000 in
theorem wb_Cm_oneFunction_263 {p : Program} {l : Launch} {e : Env} {s : State} {m : MethodId} {args : Array Value} {below : List Frame} {meth : Method} {c : Code} {s0 : State} {b0 : Nat} {D : va_G} {cB cI cJ cZ cS cP : ClassId} {A : Nat → Prop} {sk sv : Nat → Nat} {ad : Nat → Nat} (C0 : XCx p s s0 b0 m args meth c R_Cm b_Cm_oneFunction 6 none D cB cI cJ cZ cS cP A) (hE : ENV s0 b0 sk sv) (N : Nat) (G : (CS → Nat → Int32 → Int32 → Option (CS × Unit))) (hG : (∀ (u : CS) (v0 : Nat) (v1 : Int32) (v3 : Int32) (x : CS × Unit), G u v0 v1 v3 = some x → ∀ (H : Heap) (locs : List Loc), va_P D cls (wC cB cI cJ cZ cS cP ad u) H → va_D A (wC cB cI cJ cZ cS cP ad u) → va_S A s.heap H locs → ∀ (ls : Array Slot), lv_has ls 6 [(0, .ref (ad v0)), (1, .int v1), (3, .int v3)] → W p l e rm_Cm_oneFunction s m args below meth c H locs 0 0 (MQ below (xQ0 D cB cI cJ cZ cS cP A ad x.1 none) args s 0 0 A) (F0 m 129 ls []))) : ∀ (u : CS) (t0 : Nat) (x : CS × Unit), fb_Cm_oneFunction_263 N G u t0 = some x → ∀ (H : Heap) (locs : List Loc), va_P D cls (wC cB cI cJ cZ cS cP ad u) H → va_D A (wC cB cI cJ cZ cS cP ad u) → va_S A s.heap H locs → ∀ (ls : Array Slot), lv_has ls 6 [] → W p l e rm_Cm_oneFunction s m args below meth c H locs 0 0 (MQ below (xQ0 D cB cI cJ cZ cS cP A ad x.1 none) args s 0 0 A) (F0 m 263 ls [.ref (ad t0)]) := by
  intro u t0 x hf H locs hP hD hS ls hl
  obtain ⟨hx, hb, hr, hml, ht, hown, hK, hA, hlocks, hA0, hO, hbs⟩ := id C0
  unfold fb_Cm_oneFunction_263 at hf
  refine lv_iconst (v := 1) hx hb d_Cm_oneFunction_263 (by decide) ?_
  refine lv_goto (tgt := 268) hx hb d_Cm_oneFunction_264 (by decide) ?_
  exact wb_Cm_oneFunction_268 C0 hE N G hG _ _ _ _ hf H locs hP hD hS ls (lv_sub hl [] rfl)
def fb_Cm_oneFunction_205 (N : Nat) (G : (CS → Nat → Int32 → Int32 → Option (CS × Unit))) (u : CS) (v0 : Nat) (v1 : Int32) (v3 : Int32) (v4 : Int32) (v5 : Int32) : Option (CS × Unit) := bo (gR u v0 3 0) (fun r2 => bo r2 (fun j3 => bo (gR u j3 9 4) (fun r4 => bo r4 (fun j5 => bo (aI u j5 4 v4) (fun r6 => ck (isO u v0 3) (bx (fr_Cm_clause N u v0 v3 v5 r6) (fun u7 r7 => bo (gR u7 v0 3 1) (fun r8 => bo r8 (fun j9 => bo (gR u7 j9 10 5) (fun r10 => bo r10 (fun j11 => bo (aI u7 j11 4 v3) (fun r12 => G u7 (v0) (v1) (r12)))))))))))))
set_option maxRecDepth 100000 in
set_option maxHeartbeats 4000000 in
theorem wb_Cm_oneFunction_205 {p : Program} {l : Launch} {e : Env} {s : State} {m : MethodId} {args : Array Value} {below : List Frame} {meth : Method} {c : Code} {s0 : State} {b0 : Nat} {D : va_G} {cB cI cJ cZ cS cP : ClassId} {A : Nat → Prop} {sk sv : Nat → Nat} {ad : Nat → Nat} (C0 : XCx p s s0 b0 m args meth c R_Cm b_Cm_oneFunction 6 none D cB cI cJ cZ cS cP A) (hE : ENV s0 b0 sk sv) (N : Nat) (G : (CS → Nat → Int32 → Int32 → Option (CS × Unit))) (hG : (∀ (u : CS) (v0 : Nat) (v1 : Int32) (v3 : Int32) (x : CS × Unit), G u v0 v1 v3 = some x → ∀ (H : Heap) (locs : List Loc), va_P D cls (wC cB cI cJ cZ cS cP ad u) H → va_D A (wC cB cI cJ cZ cS cP ad u) → va_S A s.heap H locs → ∀ (ls : Array Slot), lv_has ls 6 [(0, .ref (ad v0)), (1, .int v1), (3, .int v3)] → W p l e rm_Cm_oneFunction s m args below meth c H locs 0 0 (MQ below (xQ0 D cB cI cJ cZ cS cP A ad x.1 none) args s 0 0 A) (F0 m 129 ls []))) : ∀ (u : CS) (v0 : Nat) (v1 : Int32) (v3 : Int32) (v4 : Int32) (v5 : Int32) (x : CS × Unit), fb_Cm_oneFunction_205 N G u v0 v1 v3 v4 v5 = some x → ∀ (H : Heap) (locs : List Loc), va_P D cls (wC cB cI cJ cZ cS cP ad u) H → va_D A (wC cB cI cJ cZ cS cP ad u) → va_S A s.heap H locs → ∀ (ls : Array Slot), lv_has ls 6 [(0, .ref (ad v0)), (1, .int v1), (3, .int v3), (4, .int v4), (5, .int v5)] → W p l e rm_Cm_oneFunction s m args below meth c H locs 0 0 (MQ below (xQ0 D cB cI cJ cZ cS cP A ad x.1 none) args s 0 0 A) (F0 m 205 ls []) := by
  intro u v0 v1 v3 v4 v5 x hf H locs hP hD hS ls hl
  obtain ⟨hx, hb, hr, hml, ht, hown, hK, hA, hlocks, hA0, hO, hbs⟩ := id C0
  unfold fb_Cm_oneFunction_205 at hf
  refine lv_aload_n hx hb d_Cm_oneFunction_205 rfl (lv_at hl 0 rfl) ?_
  refine lv_iload_n hx hb d_Cm_oneFunction_206 rfl (lv_at hl 2 rfl) ?_
  refine lv_iload hx hb d_Cm_oneFunction_207 (lv_at hl 4 rfl) ?_
  refine lv_aload_n hx hb d_Cm_oneFunction_209 rfl (lv_at hl 0 rfl) ?_
  obtain ⟨r2, g2, hf⟩ := bo_some hf
  refine xg_R (i := v0) (k := 0) hx hb ht hown ck_Cm hK hP (by decide) fk_Cm_35 g2 d_Cm_oneFunction_210 ?_
  obtain ⟨j3, ej3, hf⟩ := bo_some hf
  rw [ej3]
  obtain ⟨r4, g4, hf⟩ := bo_some hf
  refine xg_R (i := j3) (k := 4) hx hb ht hown ck_To hK hP (by decide) fk_Cm_74 g4 d_Cm_oneFunction_213 ?_
  refine lv_iload hx hb d_Cm_oneFunction_216 (lv_at hl 3 rfl) ?_
  obtain ⟨j5, ej5, hf⟩ := bo_some hf
  rw [ej5]
  obtain ⟨r6, g6, hf⟩ := bo_some hf
  refine xl_I (i := j5) hx hb hK hP g6 d_Cm_oneFunction_218 ?_
  obtain ⟨hO9, hf⟩ := ck_some hf
  obtain ⟨u7, r7, hc7, hf⟩ := bx_some hf
  refine xV0 (i := v0) (As := [.int v3, .int v5, .int r6]) (rest := []) C0 hP hD hS ck_Cm hO9 (c_Cm_clause N hE hc7) k_Cm_clause (wd_of 1141 (by decide +kernel) rfl) hi_Cm_clause hs_Cm_clause hini_Cm rfl rfl hd_Cm_clause rfl rm_Cm_oneFunction_Cm_clause hl.1 (Nat.le_of_ble_eq_true rfl) d_Cm_oneFunction_219 rfl ⟨Nat.zero_le _, Nat.zero_le _⟩ (fun H locs hP hD hS => ?_)
  refine lv_aload_n hx hb d_Cm_oneFunction_222 rfl (lv_at hl 0 rfl) ?_
  obtain ⟨r8, g8, hf⟩ := bo_some hf
  refine xg_R (i := v0) (k := 1) hx hb ht hown ck_Cm hK hP (by decide) fk_Cm_39 g8 d_Cm_oneFunction_223 ?_
  obtain ⟨j9, ej9, hf⟩ := bo_some hf
  rw [ej9]
  obtain ⟨r10, g10, hf⟩ := bo_some hf
  refine xg_R (i := j9) (k := 5) hx hb ht hown ck_Tr hK hP (by decide) fk_Cm_139 g10 d_Cm_oneFunction_226 ?_
  refine lv_iload_n hx hb d_Cm_oneFunction_229 rfl (lv_at hl 2 rfl) ?_
  obtain ⟨j11, ej11, hf⟩ := bo_some hf
  rw [ej11]
  obtain ⟨r12, g12, hf⟩ := bo_some hf
  refine xl_I (i := j11) hx hb hK hP g12 d_Cm_oneFunction_230 ?_
  refine lv_istore_n (lv' := [(3, .int r12), (0, .ref (ad v0)), (1, .int v1), (4, .int v4), (5, .int v5)]) hx hb d_Cm_oneFunction_231 rfl hl (by decide) (by first | rfl | simp [List.filter, cat_rf]) (fun ls hl => ?_)
  refine lv_goto (tgt := 129) hx hb d_Cm_oneFunction_232 (by decide) ?_
  exact hG _ _ _ _ _ hf H locs hP hD hS ls (lv_sub hl [1, 2, 0] rfl)
def fb_Cm_oneFunction_198 (N : Nat) (G : (CS → Nat → Int32 → Int32 → Option (CS × Unit))) (u : CS) (v0 : Nat) (v1 : Int32) (v3 : Int32) (v4 : Int32) (v5 : Int32) : Option (CS × Unit) := ck (isO u v0 3) (bx (fm_Cm_fault N u v0 v4 4) (fun u13 r13 => fb_Cm_oneFunction_205 N G u13 (v0) (v1) (v3) (v4) (v5)))
set_option maxRecDepth 100000 in
set_option maxHeartbeats 4000000 in
theorem wb_Cm_oneFunction_198 {p : Program} {l : Launch} {e : Env} {s : State} {m : MethodId} {args : Array Value} {below : List Frame} {meth : Method} {c : Code} {s0 : State} {b0 : Nat} {D : va_G} {cB cI cJ cZ cS cP : ClassId} {A : Nat → Prop} {sk sv : Nat → Nat} {ad : Nat → Nat} (C0 : XCx p s s0 b0 m args meth c R_Cm b_Cm_oneFunction 6 none D cB cI cJ cZ cS cP A) (hE : ENV s0 b0 sk sv) (N : Nat) (G : (CS → Nat → Int32 → Int32 → Option (CS × Unit))) (hG : (∀ (u : CS) (v0 : Nat) (v1 : Int32) (v3 : Int32) (x : CS × Unit), G u v0 v1 v3 = some x → ∀ (H : Heap) (locs : List Loc), va_P D cls (wC cB cI cJ cZ cS cP ad u) H → va_D A (wC cB cI cJ cZ cS cP ad u) → va_S A s.heap H locs → ∀ (ls : Array Slot), lv_has ls 6 [(0, .ref (ad v0)), (1, .int v1), (3, .int v3)] → W p l e rm_Cm_oneFunction s m args below meth c H locs 0 0 (MQ below (xQ0 D cB cI cJ cZ cS cP A ad x.1 none) args s 0 0 A) (F0 m 129 ls []))) : ∀ (u : CS) (v0 : Nat) (v1 : Int32) (v3 : Int32) (v4 : Int32) (v5 : Int32) (x : CS × Unit), fb_Cm_oneFunction_198 N G u v0 v1 v3 v4 v5 = some x → ∀ (H : Heap) (locs : List Loc), va_P D cls (wC cB cI cJ cZ cS cP ad u) H → va_D A (wC cB cI cJ cZ cS cP ad u) → va_S A s.heap H locs → ∀ (ls : Array Slot), lv_has ls 6 [(0, .ref (ad v0)), (1, .int v1), (3, .int v3), (4, .int v4), (5, .int v5)] → W p l e rm_Cm_oneFunction s m args below meth c H locs 0 0 (MQ below (xQ0 D cB cI cJ cZ cS cP A ad x.1 none) args s 0 0 A) (F0 m 198 ls []) := by
  intro u v0 v1 v3 v4 v5 x hf H locs hP hD hS ls hl
  obtain ⟨hx, hb, hr, hml, ht, hown, hK, hA, hlocks, hA0, hO, hbs⟩ := id C0
  unfold fb_Cm_oneFunction_198 at hf
  refine lv_aload_n hx hb d_Cm_oneFunction_198 rfl (lv_at hl 0 rfl) ?_
  refine lv_iload hx hb d_Cm_oneFunction_199 (lv_at hl 3 rfl) ?_
  refine lv_iconst (v := 4) hx hb d_Cm_oneFunction_201 (by decide) ?_
  obtain ⟨hO9, hf⟩ := ck_some hf
  obtain ⟨u13, r13, hc13, hf⟩ := bx_some hf
  refine xV0 (i := v0) (As := [.int v4, .int 4]) (rest := []) C0 hP hD hS ck_Cm hO9 (c_Cm_fault N hE hc13) k_Cm_fault (wd_of 1133 (by decide +kernel) rfl) hi_Cm_fault hs_Cm_fault hini_Cm rfl rfl hd_Cm_fault rfl rm_Cm_oneFunction_Cm_fault hl.1 (Nat.le_of_ble_eq_true rfl) d_Cm_oneFunction_202 rfl ⟨Nat.zero_le _, Nat.zero_le _⟩ (fun H locs hP hD hS => ?_)
  exact wb_Cm_oneFunction_205 C0 hE N G hG _ _ _ _ _ _ _ hf H locs hP hD hS ls (lv_sub hl [0, 1, 2, 3, 4] rfl)
def fb_Cm_oneFunction_129 (N : Nat) (G : (CS → Nat → Int32 → Int32 → Option (CS × Unit))) (u : CS) (v0 : Nat) (v1 : Int32) (v3 : Int32) : Option (CS × Unit) := br (decide (v3 = 0)) (bo (gR u v0 3 2) (fun r14 => bo r14 (fun j16 => ck (isO u j16 2) (bx (fm_Co_put N u j16 36) (fun u15 r15 => bo (gI u15 v0 3 11) (fun r17 => br (decide (r17 = 0)) (bo (gR u15 v0 3 8) (fun r18 => bo r18 (fun j19 => bo (aI u15 j19 4 (0 : Int32)) (fun r20 => br (decide (r20 ≤ 40)) (fb_Cm_oneFunction_268 N G u15 (v0) (0)) (fb_Cm_oneFunction_263 N G u15 (v0)))))) (fb_Cm_oneFunction_263 N G u15 (v0)))))))) (bo (gR u v0 3 1) (fun r21 => bo r21 (fun j22 => bo (gR u j22 10 1) (fun r23 => bo r23 (fun j24 => bo (aI u j24 4 v3) (fun r25 => bo (gR u v0 3 1) (fun r26 => bo (gR u v0 3 1) (fun r27 => bo r27 (fun j28 => bo (gR u j28 10 2) (fun r29 => bo r29 (fun j30 => bo (aI u j30 4 v3) (fun r31 => bo r26 (fun j33 => ck (isO u j33 10) (bx (fm_Tr_length N u j33 r31) (fun u32 r32 => bo (gR u32 v0 3 0) (fun r34 => bo r34 (fun j35 => bo (gR u32 j35 9 3) (fun r36 => bo r36 (fun j37 => bo (aI u32 j37 4 r25) (fun r38 => bo (gR u32 v0 3 2) (fun r39 => bo r39 (fun j40 => bo (gR u32 j40 2 3) (fun r41 => bo r41 (fun j42 => bo (aI u32 j42 4 v1) (fun r43 => br (decide (r38 = r43)) (bo (gR u32 v0 3 2) (fun r44 => bo r44 (fun j45 => bo (gR u32 j45 2 4) (fun r46 => bo r46 (fun j47 => bo (aI u32 j47 4 v1) (fun r48 => br (decide (r32 = r48)) (fb_Cm_oneFunction_205 N G u32 (v0) (v1) (v3) (r25) (r32)) (fb_Cm_oneFunction_198 N G u32 (v0) (v1) (v3) (r25) (r32)))))))) (fb_Cm_oneFunction_198 N G u32 (v0) (v1) (v3) (r25) (r32)))))))))))))))))))))))))))
set_option maxRecDepth 100000 in
set_option maxHeartbeats 4000000 in
theorem wb_Cm_oneFunction_129 {p : Program} {l : Launch} {e : Env} {s : State} {m : MethodId} {args : Array Value} {below : List Frame} {meth : Method} {c : Code} {s0 : State} {b0 : Nat} {D : va_G} {cB cI cJ cZ cS cP : ClassId} {A : Nat → Prop} {sk sv : Nat → Nat} {ad : Nat → Nat} (C0 : XCx p s s0 b0 m args meth c R_Cm b_Cm_oneFunction 6 none D cB cI cJ cZ cS cP A) (hE : ENV s0 b0 sk sv) (N : Nat) (G : (CS → Nat → Int32 → Int32 → Option (CS × Unit))) (hG : (∀ (u : CS) (v0 : Nat) (v1 : Int32) (v3 : Int32) (x : CS × Unit), G u v0 v1 v3 = some x → ∀ (H : Heap) (locs : List Loc), va_P D cls (wC cB cI cJ cZ cS cP ad u) H → va_D A (wC cB cI cJ cZ cS cP ad u) → va_S A s.heap H locs → ∀ (ls : Array Slot), lv_has ls 6 [(0, .ref (ad v0)), (1, .int v1), (3, .int v3)] → W p l e rm_Cm_oneFunction s m args below meth c H locs 0 0 (MQ below (xQ0 D cB cI cJ cZ cS cP A ad x.1 none) args s 0 0 A) (F0 m 129 ls []))) : ∀ (u : CS) (v0 : Nat) (v1 : Int32) (v3 : Int32) (x : CS × Unit), fb_Cm_oneFunction_129 N G u v0 v1 v3 = some x → ∀ (H : Heap) (locs : List Loc), va_P D cls (wC cB cI cJ cZ cS cP ad u) H → va_D A (wC cB cI cJ cZ cS cP ad u) → va_S A s.heap H locs → ∀ (ls : Array Slot), lv_has ls 6 [(0, .ref (ad v0)), (1, .int v1), (3, .int v3)] → W p l e rm_Cm_oneFunction s m args below meth c H locs 0 0 (MQ below (xQ0 D cB cI cJ cZ cS cP A ad x.1 none) args s 0 0 A) (F0 m 129 ls []) := by
  intro u v0 v1 v3 x hf H locs hP hD hS ls hl
  obtain ⟨hx, hb, hr, hml, ht, hown, hK, hA, hlocks, hA0, hO, hbs⟩ := id C0
  unfold fb_Cm_oneFunction_129 at hf
  refine lv_iload_n hx hb d_Cm_oneFunction_129 rfl (lv_at hl 2 rfl) ?_
  refine lv_if_eq (tgt := 235) hx hb d_Cm_oneFunction_130 (by decide) (fun hc => ?_) (fun hc => ?_)
  · rw [br_p _ hc] at hf
    refine lv_aload_n hx hb d_Cm_oneFunction_235 rfl (lv_at hl 0 rfl) ?_
    obtain ⟨r14, g14, hf⟩ := bo_some hf
    refine xg_R (i := v0) (k := 2) hx hb ht hown ck_Cm hK hP (by decide) fk_Cm_43 g14 d_Cm_oneFunction_236 ?_
    refine lv_bipush (v := 36) hx hb d_Cm_oneFunction_239 (by decide) ?_
    obtain ⟨j16, ej16, hf⟩ := bo_some hf
    rw [ej16]
    obtain ⟨hO9, hf⟩ := ck_some hf
    obtain ⟨u15, r15, hc15, hf⟩ := bx_some hf
    refine xV0 (i := j16) (As := [.int 36]) (rest := []) C0 hP hD hS ck_Co hO9 (c_Co_put N hc15) k_Co_put (wd_of 1149 (by decide +kernel) rfl) hi_Co_put hs_Co_put hini_Co rfl rfl hd_Co_put rfl rm_Cm_oneFunction_Co_put hl.1 (Nat.le_of_ble_eq_true rfl) d_Cm_oneFunction_241 rfl ⟨Nat.zero_le _, Nat.zero_le _⟩ (fun H locs hP hD hS => ?_)
    refine lv_aload_n hx hb d_Cm_oneFunction_244 rfl (lv_at hl 0 rfl) ?_
    refine lv_aload_n hx hb d_Cm_oneFunction_245 rfl (lv_at hl 0 rfl) ?_
    obtain ⟨r17, g17, hf⟩ := bo_some hf
    refine xg_I (i := v0) (k := 11) hx hb ht hown ck_Cm hK hP (by decide) fk_Cm_55 g17 d_Cm_oneFunction_246 ?_
    refine lv_if_ne (tgt := 263) hx hb d_Cm_oneFunction_249 (by decide) (fun hc => ?_) (fun hc => ?_)
    · rw [br_n _ hc] at hf
      exact wb_Cm_oneFunction_263 C0 hE N G hG _ _ _ hf H locs hP hD hS ls (lv_sub hl [] rfl)
    · rw [br_p _ hc] at hf
      refine lv_aload_n hx hb d_Cm_oneFunction_252 rfl (lv_at hl 0 rfl) ?_
      obtain ⟨r18, g18, hf⟩ := bo_some hf
      refine xg_R (i := v0) (k := 8) hx hb ht hown ck_Cm hK hP (by decide) fk_Cm_29 g18 d_Cm_oneFunction_253 ?_
      refine lv_iconst (v := 0) hx hb d_Cm_oneFunction_256 (by decide) ?_
      obtain ⟨j19, ej19, hf⟩ := bo_some hf
      rw [ej19]
      obtain ⟨r20, g20, hf⟩ := bo_some hf
      refine xl_I (i := j19) hx hb hK hP g20 d_Cm_oneFunction_257 ?_
      refine lv_bipush (v := 40) hx hb d_Cm_oneFunction_258 (by decide) ?_
      refine lv_icmp_le (tgt := 267) hx hb d_Cm_oneFunction_260 (by decide) (fun hc => ?_) (fun hc => ?_)
      · rw [br_p _ hc] at hf
        refine lv_iconst (v := 0) hx hb d_Cm_oneFunction_267 (by decide) ?_
        exact wb_Cm_oneFunction_268 C0 hE N G hG _ _ _ _ hf H locs hP hD hS ls (lv_sub hl [] rfl)
      · rw [br_n _ hc] at hf
        exact wb_Cm_oneFunction_263 C0 hE N G hG _ _ _ hf H locs hP hD hS ls (lv_sub hl [] rfl)
  · rw [br_n _ hc] at hf
    refine lv_aload_n hx hb d_Cm_oneFunction_133 rfl (lv_at hl 0 rfl) ?_
    obtain ⟨r21, g21, hf⟩ := bo_some hf
    refine xg_R (i := v0) (k := 1) hx hb ht hown ck_Cm hK hP (by decide) fk_Cm_39 g21 d_Cm_oneFunction_134 ?_
    obtain ⟨j22, ej22, hf⟩ := bo_some hf
    rw [ej22]
    obtain ⟨r23, g23, hf⟩ := bo_some hf
    refine xg_R (i := j22) (k := 1) hx hb ht hown ck_Tr hK hP (by decide) fk_Cm_93 g23 d_Cm_oneFunction_137 ?_
    refine lv_iload_n hx hb d_Cm_oneFunction_140 rfl (lv_at hl 2 rfl) ?_
    obtain ⟨j24, ej24, hf⟩ := bo_some hf
    rw [ej24]
    obtain ⟨r25, g25, hf⟩ := bo_some hf
    refine xl_I (i := j24) hx hb hK hP g25 d_Cm_oneFunction_141 ?_
    refine lv_istore (lv' := [(4, .int r25), (0, .ref (ad v0)), (1, .int v1), (3, .int v3)]) hx hb d_Cm_oneFunction_142 hl (by decide) (by first | rfl | simp [List.filter, cat_rf]) (fun ls hl => ?_)
    refine lv_aload_n hx hb d_Cm_oneFunction_144 rfl (lv_at hl 1 rfl) ?_
    obtain ⟨r26, g26, hf⟩ := bo_some hf
    refine xg_R (i := v0) (k := 1) hx hb ht hown ck_Cm hK hP (by decide) fk_Cm_39 g26 d_Cm_oneFunction_145 ?_
    refine lv_aload_n hx hb d_Cm_oneFunction_148 rfl (lv_at hl 1 rfl) ?_
    obtain ⟨r27, g27, hf⟩ := bo_some hf
    refine xg_R (i := v0) (k := 1) hx hb ht hown ck_Cm hK hP (by decide) fk_Cm_39 g27 d_Cm_oneFunction_149 ?_
    obtain ⟨j28, ej28, hf⟩ := bo_some hf
    rw [ej28]
    obtain ⟨r29, g29, hf⟩ := bo_some hf
    refine xg_R (i := j28) (k := 2) hx hb ht hown ck_Tr hK hP (by decide) fk_Cm_125 g29 d_Cm_oneFunction_152 ?_
    refine lv_iload_n hx hb d_Cm_oneFunction_155 rfl (lv_at hl 3 rfl) ?_
    obtain ⟨j30, ej30, hf⟩ := bo_some hf
    rw [ej30]
    obtain ⟨r31, g31, hf⟩ := bo_some hf
    refine xl_I (i := j30) hx hb hK hP g31 d_Cm_oneFunction_156 ?_
    obtain ⟨j33, ej33, hf⟩ := bo_some hf
    rw [ej33]
    obtain ⟨hO9, hf⟩ := ck_some hf
    obtain ⟨u32, r32, hc32, hf⟩ := bx_some hf
    refine xV0 (i := j33) (As := [.int r31]) (rest := []) C0 hP hD hS ck_Tr hO9 (c_Tr_length N hc32) k_Tr_length (wd_of 1140 (by decide +kernel) rfl) hi_Tr_length hs_Tr_length hini_Tr rfl rfl hd_Tr_length rfl rm_Cm_oneFunction_Tr_length hl.1 (Nat.le_of_ble_eq_true rfl) d_Cm_oneFunction_157 rfl ⟨Nat.zero_le _, Nat.zero_le _⟩ (fun H locs hP hD hS => ?_)
    refine lv_istore (lv' := [(5, .int r32), (4, .int r25), (0, .ref (ad v0)), (1, .int v1), (3, .int v3)]) hx hb d_Cm_oneFunction_160 hl (by decide) (by first | rfl | simp [List.filter, cat_rf]) (fun ls hl => ?_)
    refine lv_aload_n hx hb d_Cm_oneFunction_162 rfl (lv_at hl 2 rfl) ?_
    obtain ⟨r34, g34, hf⟩ := bo_some hf
    refine xg_R (i := v0) (k := 0) hx hb ht hown ck_Cm hK hP (by decide) fk_Cm_35 g34 d_Cm_oneFunction_163 ?_
    obtain ⟨j35, ej35, hf⟩ := bo_some hf
    rw [ej35]
    obtain ⟨r36, g36, hf⟩ := bo_some hf
    refine xg_R (i := j35) (k := 3) hx hb ht hown ck_To hK hP (by decide) fk_Cm_132 g36 d_Cm_oneFunction_166 ?_
    refine lv_iload hx hb d_Cm_oneFunction_169 (lv_at hl 1 rfl) ?_
    obtain ⟨j37, ej37, hf⟩ := bo_some hf
    rw [ej37]
    obtain ⟨r38, g38, hf⟩ := bo_some hf
    refine xl_I (i := j37) hx hb hK hP g38 d_Cm_oneFunction_171 ?_
    refine lv_aload_n hx hb d_Cm_oneFunction_172 rfl (lv_at hl 2 rfl) ?_
    obtain ⟨r39, g39, hf⟩ := bo_some hf
    refine xg_R (i := v0) (k := 2) hx hb ht hown ck_Cm hK hP (by decide) fk_Cm_43 g39 d_Cm_oneFunction_173 ?_
    obtain ⟨j40, ej40, hf⟩ := bo_some hf
    rw [ej40]
    obtain ⟨r41, g41, hf⟩ := bo_some hf
    refine xg_R (i := j40) (k := 3) hx hb ht hown ck_Co hK hP (by decide) fk_Cm_101 g41 d_Cm_oneFunction_176 ?_
    refine lv_iload_n hx hb d_Cm_oneFunction_179 rfl (lv_at hl 3 rfl) ?_
    obtain ⟨j42, ej42, hf⟩ := bo_some hf
    rw [ej42]
    obtain ⟨r43, g43, hf⟩ := bo_some hf
    refine xl_I (i := j42) hx hb hK hP g43 d_Cm_oneFunction_180 ?_
    refine lv_icmp_ne (tgt := 198) hx hb d_Cm_oneFunction_181 (by decide) (fun hc => ?_) (fun hc => ?_)
    · rw [br_n _ hc] at hf
      exact wb_Cm_oneFunction_198 C0 hE N G hG _ _ _ _ _ _ _ hf H locs hP hD hS ls (lv_sub hl [2, 3, 4, 1, 0] rfl)
    · rw [br_p _ hc] at hf
      refine lv_iload hx hb d_Cm_oneFunction_184 (lv_at hl 0 rfl) ?_
      refine lv_aload_n hx hb d_Cm_oneFunction_186 rfl (lv_at hl 2 rfl) ?_
      obtain ⟨r44, g44, hf⟩ := bo_some hf
      refine xg_R (i := v0) (k := 2) hx hb ht hown ck_Cm hK hP (by decide) fk_Cm_43 g44 d_Cm_oneFunction_187 ?_
      obtain ⟨j45, ej45, hf⟩ := bo_some hf
      rw [ej45]
      obtain ⟨r46, g46, hf⟩ := bo_some hf
      refine xg_R (i := j45) (k := 4) hx hb ht hown ck_Co hK hP (by decide) fk_Cm_104 g46 d_Cm_oneFunction_190 ?_
      refine lv_iload_n hx hb d_Cm_oneFunction_193 rfl (lv_at hl 3 rfl) ?_
      obtain ⟨j47, ej47, hf⟩ := bo_some hf
      rw [ej47]
      obtain ⟨r48, g48, hf⟩ := bo_some hf
      refine xl_I (i := j47) hx hb hK hP g48 d_Cm_oneFunction_194 ?_
      refine lv_icmp_eq (tgt := 205) hx hb d_Cm_oneFunction_195 (by decide) (fun hc => ?_) (fun hc => ?_)
      · rw [br_p _ hc] at hf
        exact wb_Cm_oneFunction_205 C0 hE N G hG _ _ _ _ _ _ _ hf H locs hP hD hS ls (lv_sub hl [2, 3, 4, 1, 0] rfl)
      · rw [br_n _ hc] at hf
        exact wb_Cm_oneFunction_198 C0 hE N G hG _ _ _ _ _ _ _ hf H locs hP hD hS ls (lv_sub hl [2, 3, 4, 1, 0] rfl)
def fb_Cm_oneFunction_79 (N : Nat) (G : (CS → Nat → Int32 → Int32 → Option (CS × Unit))) (u : CS) (v0 : Nat) (v1 : Int32) : Option (CS × Unit) := bo (pF u v0 3 9 (.inl 0)) (fun w49 => bo (pF w49 v0 3 6 (.inl 0)) (fun w50 => bo (gR w50 v0 3 7) (fun r51 => bo r51 (fun j52 => bo (sI w50 j52 4 (0 : Int32) 0) (fun w53 => bo (gR w53 v0 3 8) (fun r54 => bo r54 (fun j55 => bo (sI w53 j55 4 (0 : Int32) 0) (fun w56 => bo (gR w56 v0 3 2) (fun r57 => bo r57 (fun j58 => bo (gR w56 j58 2 8) (fun r59 => bo (gR w56 v0 3 2) (fun r60 => bo r60 (fun j61 => bo (gI w56 j61 2 1) (fun r62 => bo r59 (fun j63 => bo (sI w56 j63 4 v1 r62) (fun w64 => bo (gR w64 v0 3 2) (fun r65 => bo r65 (fun j66 => bo (gR w64 j66 2 6) (fun r67 => bo r67 (fun j68 => bo (aI w64 j68 4 v1) (fun r69 => G w64 (v0) (v1) (r69))))))))))))))))))))))
set_option maxRecDepth 100000 in
set_option maxHeartbeats 4000000 in
theorem wb_Cm_oneFunction_79 {p : Program} {l : Launch} {e : Env} {s : State} {m : MethodId} {args : Array Value} {below : List Frame} {meth : Method} {c : Code} {s0 : State} {b0 : Nat} {D : va_G} {cB cI cJ cZ cS cP : ClassId} {A : Nat → Prop} {sk sv : Nat → Nat} {ad : Nat → Nat} (C0 : XCx p s s0 b0 m args meth c R_Cm b_Cm_oneFunction 6 none D cB cI cJ cZ cS cP A) (hE : ENV s0 b0 sk sv) (N : Nat) (G : (CS → Nat → Int32 → Int32 → Option (CS × Unit))) (hG : (∀ (u : CS) (v0 : Nat) (v1 : Int32) (v3 : Int32) (x : CS × Unit), G u v0 v1 v3 = some x → ∀ (H : Heap) (locs : List Loc), va_P D cls (wC cB cI cJ cZ cS cP ad u) H → va_D A (wC cB cI cJ cZ cS cP ad u) → va_S A s.heap H locs → ∀ (ls : Array Slot), lv_has ls 6 [(0, .ref (ad v0)), (1, .int v1), (3, .int v3)] → W p l e rm_Cm_oneFunction s m args below meth c H locs 0 0 (MQ below (xQ0 D cB cI cJ cZ cS cP A ad x.1 none) args s 0 0 A) (F0 m 129 ls []))) : ∀ (u : CS) (v0 : Nat) (v1 : Int32) (x : CS × Unit), fb_Cm_oneFunction_79 N G u v0 v1 = some x → ∀ (H : Heap) (locs : List Loc), va_P D cls (wC cB cI cJ cZ cS cP ad u) H → va_D A (wC cB cI cJ cZ cS cP ad u) → va_S A s.heap H locs → ∀ (ls : Array Slot), lv_has ls 6 [(0, .ref (ad v0)), (1, .int v1)] → W p l e rm_Cm_oneFunction s m args below meth c H locs 0 0 (MQ below (xQ0 D cB cI cJ cZ cS cP A ad x.1 none) args s 0 0 A) (F0 m 79 ls []) := by
  intro u v0 v1 x hf H locs hP hD hS ls hl
  obtain ⟨hx, hb, hr, hml, ht, hown, hK, hA, hlocks, hA0, hO, hbs⟩ := id C0
  unfold fb_Cm_oneFunction_79 at hf
  refine lv_aload_n hx hb d_Cm_oneFunction_79 rfl (lv_at hl 0 rfl) ?_
  refine lv_iconst (v := 0) hx hb d_Cm_oneFunction_80 (by decide) ?_
  obtain ⟨w49, g49, hf⟩ := bo_some hf
  refine xp (i := v0) (k := 9) (v := (.inl 0)) hx hb ht hown ck_Cm hK hP hD hS (by decide) fk_Cm_113 rfl g49 rfl rfl d_Cm_oneFunction_81 (fun H locs hP hD hS => ?_)
  refine lv_aload_n hx hb d_Cm_oneFunction_84 rfl (lv_at hl 0 rfl) ?_
  refine lv_iconst (v := 0) hx hb d_Cm_oneFunction_85 (by decide) ?_
  obtain ⟨w50, g50, hf⟩ := bo_some hf
  refine xp (i := v0) (k := 6) (v := (.inl 0)) hx hb ht hown ck_Cm hK hP hD hS (by decide) fk_Cm_116 rfl g50 rfl rfl d_Cm_oneFunction_86 (fun H locs hP hD hS => ?_)
  refine lv_aload_n hx hb d_Cm_oneFunction_89 rfl (lv_at hl 0 rfl) ?_
  obtain ⟨r51, g51, hf⟩ := bo_some hf
  refine xg_R (i := v0) (k := 7) hx hb ht hown ck_Cm hK hP (by decide) fk_Cm_26 g51 d_Cm_oneFunction_90 ?_
  refine lv_iconst (v := 0) hx hb d_Cm_oneFunction_93 (by decide) ?_
  refine lv_iconst (v := 0) hx hb d_Cm_oneFunction_94 (by decide) ?_
  obtain ⟨j52, ej52, hf⟩ := bo_some hf
  rw [ej52]
  obtain ⟨w53, g53, hf⟩ := bo_some hf
  refine xs_I (i := j52) hx hb hK hP hD hS g53 d_Cm_oneFunction_95 (fun H locs hP hD hS => ?_)
  refine lv_aload_n hx hb d_Cm_oneFunction_96 rfl (lv_at hl 0 rfl) ?_
  obtain ⟨r54, g54, hf⟩ := bo_some hf
  refine xg_R (i := v0) (k := 8) hx hb ht hown ck_Cm hK hP (by decide) fk_Cm_29 g54 d_Cm_oneFunction_97 ?_
  refine lv_iconst (v := 0) hx hb d_Cm_oneFunction_100 (by decide) ?_
  refine lv_iconst (v := 0) hx hb d_Cm_oneFunction_101 (by decide) ?_
  obtain ⟨j55, ej55, hf⟩ := bo_some hf
  rw [ej55]
  obtain ⟨w56, g56, hf⟩ := bo_some hf
  refine xs_I (i := j55) hx hb hK hP hD hS g56 d_Cm_oneFunction_102 (fun H locs hP hD hS => ?_)
  refine lv_aload_n hx hb d_Cm_oneFunction_103 rfl (lv_at hl 0 rfl) ?_
  obtain ⟨r57, g57, hf⟩ := bo_some hf
  refine xg_R (i := v0) (k := 2) hx hb ht hown ck_Cm hK hP (by decide) fk_Cm_43 g57 d_Cm_oneFunction_104 ?_
  obtain ⟨j58, ej58, hf⟩ := bo_some hf
  rw [ej58]
  obtain ⟨r59, g59, hf⟩ := bo_some hf
  refine xg_R (i := j58) (k := 8) hx hb ht hown ck_Co hK hP (by decide) fk_Cm_119 g59 d_Cm_oneFunction_107 ?_
  refine lv_iload_n hx hb d_Cm_oneFunction_110 rfl (lv_at hl 1 rfl) ?_
  refine lv_aload_n hx hb d_Cm_oneFunction_111 rfl (lv_at hl 0 rfl) ?_
  obtain ⟨r60, g60, hf⟩ := bo_some hf
  refine xg_R (i := v0) (k := 2) hx hb ht hown ck_Cm hK hP (by decide) fk_Cm_43 g60 d_Cm_oneFunction_112 ?_
  obtain ⟨j61, ej61, hf⟩ := bo_some hf
  rw [ej61]
  obtain ⟨r62, g62, hf⟩ := bo_some hf
  refine xg_I (i := j61) (k := 1) hx hb ht hown ck_Co hK hP (by decide) fk_Cm_122 g62 d_Cm_oneFunction_115 ?_
  obtain ⟨j63, ej63, hf⟩ := bo_some hf
  rw [ej63]
  obtain ⟨w64, g64, hf⟩ := bo_some hf
  refine xs_I (i := j63) hx hb hK hP hD hS g64 d_Cm_oneFunction_118 (fun H locs hP hD hS => ?_)
  refine lv_aload_n hx hb d_Cm_oneFunction_119 rfl (lv_at hl 0 rfl) ?_
  obtain ⟨r65, g65, hf⟩ := bo_some hf
  refine xg_R (i := v0) (k := 2) hx hb ht hown ck_Cm hK hP (by decide) fk_Cm_43 g65 d_Cm_oneFunction_120 ?_
  obtain ⟨j66, ej66, hf⟩ := bo_some hf
  rw [ej66]
  obtain ⟨r67, g67, hf⟩ := bo_some hf
  refine xg_R (i := j66) (k := 6) hx hb ht hown ck_Co hK hP (by decide) fk_Cm_98 g67 d_Cm_oneFunction_123 ?_
  refine lv_iload_n hx hb d_Cm_oneFunction_126 rfl (lv_at hl 1 rfl) ?_
  obtain ⟨j68, ej68, hf⟩ := bo_some hf
  rw [ej68]
  obtain ⟨r69, g69, hf⟩ := bo_some hf
  refine xl_I (i := j68) hx hb hK hP g69 d_Cm_oneFunction_127 ?_
  refine lv_istore_n (lv' := [(3, .int r69), (0, .ref (ad v0)), (1, .int v1)]) hx hb d_Cm_oneFunction_128 rfl hl (by decide) (by first | rfl | simp [List.filter, cat_rf]) (fun ls hl => ?_)
  exact hG _ _ _ _ _ hf H locs hP hD hS ls (lv_sub hl [1, 2, 0] rfl)
def fb_Cm_oneFunction_73 (N : Nat) (G : (CS → Nat → Int32 → Int32 → Option (CS × Unit))) (u : CS) (v0 : Nat) (v1 : Int32) (v2 : Int32) : Option (CS × Unit) := ck (isO u v0 3) (bx (fm_Cm_fault N u v0 v2 4) (fun u70 r70 => fb_Cm_oneFunction_79 N G u70 (v0) (v1)))
set_option maxRecDepth 100000 in
set_option maxHeartbeats 4000000 in
theorem wb_Cm_oneFunction_73 {p : Program} {l : Launch} {e : Env} {s : State} {m : MethodId} {args : Array Value} {below : List Frame} {meth : Method} {c : Code} {s0 : State} {b0 : Nat} {D : va_G} {cB cI cJ cZ cS cP : ClassId} {A : Nat → Prop} {sk sv : Nat → Nat} {ad : Nat → Nat} (C0 : XCx p s s0 b0 m args meth c R_Cm b_Cm_oneFunction 6 none D cB cI cJ cZ cS cP A) (hE : ENV s0 b0 sk sv) (N : Nat) (G : (CS → Nat → Int32 → Int32 → Option (CS × Unit))) (hG : (∀ (u : CS) (v0 : Nat) (v1 : Int32) (v3 : Int32) (x : CS × Unit), G u v0 v1 v3 = some x → ∀ (H : Heap) (locs : List Loc), va_P D cls (wC cB cI cJ cZ cS cP ad u) H → va_D A (wC cB cI cJ cZ cS cP ad u) → va_S A s.heap H locs → ∀ (ls : Array Slot), lv_has ls 6 [(0, .ref (ad v0)), (1, .int v1), (3, .int v3)] → W p l e rm_Cm_oneFunction s m args below meth c H locs 0 0 (MQ below (xQ0 D cB cI cJ cZ cS cP A ad x.1 none) args s 0 0 A) (F0 m 129 ls []))) : ∀ (u : CS) (v0 : Nat) (v1 : Int32) (v2 : Int32) (x : CS × Unit), fb_Cm_oneFunction_73 N G u v0 v1 v2 = some x → ∀ (H : Heap) (locs : List Loc), va_P D cls (wC cB cI cJ cZ cS cP ad u) H → va_D A (wC cB cI cJ cZ cS cP ad u) → va_S A s.heap H locs → ∀ (ls : Array Slot), lv_has ls 6 [(0, .ref (ad v0)), (1, .int v1), (2, .int v2)] → W p l e rm_Cm_oneFunction s m args below meth c H locs 0 0 (MQ below (xQ0 D cB cI cJ cZ cS cP A ad x.1 none) args s 0 0 A) (F0 m 73 ls []) := by
  intro u v0 v1 v2 x hf H locs hP hD hS ls hl
  obtain ⟨hx, hb, hr, hml, ht, hown, hK, hA, hlocks, hA0, hO, hbs⟩ := id C0
  unfold fb_Cm_oneFunction_73 at hf
  refine lv_aload_n hx hb d_Cm_oneFunction_73 rfl (lv_at hl 0 rfl) ?_
  refine lv_iload_n hx hb d_Cm_oneFunction_74 rfl (lv_at hl 2 rfl) ?_
  refine lv_iconst (v := 4) hx hb d_Cm_oneFunction_75 (by decide) ?_
  obtain ⟨hO9, hf⟩ := ck_some hf
  obtain ⟨u70, r70, hc70, hf⟩ := bx_some hf
  refine xV0 (i := v0) (As := [.int v2, .int 4]) (rest := []) C0 hP hD hS ck_Cm hO9 (c_Cm_fault N hE hc70) k_Cm_fault (wd_of 1133 (by decide +kernel) rfl) hi_Cm_fault hs_Cm_fault hini_Cm rfl rfl hd_Cm_fault rfl rm_Cm_oneFunction_Cm_fault hl.1 (Nat.le_of_ble_eq_true rfl) d_Cm_oneFunction_76 rfl ⟨Nat.zero_le _, Nat.zero_le _⟩ (fun H locs hP hD hS => ?_)
  exact wb_Cm_oneFunction_79 C0 hE N G hG _ _ _ _ hf H locs hP hD hS ls (lv_sub hl [0, 1] rfl)
def fb_Cm_oneFunction_0 (N : Nat) (G : (CS → Nat → Int32 → Int32 → Option (CS × Unit))) (u : CS) (v0 : Nat) (v1 : Int32) : Option (CS × Unit) := bo (gR u v0 3 1) (fun r71 => bo r71 (fun j72 => bo (gR u j72 10 1) (fun r73 => bo (gR u v0 3 2) (fun r74 => bo r74 (fun j75 => bo (gR u j75 2 6) (fun r76 => bo r76 (fun j77 => bo (aI u j77 4 v1) (fun r78 => bo r73 (fun j79 => bo (aI u j79 4 r78) (fun r80 => bo (gR u v0 3 2) (fun r81 => bo (gR u v0 3 2) (fun r82 => bo r82 (fun j83 => bo (gR u j83 2 3) (fun r84 => bo r84 (fun j85 => bo (aI u j85 4 v1) (fun r86 => bo (gR u v0 3 2) (fun r87 => bo r87 (fun j88 => bo (gR u j88 2 4) (fun r89 => bo r89 (fun j90 => bo (aI u j90 4 v1) (fun r91 => bo r81 (fun j93 => ck (isO u j93 2) (bx (fm_Co_seek N u j93 r86 r91) (fun u92 r92 => br (decide (r92 = v1)) (bo (gR u92 v0 3 2) (fun r94 => bo r94 (fun j95 => bo (gR u92 j95 2 3) (fun r96 => bo r96 (fun j97 => bo (aI u92 j97 4 v1) (fun r98 => bo (gR u92 v0 3 2) (fun r99 => bo r99 (fun j100 => bo (gR u92 j100 2 4) (fun r101 => bo r101 (fun j102 => bo (aI u92 j102 4 v1) (fun r103 => ck (isO u92 v0 3) (bx (fm_Cm_predefinedOf N u92 v0 r98 r103) (fun u104 r104 => br (decide (r104 = (-1))) (fb_Cm_oneFunction_79 N G u104 (v0) (v1)) (fb_Cm_oneFunction_73 N G u104 (v0) (v1) (r80))))))))))))))) (fb_Cm_oneFunction_73 N G u92 (v0) (v1) (r80))))))))))))))))))))))))))
set_option maxRecDepth 100000 in
set_option maxHeartbeats 4000000 in
theorem wb_Cm_oneFunction_0 {p : Program} {l : Launch} {e : Env} {s : State} {m : MethodId} {args : Array Value} {below : List Frame} {meth : Method} {c : Code} {s0 : State} {b0 : Nat} {D : va_G} {cB cI cJ cZ cS cP : ClassId} {A : Nat → Prop} {sk sv : Nat → Nat} {ad : Nat → Nat} (C0 : XCx p s s0 b0 m args meth c R_Cm b_Cm_oneFunction 6 none D cB cI cJ cZ cS cP A) (hE : ENV s0 b0 sk sv) (N : Nat) (G : (CS → Nat → Int32 → Int32 → Option (CS × Unit))) (hG : (∀ (u : CS) (v0 : Nat) (v1 : Int32) (v3 : Int32) (x : CS × Unit), G u v0 v1 v3 = some x → ∀ (H : Heap) (locs : List Loc), va_P D cls (wC cB cI cJ cZ cS cP ad u) H → va_D A (wC cB cI cJ cZ cS cP ad u) → va_S A s.heap H locs → ∀ (ls : Array Slot), lv_has ls 6 [(0, .ref (ad v0)), (1, .int v1), (3, .int v3)] → W p l e rm_Cm_oneFunction s m args below meth c H locs 0 0 (MQ below (xQ0 D cB cI cJ cZ cS cP A ad x.1 none) args s 0 0 A) (F0 m 129 ls []))) : ∀ (u : CS) (v0 : Nat) (v1 : Int32) (x : CS × Unit), fb_Cm_oneFunction_0 N G u v0 v1 = some x → ∀ (H : Heap) (locs : List Loc), va_P D cls (wC cB cI cJ cZ cS cP ad u) H → va_D A (wC cB cI cJ cZ cS cP ad u) → va_S A s.heap H locs → ∀ (ls : Array Slot), lv_has ls 6 [(0, .ref (ad v0)), (1, .int v1)] → W p l e rm_Cm_oneFunction s m args below meth c H locs 0 0 (MQ below (xQ0 D cB cI cJ cZ cS cP A ad x.1 none) args s 0 0 A) (F0 m 0 ls []) := by
  intro u v0 v1 x hf H locs hP hD hS ls hl
  obtain ⟨hx, hb, hr, hml, ht, hown, hK, hA, hlocks, hA0, hO, hbs⟩ := id C0
  unfold fb_Cm_oneFunction_0 at hf
  refine lv_aload_n hx hb d_Cm_oneFunction_0 rfl (lv_at hl 0 rfl) ?_
  obtain ⟨r71, g71, hf⟩ := bo_some hf
  refine xg_R (i := v0) (k := 1) hx hb ht hown ck_Cm hK hP (by decide) fk_Cm_39 g71 d_Cm_oneFunction_1 ?_
  obtain ⟨j72, ej72, hf⟩ := bo_some hf
  rw [ej72]
  obtain ⟨r73, g73, hf⟩ := bo_some hf
  refine xg_R (i := j72) (k := 1) hx hb ht hown ck_Tr hK hP (by decide) fk_Cm_93 g73 d_Cm_oneFunction_4 ?_
  refine lv_aload_n hx hb d_Cm_oneFunction_7 rfl (lv_at hl 0 rfl) ?_
  obtain ⟨r74, g74, hf⟩ := bo_some hf
  refine xg_R (i := v0) (k := 2) hx hb ht hown ck_Cm hK hP (by decide) fk_Cm_43 g74 d_Cm_oneFunction_8 ?_
  obtain ⟨j75, ej75, hf⟩ := bo_some hf
  rw [ej75]
  obtain ⟨r76, g76, hf⟩ := bo_some hf
  refine xg_R (i := j75) (k := 6) hx hb ht hown ck_Co hK hP (by decide) fk_Cm_98 g76 d_Cm_oneFunction_11 ?_
  refine lv_iload_n hx hb d_Cm_oneFunction_14 rfl (lv_at hl 1 rfl) ?_
  obtain ⟨j77, ej77, hf⟩ := bo_some hf
  rw [ej77]
  obtain ⟨r78, g78, hf⟩ := bo_some hf
  refine xl_I (i := j77) hx hb hK hP g78 d_Cm_oneFunction_15 ?_
  obtain ⟨j79, ej79, hf⟩ := bo_some hf
  rw [ej79]
  obtain ⟨r80, g80, hf⟩ := bo_some hf
  refine xl_I (i := j79) hx hb hK hP g80 d_Cm_oneFunction_16 ?_
  refine lv_istore_n (lv' := [(2, .int r80), (0, .ref (ad v0)), (1, .int v1)]) hx hb d_Cm_oneFunction_17 rfl hl (by decide) (by first | rfl | simp [List.filter, cat_rf]) (fun ls hl => ?_)
  refine lv_aload_n hx hb d_Cm_oneFunction_18 rfl (lv_at hl 1 rfl) ?_
  obtain ⟨r81, g81, hf⟩ := bo_some hf
  refine xg_R (i := v0) (k := 2) hx hb ht hown ck_Cm hK hP (by decide) fk_Cm_43 g81 d_Cm_oneFunction_19 ?_
  refine lv_aload_n hx hb d_Cm_oneFunction_22 rfl (lv_at hl 1 rfl) ?_
  obtain ⟨r82, g82, hf⟩ := bo_some hf
  refine xg_R (i := v0) (k := 2) hx hb ht hown ck_Cm hK hP (by decide) fk_Cm_43 g82 d_Cm_oneFunction_23 ?_
  obtain ⟨j83, ej83, hf⟩ := bo_some hf
  rw [ej83]
  obtain ⟨r84, g84, hf⟩ := bo_some hf
  refine xg_R (i := j83) (k := 3) hx hb ht hown ck_Co hK hP (by decide) fk_Cm_101 g84 d_Cm_oneFunction_26 ?_
  refine lv_iload_n hx hb d_Cm_oneFunction_29 rfl (lv_at hl 2 rfl) ?_
  obtain ⟨j85, ej85, hf⟩ := bo_some hf
  rw [ej85]
  obtain ⟨r86, g86, hf⟩ := bo_some hf
  refine xl_I (i := j85) hx hb hK hP g86 d_Cm_oneFunction_30 ?_
  refine lv_aload_n hx hb d_Cm_oneFunction_31 rfl (lv_at hl 1 rfl) ?_
  obtain ⟨r87, g87, hf⟩ := bo_some hf
  refine xg_R (i := v0) (k := 2) hx hb ht hown ck_Cm hK hP (by decide) fk_Cm_43 g87 d_Cm_oneFunction_32 ?_
  obtain ⟨j88, ej88, hf⟩ := bo_some hf
  rw [ej88]
  obtain ⟨r89, g89, hf⟩ := bo_some hf
  refine xg_R (i := j88) (k := 4) hx hb ht hown ck_Co hK hP (by decide) fk_Cm_104 g89 d_Cm_oneFunction_35 ?_
  refine lv_iload_n hx hb d_Cm_oneFunction_38 rfl (lv_at hl 2 rfl) ?_
  obtain ⟨j90, ej90, hf⟩ := bo_some hf
  rw [ej90]
  obtain ⟨r91, g91, hf⟩ := bo_some hf
  refine xl_I (i := j90) hx hb hK hP g91 d_Cm_oneFunction_39 ?_
  obtain ⟨j93, ej93, hf⟩ := bo_some hf
  rw [ej93]
  obtain ⟨hO9, hf⟩ := ck_some hf
  obtain ⟨u92, r92, hc92, hf⟩ := bx_some hf
  refine xV0 (i := j93) (As := [.int r86, .int r91]) (rest := []) C0 hP hD hS ck_Co hO9 (c_Co_seek N hc92) k_Co_seek (wd_of 1119 (by decide +kernel) rfl) hi_Co_seek hs_Co_seek hini_Co rfl rfl hd_Co_seek rfl rm_Cm_oneFunction_Co_seek hl.1 (Nat.le_of_ble_eq_true rfl) d_Cm_oneFunction_40 rfl ⟨Nat.zero_le _, Nat.zero_le _⟩ (fun H locs hP hD hS => ?_)
  refine lv_iload_n hx hb d_Cm_oneFunction_43 rfl (lv_at hl 2 rfl) ?_
  refine lv_icmp_ne (tgt := 73) hx hb d_Cm_oneFunction_44 (by decide) (fun hc => ?_) (fun hc => ?_)
  · rw [br_n _ hc] at hf
    exact wb_Cm_oneFunction_73 C0 hE N G hG _ _ _ _ _ hf H locs hP hD hS ls (lv_sub hl [1, 2, 0] rfl)
  · rw [br_p _ hc] at hf
    refine lv_aload_n hx hb d_Cm_oneFunction_47 rfl (lv_at hl 1 rfl) ?_
    refine lv_aload_n hx hb d_Cm_oneFunction_48 rfl (lv_at hl 1 rfl) ?_
    obtain ⟨r94, g94, hf⟩ := bo_some hf
    refine xg_R (i := v0) (k := 2) hx hb ht hown ck_Cm hK hP (by decide) fk_Cm_43 g94 d_Cm_oneFunction_49 ?_
    obtain ⟨j95, ej95, hf⟩ := bo_some hf
    rw [ej95]
    obtain ⟨r96, g96, hf⟩ := bo_some hf
    refine xg_R (i := j95) (k := 3) hx hb ht hown ck_Co hK hP (by decide) fk_Cm_101 g96 d_Cm_oneFunction_52 ?_
    refine lv_iload_n hx hb d_Cm_oneFunction_55 rfl (lv_at hl 2 rfl) ?_
    obtain ⟨j97, ej97, hf⟩ := bo_some hf
    rw [ej97]
    obtain ⟨r98, g98, hf⟩ := bo_some hf
    refine xl_I (i := j97) hx hb hK hP g98 d_Cm_oneFunction_56 ?_
    refine lv_aload_n hx hb d_Cm_oneFunction_57 rfl (lv_at hl 1 rfl) ?_
    obtain ⟨r99, g99, hf⟩ := bo_some hf
    refine xg_R (i := v0) (k := 2) hx hb ht hown ck_Cm hK hP (by decide) fk_Cm_43 g99 d_Cm_oneFunction_58 ?_
    obtain ⟨j100, ej100, hf⟩ := bo_some hf
    rw [ej100]
    obtain ⟨r101, g101, hf⟩ := bo_some hf
    refine xg_R (i := j100) (k := 4) hx hb ht hown ck_Co hK hP (by decide) fk_Cm_104 g101 d_Cm_oneFunction_61 ?_
    refine lv_iload_n hx hb d_Cm_oneFunction_64 rfl (lv_at hl 2 rfl) ?_
    obtain ⟨j102, ej102, hf⟩ := bo_some hf
    rw [ej102]
    obtain ⟨r103, g103, hf⟩ := bo_some hf
    refine xl_I (i := j102) hx hb hK hP g103 d_Cm_oneFunction_65 ?_
    obtain ⟨hO9, hf⟩ := ck_some hf
    obtain ⟨u104, r104, hc104, hf⟩ := bx_some hf
    refine xV0 (i := v0) (As := [.int r98, .int r103]) (rest := []) C0 hP hD hS ck_Cm hO9 (c_Cm_predefinedOf N hE hc104) k_Cm_predefinedOf (wd_of 1123 (by decide +kernel) rfl) hi_Cm_predefinedOf hs_Cm_predefinedOf hini_Cm rfl rfl hd_Cm_predefinedOf rfl rm_Cm_oneFunction_Cm_predefinedOf hl.1 (Nat.le_of_ble_eq_true rfl) d_Cm_oneFunction_66 rfl ⟨Nat.zero_le _, Nat.zero_le _⟩ (fun H locs hP hD hS => ?_)
    refine lv_iconst (v := (-1)) hx hb d_Cm_oneFunction_69 (by decide) ?_
    refine lv_icmp_eq (tgt := 79) hx hb d_Cm_oneFunction_70 (by decide) (fun hc => ?_) (fun hc => ?_)
    · rw [br_p _ hc] at hf
      exact wb_Cm_oneFunction_79 C0 hE N G hG _ _ _ _ hf H locs hP hD hS ls (lv_sub hl [1, 2] rfl)
    · rw [br_n _ hc] at hf
      exact wb_Cm_oneFunction_73 C0 hE N G hG _ _ _ _ _ hf H locs hP hD hS ls (lv_sub hl [1, 2, 0] rfl)
def gg_Cm_oneFunction (N : Nat) : Nat → ((CS → Nat → Int32 → Int32 → Option (CS × Unit)))
  | 0 => fun _ _ _ _ => none
  | n + 1 => fb_Cm_oneFunction_129 N (gg_Cm_oneFunction N n)
theorem wg_Cm_oneFunction {p : Program} {l : Launch} {e : Env} {s : State} {m : MethodId} {args : Array Value} {below : List Frame} {meth : Method} {c : Code} {s0 : State} {b0 : Nat} {D : va_G} {cB cI cJ cZ cS cP : ClassId} {A : Nat → Prop} {sk sv : Nat → Nat} {ad : Nat → Nat} (C0 : XCx p s s0 b0 m args meth c R_Cm b_Cm_oneFunction 6 none D cB cI cJ cZ cS cP A) (hE : ENV s0 b0 sk sv) (N : Nat) : ∀ n : Nat, (∀ (u : CS) (v0 : Nat) (v1 : Int32) (v3 : Int32) (x : CS × Unit), gg_Cm_oneFunction N n u v0 v1 v3 = some x → ∀ (H : Heap) (locs : List Loc), va_P D cls (wC cB cI cJ cZ cS cP ad u) H → va_D A (wC cB cI cJ cZ cS cP ad u) → va_S A s.heap H locs → ∀ (ls : Array Slot), lv_has ls 6 [(0, .ref (ad v0)), (1, .int v1), (3, .int v3)] → W p l e rm_Cm_oneFunction s m args below meth c H locs 0 0 (MQ below (xQ0 D cB cI cJ cZ cS cP A ad x.1 none) args s 0 0 A) (F0 m 129 ls []))
  | 0 => (fun u v0 v1 v3 x hf => by cases hf)
  | n + 1 => wb_Cm_oneFunction_129 C0 hE N (gg_Cm_oneFunction N n) (wg_Cm_oneFunction C0 hE N n)
def fm_Cm_oneFunction (N : Nat) (u : CS) (v0 : Nat) (v1 : Int32) : Option (CS × Unit) := fb_Cm_oneFunction_0 N (gg_Cm_oneFunction N N) u v0 v1
set_option maxRecDepth 100000 in
set_option maxHeartbeats 4000000 in
theorem c_Cm_oneFunction (N : Nat) {l : Launch} {s0 : State} {b0 : Nat} {D : va_G} {cB cI cJ cZ cS cP : ClassId} {sk sv : Nat → Nat} {ad : Nat → Nat} {u : CS} {sz : Nat} {v0 : Nat} {v1 : Int32} {x : CS × Unit} (hE : ENV s0 b0 sk sv) (hf : fm_Cm_oneFunction N u v0 v1 = some x) : Met l y_Cm_oneFunction (wd_ws y_Cm_oneFunction b_Cm_oneFunction 6 none) rm_Cm_oneFunction (xPc s0 b0 D cB cI cJ cZ cS cP ad u sz [.ref (ad v0), .int v1]) (xQ0 D cB cI cJ cZ cS cP (xA cB cI cJ cZ cS cP ad u sz) ad x.1 none) 0 0 (xA cB cI cJ cZ cS cP ad u sz) :=
  xMet (by decide) rfl (Nat.le_of_ble_eq_true rfl) (fun p e s m below meth c ls hsz hnm C0 hP hD hS hl =>
    wb_Cm_oneFunction_0 C0 hE N (gg_Cm_oneFunction N N) (wg_Cm_oneFunction C0 hE N N) u _ _ x hf s.heap [] hP hD hS ls (lv_sub hl [0, 1] rfl))
abbrev b_Cm_compile : ByteArray := prog_3_method_2_code
def y_Cm_compile : MethodName := ⟨R_Cm, "compile", "()I"⟩
def w_Cm_compile : List Cond := wd_ws y_Cm_compile b_Cm_compile 2 (some .int)
set_option maxRecDepth 100000 in
theorem k_Cm_compile : Cond.code y_Cm_compile b_Cm_compile 2 (some .int) ∈ wd_tbl := wd_of 1113 rfl rfl
theorem d_Cm_compile_0 : decode b_Cm_compile 0 = .ok (.aload_n 0, 1) := by decide +kernel
theorem d_Cm_compile_1 : decode b_Cm_compile 1 = .ok (.ldc 50, 2) := by decide +kernel
theorem d_Cm_compile_3 : decode b_Cm_compile 3 = .ok (.putfield 51, 3) := by decide +kernel
theorem d_Cm_compile_6 : decode b_Cm_compile 6 = .ok (.aload_n 0, 1) := by decide +kernel
theorem d_Cm_compile_7 : decode b_Cm_compile 7 = .ok (.iconst 0, 1) := by decide +kernel
theorem d_Cm_compile_8 : decode b_Cm_compile 8 = .ok (.putfield 55, 3) := by decide +kernel
theorem d_Cm_compile_11 : decode b_Cm_compile 11 = .ok (.aload_n 0, 1) := by decide +kernel
theorem d_Cm_compile_12 : decode b_Cm_compile 12 = .ok (.iconst 0, 1) := by decide +kernel
theorem d_Cm_compile_13 : decode b_Cm_compile 13 = .ok (.putfield 59, 3) := by decide +kernel
theorem d_Cm_compile_16 : decode b_Cm_compile 16 = .ok (.aload_n 0, 1) := by decide +kernel
theorem d_Cm_compile_17 : decode b_Cm_compile 17 = .ok (.iconst 0, 1) := by decide +kernel
theorem d_Cm_compile_18 : decode b_Cm_compile 18 = .ok (.putfield 62, 3) := by decide +kernel
theorem d_Cm_compile_21 : decode b_Cm_compile 21 = .ok (.iconst 0, 1) := by decide +kernel
theorem d_Cm_compile_22 : decode b_Cm_compile 22 = .ok (.istore_n 1, 1) := by decide +kernel
theorem d_Cm_compile_23 : decode b_Cm_compile 23 = .ok (.iload_n 1, 1) := by decide +kernel
theorem d_Cm_compile_24 : decode b_Cm_compile 24 = .ok (.aload_n 0, 1) := by decide +kernel
theorem d_Cm_compile_25 : decode b_Cm_compile 25 = .ok (.getfield 43, 3) := by decide +kernel
theorem d_Cm_compile_28 : decode b_Cm_compile 28 = .ok (.getfield 65, 3) := by decide +kernel
theorem d_Cm_compile_31 : decode b_Cm_compile 31 = .ok (.if_icmp .ge 14, 3) := by decide +kernel
theorem d_Cm_compile_34 : decode b_Cm_compile 34 = .ok (.aload_n 0, 1) := by decide +kernel
theorem d_Cm_compile_35 : decode b_Cm_compile 35 = .ok (.iload_n 1, 1) := by decide +kernel
theorem d_Cm_compile_36 : decode b_Cm_compile 36 = .ok (.invokevirtual 70, 3) := by decide +kernel
theorem d_Cm_compile_39 : decode b_Cm_compile 39 = .ok (.iinc 1 1, 3) := by decide +kernel
theorem d_Cm_compile_42 : decode b_Cm_compile 42 = .ok (.goto (-19), 3) := by decide +kernel
theorem d_Cm_compile_45 : decode b_Cm_compile 45 = .ok (.aload_n 0, 1) := by decide +kernel
theorem d_Cm_compile_46 : decode b_Cm_compile 46 = .ok (.getfield 51, 3) := by decide +kernel
theorem d_Cm_compile_49 : decode b_Cm_compile 49 = .ok (.ldc 50, 2) := by decide +kernel
theorem d_Cm_compile_51 : decode b_Cm_compile 51 = .ok (.if_icmp .eq 30, 3) := by decide +kernel
theorem d_Cm_compile_54 : decode b_Cm_compile 54 = .ok (.aload_n 0, 1) := by decide +kernel
theorem d_Cm_compile_55 : decode b_Cm_compile 55 = .ok (.getfield 51, 3) := by decide +kernel
theorem d_Cm_compile_58 : decode b_Cm_compile 58 = .ok (.bipush 16, 2) := by decide +kernel
theorem d_Cm_compile_60 : decode b_Cm_compile 60 = .ok (.irem, 1) := by decide +kernel
theorem d_Cm_compile_61 : decode b_Cm_compile 61 = .ok (.bipush 16, 2) := by decide +kernel
theorem d_Cm_compile_63 : decode b_Cm_compile 63 = .ok (.aload_n 0, 1) := by decide +kernel
theorem d_Cm_compile_64 : decode b_Cm_compile 64 = .ok (.getfield 35, 3) := by decide +kernel
theorem d_Cm_compile_67 : decode b_Cm_compile 67 = .ok (.getfield 74, 3) := by decide +kernel
theorem d_Cm_compile_70 : decode b_Cm_compile 70 = .ok (.aload_n 0, 1) := by decide +kernel
theorem d_Cm_compile_71 : decode b_Cm_compile 71 = .ok (.getfield 51, 3) := by decide +kernel
theorem d_Cm_compile_74 : decode b_Cm_compile 74 = .ok (.bipush 16, 2) := by decide +kernel
theorem d_Cm_compile_76 : decode b_Cm_compile 76 = .ok (.idiv, 1) := by decide +kernel
theorem d_Cm_compile_77 : decode b_Cm_compile 77 = .ok (.iaload, 1) := by decide +kernel
theorem d_Cm_compile_78 : decode b_Cm_compile 78 = .ok (.imul, 1) := by decide +kernel
theorem d_Cm_compile_79 : decode b_Cm_compile 79 = .ok (.iadd, 1) := by decide +kernel
theorem d_Cm_compile_80 : decode b_Cm_compile 80 = .ok (.ireturn, 1) := by decide +kernel
theorem d_Cm_compile_81 : decode b_Cm_compile 81 = .ok (.aload_n 0, 1) := by decide +kernel
theorem d_Cm_compile_82 : decode b_Cm_compile 82 = .ok (.getfield 43, 3) := by decide +kernel
theorem d_Cm_compile_85 : decode b_Cm_compile 85 = .ok (.getfield 65, 3) := by decide +kernel
theorem d_Cm_compile_88 : decode b_Cm_compile 88 = .ok (.bipush 60, 2) := by decide +kernel
theorem d_Cm_compile_90 : decode b_Cm_compile 90 = .ok (.if_icmp .gt 29, 3) := by decide +kernel
theorem d_Cm_compile_93 : decode b_Cm_compile 93 = .ok (.aload_n 0, 1) := by decide +kernel
theorem d_Cm_compile_94 : decode b_Cm_compile 94 = .ok (.getfield 47, 3) := by decide +kernel
theorem d_Cm_compile_97 : decode b_Cm_compile 97 = .ok (.getfield 79, 3) := by decide +kernel
theorem d_Cm_compile_100 : decode b_Cm_compile 100 = .ok (.sipush 200, 3) := by decide +kernel
theorem d_Cm_compile_103 : decode b_Cm_compile 103 = .ok (.if_icmp .gt 16, 3) := by decide +kernel
theorem d_Cm_compile_106 : decode b_Cm_compile 106 = .ok (.aload_n 0, 1) := by decide +kernel
theorem d_Cm_compile_107 : decode b_Cm_compile 107 = .ok (.getfield 35, 3) := by decide +kernel
theorem d_Cm_compile_110 : decode b_Cm_compile 110 = .ok (.getfield 82, 3) := by decide +kernel
theorem d_Cm_compile_113 : decode b_Cm_compile 113 = .ok (.sipush 1500, 3) := by decide +kernel
theorem d_Cm_compile_116 : decode b_Cm_compile 116 = .ok (.if_icmp .le 7, 3) := by decide +kernel
theorem d_Cm_compile_119 : decode b_Cm_compile 119 = .ok (.iconst 1, 1) := by decide +kernel
theorem d_Cm_compile_120 : decode b_Cm_compile 120 = .ok (.goto 4, 3) := by decide +kernel
theorem d_Cm_compile_123 : decode b_Cm_compile 123 = .ok (.iconst 0, 1) := by decide +kernel
theorem d_Cm_compile_124 : decode b_Cm_compile 124 = .ok (.istore_n 1, 1) := by decide +kernel
theorem d_Cm_compile_125 : decode b_Cm_compile 125 = .ok (.iload_n 1, 1) := by decide +kernel
theorem d_Cm_compile_126 : decode b_Cm_compile 126 = .ok (.ifCond .ne 10, 3) := by decide +kernel
theorem d_Cm_compile_129 : decode b_Cm_compile 129 = .ok (.aload_n 0, 1) := by decide +kernel
theorem d_Cm_compile_130 : decode b_Cm_compile 130 = .ok (.getfield 55, 3) := by decide +kernel
theorem d_Cm_compile_133 : decode b_Cm_compile 133 = .ok (.ifCond .eq 8, 3) := by decide +kernel
theorem d_Cm_compile_136 : decode b_Cm_compile 136 = .ok (.bipush 8, 2) := by decide +kernel
theorem d_Cm_compile_138 : decode b_Cm_compile 138 = .ok (.goto 4, 3) := by decide +kernel
theorem d_Cm_compile_141 : decode b_Cm_compile 141 = .ok (.iconst 0, 1) := by decide +kernel
theorem d_Cm_compile_142 : decode b_Cm_compile 142 = .ok (.ireturn, 1) := by decide +kernel
set_option maxRecDepth 100000 in
theorem hi_Cm_compile : Cond.instanceMethod y_Cm_compile ∈ wd_tbl := wd_of 1111 (by decide +kernel) rfl
set_option maxRecDepth 100000 in
theorem hs_Cm_compile : Cond.selects R_Cm y_Cm_compile y_Cm_compile ∈ wd_tbl := wd_of 1112 (by decide +kernel) rfl
theorem hd_Cm_compile : y_Cm_compile.cls = R_Cm ∧ y_Cm_compile.cls ≠ "java/lang/invoke/MethodHandle" ∧ y_Cm_compile.cls ≠ "java/lang/invoke/VarHandle" ∧ (parseMethodDescriptor y_Cm_compile.desc).map (fun d => d.parameters.length) = some 0 := by decide +kernel
def rm_Cm_compile : Room := { frames := 606, cells := 0, slots := 0, locals := 15138 }
theorem rm_Cm_compile_Cm_oneFunction : (rm_Cm_oneFunction).frames + 1 ≤ rm_Cm_compile.frames ∧ 8 + (6 + 11) + (rm_Cm_oneFunction).locals ≤ rm_Cm_compile.locals := by
  show 605 + 1 ≤ 606 ∧ 8 + (6 + 11) + 15113 ≤ 15138
  decide
def fb_Cm_compile_142 (N : Nat) (G : (CS → Nat → Int32 → Option (CS × Int32))) (u : CS) (t0 : Int32) : Option (CS × Int32) := some (u, t0)
set_option maxRecDepth 100000 in
set_option maxHeartbeats 4000000 in
theorem wb_Cm_compile_142 {p : Program} {l : Launch} {e : Env} {s : State} {m : MethodId} {args : Array Value} {below : List Frame} {meth : Method} {c : Code} {s0 : State} {b0 : Nat} {D : va_G} {cB cI cJ cZ cS cP : ClassId} {A : Nat → Prop} {sk sv : Nat → Nat} {ad : Nat → Nat} (C0 : XCx p s s0 b0 m args meth c R_Cm b_Cm_compile 2 (some .int) D cB cI cJ cZ cS cP A) (hE : ENV s0 b0 sk sv) (N : Nat) (G : (CS → Nat → Int32 → Option (CS × Int32))) (hG : (∀ (u : CS) (v0 : Nat) (v1 : Int32) (x : CS × Int32), G u v0 v1 = some x → ∀ (H : Heap) (locs : List Loc), va_P D cls (wC cB cI cJ cZ cS cP ad u) H → va_D A (wC cB cI cJ cZ cS cP ad u) → va_S A s.heap H locs → ∀ (ls : Array Slot), lv_has ls 2 [(0, .ref (ad v0)), (1, .int v1)] → W p l e rm_Cm_compile s m args below meth c H locs 0 0 (MQ below (xQ0 D cB cI cJ cZ cS cP A ad x.1 (some (.inl x.2))) args s 0 0 A) (F0 m 23 ls []))) : ∀ (u : CS) (t0 : Int32) (x : CS × Int32), fb_Cm_compile_142 N G u t0 = some x → ∀ (H : Heap) (locs : List Loc), va_P D cls (wC cB cI cJ cZ cS cP ad u) H → va_D A (wC cB cI cJ cZ cS cP ad u) → va_S A s.heap H locs → ∀ (ls : Array Slot), lv_has ls 2 [] → W p l e rm_Cm_compile s m args below meth c H locs 0 0 (MQ below (xQ0 D cB cI cJ cZ cS cP A ad x.1 (some (.inl x.2))) args s 0 0 A) (F0 m 142 ls [.int t0]) := by
  intro u t0 x hf H locs hP hD hS ls hl
  obtain ⟨hx, hb, hr, hml, ht, hown, hK, hA, hlocks, hA0, hO, hbs⟩ := id C0
  unfold fb_Cm_compile_142 at hf
  exact xr0_i C0 hP hD hS hf d_Cm_compile_142
def fb_Cm_compile_136 (N : Nat) (G : (CS → Nat → Int32 → Option (CS × Int32))) (u : CS) : Option (CS × Int32) := fb_Cm_compile_142 N G u (8)
set_option maxRecDepth 100000 in
set_option maxHeartbeats 4000000 in
theorem wb_Cm_compile_136 {p : Program} {l : Launch} {e : Env} {s : State} {m : MethodId} {args : Array Value} {below : List Frame} {meth : Method} {c : Code} {s0 : State} {b0 : Nat} {D : va_G} {cB cI cJ cZ cS cP : ClassId} {A : Nat → Prop} {sk sv : Nat → Nat} {ad : Nat → Nat} (C0 : XCx p s s0 b0 m args meth c R_Cm b_Cm_compile 2 (some .int) D cB cI cJ cZ cS cP A) (hE : ENV s0 b0 sk sv) (N : Nat) (G : (CS → Nat → Int32 → Option (CS × Int32))) (hG : (∀ (u : CS) (v0 : Nat) (v1 : Int32) (x : CS × Int32), G u v0 v1 = some x → ∀ (H : Heap) (locs : List Loc), va_P D cls (wC cB cI cJ cZ cS cP ad u) H → va_D A (wC cB cI cJ cZ cS cP ad u) → va_S A s.heap H locs → ∀ (ls : Array Slot), lv_has ls 2 [(0, .ref (ad v0)), (1, .int v1)] → W p l e rm_Cm_compile s m args below meth c H locs 0 0 (MQ below (xQ0 D cB cI cJ cZ cS cP A ad x.1 (some (.inl x.2))) args s 0 0 A) (F0 m 23 ls []))) : ∀ (u : CS) (x : CS × Int32), fb_Cm_compile_136 N G u = some x → ∀ (H : Heap) (locs : List Loc), va_P D cls (wC cB cI cJ cZ cS cP ad u) H → va_D A (wC cB cI cJ cZ cS cP ad u) → va_S A s.heap H locs → ∀ (ls : Array Slot), lv_has ls 2 [] → W p l e rm_Cm_compile s m args below meth c H locs 0 0 (MQ below (xQ0 D cB cI cJ cZ cS cP A ad x.1 (some (.inl x.2))) args s 0 0 A) (F0 m 136 ls []) := by
  intro u x hf H locs hP hD hS ls hl
  obtain ⟨hx, hb, hr, hml, ht, hown, hK, hA, hlocks, hA0, hO, hbs⟩ := id C0
  unfold fb_Cm_compile_136 at hf
  refine lv_bipush (v := 8) hx hb d_Cm_compile_136 (by decide) ?_
  refine lv_goto (tgt := 142) hx hb d_Cm_compile_138 (by decide) ?_
  exact wb_Cm_compile_142 C0 hE N G hG _ _ _ hf H locs hP hD hS ls (lv_sub hl [] rfl)
def fb_Cm_compile_124 (N : Nat) (G : (CS → Nat → Int32 → Option (CS × Int32))) (u : CS) (v0 : Nat) (t0 : Int32) : Option (CS × Int32) := br (decide (t0 = 0)) (bo (gI u v0 3 11) (fun r1 => br (decide (r1 = 0)) (fb_Cm_compile_142 N G u (0)) (fb_Cm_compile_136 N G u))) (fb_Cm_compile_136 N G u)
set_option maxRecDepth 100000 in
set_option maxHeartbeats 4000000 in
theorem wb_Cm_compile_124 {p : Program} {l : Launch} {e : Env} {s : State} {m : MethodId} {args : Array Value} {below : List Frame} {meth : Method} {c : Code} {s0 : State} {b0 : Nat} {D : va_G} {cB cI cJ cZ cS cP : ClassId} {A : Nat → Prop} {sk sv : Nat → Nat} {ad : Nat → Nat} (C0 : XCx p s s0 b0 m args meth c R_Cm b_Cm_compile 2 (some .int) D cB cI cJ cZ cS cP A) (hE : ENV s0 b0 sk sv) (N : Nat) (G : (CS → Nat → Int32 → Option (CS × Int32))) (hG : (∀ (u : CS) (v0 : Nat) (v1 : Int32) (x : CS × Int32), G u v0 v1 = some x → ∀ (H : Heap) (locs : List Loc), va_P D cls (wC cB cI cJ cZ cS cP ad u) H → va_D A (wC cB cI cJ cZ cS cP ad u) → va_S A s.heap H locs → ∀ (ls : Array Slot), lv_has ls 2 [(0, .ref (ad v0)), (1, .int v1)] → W p l e rm_Cm_compile s m args below meth c H locs 0 0 (MQ below (xQ0 D cB cI cJ cZ cS cP A ad x.1 (some (.inl x.2))) args s 0 0 A) (F0 m 23 ls []))) : ∀ (u : CS) (v0 : Nat) (t0 : Int32) (x : CS × Int32), fb_Cm_compile_124 N G u v0 t0 = some x → ∀ (H : Heap) (locs : List Loc), va_P D cls (wC cB cI cJ cZ cS cP ad u) H → va_D A (wC cB cI cJ cZ cS cP ad u) → va_S A s.heap H locs → ∀ (ls : Array Slot), lv_has ls 2 [(0, .ref (ad v0))] → W p l e rm_Cm_compile s m args below meth c H locs 0 0 (MQ below (xQ0 D cB cI cJ cZ cS cP A ad x.1 (some (.inl x.2))) args s 0 0 A) (F0 m 124 ls [.int t0]) := by
  intro u v0 t0 x hf H locs hP hD hS ls hl
  obtain ⟨hx, hb, hr, hml, ht, hown, hK, hA, hlocks, hA0, hO, hbs⟩ := id C0
  unfold fb_Cm_compile_124 at hf
  refine lv_istore_n (lv' := [(1, .int t0), (0, .ref (ad v0))]) hx hb d_Cm_compile_124 rfl hl (by decide) (by first | rfl | simp [List.filter, cat_rf]) (fun ls hl => ?_)
  refine lv_iload_n hx hb d_Cm_compile_125 rfl (lv_at hl 0 rfl) ?_
  refine lv_if_ne (tgt := 136) hx hb d_Cm_compile_126 (by decide) (fun hc => ?_) (fun hc => ?_)
  · rw [br_n _ hc] at hf
    exact wb_Cm_compile_136 C0 hE N G hG _ _ hf H locs hP hD hS ls (lv_sub hl [] rfl)
  · rw [br_p _ hc] at hf
    refine lv_aload_n hx hb d_Cm_compile_129 rfl (lv_at hl 1 rfl) ?_
    obtain ⟨r1, g1, hf⟩ := bo_some hf
    refine xg_I (i := v0) (k := 11) hx hb ht hown ck_Cm hK hP (by decide) fk_Cm_55 g1 d_Cm_compile_130 ?_
    refine lv_if_eq (tgt := 141) hx hb d_Cm_compile_133 (by decide) (fun hc => ?_) (fun hc => ?_)
    · rw [br_p _ hc] at hf
      refine lv_iconst (v := 0) hx hb d_Cm_compile_141 (by decide) ?_
      exact wb_Cm_compile_142 C0 hE N G hG _ _ _ hf H locs hP hD hS ls (lv_sub hl [] rfl)
    · rw [br_n _ hc] at hf
      exact wb_Cm_compile_136 C0 hE N G hG _ _ hf H locs hP hD hS ls (lv_sub hl [] rfl)
def fb_Cm_compile_119 (N : Nat) (G : (CS → Nat → Int32 → Option (CS × Int32))) (u : CS) (v0 : Nat) : Option (CS × Int32) := fb_Cm_compile_124 N G u (v0) (1)
set_option maxRecDepth 100000 in
set_option maxHeartbeats 4000000 in
theorem wb_Cm_compile_119 {p : Program} {l : Launch} {e : Env} {s : State} {m : MethodId} {args : Array Value} {below : List Frame} {meth : Method} {c : Code} {s0 : State} {b0 : Nat} {D : va_G} {cB cI cJ cZ cS cP : ClassId} {A : Nat → Prop} {sk sv : Nat → Nat} {ad : Nat → Nat} (C0 : XCx p s s0 b0 m args meth c R_Cm b_Cm_compile 2 (some .int) D cB cI cJ cZ cS cP A) (hE : ENV s0 b0 sk sv) (N : Nat) (G : (CS → Nat → Int32 → Option (CS × Int32))) (hG : (∀ (u : CS) (v0 : Nat) (v1 : Int32) (x : CS × Int32), G u v0 v1 = some x → ∀ (H : Heap) (locs : List Loc), va_P D cls (wC cB cI cJ cZ cS cP ad u) H → va_D A (wC cB cI cJ cZ cS cP ad u) → va_S A s.heap H locs → ∀ (ls : Array Slot), lv_has ls 2 [(0, .ref (ad v0)), (1, .int v1)] → W p l e rm_Cm_compile s m args below meth c H locs 0 0 (MQ below (xQ0 D cB cI cJ cZ cS cP A ad x.1 (some (.inl x.2))) args s 0 0 A) (F0 m 23 ls []))) : ∀ (u : CS) (v0 : Nat) (x : CS × Int32), fb_Cm_compile_119 N G u v0 = some x → ∀ (H : Heap) (locs : List Loc), va_P D cls (wC cB cI cJ cZ cS cP ad u) H → va_D A (wC cB cI cJ cZ cS cP ad u) → va_S A s.heap H locs → ∀ (ls : Array Slot), lv_has ls 2 [(0, .ref (ad v0))] → W p l e rm_Cm_compile s m args below meth c H locs 0 0 (MQ below (xQ0 D cB cI cJ cZ cS cP A ad x.1 (some (.inl x.2))) args s 0 0 A) (F0 m 119 ls []) := by
  intro u v0 x hf H locs hP hD hS ls hl
  obtain ⟨hx, hb, hr, hml, ht, hown, hK, hA, hlocks, hA0, hO, hbs⟩ := id C0
  unfold fb_Cm_compile_119 at hf
  refine lv_iconst (v := 1) hx hb d_Cm_compile_119 (by decide) ?_
  refine lv_goto (tgt := 124) hx hb d_Cm_compile_120 (by decide) ?_
  exact wb_Cm_compile_124 C0 hE N G hG _ _ _ _ hf H locs hP hD hS ls (lv_sub hl [0] rfl)
def fb_Cm_compile_23 (N : Nat) (G : (CS → Nat → Int32 → Option (CS × Int32))) (u : CS) (v0 : Nat) (v1 : Int32) : Option (CS × Int32) := bo (gR u v0 3 2) (fun r2 => bo r2 (fun j3 => bo (gI u j3 2 2) (fun r4 => br (decide (r4 ≤ v1)) (bo (gI u v0 3 14) (fun r5 => br (decide (r5 = 1000000000)) (bo (gR u v0 3 2) (fun r6 => bo r6 (fun j7 => bo (gI u j7 2 2) (fun r8 => br (decide (60 < r8)) (fb_Cm_compile_119 N G u (v0)) (bo (gR u v0 3 3) (fun r9 => bo r9 (fun j10 => bo (gI u j10 11 2) (fun r11 => br (decide (200 < r11)) (fb_Cm_compile_119 N G u (v0)) (bo (gR u v0 3 0) (fun r12 => bo r12 (fun j13 => bo (gI u j13 9 5) (fun r14 => br (decide (r14 ≤ 1500)) (fb_Cm_compile_124 N G u (v0) (0)) (fb_Cm_compile_119 N G u (v0)))))))))))))) (bo (gI u v0 3 14) (fun r15 => bo (gR u v0 3 0) (fun r16 => bo r16 (fun j17 => bo (gR u j17 9 4) (fun r18 => bo (gI u v0 3 14) (fun r19 => bo r18 (fun j20 => bo (aI u j20 4 (r19 / 16)) (fun r21 => some (u, ((r15 - r15 / 16 * 16) + (16 * r21))))))))))))) (ck (isO u v0 3) (bx (fm_Cm_oneFunction N u v0 v1) (fun u22 r22 => G u22 (v0) ((v1 + 1))))))))
set_option maxRecDepth 100000 in
set_option maxHeartbeats 4000000 in
theorem wb_Cm_compile_23 {p : Program} {l : Launch} {e : Env} {s : State} {m : MethodId} {args : Array Value} {below : List Frame} {meth : Method} {c : Code} {s0 : State} {b0 : Nat} {D : va_G} {cB cI cJ cZ cS cP : ClassId} {A : Nat → Prop} {sk sv : Nat → Nat} {ad : Nat → Nat} (C0 : XCx p s s0 b0 m args meth c R_Cm b_Cm_compile 2 (some .int) D cB cI cJ cZ cS cP A) (hE : ENV s0 b0 sk sv) (N : Nat) (G : (CS → Nat → Int32 → Option (CS × Int32))) (hG : (∀ (u : CS) (v0 : Nat) (v1 : Int32) (x : CS × Int32), G u v0 v1 = some x → ∀ (H : Heap) (locs : List Loc), va_P D cls (wC cB cI cJ cZ cS cP ad u) H → va_D A (wC cB cI cJ cZ cS cP ad u) → va_S A s.heap H locs → ∀ (ls : Array Slot), lv_has ls 2 [(0, .ref (ad v0)), (1, .int v1)] → W p l e rm_Cm_compile s m args below meth c H locs 0 0 (MQ below (xQ0 D cB cI cJ cZ cS cP A ad x.1 (some (.inl x.2))) args s 0 0 A) (F0 m 23 ls []))) : ∀ (u : CS) (v0 : Nat) (v1 : Int32) (x : CS × Int32), fb_Cm_compile_23 N G u v0 v1 = some x → ∀ (H : Heap) (locs : List Loc), va_P D cls (wC cB cI cJ cZ cS cP ad u) H → va_D A (wC cB cI cJ cZ cS cP ad u) → va_S A s.heap H locs → ∀ (ls : Array Slot), lv_has ls 2 [(0, .ref (ad v0)), (1, .int v1)] → W p l e rm_Cm_compile s m args below meth c H locs 0 0 (MQ below (xQ0 D cB cI cJ cZ cS cP A ad x.1 (some (.inl x.2))) args s 0 0 A) (F0 m 23 ls []) := by
  intro u v0 v1 x hf H locs hP hD hS ls hl
  obtain ⟨hx, hb, hr, hml, ht, hown, hK, hA, hlocks, hA0, hO, hbs⟩ := id C0
  unfold fb_Cm_compile_23 at hf
  refine lv_iload_n hx hb d_Cm_compile_23 rfl (lv_at hl 1 rfl) ?_
  refine lv_aload_n hx hb d_Cm_compile_24 rfl (lv_at hl 0 rfl) ?_
  obtain ⟨r2, g2, hf⟩ := bo_some hf
  refine xg_R (i := v0) (k := 2) hx hb ht hown ck_Cm hK hP (by decide) fk_Cm_43 g2 d_Cm_compile_25 ?_
  obtain ⟨j3, ej3, hf⟩ := bo_some hf
  rw [ej3]
  obtain ⟨r4, g4, hf⟩ := bo_some hf
  refine xg_I (i := j3) (k := 2) hx hb ht hown ck_Co hK hP (by decide) fk_Cm_65 g4 d_Cm_compile_28 ?_
  refine lv_icmp_ge (tgt := 45) hx hb d_Cm_compile_31 (by decide) (fun hc => ?_) (fun hc => ?_)
  · rw [br_p _ hc] at hf
    refine lv_aload_n hx hb d_Cm_compile_45 rfl (lv_at hl 0 rfl) ?_
    obtain ⟨r5, g5, hf⟩ := bo_some hf
    refine xg_I (i := v0) (k := 14) hx hb ht hown ck_Cm hK hP (by decide) fk_Cm_51 g5 d_Cm_compile_46 ?_
    refine lv_ldc (v := 1000000000) hx hb hown (ht _ (wd_of 1114 (by decide +kernel) rfl)) d_Cm_compile_49 ?_
    refine lv_icmp_eq (tgt := 81) hx hb d_Cm_compile_51 (by decide) (fun hc => ?_) (fun hc => ?_)
    · rw [br_p _ hc] at hf
      refine lv_aload_n hx hb d_Cm_compile_81 rfl (lv_at hl 0 rfl) ?_
      obtain ⟨r6, g6, hf⟩ := bo_some hf
      refine xg_R (i := v0) (k := 2) hx hb ht hown ck_Cm hK hP (by decide) fk_Cm_43 g6 d_Cm_compile_82 ?_
      obtain ⟨j7, ej7, hf⟩ := bo_some hf
      rw [ej7]
      obtain ⟨r8, g8, hf⟩ := bo_some hf
      refine xg_I (i := j7) (k := 2) hx hb ht hown ck_Co hK hP (by decide) fk_Cm_65 g8 d_Cm_compile_85 ?_
      refine lv_bipush (v := 60) hx hb d_Cm_compile_88 (by decide) ?_
      refine lv_icmp_gt (tgt := 119) hx hb d_Cm_compile_90 (by decide) (fun hc => ?_) (fun hc => ?_)
      · rw [br_p _ hc] at hf
        exact wb_Cm_compile_119 C0 hE N G hG _ _ _ hf H locs hP hD hS ls (lv_sub hl [0] rfl)
      · rw [br_n _ hc] at hf
        refine lv_aload_n hx hb d_Cm_compile_93 rfl (lv_at hl 0 rfl) ?_
        obtain ⟨r9, g9, hf⟩ := bo_some hf
        refine xg_R (i := v0) (k := 3) hx hb ht hown ck_Cm hK hP (by decide) fk_Cm_47 g9 d_Cm_compile_94 ?_
        obtain ⟨j10, ej10, hf⟩ := bo_some hf
        rw [ej10]
        obtain ⟨r11, g11, hf⟩ := bo_some hf
        refine xg_I (i := j10) (k := 2) hx hb ht hown ck_Wo hK hP (by decide) fk_Cm_79 g11 d_Cm_compile_97 ?_
        refine lv_sipush (v := 200) hx hb d_Cm_compile_100 (by decide) ?_
        refine lv_icmp_gt (tgt := 119) hx hb d_Cm_compile_103 (by decide) (fun hc => ?_) (fun hc => ?_)
        · rw [br_p _ hc] at hf
          exact wb_Cm_compile_119 C0 hE N G hG _ _ _ hf H locs hP hD hS ls (lv_sub hl [0] rfl)
        · rw [br_n _ hc] at hf
          refine lv_aload_n hx hb d_Cm_compile_106 rfl (lv_at hl 0 rfl) ?_
          obtain ⟨r12, g12, hf⟩ := bo_some hf
          refine xg_R (i := v0) (k := 0) hx hb ht hown ck_Cm hK hP (by decide) fk_Cm_35 g12 d_Cm_compile_107 ?_
          obtain ⟨j13, ej13, hf⟩ := bo_some hf
          rw [ej13]
          obtain ⟨r14, g14, hf⟩ := bo_some hf
          refine xg_I (i := j13) (k := 5) hx hb ht hown ck_To hK hP (by decide) fk_Cm_82 g14 d_Cm_compile_110 ?_
          refine lv_sipush (v := 1500) hx hb d_Cm_compile_113 (by decide) ?_
          refine lv_icmp_le (tgt := 123) hx hb d_Cm_compile_116 (by decide) (fun hc => ?_) (fun hc => ?_)
          · rw [br_p _ hc] at hf
            refine lv_iconst (v := 0) hx hb d_Cm_compile_123 (by decide) ?_
            exact wb_Cm_compile_124 C0 hE N G hG _ _ _ _ hf H locs hP hD hS ls (lv_sub hl [0] rfl)
          · rw [br_n _ hc] at hf
            exact wb_Cm_compile_119 C0 hE N G hG _ _ _ hf H locs hP hD hS ls (lv_sub hl [0] rfl)
    · rw [br_n _ hc] at hf
      refine lv_aload_n hx hb d_Cm_compile_54 rfl (lv_at hl 0 rfl) ?_
      obtain ⟨r15, g15, hf⟩ := bo_some hf
      refine xg_I (i := v0) (k := 14) hx hb ht hown ck_Cm hK hP (by decide) fk_Cm_51 g15 d_Cm_compile_55 ?_
      refine lv_bipush (v := 16) hx hb d_Cm_compile_58 (by decide) ?_
      refine lv_irem hx hb d_Cm_compile_60 (by decide) ?_
      refine lv_bipush (v := 16) hx hb d_Cm_compile_61 (by decide) ?_
      refine lv_aload_n hx hb d_Cm_compile_63 rfl (lv_at hl 0 rfl) ?_
      obtain ⟨r16, g16, hf⟩ := bo_some hf
      refine xg_R (i := v0) (k := 0) hx hb ht hown ck_Cm hK hP (by decide) fk_Cm_35 g16 d_Cm_compile_64 ?_
      obtain ⟨j17, ej17, hf⟩ := bo_some hf
      rw [ej17]
      obtain ⟨r18, g18, hf⟩ := bo_some hf
      refine xg_R (i := j17) (k := 4) hx hb ht hown ck_To hK hP (by decide) fk_Cm_74 g18 d_Cm_compile_67 ?_
      refine lv_aload_n hx hb d_Cm_compile_70 rfl (lv_at hl 0 rfl) ?_
      obtain ⟨r19, g19, hf⟩ := bo_some hf
      refine xg_I (i := v0) (k := 14) hx hb ht hown ck_Cm hK hP (by decide) fk_Cm_51 g19 d_Cm_compile_71 ?_
      refine lv_bipush (v := 16) hx hb d_Cm_compile_74 (by decide) ?_
      refine lv_idiv hx hb d_Cm_compile_76 (by decide) ?_
      obtain ⟨j20, ej20, hf⟩ := bo_some hf
      rw [ej20]
      obtain ⟨r21, g21, hf⟩ := bo_some hf
      refine xl_I (i := j20) hx hb hK hP g21 d_Cm_compile_77 ?_
      refine lv_imul hx hb d_Cm_compile_78 ?_
      refine lv_iadd hx hb d_Cm_compile_79 ?_
      exact xr0_i C0 hP hD hS hf d_Cm_compile_80
  · rw [br_n _ hc] at hf
    refine lv_aload_n hx hb d_Cm_compile_34 rfl (lv_at hl 0 rfl) ?_
    refine lv_iload_n hx hb d_Cm_compile_35 rfl (lv_at hl 1 rfl) ?_
    obtain ⟨hO9, hf⟩ := ck_some hf
    obtain ⟨u22, r22, hc22, hf⟩ := bx_some hf
    refine xV0 (i := v0) (As := [.int v1]) (rest := []) C0 hP hD hS ck_Cm hO9 (c_Cm_oneFunction N hE hc22) k_Cm_oneFunction (wd_of 1115 (by decide +kernel) rfl) hi_Cm_oneFunction hs_Cm_oneFunction hini_Cm rfl rfl hd_Cm_oneFunction rfl rm_Cm_compile_Cm_oneFunction hl.1 (Nat.le_of_ble_eq_true rfl) d_Cm_compile_36 rfl ⟨Nat.zero_le _, Nat.zero_le _⟩ (fun H locs hP hD hS => ?_)
    refine lv_iinc (v := (v1 + 1)) (lv' := [(1, .int (v1 + 1)), (0, .ref (ad v0))]) hx hb d_Cm_compile_39 hl (k := 1) rfl rfl (by decide) (by first | rfl | simp [List.filter, cat_rf]) (fun ls hl => ?_)
    refine lv_goto (tgt := 23) hx hb d_Cm_compile_42 (by decide) ?_
    exact hG _ _ _ _ hf H locs hP hD hS ls (lv_sub hl [1, 0] rfl)
def fb_Cm_compile_0 (N : Nat) (G : (CS → Nat → Int32 → Option (CS × Int32))) (u : CS) (v0 : Nat) : Option (CS × Int32) := bo (pF u v0 3 14 (.inl 1000000000)) (fun w23 => bo (pF w23 v0 3 11 (.inl 0)) (fun w24 => bo (pF w24 v0 3 12 (.inl 0)) (fun w25 => bo (pF w25 v0 3 13 (.inl 0)) (fun w26 => G w26 (v0) (0)))))
set_option maxRecDepth 100000 in
set_option maxHeartbeats 4000000 in
theorem wb_Cm_compile_0 {p : Program} {l : Launch} {e : Env} {s : State} {m : MethodId} {args : Array Value} {below : List Frame} {meth : Method} {c : Code} {s0 : State} {b0 : Nat} {D : va_G} {cB cI cJ cZ cS cP : ClassId} {A : Nat → Prop} {sk sv : Nat → Nat} {ad : Nat → Nat} (C0 : XCx p s s0 b0 m args meth c R_Cm b_Cm_compile 2 (some .int) D cB cI cJ cZ cS cP A) (hE : ENV s0 b0 sk sv) (N : Nat) (G : (CS → Nat → Int32 → Option (CS × Int32))) (hG : (∀ (u : CS) (v0 : Nat) (v1 : Int32) (x : CS × Int32), G u v0 v1 = some x → ∀ (H : Heap) (locs : List Loc), va_P D cls (wC cB cI cJ cZ cS cP ad u) H → va_D A (wC cB cI cJ cZ cS cP ad u) → va_S A s.heap H locs → ∀ (ls : Array Slot), lv_has ls 2 [(0, .ref (ad v0)), (1, .int v1)] → W p l e rm_Cm_compile s m args below meth c H locs 0 0 (MQ below (xQ0 D cB cI cJ cZ cS cP A ad x.1 (some (.inl x.2))) args s 0 0 A) (F0 m 23 ls []))) : ∀ (u : CS) (v0 : Nat) (x : CS × Int32), fb_Cm_compile_0 N G u v0 = some x → ∀ (H : Heap) (locs : List Loc), va_P D cls (wC cB cI cJ cZ cS cP ad u) H → va_D A (wC cB cI cJ cZ cS cP ad u) → va_S A s.heap H locs → ∀ (ls : Array Slot), lv_has ls 2 [(0, .ref (ad v0))] → W p l e rm_Cm_compile s m args below meth c H locs 0 0 (MQ below (xQ0 D cB cI cJ cZ cS cP A ad x.1 (some (.inl x.2))) args s 0 0 A) (F0 m 0 ls []) := by
  intro u v0 x hf H locs hP hD hS ls hl
  obtain ⟨hx, hb, hr, hml, ht, hown, hK, hA, hlocks, hA0, hO, hbs⟩ := id C0
  unfold fb_Cm_compile_0 at hf
  refine lv_aload_n hx hb d_Cm_compile_0 rfl (lv_at hl 0 rfl) ?_
  refine lv_ldc (v := 1000000000) hx hb hown (ht _ (wd_of 1114 (by decide +kernel) rfl)) d_Cm_compile_1 ?_
  obtain ⟨w23, g23, hf⟩ := bo_some hf
  refine xp (i := v0) (k := 14) (v := (.inl 1000000000)) hx hb ht hown ck_Cm hK hP hD hS (by decide) fk_Cm_51 rfl g23 rfl rfl d_Cm_compile_3 (fun H locs hP hD hS => ?_)
  refine lv_aload_n hx hb d_Cm_compile_6 rfl (lv_at hl 0 rfl) ?_
  refine lv_iconst (v := 0) hx hb d_Cm_compile_7 (by decide) ?_
  obtain ⟨w24, g24, hf⟩ := bo_some hf
  refine xp (i := v0) (k := 11) (v := (.inl 0)) hx hb ht hown ck_Cm hK hP hD hS (by decide) fk_Cm_55 rfl g24 rfl rfl d_Cm_compile_8 (fun H locs hP hD hS => ?_)
  refine lv_aload_n hx hb d_Cm_compile_11 rfl (lv_at hl 0 rfl) ?_
  refine lv_iconst (v := 0) hx hb d_Cm_compile_12 (by decide) ?_
  obtain ⟨w25, g25, hf⟩ := bo_some hf
  refine xp (i := v0) (k := 12) (v := (.inl 0)) hx hb ht hown ck_Cm hK hP hD hS (by decide) fk_Cm_59 rfl g25 rfl rfl d_Cm_compile_13 (fun H locs hP hD hS => ?_)
  refine lv_aload_n hx hb d_Cm_compile_16 rfl (lv_at hl 0 rfl) ?_
  refine lv_iconst (v := 0) hx hb d_Cm_compile_17 (by decide) ?_
  obtain ⟨w26, g26, hf⟩ := bo_some hf
  refine xp (i := v0) (k := 13) (v := (.inl 0)) hx hb ht hown ck_Cm hK hP hD hS (by decide) fk_Cm_62 rfl g26 rfl rfl d_Cm_compile_18 (fun H locs hP hD hS => ?_)
  refine lv_iconst (v := 0) hx hb d_Cm_compile_21 (by decide) ?_
  refine lv_istore_n (lv' := [(1, .int 0), (0, .ref (ad v0))]) hx hb d_Cm_compile_22 rfl hl (by decide) (by first | rfl | simp [List.filter, cat_rf]) (fun ls hl => ?_)
  exact hG _ _ _ _ hf H locs hP hD hS ls (lv_sub hl [1, 0] rfl)
def gg_Cm_compile (N : Nat) : Nat → ((CS → Nat → Int32 → Option (CS × Int32)))
  | 0 => fun _ _ _ => none
  | n + 1 => fb_Cm_compile_23 N (gg_Cm_compile N n)
theorem wg_Cm_compile {p : Program} {l : Launch} {e : Env} {s : State} {m : MethodId} {args : Array Value} {below : List Frame} {meth : Method} {c : Code} {s0 : State} {b0 : Nat} {D : va_G} {cB cI cJ cZ cS cP : ClassId} {A : Nat → Prop} {sk sv : Nat → Nat} {ad : Nat → Nat} (C0 : XCx p s s0 b0 m args meth c R_Cm b_Cm_compile 2 (some .int) D cB cI cJ cZ cS cP A) (hE : ENV s0 b0 sk sv) (N : Nat) : ∀ n : Nat, (∀ (u : CS) (v0 : Nat) (v1 : Int32) (x : CS × Int32), gg_Cm_compile N n u v0 v1 = some x → ∀ (H : Heap) (locs : List Loc), va_P D cls (wC cB cI cJ cZ cS cP ad u) H → va_D A (wC cB cI cJ cZ cS cP ad u) → va_S A s.heap H locs → ∀ (ls : Array Slot), lv_has ls 2 [(0, .ref (ad v0)), (1, .int v1)] → W p l e rm_Cm_compile s m args below meth c H locs 0 0 (MQ below (xQ0 D cB cI cJ cZ cS cP A ad x.1 (some (.inl x.2))) args s 0 0 A) (F0 m 23 ls []))
  | 0 => (fun u v0 v1 x hf => by cases hf)
  | n + 1 => wb_Cm_compile_23 C0 hE N (gg_Cm_compile N n) (wg_Cm_compile C0 hE N n)
def fm_Cm_compile (N : Nat) (u : CS) (v0 : Nat) : Option (CS × Int32) := fb_Cm_compile_0 N (gg_Cm_compile N N) u v0
set_option maxRecDepth 100000 in
set_option maxHeartbeats 4000000 in
theorem c_Cm_compile (N : Nat) {l : Launch} {s0 : State} {b0 : Nat} {D : va_G} {cB cI cJ cZ cS cP : ClassId} {sk sv : Nat → Nat} {ad : Nat → Nat} {u : CS} {sz : Nat} {v0 : Nat} {x : CS × Int32} (hE : ENV s0 b0 sk sv) (hf : fm_Cm_compile N u v0 = some x) : Met l y_Cm_compile (wd_ws y_Cm_compile b_Cm_compile 2 (some .int)) rm_Cm_compile (xPc s0 b0 D cB cI cJ cZ cS cP ad u sz [.ref (ad v0)]) (xQ0 D cB cI cJ cZ cS cP (xA cB cI cJ cZ cS cP ad u sz) ad x.1 (some (.inl x.2))) 0 0 (xA cB cI cJ cZ cS cP ad u sz) :=
  xMet (by decide) rfl (Nat.le_of_ble_eq_true rfl) (fun p e s m below meth c ls hsz hnm C0 hP hD hS hl =>
    wb_Cm_compile_0 C0 hE N (gg_Cm_compile N N) (wg_Cm_compile C0 hE N N) u _ x hf s.heap [] hP hD hS ls (lv_sub hl [0] rfl))
abbrev b_H_read : ByteArray := prog_1_method_4_code
def y_H_read : MethodName := ⟨R_H, "read", "()I"⟩
def w_H_read : List Cond := wd_ws y_H_read b_H_read 2 (some .int)
set_option maxRecDepth 100000 in
theorem k_H_read : Cond.code y_H_read b_H_read 2 (some .int) ∈ wd_tbl := wd_of 818 rfl rfl
theorem d_H_read_0 : decode b_H_read 0 = .ok (.aload_n 0, 1) := by decide +kernel
theorem d_H_read_1 : decode b_H_read 1 = .ok (.getfield 25, 3) := by decide +kernel
theorem d_H_read_4 : decode b_H_read 4 = .ok (.invokevirtual 94, 3) := by decide +kernel
theorem d_H_read_7 : decode b_H_read 7 = .ok (.aload_n 0, 1) := by decide +kernel
theorem d_H_read_8 : decode b_H_read 8 = .ok (.getfield 44, 3) := by decide +kernel
theorem d_H_read_11 : decode b_H_read 11 = .ok (.invokevirtual 97, 3) := by decide +kernel
theorem d_H_read_14 : decode b_H_read 14 = .ok (.istore_n 1, 1) := by decide +kernel
theorem d_H_read_15 : decode b_H_read 15 = .ok (.iload_n 1, 1) := by decide +kernel
theorem d_H_read_16 : decode b_H_read 16 = .ok (.ifCond .ne 11, 3) := by decide +kernel
theorem d_H_read_19 : decode b_H_read 19 = .ok (.aload_n 0, 1) := by decide +kernel
theorem d_H_read_20 : decode b_H_read 20 = .ok (.getfield 53, 3) := by decide +kernel
theorem d_H_read_23 : decode b_H_read 23 = .ok (.invokevirtual 101, 3) := by decide +kernel
theorem d_H_read_26 : decode b_H_read 26 = .ok (.istore_n 1, 1) := by decide +kernel
theorem d_H_read_27 : decode b_H_read 27 = .ok (.aload_n 0, 1) := by decide +kernel
theorem d_H_read_28 : decode b_H_read 28 = .ok (.getfield 25, 3) := by decide +kernel
theorem d_H_read_31 : decode b_H_read 31 = .ok (.iconst 0, 1) := by decide +kernel
theorem d_H_read_32 : decode b_H_read 32 = .ok (.putfield 86, 3) := by decide +kernel
theorem d_H_read_35 : decode b_H_read 35 = .ok (.aload_n 0, 1) := by decide +kernel
theorem d_H_read_36 : decode b_H_read 36 = .ok (.iload_n 1, 1) := by decide +kernel
theorem d_H_read_37 : decode b_H_read 37 = .ok (.ifCond .ne 7, 3) := by decide +kernel
theorem d_H_read_40 : decode b_H_read 40 = .ok (.iconst 1, 1) := by decide +kernel
theorem d_H_read_41 : decode b_H_read 41 = .ok (.goto 4, 3) := by decide +kernel
theorem d_H_read_44 : decode b_H_read 44 = .ok (.iconst 0, 1) := by decide +kernel
theorem d_H_read_45 : decode b_H_read 45 = .ok (.putfield 104, 3) := by decide +kernel
theorem d_H_read_48 : decode b_H_read 48 = .ok (.aload_n 0, 1) := by decide +kernel
theorem d_H_read_49 : decode b_H_read 49 = .ok (.getfield 69, 3) := by decide +kernel
theorem d_H_read_52 : decode b_H_read 52 = .ok (.invokevirtual 108, 3) := by decide +kernel
theorem d_H_read_55 : decode b_H_read 55 = .ok (.iload_n 1, 1) := by decide +kernel
theorem d_H_read_56 : decode b_H_read 56 = .ok (.ireturn, 1) := by decide +kernel
set_option maxRecDepth 100000 in
theorem hi_H_read : Cond.instanceMethod y_H_read ∈ wd_tbl := wd_of 816 (by decide +kernel) rfl
set_option maxRecDepth 100000 in
theorem hs_H_read : Cond.selects R_H y_H_read y_H_read ∈ wd_tbl := wd_of 817 (by decide +kernel) rfl
theorem hd_H_read : y_H_read.cls = R_H ∧ y_H_read.cls ≠ "java/lang/invoke/MethodHandle" ∧ y_H_read.cls ≠ "java/lang/invoke/VarHandle" ∧ (parseMethodDescriptor y_H_read.desc).map (fun d => d.parameters.length) = some 0 := by decide +kernel
def rm_H_read : Room := { frames := 607, cells := 1, slots := 6, locals := 15159 }
theorem rm_H_read_To_scanAll : (rm_To_scanAll).frames + 1 ≤ rm_H_read.frames ∧ 8 + (2 + 11) + (rm_To_scanAll).locals ≤ rm_H_read.locals := by
  show 6 + 1 ≤ 607 ∧ 8 + (2 + 11) + 146 ≤ 15159
  decide
theorem rm_H_read_Pa_parse : (rm_Pa_parse).frames + 1 ≤ rm_H_read.frames ∧ 8 + (2 + 11) + (rm_Pa_parse).locals ≤ rm_H_read.locals := by
  show 604 + 1 ≤ 607 ∧ 8 + (2 + 11) + 14792 ≤ 15159
  decide
theorem rm_H_read_Cm_compile : (rm_Cm_compile).frames + 1 ≤ rm_H_read.frames ∧ 8 + (2 + 11) + (rm_Cm_compile).locals ≤ rm_H_read.locals := by
  show 606 + 1 ≤ 607 ∧ 8 + (2 + 11) + 15138 ≤ 15159
  decide
theorem rm_H_read_Wl_clearAll : (rm_Wl_clearAll).frames + 1 ≤ rm_H_read.frames ∧ 8 + (1 + 11) + (rm_Wl_clearAll).locals ≤ rm_H_read.locals := by
  show 0 + 1 ≤ 607 ∧ 8 + (1 + 11) + 0 ≤ 15159
  decide
def fb_H_read_45 (N : Nat) (G : Unit) (u : CS) (v0 : Nat) (v1 : Int32) (t0 : Nat) (t1 : Int32) : Option (CS × Int32) := ck (isb t1) (bo (pF u t0 1 10 (.inl t1)) (fun w1 => bo (gR w1 v0 1 6) (fun r2 => bo r2 (fun j4 => ck (isO w1 j4 12) (bx (fm_Wl_clearAll N w1 j4) (fun u3 r3 => some (u3, v1)))))))
set_option maxRecDepth 100000 in
set_option maxHeartbeats 4000000 in
theorem wb_H_read_45 {p : Program} {l : Launch} {e : Env} {s : State} {m : MethodId} {args : Array Value} {below : List Frame} {meth : Method} {c : Code} {s0 : State} {b0 : Nat} {D : va_G} {cB cI cJ cZ cS cP : ClassId} {A : Nat → Prop} {sk sv : Nat → Nat} {ad : Nat → Nat} (C0 : XCx p s s0 b0 m args meth c R_H b_H_read 2 (some .int) D cB cI cJ cZ cS cP A) (hE : ENV s0 b0 sk sv) (hL : l.stackTraces = false) (N : Nat) (G : Unit) (hG : True) : ∀ (u : CS) (v0 : Nat) (v1 : Int32) (t0 : Nat) (t1 : Int32) (x : CS × Int32), fb_H_read_45 N G u v0 v1 t0 t1 = some x → ∀ (H : Heap) (locs : List Loc), va_P D cls (wC cB cI cJ cZ cS cP ad u) H → va_D A (wC cB cI cJ cZ cS cP ad u) → va_S A s.heap H locs → ∀ (ls : Array Slot), lv_has ls 2 [(0, .ref (ad v0)), (1, .int v1)] → W p l e rm_H_read s m args below meth c H locs 1 6 (MQ below (xQ0 D cB cI cJ cZ cS cP A ad x.1 (some (.inl x.2))) args s 1 6 A) (F0 m 45 ls [.int t1, .ref (ad t0)]) := by
  intro u v0 v1 t0 t1 x hf H locs hP hD hS ls hl
  obtain ⟨hx, hb, hr, hml, ht, hown, hK, hA, hlocks, hA0, hO, hbs⟩ := id C0
  unfold fb_H_read_45 at hf
  obtain ⟨hz, hf⟩ := ck_some hf
  obtain ⟨w1, g1, hf⟩ := bo_some hf
  refine xp (i := t0) (k := 10) (v := (.inl t1)) hx hb ht hown ck_H hK hP hD hS (by decide) fk_H_104 rfl g1 (isb_n hz) (isb_f hz) d_H_read_45 (fun H locs hP hD hS => ?_)
  refine lv_aload_n hx hb d_H_read_48 rfl (lv_at hl 0 rfl) ?_
  obtain ⟨r2, g2, hf⟩ := bo_some hf
  refine xg_R (i := v0) (k := 6) hx hb ht hown ck_H hK hP (by decide) fk_H_69 g2 d_H_read_49 ?_
  obtain ⟨j4, ej4, hf⟩ := bo_some hf
  rw [ej4]
  obtain ⟨hO9, hf⟩ := ck_some hf
  obtain ⟨u3, r3, hc3, hf⟩ := bx_some hf
  refine xV0 (i := j4) (As := []) (rest := []) C0 hP hD hS ck_Wl hO9 (c_Wl_clearAll N hc3) k_Wl_clearAll (wd_of 1268 (by decide +kernel) rfl) hi_Wl_clearAll hs_Wl_clearAll hini_Wl rfl rfl hd_Wl_clearAll rfl rm_H_read_Wl_clearAll hl.1 (Nat.le_of_ble_eq_true rfl) d_H_read_52 rfl ⟨Nat.le_of_ble_eq_true rfl, Nat.le_of_ble_eq_true rfl⟩ (fun H locs hP hD hS => ?_)
  refine lv_iload_n hx hb d_H_read_55 rfl (lv_at hl 1 rfl) ?_
  exact xh_i C0 hP hD hS (Nat.le_of_ble_eq_true rfl) (Nat.le_of_ble_eq_true rfl) hf d_H_read_56
def fb_H_read_27 (N : Nat) (G : Unit) (u : CS) (v0 : Nat) (v1 : Int32) : Option (CS × Int32) := bo (gR u v0 1 1) (fun r5 => bo r5 (fun j6 => bo (pF u j6 9 1 (.inl 0)) (fun w7 => br (decide (v1 = 0)) (fb_H_read_45 N G w7 (v0) (v1) (v0) (1)) (fb_H_read_45 N G w7 (v0) (v1) (v0) (0)))))
set_option maxRecDepth 100000 in
set_option maxHeartbeats 4000000 in
theorem wb_H_read_27 {p : Program} {l : Launch} {e : Env} {s : State} {m : MethodId} {args : Array Value} {below : List Frame} {meth : Method} {c : Code} {s0 : State} {b0 : Nat} {D : va_G} {cB cI cJ cZ cS cP : ClassId} {A : Nat → Prop} {sk sv : Nat → Nat} {ad : Nat → Nat} (C0 : XCx p s s0 b0 m args meth c R_H b_H_read 2 (some .int) D cB cI cJ cZ cS cP A) (hE : ENV s0 b0 sk sv) (hL : l.stackTraces = false) (N : Nat) (G : Unit) (hG : True) : ∀ (u : CS) (v0 : Nat) (v1 : Int32) (x : CS × Int32), fb_H_read_27 N G u v0 v1 = some x → ∀ (H : Heap) (locs : List Loc), va_P D cls (wC cB cI cJ cZ cS cP ad u) H → va_D A (wC cB cI cJ cZ cS cP ad u) → va_S A s.heap H locs → ∀ (ls : Array Slot), lv_has ls 2 [(0, .ref (ad v0)), (1, .int v1)] → W p l e rm_H_read s m args below meth c H locs 1 6 (MQ below (xQ0 D cB cI cJ cZ cS cP A ad x.1 (some (.inl x.2))) args s 1 6 A) (F0 m 27 ls []) := by
  intro u v0 v1 x hf H locs hP hD hS ls hl
  obtain ⟨hx, hb, hr, hml, ht, hown, hK, hA, hlocks, hA0, hO, hbs⟩ := id C0
  unfold fb_H_read_27 at hf
  refine lv_aload_n hx hb d_H_read_27 rfl (lv_at hl 0 rfl) ?_
  obtain ⟨r5, g5, hf⟩ := bo_some hf
  refine xg_R (i := v0) (k := 1) hx hb ht hown ck_H hK hP (by decide) fk_H_25 g5 d_H_read_28 ?_
  refine lv_iconst (v := 0) hx hb d_H_read_31 (by decide) ?_
  obtain ⟨j6, ej6, hf⟩ := bo_some hf
  rw [ej6]
  obtain ⟨w7, g7, hf⟩ := bo_some hf
  refine xp (i := j6) (k := 1) (v := (.inl 0)) hx hb ht hown ck_To hK hP hD hS (by decide) fk_H_86 rfl g7 rfl rfl d_H_read_32 (fun H locs hP hD hS => ?_)
  refine lv_aload_n hx hb d_H_read_35 rfl (lv_at hl 0 rfl) ?_
  refine lv_iload_n hx hb d_H_read_36 rfl (lv_at hl 1 rfl) ?_
  refine lv_if_ne (tgt := 44) hx hb d_H_read_37 (by decide) (fun hc => ?_) (fun hc => ?_)
  · rw [br_n _ hc] at hf
    refine lv_iconst (v := 0) hx hb d_H_read_44 (by decide) ?_
    exact wb_H_read_45 C0 hE hL N G hG _ _ _ _ _ _ hf H locs hP hD hS ls (lv_sub hl [0, 1] rfl)
  · rw [br_p _ hc] at hf
    refine lv_iconst (v := 1) hx hb d_H_read_40 (by decide) ?_
    refine lv_goto (tgt := 45) hx hb d_H_read_41 (by decide) ?_
    exact wb_H_read_45 C0 hE hL N G hG _ _ _ _ _ _ hf H locs hP hD hS ls (lv_sub hl [0, 1] rfl)
def fb_H_read_0 (N : Nat) (G : Unit) (u : CS) (v0 : Nat) : Option (CS × Int32) := bo (gR u v0 1 1) (fun r8 => bo r8 (fun j10 => ck (isO u j10 9) (bx (fm_To_scanAll N u j10) (fun u9 r9 => bo (gR u9 v0 1 3) (fun r11 => bo r11 (fun j13 => ck (isO u9 j13 6) (bx (fm_Pa_parse N u9 j13) (fun u12 r12 => br (decide (r12 = 0)) (bo (gR u12 v0 1 4) (fun r14 => bo r14 (fun j16 => ck (isO u12 j16 3) (bx (fm_Cm_compile N u12 j16) (fun u15 r15 => fb_H_read_27 N G u15 (v0) (r15)))))) (fb_H_read_27 N G u12 (v0) (r12))))))))))
set_option maxRecDepth 100000 in
set_option maxHeartbeats 4000000 in
theorem wb_H_read_0 {p : Program} {l : Launch} {e : Env} {s : State} {m : MethodId} {args : Array Value} {below : List Frame} {meth : Method} {c : Code} {s0 : State} {b0 : Nat} {D : va_G} {cB cI cJ cZ cS cP : ClassId} {A : Nat → Prop} {sk sv : Nat → Nat} {ad : Nat → Nat} (C0 : XCx p s s0 b0 m args meth c R_H b_H_read 2 (some .int) D cB cI cJ cZ cS cP A) (hE : ENV s0 b0 sk sv) (hL : l.stackTraces = false) (N : Nat) (G : Unit) (hG : True) : ∀ (u : CS) (v0 : Nat) (x : CS × Int32), fb_H_read_0 N G u v0 = some x → ∀ (H : Heap) (locs : List Loc), va_P D cls (wC cB cI cJ cZ cS cP ad u) H → va_D A (wC cB cI cJ cZ cS cP ad u) → va_S A s.heap H locs → ∀ (ls : Array Slot), lv_has ls 2 [(0, .ref (ad v0))] → W p l e rm_H_read s m args below meth c H locs 0 0 (MQ below (xQ0 D cB cI cJ cZ cS cP A ad x.1 (some (.inl x.2))) args s 1 6 A) (F0 m 0 ls []) := by
  intro u v0 x hf H locs hP hD hS ls hl
  obtain ⟨hx, hb, hr, hml, ht, hown, hK, hA, hlocks, hA0, hO, hbs⟩ := id C0
  unfold fb_H_read_0 at hf
  refine lv_aload_n hx hb d_H_read_0 rfl (lv_at hl 0 rfl) ?_
  obtain ⟨r8, g8, hf⟩ := bo_some hf
  refine xg_R (i := v0) (k := 1) hx hb ht hown ck_H hK hP (by decide) fk_H_25 g8 d_H_read_1 ?_
  obtain ⟨j10, ej10, hf⟩ := bo_some hf
  rw [ej10]
  obtain ⟨hO9, hf⟩ := ck_some hf
  obtain ⟨u9, r9, hc9, hf⟩ := bx_some hf
  refine xV0 (i := j10) (As := []) (rest := []) C0 hP hD hS ck_To hO9 (c_To_scanAll N hE hc9) k_To_scanAll (wd_of 819 (by decide +kernel) rfl) hi_To_scanAll hs_To_scanAll hini_To rfl rfl hd_To_scanAll rfl rm_H_read_To_scanAll hl.1 (Nat.le_of_ble_eq_true rfl) d_H_read_4 rfl ⟨Nat.le_of_ble_eq_true rfl, Nat.le_of_ble_eq_true rfl⟩ (fun H locs hP hD hS => ?_)
  refine lv_aload_n hx hb d_H_read_7 rfl (lv_at hl 0 rfl) ?_
  obtain ⟨r11, g11, hf⟩ := bo_some hf
  refine xg_R (i := v0) (k := 3) hx hb ht hown ck_H hK hP (by decide) fk_H_44 g11 d_H_read_8 ?_
  obtain ⟨j13, ej13, hf⟩ := bo_some hf
  rw [ej13]
  obtain ⟨hO9, hf⟩ := ck_some hf
  obtain ⟨u12, r12, hc12, hf⟩ := bx_some hf
  refine xVw (i := j13) (As := []) (rest := []) C0 hP hD hS ck_Pa hO9 (c_Pa_parse N hE hL hc12) k_Pa_parse (wd_of 884 (by decide +kernel) rfl) hi_Pa_parse hs_Pa_parse hini_Pa rfl rfl hd_Pa_parse rfl rm_H_read_Pa_parse hl.1 (Nat.le_of_ble_eq_true rfl) d_H_read_11 rfl ⟨Nat.le_of_ble_eq_true rfl, Nat.le_of_ble_eq_true rfl⟩ (fun H locs hP hD hS => ?_)
  refine lv_istore_n (lv' := [(1, .int r12), (0, .ref (ad v0))]) hx hb d_H_read_14 rfl hl (by decide) (by first | rfl | simp [List.filter, cat_rf]) (fun ls hl => ?_)
  refine lv_iload_n hx hb d_H_read_15 rfl (lv_at hl 0 rfl) ?_
  refine lv_if_ne (tgt := 27) hx hb d_H_read_16 (by decide) (fun hc => ?_) (fun hc => ?_)
  · rw [br_n _ hc] at hf
    exact wb_H_read_27 C0 hE hL N G hG _ _ _ _ hf H locs hP hD hS ls (lv_sub hl [1, 0] rfl)
  · rw [br_p _ hc] at hf
    refine lv_aload_n hx hb d_H_read_19 rfl (lv_at hl 1 rfl) ?_
    obtain ⟨r14, g14, hf⟩ := bo_some hf
    refine xg_R (i := v0) (k := 4) hx hb ht hown ck_H hK hP (by decide) fk_H_53 g14 d_H_read_20 ?_
    obtain ⟨j16, ej16, hf⟩ := bo_some hf
    rw [ej16]
    obtain ⟨hO9, hf⟩ := ck_some hf
    obtain ⟨u15, r15, hc15, hf⟩ := bx_some hf
    refine xV0 (i := j16) (As := []) (rest := []) C0 hP hD hS ck_Cm hO9 (c_Cm_compile N hE hc15) k_Cm_compile (wd_of 1110 (by decide +kernel) rfl) hi_Cm_compile hs_Cm_compile hini_Cm rfl rfl hd_Cm_compile rfl rm_H_read_Cm_compile hl.1 (Nat.le_of_ble_eq_true rfl) d_H_read_23 rfl ⟨Nat.le_of_ble_eq_true rfl, Nat.le_of_ble_eq_true rfl⟩ (fun H locs hP hD hS => ?_)
    refine lv_istore_n (lv' := [(1, .int r15), (0, .ref (ad v0))]) hx hb d_H_read_26 rfl hl (by decide) (by first | rfl | simp [List.filter, cat_rf]) (fun ls hl => ?_)
    exact wb_H_read_27 C0 hE hL N G hG _ _ _ _ hf H locs hP hD hS ls (lv_sub hl [1, 0] rfl)
def fm_H_read (N : Nat) (u : CS) (v0 : Nat) : Option (CS × Int32) := fb_H_read_0 N () u v0
set_option maxRecDepth 100000 in
set_option maxHeartbeats 4000000 in
theorem c_H_read (N : Nat) {l : Launch} {s0 : State} {b0 : Nat} {D : va_G} {cB cI cJ cZ cS cP : ClassId} {sk sv : Nat → Nat} {ad : Nat → Nat} {u : CS} {sz : Nat} {v0 : Nat} {x : CS × Int32} (hE : ENV s0 b0 sk sv) (hL : l.stackTraces = false) (hf : fm_H_read N u v0 = some x) : Met l y_H_read (wd_ws y_H_read b_H_read 2 (some .int)) rm_H_read (xPc s0 b0 D cB cI cJ cZ cS cP ad u sz [.ref (ad v0)]) (xQ0 D cB cI cJ cZ cS cP (xA cB cI cJ cZ cS cP ad u sz) ad x.1 (some (.inl x.2))) 1 6 (xA cB cI cJ cZ cS cP ad u sz) :=
  xMet (by decide) rfl (Nat.le_of_ble_eq_true rfl) (fun p e s m below meth c ls hsz hnm C0 hP hD hS hl =>
    wb_H_read_0 C0 hE hL N () trivial u _ x hf s.heap [] hP hD hS ls (lv_sub hl [0] rfl))
abbrev b_Fr_init : ByteArray := prog_4_method_1_code
def y_Fr_init : MethodName := ⟨R_Fr, "<init>", "()V"⟩
def w_Fr_init : List Cond := wd_ws y_Fr_init b_Fr_init 1 none
set_option maxRecDepth 100000 in
theorem k_Fr_init : Cond.code y_Fr_init b_Fr_init 1 none ∈ wd_tbl := wd_of 1468 rfl rfl
theorem d_Fr_init_0 : decode b_Fr_init 0 = .ok (.aload_n 0, 1) := by decide +kernel
theorem d_Fr_init_1 : decode b_Fr_init 1 = .ok (.invokespecial 3, 3) := by decide +kernel
theorem d_Fr_init_4 : decode b_Fr_init 4 = .ok (.aload_n 0, 1) := by decide +kernel
theorem d_Fr_init_5 : decode b_Fr_init 5 = .ok (.sipush 300, 3) := by decide +kernel
theorem d_Fr_init_8 : decode b_Fr_init 8 = .ok (.newarray .int, 2) := by decide +kernel
theorem d_Fr_init_10 : decode b_Fr_init 10 = .ok (.putfield 11, 3) := by decide +kernel
theorem d_Fr_init_13 : decode b_Fr_init 13 = .ok (.aload_n 0, 1) := by decide +kernel
theorem d_Fr_init_14 : decode b_Fr_init 14 = .ok (.bipush 64, 2) := by decide +kernel
theorem d_Fr_init_16 : decode b_Fr_init 16 = .ok (.newarray .int, 2) := by decide +kernel
theorem d_Fr_init_18 : decode b_Fr_init 18 = .ok (.putfield 15, 3) := by decide +kernel
theorem d_Fr_init_21 : decode b_Fr_init 21 = .ok (.aload_n 0, 1) := by decide +kernel
theorem d_Fr_init_22 : decode b_Fr_init 22 = .ok (.bipush 64, 2) := by decide +kernel
theorem d_Fr_init_24 : decode b_Fr_init 24 = .ok (.newarray .long, 2) := by decide +kernel
theorem d_Fr_init_26 : decode b_Fr_init 26 = .ok (.putfield 18, 3) := by decide +kernel
theorem d_Fr_init_29 : decode b_Fr_init 29 = .ok (.aload_n 0, 1) := by decide +kernel
theorem d_Fr_init_30 : decode b_Fr_init 30 = .ok (.bipush 64, 2) := by decide +kernel
theorem d_Fr_init_32 : decode b_Fr_init 32 = .ok (.newarray .long, 2) := by decide +kernel
theorem d_Fr_init_34 : decode b_Fr_init 34 = .ok (.putfield 22, 3) := by decide +kernel
theorem d_Fr_init_37 : decode b_Fr_init 37 = .ok (.aload_n 0, 1) := by decide +kernel
theorem d_Fr_init_38 : decode b_Fr_init 38 = .ok (.bipush 32, 2) := by decide +kernel
theorem d_Fr_init_40 : decode b_Fr_init 40 = .ok (.newarray .int, 2) := by decide +kernel
theorem d_Fr_init_42 : decode b_Fr_init 42 = .ok (.putfield 25, 3) := by decide +kernel
theorem d_Fr_init_45 : decode b_Fr_init 45 = .ok (.return_, 1) := by decide +kernel
set_option maxRecDepth 100000 in
theorem hi_Fr_init : Cond.instanceMethod y_Fr_init ∈ wd_tbl := wd_of 1467 (by decide +kernel) rfl
theorem hd_Fr_init : y_Fr_init.cls = R_Fr ∧ y_Fr_init.cls ≠ "java/lang/invoke/MethodHandle" ∧ y_Fr_init.cls ≠ "java/lang/invoke/VarHandle" ∧ (parseMethodDescriptor y_Fr_init.desc).map (fun d => d.parameters.length) = some 0 := by decide +kernel
def rm_Fr_init (mc ms : Nat) : Room := { frames := 1, cells := mc, slots := ms, locals := 12 }
def fb_Fr_init_0 (N : Nat) (G : Unit) (u : CS) (v0 : Nat) : Option (CS × Unit) := ck (List.all [some v0] (okR u.1.1)) (bo (nwI u 4 (300 : Int32)) (fun w1 => gw w1 (bo (pF w1 v0 4 0 (.inr (.inr (some (u.1.1))))) (fun w2 => ck (List.all [some v0] (okR w2.1.1)) (bo (nwI w2 4 (64 : Int32)) (fun w3 => gw w3 (bo (pF w3 v0 4 2 (.inr (.inr (some (w2.1.1))))) (fun w4 => ck (List.all [some v0] (okR w4.1.1)) (bo (nwJ w4 (64 : Int32)) (fun w5 => gw w5 (bo (pF w5 v0 4 3 (.inr (.inr (some (w4.1.1))))) (fun w6 => ck (List.all [some v0] (okR w6.1.1)) (bo (nwJ w6 (64 : Int32)) (fun w7 => gw w7 (bo (pF w7 v0 4 5 (.inr (.inr (some (w6.1.1))))) (fun w8 => ck (List.all [some v0] (okR w8.1.1)) (bo (nwI w8 4 (32 : Int32)) (fun w9 => gw w9 (bo (pF w9 v0 4 7 (.inr (.inr (some (w8.1.1))))) (fun w10 => some (w10, ())))))))))))))))))))))
set_option maxRecDepth 100000 in
set_option maxHeartbeats 4000000 in
theorem wb_Fr_init_0 {p : Program} {l : Launch} {e : Env} {s : State} {m : MethodId} {args : Array Value} {below : List Frame} {meth : Method} {c : Code} {s0 : State} {b0 : Nat} {D : va_G} {cB cI cJ cZ cS cP : ClassId} {A : Nat → Prop} {sk sv : Nat → Nat} {uN uS mc ms : Nat} {ad0 : Nat → Nat} (C0 : XCx p s s0 b0 m args meth c R_Fr b_Fr_init 1 none D cB cI cJ cZ cS cP A) (hE : ENV s0 b0 sk sv) (hnm : meth.name = "<init>") (N : Nat) (G : Unit) (hG : True) : ∀ (u : CS) (v0 : Nat) (x : CS × Unit), fb_Fr_init_0 N G u v0 = some x → (uN + mc = x.1.1.1 ∧ uS + ms = x.1.1.2) → ∀ (ad : Nat → Nat) (ce sl : Nat), AB uN uS ad0 u ad ce sl → ∀ (H : Heap) (locs : List Loc), va_P D cls (wC cB cI cJ cZ cS cP ad u) H → va_D A (wC cB cI cJ cZ cS cP ad u) → va_S A s.heap H locs → ∀ (ls : Array Slot), lv_has ls 1 [(0, .ref (ad v0))] → W p l e (rm_Fr_init mc ms) s m args below meth c H locs ce sl (MQ below (xQ D cB cI cJ cZ cS cP A ad0 uN x.1 none) args s mc ms A) (F0 m 0 ls []) := by
  intro u v0 x hf hm ad ce sl hB H locs hP hD hS ls hl
  obtain ⟨hx, hb, hr, hml, ht, hown, hK, hA, hlocks, hA0, hO, hbs⟩ := id C0
  unfold fb_Fr_init_0 at hf
  refine lv_aload_n hx hb d_Fr_init_0 rfl (lv_at hl 0 rfl) ?_
  refine y_obj C0 (wd_of 1469 (by decide +kernel) rfl) (wd_of 300 (by decide +kernel) rfl) (wd_of 301 (by decide +kernel) rfl) hl.1 (Nat.le_of_ble_eq_true rfl) (Nat.le_of_ble_eq_true rfl) d_Fr_init_1 ?_
  refine lv_aload_n hx hb d_Fr_init_4 rfl (lv_at hl 0 rfl) ?_
  refine lv_sipush (v := 300) hx hb d_Fr_init_5 (by decide) ?_
  obtain ⟨hk1, hf⟩ := ck_some hf
  obtain ⟨w1, g1, hf⟩ := bo_some hf
  obtain ⟨hf, hw1⟩ := gw_some hf
  refine y_naI C0 hP hD hS g1 hB hm hw1 d_Fr_init_8 (fun ad1 H ce sl hg1 hB hP hD hS => ?_)
  have q1_0 : ad1 v0 = ad v0 := ko_O (k := 0) hk1 rfl hg1
  have hl : lv_has ls 1 [(0, .ref (ad1 v0))] := by simp only [q1_0]; exact hl
  refine W.eq (g2 := F0 m 10 ls [.ref (ad1 (u.1.1)), .ref (ad1 v0)]) (by show F0 m _ ls [.ref (ad1 (u.1.1)), .ref (ad v0)] = F0 m _ ls [.ref (ad1 (u.1.1)), .ref (ad1 v0)]; simp only [q1_0]) ?_
  obtain ⟨w2, g2, hf⟩ := bo_some hf
  refine xpF (i := v0) (k := 0) (v := (.inr (.inr (some (u.1.1))))) hx hb ht hown ck_Fr hK hP hD hS (by decide) fk_Fr_11 rfl hnm rfl g2 rfl rfl d_Fr_init_10 (fun H locs hP hD hS => ?_)
  have hB := hB.same (pF_c g2)
  refine lv_aload_n hx hb d_Fr_init_13 rfl (lv_at hl 0 rfl) ?_
  refine lv_bipush (v := 64) hx hb d_Fr_init_14 (by decide) ?_
  obtain ⟨hk3, hf⟩ := ck_some hf
  obtain ⟨w3, g3, hf⟩ := bo_some hf
  obtain ⟨hf, hw3⟩ := gw_some hf
  refine y_naI C0 hP hD hS g3 hB hm hw3 d_Fr_init_16 (fun ad3 H ce sl hg3 hB hP hD hS => ?_)
  have q3_0 : ad3 v0 = ad1 v0 := ko_O (k := 0) hk3 rfl hg3
  have hl : lv_has ls 1 [(0, .ref (ad3 v0))] := by simp only [q3_0]; exact hl
  refine W.eq (g2 := F0 m 18 ls [.ref (ad3 (w2.1.1)), .ref (ad3 v0)]) (by show F0 m _ ls [.ref (ad3 (w2.1.1)), .ref (ad1 v0)] = F0 m _ ls [.ref (ad3 (w2.1.1)), .ref (ad3 v0)]; simp only [q3_0]) ?_
  obtain ⟨w4, g4, hf⟩ := bo_some hf
  refine xp (i := v0) (k := 2) (v := (.inr (.inr (some (w2.1.1))))) hx hb ht hown ck_Fr hK hP hD hS (by decide) fk_Fr_15 rfl g4 rfl rfl d_Fr_init_18 (fun H locs hP hD hS => ?_)
  have hB := hB.same (pF_c g4)
  refine lv_aload_n hx hb d_Fr_init_21 rfl (lv_at hl 0 rfl) ?_
  refine lv_bipush (v := 64) hx hb d_Fr_init_22 (by decide) ?_
  obtain ⟨hk5, hf⟩ := ck_some hf
  obtain ⟨w5, g5, hf⟩ := bo_some hf
  obtain ⟨hf, hw5⟩ := gw_some hf
  refine y_naJ C0 hP hD hS g5 hB hm hw5 d_Fr_init_24 (fun ad5 H ce sl hg5 hB hP hD hS => ?_)
  have q5_0 : ad5 v0 = ad3 v0 := ko_O (k := 0) hk5 rfl hg5
  have hl : lv_has ls 1 [(0, .ref (ad5 v0))] := by simp only [q5_0]; exact hl
  refine W.eq (g2 := F0 m 26 ls [.ref (ad5 (w4.1.1)), .ref (ad5 v0)]) (by show F0 m _ ls [.ref (ad5 (w4.1.1)), .ref (ad3 v0)] = F0 m _ ls [.ref (ad5 (w4.1.1)), .ref (ad5 v0)]; simp only [q5_0]) ?_
  obtain ⟨w6, g6, hf⟩ := bo_some hf
  refine xp (i := v0) (k := 3) (v := (.inr (.inr (some (w4.1.1))))) hx hb ht hown ck_Fr hK hP hD hS (by decide) fk_Fr_18 rfl g6 rfl rfl d_Fr_init_26 (fun H locs hP hD hS => ?_)
  have hB := hB.same (pF_c g6)
  refine lv_aload_n hx hb d_Fr_init_29 rfl (lv_at hl 0 rfl) ?_
  refine lv_bipush (v := 64) hx hb d_Fr_init_30 (by decide) ?_
  obtain ⟨hk7, hf⟩ := ck_some hf
  obtain ⟨w7, g7, hf⟩ := bo_some hf
  obtain ⟨hf, hw7⟩ := gw_some hf
  refine y_naJ C0 hP hD hS g7 hB hm hw7 d_Fr_init_32 (fun ad7 H ce sl hg7 hB hP hD hS => ?_)
  have q7_0 : ad7 v0 = ad5 v0 := ko_O (k := 0) hk7 rfl hg7
  have hl : lv_has ls 1 [(0, .ref (ad7 v0))] := by simp only [q7_0]; exact hl
  refine W.eq (g2 := F0 m 34 ls [.ref (ad7 (w6.1.1)), .ref (ad7 v0)]) (by show F0 m _ ls [.ref (ad7 (w6.1.1)), .ref (ad5 v0)] = F0 m _ ls [.ref (ad7 (w6.1.1)), .ref (ad7 v0)]; simp only [q7_0]) ?_
  obtain ⟨w8, g8, hf⟩ := bo_some hf
  refine xp (i := v0) (k := 5) (v := (.inr (.inr (some (w6.1.1))))) hx hb ht hown ck_Fr hK hP hD hS (by decide) fk_Fr_22 rfl g8 rfl rfl d_Fr_init_34 (fun H locs hP hD hS => ?_)
  have hB := hB.same (pF_c g8)
  refine lv_aload_n hx hb d_Fr_init_37 rfl (lv_at hl 0 rfl) ?_
  refine lv_bipush (v := 32) hx hb d_Fr_init_38 (by decide) ?_
  obtain ⟨hk9, hf⟩ := ck_some hf
  obtain ⟨w9, g9, hf⟩ := bo_some hf
  obtain ⟨hf, hw9⟩ := gw_some hf
  refine y_naI C0 hP hD hS g9 hB hm hw9 d_Fr_init_40 (fun ad9 H ce sl hg9 hB hP hD hS => ?_)
  have q9_0 : ad9 v0 = ad7 v0 := ko_O (k := 0) hk9 rfl hg9
  have hl : lv_has ls 1 [(0, .ref (ad9 v0))] := by simp only [q9_0]; exact hl
  refine W.eq (g2 := F0 m 42 ls [.ref (ad9 (w8.1.1)), .ref (ad9 v0)]) (by show F0 m _ ls [.ref (ad9 (w8.1.1)), .ref (ad7 v0)] = F0 m _ ls [.ref (ad9 (w8.1.1)), .ref (ad9 v0)]; simp only [q9_0]) ?_
  obtain ⟨w10, g10, hf⟩ := bo_some hf
  refine xp (i := v0) (k := 7) (v := (.inr (.inr (some (w8.1.1))))) hx hb ht hown ck_Fr hK hP hD hS (by decide) fk_Fr_25 rfl g10 rfl rfl d_Fr_init_42 (fun H locs hP hD hS => ?_)
  have hB := hB.same (pF_c g10)
  exact yr_v C0 hP hD hS hB hm hf d_Fr_init_45
def fm_Fr_init (N : Nat) (u : CS) (v0 : Nat) : Option (CS × Unit) := fb_Fr_init_0 N () u v0
set_option maxRecDepth 100000 in
set_option maxHeartbeats 4000000 in
theorem c_Fr_init (N : Nat) {l : Launch} {s0 : State} {b0 : Nat} {D : va_G} {cB cI cJ cZ cS cP : ClassId} {sk sv : Nat → Nat} {ad : Nat → Nat} {u : CS} {sz mc ms : Nat} {v0 : Nat} {x : CS × Unit} (hE : ENV s0 b0 sk sv) (hf : fm_Fr_init N u v0 = some x) (hm : u.1.1 + mc = x.1.1.1 ∧ u.1.2 + ms = x.1.1.2) : Met l y_Fr_init (wd_ws y_Fr_init b_Fr_init 1 none) (rm_Fr_init mc ms) (xPc s0 b0 D cB cI cJ cZ cS cP ad u sz [.ref (ad v0)]) (xQ D cB cI cJ cZ cS cP (xA cB cI cJ cZ cS cP ad u sz) ad u.1.1 x.1 none) mc ms (xA cB cI cJ cZ cS cP ad u sz) :=
  xMet (by decide) rfl (Nat.le_of_ble_eq_true rfl) (fun p e s m below meth c ls hsz hnm C0 hP hD hS hl =>
    wb_Fr_init_0 C0 hE hnm N () trivial u _ x hf hm ad 0 0 ⟨rfl, rfl, fun _ _ => rfl⟩ s.heap [] hP hD hS ls (lv_sub hl [0] rfl))
abbrev b_Pr_init : ByteArray := prog_7_method_1_code
def y_Pr_init : MethodName := ⟨R_Pr, "<init>", "(I)V"⟩
def w_Pr_init : List Cond := wd_ws y_Pr_init b_Pr_init 2 none
set_option maxRecDepth 100000 in
theorem k_Pr_init : Cond.code y_Pr_init b_Pr_init 2 none ∈ wd_tbl := wd_of 1462 rfl rfl
theorem d_Pr_init_0 : decode b_Pr_init 0 = .ok (.aload_n 0, 1) := by decide +kernel
theorem d_Pr_init_1 : decode b_Pr_init 1 = .ok (.invokespecial 3, 3) := by decide +kernel
theorem d_Pr_init_4 : decode b_Pr_init 4 = .ok (.aload_n 0, 1) := by decide +kernel
theorem d_Pr_init_5 : decode b_Pr_init 5 = .ok (.new 9, 3) := by decide +kernel
theorem d_Pr_init_8 : decode b_Pr_init 8 = .ok (.dup, 1) := by decide +kernel
theorem d_Pr_init_9 : decode b_Pr_init 9 = .ok (.invokespecial 11, 3) := by decide +kernel
theorem d_Pr_init_12 : decode b_Pr_init 12 = .ok (.putfield 12, 3) := by decide +kernel
theorem d_Pr_init_15 : decode b_Pr_init 15 = .ok (.aload_n 0, 1) := by decide +kernel
theorem d_Pr_init_16 : decode b_Pr_init 16 = .ok (.sipush 512, 3) := by decide +kernel
theorem d_Pr_init_19 : decode b_Pr_init 19 = .ok (.newarray .long, 2) := by decide +kernel
theorem d_Pr_init_21 : decode b_Pr_init 21 = .ok (.putfield 18, 3) := by decide +kernel
theorem d_Pr_init_24 : decode b_Pr_init 24 = .ok (.aload_n 0, 1) := by decide +kernel
theorem d_Pr_init_25 : decode b_Pr_init 25 = .ok (.sipush 512, 3) := by decide +kernel
theorem d_Pr_init_28 : decode b_Pr_init 28 = .ok (.newarray .long, 2) := by decide +kernel
theorem d_Pr_init_30 : decode b_Pr_init 30 = .ok (.putfield 22, 3) := by decide +kernel
theorem d_Pr_init_33 : decode b_Pr_init 33 = .ok (.aload_n 0, 1) := by decide +kernel
theorem d_Pr_init_34 : decode b_Pr_init 34 = .ok (.bipush 30, 2) := by decide +kernel
theorem d_Pr_init_36 : decode b_Pr_init 36 = .ok (.newarray .long, 2) := by decide +kernel
theorem d_Pr_init_38 : decode b_Pr_init 38 = .ok (.putfield 25, 3) := by decide +kernel
theorem d_Pr_init_41 : decode b_Pr_init 41 = .ok (.aload_n 0, 1) := by decide +kernel
theorem d_Pr_init_42 : decode b_Pr_init 42 = .ok (.bipush 24, 2) := by decide +kernel
theorem d_Pr_init_44 : decode b_Pr_init 44 = .ok (.newarray .int, 2) := by decide +kernel
theorem d_Pr_init_46 : decode b_Pr_init 46 = .ok (.putfield 28, 3) := by decide +kernel
theorem d_Pr_init_49 : decode b_Pr_init 49 = .ok (.aload_n 0, 1) := by decide +kernel
theorem d_Pr_init_50 : decode b_Pr_init 50 = .ok (.iload_n 1, 1) := by decide +kernel
theorem d_Pr_init_51 : decode b_Pr_init 51 = .ok (.putfield 32, 3) := by decide +kernel
theorem d_Pr_init_54 : decode b_Pr_init 54 = .ok (.return_, 1) := by decide +kernel
set_option maxRecDepth 100000 in
theorem hi_Pr_init : Cond.instanceMethod y_Pr_init ∈ wd_tbl := wd_of 1461 (by decide +kernel) rfl
theorem hd_Pr_init : y_Pr_init.cls = R_Pr ∧ y_Pr_init.cls ≠ "java/lang/invoke/MethodHandle" ∧ y_Pr_init.cls ≠ "java/lang/invoke/VarHandle" ∧ (parseMethodDescriptor y_Pr_init.desc).map (fun d => d.parameters.length) = some 1 := by decide +kernel
def rm_Pr_init (mc ms : Nat) : Room := { frames := 2, cells := mc, slots := ms, locals := 32 }
theorem rm_Pr_init_Fr_init {mc ms : Nat} {mc2 ms2 : Nat} : (rm_Fr_init mc2 ms2).frames + 1 ≤ (rm_Pr_init mc ms).frames ∧ 8 + (1 + 11) + (rm_Fr_init mc2 ms2).locals ≤ (rm_Pr_init mc ms).locals := by
  show 1 + 1 ≤ 2 ∧ 8 + (1 + 11) + 12 ≤ 32
  decide
def fb_Pr_init_0 (N : Nat) (G : Unit) (u : CS) (v0 : Nat) (v1 : Int32) : Option (CS × Unit) := ck (List.all [some v0] (okR u.1.1)) (bo (nO u 4 10 t_Fr) (fun w1 => gw w1 (ck (List.all [some v0, some (u.1.1)] (okR w1.1.1)) (bx (gw w1 (fm_Fr_init N w1 (u.1.1))) (fun u2 r2 => gw u2 (bo (pF u2 v0 7 1 (.inr (.inr (some (u.1.1))))) (fun w3 => ck (List.all [some v0] (okR w3.1.1)) (bo (nwJ w3 (512 : Int32)) (fun w4 => gw w4 (bo (pF w4 v0 7 2 (.inr (.inr (some (w3.1.1))))) (fun w5 => ck (List.all [some v0] (okR w5.1.1)) (bo (nwJ w5 (512 : Int32)) (fun w6 => gw w6 (bo (pF w6 v0 7 3 (.inr (.inr (some (w5.1.1))))) (fun w7 => ck (List.all [some v0] (okR w7.1.1)) (bo (nwJ w7 (30 : Int32)) (fun w8 => gw w8 (bo (pF w8 v0 7 6 (.inr (.inr (some (w7.1.1))))) (fun w9 => ck (List.all [some v0] (okR w9.1.1)) (bo (nwI w9 4 (24 : Int32)) (fun w10 => gw w10 (bo (pF w10 v0 7 14 (.inr (.inr (some (w9.1.1))))) (fun w11 => bo (pF w11 v0 7 0 (.inl v1)) (fun w12 => some (w12, ())))))))))))))))))))))))))
set_option maxRecDepth 100000 in
set_option maxHeartbeats 4000000 in
theorem wb_Pr_init_0 {p : Program} {l : Launch} {e : Env} {s : State} {m : MethodId} {args : Array Value} {below : List Frame} {meth : Method} {c : Code} {s0 : State} {b0 : Nat} {D : va_G} {cB cI cJ cZ cS cP : ClassId} {A : Nat → Prop} {sk sv : Nat → Nat} {uN uS mc ms : Nat} {ad0 : Nat → Nat} (C0 : XCx p s s0 b0 m args meth c R_Pr b_Pr_init 2 none D cB cI cJ cZ cS cP A) (hE : ENV s0 b0 sk sv) (hnm : meth.name = "<init>") (N : Nat) (G : Unit) (hG : True) : ∀ (u : CS) (v0 : Nat) (v1 : Int32) (x : CS × Unit), fb_Pr_init_0 N G u v0 v1 = some x → (uN + mc = x.1.1.1 ∧ uS + ms = x.1.1.2) → ∀ (ad : Nat → Nat) (ce sl : Nat), AB uN uS ad0 u ad ce sl → ∀ (H : Heap) (locs : List Loc), va_P D cls (wC cB cI cJ cZ cS cP ad u) H → va_D A (wC cB cI cJ cZ cS cP ad u) → va_S A s.heap H locs → ∀ (ls : Array Slot), lv_has ls 2 [(0, .ref (ad v0)), (1, .int v1)] → W p l e (rm_Pr_init mc ms) s m args below meth c H locs ce sl (MQ below (xQ D cB cI cJ cZ cS cP A ad0 uN x.1 none) args s mc ms A) (F0 m 0 ls []) := by
  intro u v0 v1 x hf hm ad ce sl hB H locs hP hD hS ls hl
  obtain ⟨hx, hb, hr, hml, ht, hown, hK, hA, hlocks, hA0, hO, hbs⟩ := id C0
  unfold fb_Pr_init_0 at hf
  refine lv_aload_n hx hb d_Pr_init_0 rfl (lv_at hl 0 rfl) ?_
  refine y_obj C0 (wd_of 1463 (by decide +kernel) rfl) (wd_of 300 (by decide +kernel) rfl) (wd_of 301 (by decide +kernel) rfl) hl.1 (Nat.le_of_ble_eq_true rfl) (Nat.le_of_ble_eq_true rfl) d_Pr_init_1 ?_
  refine lv_aload_n hx hb d_Pr_init_4 rfl (lv_at hl 0 rfl) ?_
  obtain ⟨hk1, hf⟩ := ck_some hf
  obtain ⟨w1, g1, hf⟩ := bo_some hf
  obtain ⟨hf, hw1⟩ := gw_some hf
  refine y_new C0 hP hD hS ck_Fr (wd_of 1464 (by decide +kernel) rfl) (wd_of 1465 (by decide +kernel) rfl) hini_Fr (by decide) g1 hB hm hw1 d_Pr_init_5 (fun ad1 H ce sl hg1 hB hP hD hS => ?_)
  have q1_0 : ad1 v0 = ad v0 := ko_O (k := 0) hk1 rfl hg1
  have hl : lv_has ls 2 [(0, .ref (ad1 v0)), (1, .int v1)] := by simp only [q1_0]; exact hl
  refine W.eq (g2 := F0 m 8 ls [.ref (ad1 (u.1.1)), .ref (ad1 v0)]) (by show F0 m _ ls [.ref (ad1 (u.1.1)), .ref (ad v0)] = F0 m _ ls [.ref (ad1 (u.1.1)), .ref (ad1 v0)]; simp only [q1_0]) ?_
  refine lv_dup hx hb d_Pr_init_8 rfl ?_
  obtain ⟨hk2, hf⟩ := ck_some hf
  obtain ⟨u2, r2, hc2, hf⟩ := bx_some hf
  obtain ⟨hc2, hq2⟩ := gw_some hc2
  obtain ⟨hf, hw2⟩ := gw_some hf
  refine yN (i := u.1.1) (As := []) (rest := [.ref (ad1 (u.1.1)), .ref (ad1 v0)]) (j := 3) C0 hE hP hD hS (c_Fr_init N hE hc2 (gm hq2)) k_Fr_init rfl hi_Fr_init hini_Fr rfl rfl rfl hd_Fr_init.2 rfl rm_Pr_init_Fr_init hl.1 (Nat.le_of_ble_eq_true rfl) d_Pr_init_9 rfl (gm hq2) hB hm hw2 (fun ad2 H locs ce sl hg2 hB hP hD hS => ?_)
  have q2_0 : ad2 v0 = ad1 v0 := ko_O (k := 0) hk2 rfl hg2
  have q2_1 : ad2 (u.1.1) = ad1 (u.1.1) := ko_O (k := 1) hk2 rfl hg2
  have hl : lv_has ls 2 [(0, .ref (ad2 v0)), (1, .int v1)] := by simp only [q2_0]; exact hl
  refine W.eq (g2 := F0 m 12 ls [.ref (ad2 (u.1.1)), .ref (ad2 v0)]) (by show F0 m _ ls [.ref (ad1 (u.1.1)), .ref (ad1 v0)] = F0 m _ ls [.ref (ad2 (u.1.1)), .ref (ad2 v0)]; simp only [q2_0, q2_1]) ?_
  obtain ⟨w3, g3, hf⟩ := bo_some hf
  refine xpF (i := v0) (k := 1) (v := (.inr (.inr (some (u.1.1))))) hx hb ht hown ck_Pr hK hP hD hS (by decide) fk_Pr_12 rfl hnm rfl g3 rfl rfl d_Pr_init_12 (fun H locs hP hD hS => ?_)
  have hB := hB.same (pF_c g3)
  refine lv_aload_n hx hb d_Pr_init_15 rfl (lv_at hl 0 rfl) ?_
  refine lv_sipush (v := 512) hx hb d_Pr_init_16 (by decide) ?_
  obtain ⟨hk4, hf⟩ := ck_some hf
  obtain ⟨w4, g4, hf⟩ := bo_some hf
  obtain ⟨hf, hw4⟩ := gw_some hf
  refine y_naJ C0 hP hD hS g4 hB hm hw4 d_Pr_init_19 (fun ad4 H ce sl hg4 hB hP hD hS => ?_)
  have q4_0 : ad4 v0 = ad2 v0 := ko_O (k := 0) hk4 rfl hg4
  have hl : lv_has ls 2 [(0, .ref (ad4 v0)), (1, .int v1)] := by simp only [q4_0]; exact hl
  refine W.eq (g2 := F0 m 21 ls [.ref (ad4 (w3.1.1)), .ref (ad4 v0)]) (by show F0 m _ ls [.ref (ad4 (w3.1.1)), .ref (ad2 v0)] = F0 m _ ls [.ref (ad4 (w3.1.1)), .ref (ad4 v0)]; simp only [q4_0]) ?_
  obtain ⟨w5, g5, hf⟩ := bo_some hf
  refine xp (i := v0) (k := 2) (v := (.inr (.inr (some (w3.1.1))))) hx hb ht hown ck_Pr hK hP hD hS (by decide) fk_Pr_18 rfl g5 rfl rfl d_Pr_init_21 (fun H locs hP hD hS => ?_)
  have hB := hB.same (pF_c g5)
  refine lv_aload_n hx hb d_Pr_init_24 rfl (lv_at hl 0 rfl) ?_
  refine lv_sipush (v := 512) hx hb d_Pr_init_25 (by decide) ?_
  obtain ⟨hk6, hf⟩ := ck_some hf
  obtain ⟨w6, g6, hf⟩ := bo_some hf
  obtain ⟨hf, hw6⟩ := gw_some hf
  refine y_naJ C0 hP hD hS g6 hB hm hw6 d_Pr_init_28 (fun ad6 H ce sl hg6 hB hP hD hS => ?_)
  have q6_0 : ad6 v0 = ad4 v0 := ko_O (k := 0) hk6 rfl hg6
  have hl : lv_has ls 2 [(0, .ref (ad6 v0)), (1, .int v1)] := by simp only [q6_0]; exact hl
  refine W.eq (g2 := F0 m 30 ls [.ref (ad6 (w5.1.1)), .ref (ad6 v0)]) (by show F0 m _ ls [.ref (ad6 (w5.1.1)), .ref (ad4 v0)] = F0 m _ ls [.ref (ad6 (w5.1.1)), .ref (ad6 v0)]; simp only [q6_0]) ?_
  obtain ⟨w7, g7, hf⟩ := bo_some hf
  refine xp (i := v0) (k := 3) (v := (.inr (.inr (some (w5.1.1))))) hx hb ht hown ck_Pr hK hP hD hS (by decide) fk_Pr_22 rfl g7 rfl rfl d_Pr_init_30 (fun H locs hP hD hS => ?_)
  have hB := hB.same (pF_c g7)
  refine lv_aload_n hx hb d_Pr_init_33 rfl (lv_at hl 0 rfl) ?_
  refine lv_bipush (v := 30) hx hb d_Pr_init_34 (by decide) ?_
  obtain ⟨hk8, hf⟩ := ck_some hf
  obtain ⟨w8, g8, hf⟩ := bo_some hf
  obtain ⟨hf, hw8⟩ := gw_some hf
  refine y_naJ C0 hP hD hS g8 hB hm hw8 d_Pr_init_36 (fun ad8 H ce sl hg8 hB hP hD hS => ?_)
  have q8_0 : ad8 v0 = ad6 v0 := ko_O (k := 0) hk8 rfl hg8
  have hl : lv_has ls 2 [(0, .ref (ad8 v0)), (1, .int v1)] := by simp only [q8_0]; exact hl
  refine W.eq (g2 := F0 m 38 ls [.ref (ad8 (w7.1.1)), .ref (ad8 v0)]) (by show F0 m _ ls [.ref (ad8 (w7.1.1)), .ref (ad6 v0)] = F0 m _ ls [.ref (ad8 (w7.1.1)), .ref (ad8 v0)]; simp only [q8_0]) ?_
  obtain ⟨w9, g9, hf⟩ := bo_some hf
  refine xpF (i := v0) (k := 6) (v := (.inr (.inr (some (w7.1.1))))) hx hb ht hown ck_Pr hK hP hD hS (by decide) fk_Pr_25 rfl hnm rfl g9 rfl rfl d_Pr_init_38 (fun H locs hP hD hS => ?_)
  have hB := hB.same (pF_c g9)
  refine lv_aload_n hx hb d_Pr_init_41 rfl (lv_at hl 0 rfl) ?_
  refine lv_bipush (v := 24) hx hb d_Pr_init_42 (by decide) ?_
  obtain ⟨hk10, hf⟩ := ck_some hf
  obtain ⟨w10, g10, hf⟩ := bo_some hf
  obtain ⟨hf, hw10⟩ := gw_some hf
  refine y_naI C0 hP hD hS g10 hB hm hw10 d_Pr_init_44 (fun ad10 H ce sl hg10 hB hP hD hS => ?_)
  have q10_0 : ad10 v0 = ad8 v0 := ko_O (k := 0) hk10 rfl hg10
  have hl : lv_has ls 2 [(0, .ref (ad10 v0)), (1, .int v1)] := by simp only [q10_0]; exact hl
  refine W.eq (g2 := F0 m 46 ls [.ref (ad10 (w9.1.1)), .ref (ad10 v0)]) (by show F0 m _ ls [.ref (ad10 (w9.1.1)), .ref (ad8 v0)] = F0 m _ ls [.ref (ad10 (w9.1.1)), .ref (ad10 v0)]; simp only [q10_0]) ?_
  obtain ⟨w11, g11, hf⟩ := bo_some hf
  refine xpF (i := v0) (k := 14) (v := (.inr (.inr (some (w9.1.1))))) hx hb ht hown ck_Pr hK hP hD hS (by decide) fk_Pr_28 rfl hnm rfl g11 rfl rfl d_Pr_init_46 (fun H locs hP hD hS => ?_)
  have hB := hB.same (pF_c g11)
  refine lv_aload_n hx hb d_Pr_init_49 rfl (lv_at hl 0 rfl) ?_
  refine lv_iload_n hx hb d_Pr_init_50 rfl (lv_at hl 1 rfl) ?_
  obtain ⟨w12, g12, hf⟩ := bo_some hf
  refine xpF (i := v0) (k := 0) (v := (.inl v1)) hx hb ht hown ck_Pr hK hP hD hS (by decide) fk_Pr_32 rfl hnm rfl g12 rfl rfl d_Pr_init_51 (fun H locs hP hD hS => ?_)
  have hB := hB.same (pF_c g12)
  exact yr_v C0 hP hD hS hB hm hf d_Pr_init_54
def fm_Pr_init (N : Nat) (u : CS) (v0 : Nat) (v1 : Int32) : Option (CS × Unit) := fb_Pr_init_0 N () u v0 v1
set_option maxRecDepth 100000 in
set_option maxHeartbeats 4000000 in
theorem c_Pr_init (N : Nat) {l : Launch} {s0 : State} {b0 : Nat} {D : va_G} {cB cI cJ cZ cS cP : ClassId} {sk sv : Nat → Nat} {ad : Nat → Nat} {u : CS} {sz mc ms : Nat} {v0 : Nat} {v1 : Int32} {x : CS × Unit} (hE : ENV s0 b0 sk sv) (hf : fm_Pr_init N u v0 v1 = some x) (hm : u.1.1 + mc = x.1.1.1 ∧ u.1.2 + ms = x.1.1.2) : Met l y_Pr_init (wd_ws y_Pr_init b_Pr_init 2 none) (rm_Pr_init mc ms) (xPc s0 b0 D cB cI cJ cZ cS cP ad u sz [.ref (ad v0), .int v1]) (xQ D cB cI cJ cZ cS cP (xA cB cI cJ cZ cS cP ad u sz) ad u.1.1 x.1 none) mc ms (xA cB cI cJ cZ cS cP ad u sz) :=
  xMet (by decide) rfl (Nat.le_of_ble_eq_true rfl) (fun p e s m below meth c ls hsz hnm C0 hP hD hS hl =>
    wb_Pr_init_0 C0 hE hnm N () trivial u _ _ x hf hm ad 0 0 ⟨rfl, rfl, fun _ _ => rfl⟩ s.heap [] hP hD hS ls (lv_sub hl [0, 1] rfl))
abbrev b_Wl_born : ByteArray := prog_12_method_4_code
def y_Wl_born : MethodName := ⟨R_Wl, "born", "()LMailHouse$Process;"⟩
def w_Wl_born : List Cond := wd_ws y_Wl_born b_Wl_born 2 (some (.object "MailHouse$Process"))
set_option maxRecDepth 100000 in
theorem k_Wl_born : Cond.code y_Wl_born b_Wl_born 2 (some (.object "MailHouse$Process")) ∈ wd_tbl := wd_of 1458 rfl rfl
theorem d_Wl_born_0 : decode b_Wl_born 0 = .ok (.aload_n 0, 1) := by decide +kernel
theorem d_Wl_born_1 : decode b_Wl_born 1 = .ok (.getfield 41, 3) := by decide +kernel
theorem d_Wl_born_4 : decode b_Wl_born 4 = .ok (.bipush 24, 2) := by decide +kernel
theorem d_Wl_born_6 : decode b_Wl_born 6 = .ok (.if_icmp .lt 5, 3) := by decide +kernel
theorem d_Wl_born_9 : decode b_Wl_born 9 = .ok (.aconst_null, 1) := by decide +kernel
theorem d_Wl_born_10 : decode b_Wl_born 10 = .ok (.areturn, 1) := by decide +kernel
theorem d_Wl_born_11 : decode b_Wl_born 11 = .ok (.aload_n 0, 1) := by decide +kernel
theorem d_Wl_born_12 : decode b_Wl_born 12 = .ok (.getfield 11, 3) := by decide +kernel
theorem d_Wl_born_15 : decode b_Wl_born 15 = .ok (.aload_n 0, 1) := by decide +kernel
theorem d_Wl_born_16 : decode b_Wl_born 16 = .ok (.getfield 41, 3) := by decide +kernel
theorem d_Wl_born_19 : decode b_Wl_born 19 = .ok (.aaload, 1) := by decide +kernel
theorem d_Wl_born_20 : decode b_Wl_born 20 = .ok (.ifnonnull 23, 3) := by decide +kernel
theorem d_Wl_born_23 : decode b_Wl_born 23 = .ok (.aload_n 0, 1) := by decide +kernel
theorem d_Wl_born_24 : decode b_Wl_born 24 = .ok (.getfield 11, 3) := by decide +kernel
theorem d_Wl_born_27 : decode b_Wl_born 27 = .ok (.aload_n 0, 1) := by decide +kernel
theorem d_Wl_born_28 : decode b_Wl_born 28 = .ok (.getfield 41, 3) := by decide +kernel
theorem d_Wl_born_31 : decode b_Wl_born 31 = .ok (.new 9, 3) := by decide +kernel
theorem d_Wl_born_34 : decode b_Wl_born 34 = .ok (.dup, 1) := by decide +kernel
theorem d_Wl_born_35 : decode b_Wl_born 35 = .ok (.aload_n 0, 1) := by decide +kernel
theorem d_Wl_born_36 : decode b_Wl_born 36 = .ok (.getfield 41, 3) := by decide +kernel
theorem d_Wl_born_39 : decode b_Wl_born 39 = .ok (.invokespecial 70, 3) := by decide +kernel
theorem d_Wl_born_42 : decode b_Wl_born 42 = .ok (.aastore, 1) := by decide +kernel
theorem d_Wl_born_43 : decode b_Wl_born 43 = .ok (.aload_n 0, 1) := by decide +kernel
theorem d_Wl_born_44 : decode b_Wl_born 44 = .ok (.getfield 11, 3) := by decide +kernel
theorem d_Wl_born_47 : decode b_Wl_born 47 = .ok (.aload_n 0, 1) := by decide +kernel
theorem d_Wl_born_48 : decode b_Wl_born 48 = .ok (.getfield 41, 3) := by decide +kernel
theorem d_Wl_born_51 : decode b_Wl_born 51 = .ok (.aaload, 1) := by decide +kernel
theorem d_Wl_born_52 : decode b_Wl_born 52 = .ok (.astore_n 1, 1) := by decide +kernel
theorem d_Wl_born_53 : decode b_Wl_born 53 = .ok (.aload_n 1, 1) := by decide +kernel
theorem d_Wl_born_54 : decode b_Wl_born 54 = .ok (.invokevirtual 73, 3) := by decide +kernel
theorem d_Wl_born_57 : decode b_Wl_born 57 = .ok (.aload_n 0, 1) := by decide +kernel
theorem d_Wl_born_58 : decode b_Wl_born 58 = .ok (.dup, 1) := by decide +kernel
theorem d_Wl_born_59 : decode b_Wl_born 59 = .ok (.getfield 41, 3) := by decide +kernel
theorem d_Wl_born_62 : decode b_Wl_born 62 = .ok (.iconst 1, 1) := by decide +kernel
theorem d_Wl_born_63 : decode b_Wl_born 63 = .ok (.iadd, 1) := by decide +kernel
theorem d_Wl_born_64 : decode b_Wl_born 64 = .ok (.putfield 41, 3) := by decide +kernel
theorem d_Wl_born_67 : decode b_Wl_born 67 = .ok (.aload_n 1, 1) := by decide +kernel
theorem d_Wl_born_68 : decode b_Wl_born 68 = .ok (.areturn, 1) := by decide +kernel
set_option maxRecDepth 100000 in
theorem hi_Wl_born : Cond.instanceMethod y_Wl_born ∈ wd_tbl := wd_of 1456 (by decide +kernel) rfl
set_option maxRecDepth 100000 in
theorem hs_Wl_born : Cond.selects R_Wl y_Wl_born y_Wl_born ∈ wd_tbl := wd_of 1457 (by decide +kernel) rfl
theorem hd_Wl_born : y_Wl_born.cls = R_Wl ∧ y_Wl_born.cls ≠ "java/lang/invoke/MethodHandle" ∧ y_Wl_born.cls ≠ "java/lang/invoke/VarHandle" ∧ (parseMethodDescriptor y_Wl_born.desc).map (fun d => d.parameters.length) = some 0 := by decide +kernel
def rm_Wl_born (mc ms : Nat) : Room := { frames := 3, cells := mc, slots := ms, locals := 53 }
theorem rm_Wl_born_Pr_init {mc ms : Nat} {mc2 ms2 : Nat} : (rm_Pr_init mc2 ms2).frames + 1 ≤ (rm_Wl_born mc ms).frames ∧ 8 + (2 + 11) + (rm_Pr_init mc2 ms2).locals ≤ (rm_Wl_born mc ms).locals := by
  show 2 + 1 ≤ 3 ∧ 8 + (2 + 11) + 32 ≤ 53
  decide
theorem rm_Wl_born_Pr_clear {mc ms : Nat} : (rm_Pr_clear).frames + 1 ≤ (rm_Wl_born mc ms).frames ∧ 8 + (1 + 11) + (rm_Pr_clear).locals ≤ (rm_Wl_born mc ms).locals := by
  show 1 + 1 ≤ 3 ∧ 8 + (1 + 11) + 20 ≤ 53
  decide
def fb_Wl_born_43 (N : Nat) (G : Unit) (u : CS) (v0 : Nat) : Option (CS × Option Nat) := bo (gR u v0 12 1) (fun r1 => bo (gI u v0 12 2) (fun r2 => bo r1 (fun j3 => bo (aP u j3 r2) (fun r4 => bo r4 (fun j6 => ck (isO u j6 7) (bx (gz u (fm_Pr_clear N u j6)) (fun u5 r5 => gw u5 (bo (gI u5 v0 12 2) (fun r7 => bo (pF u5 v0 12 2 (.inl (r7 + 1))) (fun w8 => some (w8, r4)))))))))))
set_option maxRecDepth 100000 in
set_option maxHeartbeats 4000000 in
theorem wb_Wl_born_43 {p : Program} {l : Launch} {e : Env} {s : State} {m : MethodId} {args : Array Value} {below : List Frame} {meth : Method} {c : Code} {s0 : State} {b0 : Nat} {D : va_G} {cB cI cJ cZ cS cP : ClassId} {A : Nat → Prop} {sk sv : Nat → Nat} {uN uS mc ms : Nat} {ad0 : Nat → Nat} (C0 : XCx p s s0 b0 m args meth c R_Wl b_Wl_born 2 (some (.object "MailHouse$Process")) D cB cI cJ cZ cS cP A) (hE : ENV s0 b0 sk sv) (N : Nat) (G : Unit) (hG : True) : ∀ (u : CS) (v0 : Nat) (x : CS × Option Nat), fb_Wl_born_43 N G u v0 = some x → (uN + mc = x.1.1.1 ∧ uS + ms = x.1.1.2) → ∀ (ad : Nat → Nat) (ce sl : Nat), AB uN uS ad0 u ad ce sl → ∀ (H : Heap) (locs : List Loc), va_P D cls (wC cB cI cJ cZ cS cP ad u) H → va_D A (wC cB cI cJ cZ cS cP ad u) → va_S A s.heap H locs → ∀ (ls : Array Slot), lv_has ls 2 [(0, .ref (ad v0))] → W p l e (rm_Wl_born mc ms) s m args below meth c H locs ce sl (MQ below (xQ D cB cI cJ cZ cS cP A ad0 uN x.1 (some (.inr (.inr x.2)))) args s mc ms A) (F0 m 43 ls []) := by
  intro u v0 x hf hm ad ce sl hB H locs hP hD hS ls hl
  obtain ⟨hx, hb, hr, hml, ht, hown, hK, hA, hlocks, hA0, hO, hbs⟩ := id C0
  unfold fb_Wl_born_43 at hf
  refine lv_aload_n hx hb d_Wl_born_43 rfl (lv_at hl 0 rfl) ?_
  obtain ⟨r1, g1, hf⟩ := bo_some hf
  refine xg_R (i := v0) (k := 1) hx hb ht hown ck_Wl hK hP (by decide) fk_Wl_11 g1 d_Wl_born_44 ?_
  refine lv_aload_n hx hb d_Wl_born_47 rfl (lv_at hl 0 rfl) ?_
  obtain ⟨r2, g2, hf⟩ := bo_some hf
  refine xg_I (i := v0) (k := 2) hx hb ht hown ck_Wl hK hP (by decide) fk_Wl_41 g2 d_Wl_born_48 ?_
  obtain ⟨j3, ej3, hf⟩ := bo_some hf
  rw [ej3]
  obtain ⟨r4, g4, hf⟩ := bo_some hf
  refine xl_P (i := j3) hx hb hK hP g4 d_Wl_born_51 ?_
  refine x_astore_n (lv' := [(1, va_rf (Option.map ad r4)), (0, .ref (ad v0))]) hx hb d_Wl_born_52 rfl hl (by decide) (by first | rfl | simp [List.filter, cat_rf]) (fun ls hl => ?_)
  refine x_aload_n hx hb d_Wl_born_53 rfl (lv_at hl 0 rfl) ?_
  obtain ⟨j6, ej6, hf⟩ := bo_some hf
  rw [ej6]
  obtain ⟨hO9, hf⟩ := ck_some hf
  obtain ⟨u5, r5, hc5, hf⟩ := bx_some hf
  obtain ⟨hc5, hz5⟩ := gz_some hc5
  obtain ⟨hf, hw5⟩ := gw_some hf
  refine xV0 (i := j6) (As := []) (rest := []) C0 hP hD hS ck_Pr hO9 (c_Pr_clear N hc5) k_Pr_clear (wd_of 1609 (by decide +kernel) rfl) hi_Pr_clear hs_Pr_clear hini_Pr rfl rfl hd_Pr_clear rfl rm_Wl_born_Pr_clear hl.1 (Nat.le_of_ble_eq_true rfl) d_Wl_born_54 rfl (hB.fit hm hz5 hw5) (fun H locs hP hD hS => ?_)
  have hB := hB.same2 hz5
  refine lv_aload_n hx hb d_Wl_born_57 rfl (lv_at hl 1 rfl) ?_
  refine lv_dup hx hb d_Wl_born_58 rfl ?_
  obtain ⟨r7, g7, hf⟩ := bo_some hf
  refine xg_I (i := v0) (k := 2) hx hb ht hown ck_Wl hK hP (by decide) fk_Wl_41 g7 d_Wl_born_59 ?_
  refine lv_iconst (v := 1) hx hb d_Wl_born_62 (by decide) ?_
  refine lv_iadd hx hb d_Wl_born_63 ?_
  obtain ⟨w8, g8, hf⟩ := bo_some hf
  refine xp (i := v0) (k := 2) (v := (.inl (r7 + 1))) hx hb ht hown ck_Wl hK hP hD hS (by decide) fk_Wl_41 rfl g8 rfl rfl d_Wl_born_64 (fun H locs hP hD hS => ?_)
  have hB := hB.same (pF_c g8)
  refine x_aload_n hx hb d_Wl_born_67 rfl (lv_at hl 0 rfl) ?_
  exact yr_r (v := r4) C0 hP hD hS hB hm hf d_Wl_born_68
def fb_Wl_born_0 (N : Nat) (G : Unit) (u : CS) (v0 : Nat) : Option (CS × Option Nat) := bo (gI u v0 12 2) (fun r9 => br (decide (r9 < 24)) (bo (gR u v0 12 1) (fun r10 => bo (gI u v0 12 2) (fun r11 => bo r10 (fun j12 => bo (aP u j12 r11) (fun r13 => br (decide (r13 = none)) (bo (gR u v0 12 1) (fun r14 => bo (gI u v0 12 2) (fun r15 => ck (List.all [some v0, r14] (okR u.1.1)) (bo (nO u 7 18 t_Pr) (fun w16 => gw w16 (bo (gI w16 v0 12 2) (fun r17 => ck (List.all [some v0, r14, some (u.1.1)] (okR w16.1.1)) (bx (gw w16 (fm_Pr_init N w16 (u.1.1) r17)) (fun u18 r18 => gw u18 (bo r14 (fun j19 => bo (sP u18 j19 r15 (u.1.1)) (fun w20 => fb_Wl_born_43 N G w20 (v0))))))))))))) (fb_Wl_born_43 N G u (v0))))))) (some (u, none)))
set_option maxRecDepth 100000 in
set_option maxHeartbeats 4000000 in
theorem wb_Wl_born_0 {p : Program} {l : Launch} {e : Env} {s : State} {m : MethodId} {args : Array Value} {below : List Frame} {meth : Method} {c : Code} {s0 : State} {b0 : Nat} {D : va_G} {cB cI cJ cZ cS cP : ClassId} {A : Nat → Prop} {sk sv : Nat → Nat} {uN uS mc ms : Nat} {ad0 : Nat → Nat} (C0 : XCx p s s0 b0 m args meth c R_Wl b_Wl_born 2 (some (.object "MailHouse$Process")) D cB cI cJ cZ cS cP A) (hE : ENV s0 b0 sk sv) (N : Nat) (G : Unit) (hG : True) : ∀ (u : CS) (v0 : Nat) (x : CS × Option Nat), fb_Wl_born_0 N G u v0 = some x → (uN + mc = x.1.1.1 ∧ uS + ms = x.1.1.2) → ∀ (ad : Nat → Nat) (ce sl : Nat), AB uN uS ad0 u ad ce sl → ∀ (H : Heap) (locs : List Loc), va_P D cls (wC cB cI cJ cZ cS cP ad u) H → va_D A (wC cB cI cJ cZ cS cP ad u) → va_S A s.heap H locs → ∀ (ls : Array Slot), lv_has ls 2 [(0, .ref (ad v0))] → W p l e (rm_Wl_born mc ms) s m args below meth c H locs ce sl (MQ below (xQ D cB cI cJ cZ cS cP A ad0 uN x.1 (some (.inr (.inr x.2)))) args s mc ms A) (F0 m 0 ls []) := by
  intro u v0 x hf hm ad ce sl hB H locs hP hD hS ls hl
  obtain ⟨hx, hb, hr, hml, ht, hown, hK, hA, hlocks, hA0, hO, hbs⟩ := id C0
  unfold fb_Wl_born_0 at hf
  refine lv_aload_n hx hb d_Wl_born_0 rfl (lv_at hl 0 rfl) ?_
  obtain ⟨r9, g9, hf⟩ := bo_some hf
  refine xg_I (i := v0) (k := 2) hx hb ht hown ck_Wl hK hP (by decide) fk_Wl_41 g9 d_Wl_born_1 ?_
  refine lv_bipush (v := 24) hx hb d_Wl_born_4 (by decide) ?_
  refine lv_icmp_lt (tgt := 11) hx hb d_Wl_born_6 (by decide) (fun hc => ?_) (fun hc => ?_)
  · rw [br_p _ hc] at hf
    refine lv_aload_n hx hb d_Wl_born_11 rfl (lv_at hl 0 rfl) ?_
    obtain ⟨r10, g10, hf⟩ := bo_some hf
    refine xg_R (i := v0) (k := 1) hx hb ht hown ck_Wl hK hP (by decide) fk_Wl_11 g10 d_Wl_born_12 ?_
    refine lv_aload_n hx hb d_Wl_born_15 rfl (lv_at hl 0 rfl) ?_
    obtain ⟨r11, g11, hf⟩ := bo_some hf
    refine xg_I (i := v0) (k := 2) hx hb ht hown ck_Wl hK hP (by decide) fk_Wl_41 g11 d_Wl_born_16 ?_
    obtain ⟨j12, ej12, hf⟩ := bo_some hf
    rw [ej12]
    obtain ⟨r13, g13, hf⟩ := bo_some hf
    refine xl_P (i := j12) hx hb hK hP g13 d_Wl_born_19 ?_
    refine x_ifnonnull (r := r13) (tgt := 43) hx hb d_Wl_born_20 (by decide) (fun hc => ?_) (fun hc => ?_)
    · rw [br_n _ hc] at hf
      exact wb_Wl_born_43 C0 hE N G hG _ _ _ hf hm _ _ _ hB H locs hP hD hS ls (lv_sub hl [0] rfl)
    · rw [br_p _ hc] at hf
      refine lv_aload_n hx hb d_Wl_born_23 rfl (lv_at hl 0 rfl) ?_
      obtain ⟨r14, g14, hf⟩ := bo_some hf
      refine xg_R (i := v0) (k := 1) hx hb ht hown ck_Wl hK hP (by decide) fk_Wl_11 g14 d_Wl_born_24 ?_
      refine lv_aload_n hx hb d_Wl_born_27 rfl (lv_at hl 0 rfl) ?_
      obtain ⟨r15, g15, hf⟩ := bo_some hf
      refine xg_I (i := v0) (k := 2) hx hb ht hown ck_Wl hK hP (by decide) fk_Wl_41 g15 d_Wl_born_28 ?_
      obtain ⟨hk16, hf⟩ := ck_some hf
      obtain ⟨w16, g16, hf⟩ := bo_some hf
      obtain ⟨hf, hw16⟩ := gw_some hf
      refine y_new C0 hP hD hS ck_Pr (wd_of 651 (by decide +kernel) rfl) (wd_of 1459 (by decide +kernel) rfl) hini_Pr (by decide) g16 hB hm hw16 d_Wl_born_31 (fun ad16 H ce sl hg16 hB hP hD hS => ?_)
      have q16_0 : ad16 v0 = ad v0 := ko_O (k := 0) hk16 rfl hg16
      have q16_1 : Option.map ad16 r14 = Option.map ad r14 := ko_N (k := 1) hk16 rfl hg16
      have hl : lv_has ls 2 [(0, .ref (ad16 v0))] := by simp only [q16_0]; exact hl
      refine W.eq (g2 := F0 m 34 ls [.ref (ad16 (u.1.1)), .int r15, va_rf (Option.map ad16 r14)]) (by show F0 m _ ls [.ref (ad16 (u.1.1)), .int r15, va_rf (Option.map ad r14)] = F0 m _ ls [.ref (ad16 (u.1.1)), .int r15, va_rf (Option.map ad16 r14)]; simp only [q16_1]) ?_
      refine lv_dup hx hb d_Wl_born_34 rfl ?_
      refine lv_aload_n hx hb d_Wl_born_35 rfl (lv_at hl 0 rfl) ?_
      obtain ⟨r17, g17, hf⟩ := bo_some hf
      refine xg_I (i := v0) (k := 2) hx hb ht hown ck_Wl hK hP (by decide) fk_Wl_41 g17 d_Wl_born_36 ?_
      obtain ⟨hk18, hf⟩ := ck_some hf
      obtain ⟨u18, r18, hc18, hf⟩ := bx_some hf
      obtain ⟨hc18, hq18⟩ := gw_some hc18
      obtain ⟨hf, hw18⟩ := gw_some hf
      refine yI (i := u.1.1) (As := [.int r17]) (rest := [.ref (ad16 (u.1.1)), .int r15, va_rf (Option.map ad16 r14)]) C0 hP hD hS (c_Pr_init N hE hc18 (gm hq18)) k_Pr_init (wd_of 1460 (by decide +kernel) rfl) hi_Pr_init hini_Pr rfl rfl rfl hd_Pr_init.2 rfl rm_Wl_born_Pr_init hl.1 (c8 (Nat.le_of_ble_eq_true rfl)) d_Wl_born_39 rfl (gm hq18) hB hm hw18 (fun ad18 H locs ce sl hg18 hB hP hD hS => ?_)
      have q18_0 : ad18 v0 = ad16 v0 := ko_O (k := 0) hk18 rfl hg18
      have q18_1 : Option.map ad18 r14 = Option.map ad16 r14 := ko_N (k := 1) hk18 rfl hg18
      have q18_2 : ad18 (u.1.1) = ad16 (u.1.1) := ko_O (k := 2) hk18 rfl hg18
      have hl : lv_has ls 2 [(0, .ref (ad18 v0))] := by simp only [q18_0]; exact hl
      refine W.eq (g2 := F0 m 42 ls [.ref (ad18 (u.1.1)), .int r15, va_rf (Option.map ad18 r14)]) (by show F0 m _ ls [.ref (ad16 (u.1.1)), .int r15, va_rf (Option.map ad16 r14)] = F0 m _ ls [.ref (ad18 (u.1.1)), .int r15, va_rf (Option.map ad18 r14)]; simp only [q18_1, q18_2]) ?_
      obtain ⟨j19, ej19, hf⟩ := bo_some hf
      rw [ej19]
      obtain ⟨w20, g20, hf⟩ := bo_some hf
      refine xs_P (i := j19) hx hb hK hP hD hS g20 d_Wl_born_42 (fun H locs hP hD hS => ?_)
      have hB := hB.same (sP_c g20)
      exact wb_Wl_born_43 C0 hE N G hG _ _ _ hf hm _ _ _ hB H locs hP hD hS ls (lv_sub hl [0] rfl)
  · rw [br_n _ hc] at hf
    refine lv_null hx hb d_Wl_born_9 ?_
    exact yr_r (v := none) C0 hP hD hS hB hm hf d_Wl_born_10
def fm_Wl_born (N : Nat) (u : CS) (v0 : Nat) : Option (CS × Option Nat) := fb_Wl_born_0 N () u v0
set_option maxRecDepth 100000 in
set_option maxHeartbeats 4000000 in
theorem c_Wl_born (N : Nat) {l : Launch} {s0 : State} {b0 : Nat} {D : va_G} {cB cI cJ cZ cS cP : ClassId} {sk sv : Nat → Nat} {ad : Nat → Nat} {u : CS} {sz mc ms : Nat} {v0 : Nat} {x : CS × Option Nat} (hE : ENV s0 b0 sk sv) (hf : fm_Wl_born N u v0 = some x) (hm : u.1.1 + mc = x.1.1.1 ∧ u.1.2 + ms = x.1.1.2) : Met l y_Wl_born (wd_ws y_Wl_born b_Wl_born 2 (some (.object "MailHouse$Process"))) (rm_Wl_born mc ms) (xPc s0 b0 D cB cI cJ cZ cS cP ad u sz [.ref (ad v0)]) (xQ D cB cI cJ cZ cS cP (xA cB cI cJ cZ cS cP ad u sz) ad u.1.1 x.1 (some (.inr (.inr x.2)))) mc ms (xA cB cI cJ cZ cS cP ad u sz) :=
  xMet (by decide) rfl (Nat.le_of_ble_eq_true rfl) (fun p e s m below meth c ls hsz hnm C0 hP hD hS hl =>
    wb_Wl_born_0 C0 hE N () trivial u _ x hf hm ad 0 0 ⟨rfl, rfl, fun _ _ => rfl⟩ s.heap [] hP hD hS ls (lv_sub hl [0] rfl))
abbrev b_H_begin : ByteArray := prog_1_method_9_code
def y_H_begin : MethodName := ⟨R_H, "begin", "(I)V"⟩
def w_H_begin : List Cond := wd_ws y_H_begin b_H_begin 3 none
set_option maxRecDepth 100000 in
theorem k_H_begin : Cond.code y_H_begin b_H_begin 3 none ∈ wd_tbl := wd_of 1406 rfl rfl
theorem d_H_begin_0 : decode b_H_begin 0 = .ok (.aload_n 0, 1) := by decide +kernel
theorem d_H_begin_1 : decode b_H_begin 1 = .ok (.getfield 104, 3) := by decide +kernel
theorem d_H_begin_4 : decode b_H_begin 4 = .ok (.ifCond .ne 13, 3) := by decide +kernel
theorem d_H_begin_7 : decode b_H_begin 7 = .ok (.new 152, 3) := by decide +kernel
theorem d_H_begin_10 : decode b_H_begin 10 = .ok (.dup, 1) := by decide +kernel
theorem d_H_begin_11 : decode b_H_begin 11 = .ok (.ldc 154, 2) := by decide +kernel
theorem d_H_begin_13 : decode b_H_begin 13 = .ok (.invokespecial 156, 3) := by decide +kernel
theorem d_H_begin_16 : decode b_H_begin 16 = .ok (.athrow, 1) := by decide +kernel
theorem d_H_begin_17 : decode b_H_begin 17 = .ok (.aload_n 0, 1) := by decide +kernel
theorem d_H_begin_18 : decode b_H_begin 18 = .ok (.iload_n 1, 1) := by decide +kernel
theorem d_H_begin_19 : decode b_H_begin 19 = .ok (.invokevirtual 131, 3) := by decide +kernel
theorem d_H_begin_22 : decode b_H_begin 22 = .ok (.ifCond .ne 13, 3) := by decide +kernel
theorem d_H_begin_25 : decode b_H_begin 25 = .ok (.new 159, 3) := by decide +kernel
theorem d_H_begin_28 : decode b_H_begin 28 = .ok (.dup, 1) := by decide +kernel
theorem d_H_begin_29 : decode b_H_begin 29 = .ok (.ldc 161, 2) := by decide +kernel
theorem d_H_begin_31 : decode b_H_begin 31 = .ok (.invokespecial 163, 3) := by decide +kernel
theorem d_H_begin_34 : decode b_H_begin 34 = .ok (.athrow, 1) := by decide +kernel
theorem d_H_begin_35 : decode b_H_begin 35 = .ok (.aload_n 0, 1) := by decide +kernel
theorem d_H_begin_36 : decode b_H_begin 36 = .ok (.getfield 35, 3) := by decide +kernel
theorem d_H_begin_39 : decode b_H_begin 39 = .ok (.getfield 139, 3) := by decide +kernel
theorem d_H_begin_42 : decode b_H_begin 42 = .ok (.iload_n 1, 1) := by decide +kernel
theorem d_H_begin_43 : decode b_H_begin 43 = .ok (.iaload, 1) := by decide +kernel
theorem d_H_begin_44 : decode b_H_begin 44 = .ok (.ifCond .eq 13, 3) := by decide +kernel
theorem d_H_begin_47 : decode b_H_begin 47 = .ok (.new 164, 3) := by decide +kernel
theorem d_H_begin_50 : decode b_H_begin 50 = .ok (.dup, 1) := by decide +kernel
theorem d_H_begin_51 : decode b_H_begin 51 = .ok (.ldc 166, 2) := by decide +kernel
theorem d_H_begin_53 : decode b_H_begin 53 = .ok (.invokespecial 168, 3) := by decide +kernel
theorem d_H_begin_56 : decode b_H_begin 56 = .ok (.athrow, 1) := by decide +kernel
theorem d_H_begin_57 : decode b_H_begin 57 = .ok (.aload_n 0, 1) := by decide +kernel
theorem d_H_begin_58 : decode b_H_begin 58 = .ok (.getfield 69, 3) := by decide +kernel
theorem d_H_begin_61 : decode b_H_begin 61 = .ok (.invokevirtual 108, 3) := by decide +kernel
theorem d_H_begin_64 : decode b_H_begin 64 = .ok (.aload_n 0, 1) := by decide +kernel
theorem d_H_begin_65 : decode b_H_begin 65 = .ok (.getfield 69, 3) := by decide +kernel
theorem d_H_begin_68 : decode b_H_begin 68 = .ok (.iconst 1, 1) := by decide +kernel
theorem d_H_begin_69 : decode b_H_begin 69 = .ok (.putfield 169, 3) := by decide +kernel
theorem d_H_begin_72 : decode b_H_begin 72 = .ok (.aload_n 0, 1) := by decide +kernel
theorem d_H_begin_73 : decode b_H_begin 73 = .ok (.getfield 69, 3) := by decide +kernel
theorem d_H_begin_76 : decode b_H_begin 76 = .ok (.invokevirtual 172, 3) := by decide +kernel
theorem d_H_begin_79 : decode b_H_begin 79 = .ok (.astore_n 2, 1) := by decide +kernel
theorem d_H_begin_80 : decode b_H_begin 80 = .ok (.aload_n 2, 1) := by decide +kernel
theorem d_H_begin_81 : decode b_H_begin 81 = .ok (.ifnull 21, 3) := by decide +kernel
theorem d_H_begin_84 : decode b_H_begin 84 = .ok (.aload_n 2, 1) := by decide +kernel
theorem d_H_begin_85 : decode b_H_begin 85 = .ok (.getfield 176, 3) := by decide +kernel
theorem d_H_begin_88 : decode b_H_begin 88 = .ok (.iload_n 1, 1) := by decide +kernel
theorem d_H_begin_89 : decode b_H_begin 89 = .ok (.aload_n 0, 1) := by decide +kernel
theorem d_H_begin_90 : decode b_H_begin 90 = .ok (.getfield 35, 3) := by decide +kernel
theorem d_H_begin_93 : decode b_H_begin 93 = .ok (.getfield 182, 3) := by decide +kernel
theorem d_H_begin_96 : decode b_H_begin 96 = .ok (.iload_n 1, 1) := by decide +kernel
theorem d_H_begin_97 : decode b_H_begin 97 = .ok (.iaload, 1) := by decide +kernel
theorem d_H_begin_98 : decode b_H_begin 98 = .ok (.iconst 0, 1) := by decide +kernel
theorem d_H_begin_99 : decode b_H_begin 99 = .ok (.invokevirtual 185, 3) := by decide +kernel
theorem d_H_begin_102 : decode b_H_begin 102 = .ok (.return_, 1) := by decide +kernel
set_option maxRecDepth 100000 in
theorem hi_H_begin : Cond.instanceMethod y_H_begin ∈ wd_tbl := wd_of 1404 (by decide +kernel) rfl
set_option maxRecDepth 100000 in
theorem hs_H_begin : Cond.selects R_H y_H_begin y_H_begin ∈ wd_tbl := wd_of 1405 (by decide +kernel) rfl
theorem hd_H_begin : y_H_begin.cls = R_H ∧ y_H_begin.cls ≠ "java/lang/invoke/MethodHandle" ∧ y_H_begin.cls ≠ "java/lang/invoke/VarHandle" ∧ (parseMethodDescriptor y_H_begin.desc).map (fun d => d.parameters.length) = some 1 := by decide +kernel
def rm_H_begin (mc ms : Nat) : Room := { frames := 6, cells := mc, slots := ms, locals := 90 }
theorem rm_H_begin_H_isFunction {mc ms : Nat} : (rm_H_isFunction).frames + 1 ≤ (rm_H_begin mc ms).frames ∧ 8 + (2 + 11) + (rm_H_isFunction).locals ≤ (rm_H_begin mc ms).locals := by
  show 0 + 1 ≤ 6 ∧ 8 + (2 + 11) + 0 ≤ 90
  decide
theorem rm_H_begin_Wl_clearAll {mc ms : Nat} : (rm_Wl_clearAll).frames + 1 ≤ (rm_H_begin mc ms).frames ∧ 8 + (1 + 11) + (rm_Wl_clearAll).locals ≤ (rm_H_begin mc ms).locals := by
  show 0 + 1 ≤ 6 ∧ 8 + (1 + 11) + 0 ≤ 90
  decide
theorem rm_H_begin_Wl_born {mc ms : Nat} {mc2 ms2 : Nat} : (rm_Wl_born mc2 ms2).frames + 1 ≤ (rm_H_begin mc ms).frames ∧ 8 + (2 + 11) + (rm_Wl_born mc2 ms2).locals ≤ (rm_H_begin mc ms).locals := by
  show 3 + 1 ≤ 6 ∧ 8 + (2 + 11) + 53 ≤ 90
  decide
theorem rm_H_begin_Fr_open {mc ms : Nat} : (rm_Fr_open).frames + 1 ≤ (rm_H_begin mc ms).frames ∧ 8 + (4 + 11) + (rm_Fr_open).locals ≤ (rm_H_begin mc ms).locals := by
  show 1 + 1 ≤ 6 ∧ 8 + (4 + 11) + 22 ≤ 90
  decide
def fb_H_begin_102 (N : Nat) (G : Unit) (u : CS) : Option (CS × (Unit ⊕ Nat)) := some (u, .inl ())
set_option maxRecDepth 100000 in
set_option maxHeartbeats 4000000 in
theorem wb_H_begin_102 {p : Program} {l : Launch} {e : Env} {s : State} {m : MethodId} {args : Array Value} {below : List Frame} {meth : Method} {c : Code} {s0 : State} {b0 : Nat} {D : va_G} {cB cI cJ cZ cS cP : ClassId} {A : Nat → Prop} {sk sv : Nat → Nat} {uN uS mc ms : Nat} {ad0 : Nat → Nat} (C0 : XCx p s s0 b0 m args meth c R_H b_H_begin 3 none D cB cI cJ cZ cS cP A) (hE : ENV s0 b0 sk sv) (hno : c.exceptionTable.isEmpty = true) (hL : l.stackTraces = false) (N : Nat) (G : Unit) (hG : True) : ∀ (u : CS) (x : CS × (Unit ⊕ Nat)), fb_H_begin_102 N G u = some x → (uN + mc = x.1.1.1 + tc x.2 ∧ uS + ms = x.1.1.2 + tsl x.2) → ∀ (ad : Nat → Nat) (ce sl : Nat), AB uN uS ad0 u ad ce sl → ∀ (H : Heap) (locs : List Loc), va_P D cls (wC cB cI cJ cZ cS cP ad u) H → va_D A (wC cB cI cJ cZ cS cP ad u) → va_S A s.heap H locs → ∀ (ls : Array Slot), lv_has ls 3 [] → W p l e (rm_H_begin mc ms) s m args below meth c H locs ce sl (MQX below (xQy D cB cI cJ cZ cS cP A ad0 uN (fun _ => none) x) args s mc ms A) (F0 m 102 ls []) := by
  intro u x hf hm ad ce sl hB H locs hP hD hS ls hl
  obtain ⟨hx, hb, hr, hml, ht, hown, hK, hA, hlocks, hA0, hO, hbs⟩ := id C0
  unfold fb_H_begin_102 at hf
  exact yx_v C0 hP hD hS hB hm hf d_H_begin_102
def fb_H_begin_0 (N : Nat) (G : Unit) (u : CS) (v0 : Nat) (v1 : Int32) : Option (CS × (Unit ⊕ Nat)) := bo (gI u v0 1 10) (fun r1 => br (decide (r1 = 0)) (some (u, .inr 0)) (ck (isO u v0 1) (bx (gz u (fm_H_isFunction N u v0 v1)) (fun u2 r2 => gw u2 (br (decide (r2 = 0)) (some (u2, .inr 1)) (bo (gR u2 v0 1 2) (fun r3 => bo r3 (fun j4 => bo (gR u2 j4 2 4) (fun r5 => bo r5 (fun j6 => bo (aI u2 j6 4 v1) (fun r7 => br (decide (r7 = 0)) (bo (gR u2 v0 1 6) (fun r8 => bo r8 (fun j10 => ck (isO u2 j10 12) (bx (gz u2 (fm_Wl_clearAll N u2 j10)) (fun u9 r9 => gw u9 (bo (gR u9 v0 1 6) (fun r11 => bo r11 (fun j12 => bo (pF u9 j12 12 3 (.inl 1)) (fun w13 => bo (gR w13 v0 1 6) (fun r14 => bo r14 (fun j16 => ck (isO w13 j16 12) (ck (List.all [some v0] (okR w13.1.1)) (bx (gw w13 (fm_Wl_born N w13 j16)) (fun u15 r15 => gw u15 (br (decide (r15 = none)) (fb_H_begin_102 N G u15) (bo r15 (fun j17 => bo (gR u15 j17 7 1) (fun r18 => bo (gR u15 v0 1 2) (fun r19 => bo r19 (fun j20 => bo (gR u15 j20 2 8) (fun r21 => bo r21 (fun j22 => bo (aI u15 j22 4 v1) (fun r23 => bo r18 (fun j25 => ck (isO u15 j25 4) (bx (gz u15 (fm_Fr_open N u15 j25 v1 r23 0)) (fun u24 r24 => gw u24 (fb_H_begin_102 N G u24))))))))))))))))))))))))))) (some (u2, .inr 2)))))))))))))
set_option maxRecDepth 100000 in
set_option maxHeartbeats 4000000 in
theorem wb_H_begin_0 {p : Program} {l : Launch} {e : Env} {s : State} {m : MethodId} {args : Array Value} {below : List Frame} {meth : Method} {c : Code} {s0 : State} {b0 : Nat} {D : va_G} {cB cI cJ cZ cS cP : ClassId} {A : Nat → Prop} {sk sv : Nat → Nat} {uN uS mc ms : Nat} {ad0 : Nat → Nat} (C0 : XCx p s s0 b0 m args meth c R_H b_H_begin 3 none D cB cI cJ cZ cS cP A) (hE : ENV s0 b0 sk sv) (hno : c.exceptionTable.isEmpty = true) (hL : l.stackTraces = false) (N : Nat) (G : Unit) (hG : True) : ∀ (u : CS) (v0 : Nat) (v1 : Int32) (x : CS × (Unit ⊕ Nat)), fb_H_begin_0 N G u v0 v1 = some x → (uN + mc = x.1.1.1 + tc x.2 ∧ uS + ms = x.1.1.2 + tsl x.2) → ∀ (ad : Nat → Nat) (ce sl : Nat), AB uN uS ad0 u ad ce sl → ∀ (H : Heap) (locs : List Loc), va_P D cls (wC cB cI cJ cZ cS cP ad u) H → va_D A (wC cB cI cJ cZ cS cP ad u) → va_S A s.heap H locs → ∀ (ls : Array Slot), lv_has ls 3 [(0, .ref (ad v0)), (1, .int v1)] → W p l e (rm_H_begin mc ms) s m args below meth c H locs ce sl (MQX below (xQy D cB cI cJ cZ cS cP A ad0 uN (fun _ => none) x) args s mc ms A) (F0 m 0 ls []) := by
  intro u v0 v1 x hf hm ad ce sl hB H locs hP hD hS ls hl
  obtain ⟨hx, hb, hr, hml, ht, hown, hK, hA, hlocks, hA0, hO, hbs⟩ := id C0
  unfold fb_H_begin_0 at hf
  refine lv_aload_n hx hb d_H_begin_0 rfl (lv_at hl 0 rfl) ?_
  obtain ⟨r1, g1, hf⟩ := bo_some hf
  refine xg_I (i := v0) (k := 10) hx hb ht hown ck_H hK hP (by decide) fk_H_104 g1 d_H_begin_1 ?_
  refine lv_if_ne (tgt := 17) hx hb d_H_begin_4 (by decide) (fun hc => ?_) (fun hc => ?_)
  · rw [br_n _ hc] at hf
    refine lv_aload_n hx hb d_H_begin_17 rfl (lv_at hl 0 rfl) ?_
    refine lv_iload_n hx hb d_H_begin_18 rfl (lv_at hl 1 rfl) ?_
    obtain ⟨hO9, hf⟩ := ck_some hf
    obtain ⟨u2, r2, hc2, hf⟩ := bx_some hf
    obtain ⟨hc2, hz2⟩ := gz_some hc2
    obtain ⟨hf, hw2⟩ := gw_some hf
    have hw2 := gt9 (e := tc x.2) (f := tsl x.2) hw2
    refine xV0 (i := v0) (As := [.int v1]) (rest := []) C0 hP hD hS ck_H hO9 (c_H_isFunction N hc2) k_H_isFunction (wd_of 1280 (by decide +kernel) rfl) hi_H_isFunction hs_H_isFunction hini_H rfl rfl hd_H_isFunction rfl rm_H_begin_H_isFunction hl.1 (Nat.le_of_ble_eq_true rfl) d_H_begin_19 rfl (hB.fit hm hz2 hw2) (fun H locs hP hD hS => ?_)
    have hB := hB.same2 hz2
    refine lv_if_ne (tgt := 35) hx hb d_H_begin_22 (by decide) (fun hc => ?_) (fun hc => ?_)
    · rw [br_n _ hc] at hf
      refine lv_aload_n hx hb d_H_begin_35 rfl (lv_at hl 0 rfl) ?_
      obtain ⟨r3, g3, hf⟩ := bo_some hf
      refine xg_R (i := v0) (k := 2) hx hb ht hown ck_H hK hP (by decide) fk_H_35 g3 d_H_begin_36 ?_
      obtain ⟨j4, ej4, hf⟩ := bo_some hf
      rw [ej4]
      obtain ⟨r5, g5, hf⟩ := bo_some hf
      refine xg_R (i := j4) (k := 4) hx hb ht hown ck_Co hK hP (by decide) fk_H_139 g5 d_H_begin_39 ?_
      refine lv_iload_n hx hb d_H_begin_42 rfl (lv_at hl 1 rfl) ?_
      obtain ⟨j6, ej6, hf⟩ := bo_some hf
      rw [ej6]
      obtain ⟨r7, g7, hf⟩ := bo_some hf
      refine xl_I (i := j6) hx hb hK hP g7 d_H_begin_43 ?_
      refine lv_if_eq (tgt := 57) hx hb d_H_begin_44 (by decide) (fun hc => ?_) (fun hc => ?_)
      · rw [br_p _ hc] at hf
        refine lv_aload_n hx hb d_H_begin_57 rfl (lv_at hl 0 rfl) ?_
        obtain ⟨r8, g8, hf⟩ := bo_some hf
        refine xg_R (i := v0) (k := 6) hx hb ht hown ck_H hK hP (by decide) fk_H_69 g8 d_H_begin_58 ?_
        obtain ⟨j10, ej10, hf⟩ := bo_some hf
        rw [ej10]
        obtain ⟨hO9, hf⟩ := ck_some hf
        obtain ⟨u9, r9, hc9, hf⟩ := bx_some hf
        obtain ⟨hc9, hz9⟩ := gz_some hc9
        obtain ⟨hf, hw9⟩ := gw_some hf
        have hw9 := gt9 (e := tc x.2) (f := tsl x.2) hw9
        refine xV0 (i := j10) (As := []) (rest := []) C0 hP hD hS ck_Wl hO9 (c_Wl_clearAll N hc9) k_Wl_clearAll (wd_of 1268 (by decide +kernel) rfl) hi_Wl_clearAll hs_Wl_clearAll hini_Wl rfl rfl hd_Wl_clearAll rfl rm_H_begin_Wl_clearAll hl.1 (Nat.le_of_ble_eq_true rfl) d_H_begin_61 rfl (hB.fit hm hz9 hw9) (fun H locs hP hD hS => ?_)
        have hB := hB.same2 hz9
        refine lv_aload_n hx hb d_H_begin_64 rfl (lv_at hl 0 rfl) ?_
        obtain ⟨r11, g11, hf⟩ := bo_some hf
        refine xg_R (i := v0) (k := 6) hx hb ht hown ck_H hK hP (by decide) fk_H_69 g11 d_H_begin_65 ?_
        refine lv_iconst (v := 1) hx hb d_H_begin_68 (by decide) ?_
        obtain ⟨j12, ej12, hf⟩ := bo_some hf
        rw [ej12]
        obtain ⟨w13, g13, hf⟩ := bo_some hf
        refine xp (i := j12) (k := 3) (v := (.inl 1)) hx hb ht hown ck_Wl hK hP hD hS (by decide) fk_H_169 rfl g13 rfl rfl d_H_begin_69 (fun H locs hP hD hS => ?_)
        have hB := hB.same (pF_c g13)
        refine lv_aload_n hx hb d_H_begin_72 rfl (lv_at hl 0 rfl) ?_
        obtain ⟨r14, g14, hf⟩ := bo_some hf
        refine xg_R (i := v0) (k := 6) hx hb ht hown ck_H hK hP (by decide) fk_H_69 g14 d_H_begin_73 ?_
        obtain ⟨j16, ej16, hf⟩ := bo_some hf
        rw [ej16]
        obtain ⟨hO9, hf⟩ := ck_some hf
        obtain ⟨hk15, hf⟩ := ck_some hf
        obtain ⟨u15, r15, hc15, hf⟩ := bx_some hf
        obtain ⟨hc15, hq15⟩ := gw_some hc15
        obtain ⟨hf, hw15⟩ := gw_some hf
        have hw15 := gt9 (e := tc x.2) (f := tsl x.2) hw15
        refine yV (i := j16) (As := []) (rest := []) C0 hP hD hS ck_Wl hO9 (c_Wl_born N hE hc15 (gm hq15)) k_Wl_born (wd_of 1455 (by decide +kernel) rfl) hi_Wl_born hs_Wl_born hini_Wl rfl rfl hd_Wl_born rfl rm_H_begin_Wl_born hl.1 (Nat.le_of_ble_eq_true rfl) d_H_begin_76 rfl (gm hq15) hB hm hw15 (fun ad15 H locs ce sl hg15 hB hP hD hS => ?_)
        have q15_0 : ad15 v0 = ad v0 := ko_O (k := 0) hk15 rfl hg15
        have hl : lv_has ls 3 [(0, .ref (ad15 v0)), (1, .int v1)] := by simp only [q15_0]; exact hl
        refine x_astore_n (lv' := [(2, va_rf (Option.map ad15 r15)), (0, .ref (ad15 v0)), (1, .int v1)]) hx hb d_H_begin_79 rfl hl (by decide) (by first | rfl | simp [List.filter, cat_rf]) (fun ls hl => ?_)
        refine x_aload_n hx hb d_H_begin_80 rfl (lv_at hl 0 rfl) ?_
        refine x_ifnull (r := r15) (tgt := 102) hx hb d_H_begin_81 (by decide) (fun hc => ?_) (fun hc => ?_)
        · rw [br_p _ hc] at hf
          exact wb_H_begin_102 C0 hE hno hL N G hG _ _ hf hm _ _ _ hB H locs hP hD hS ls (lv_sub hl [] rfl)
        · rw [br_n _ hc] at hf
          refine x_aload_n hx hb d_H_begin_84 rfl (lv_at hl 0 rfl) ?_
          obtain ⟨j17, ej17, hf⟩ := bo_some hf
          rw [ej17]
          obtain ⟨r18, g18, hf⟩ := bo_some hf
          refine xg_R (i := j17) (k := 1) hx hb ht hown ck_Pr hK hP (by decide) fk_H_176 g18 d_H_begin_85 ?_
          refine lv_iload_n hx hb d_H_begin_88 rfl (lv_at hl 2 rfl) ?_
          refine lv_aload_n hx hb d_H_begin_89 rfl (lv_at hl 1 rfl) ?_
          obtain ⟨r19, g19, hf⟩ := bo_some hf
          refine xg_R (i := v0) (k := 2) hx hb ht hown ck_H hK hP (by decide) fk_H_35 g19 d_H_begin_90 ?_
          obtain ⟨j20, ej20, hf⟩ := bo_some hf
          rw [ej20]
          obtain ⟨r21, g21, hf⟩ := bo_some hf
          refine xg_R (i := j20) (k := 8) hx hb ht hown ck_Co hK hP (by decide) fk_H_182 g21 d_H_begin_93 ?_
          refine lv_iload_n hx hb d_H_begin_96 rfl (lv_at hl 2 rfl) ?_
          obtain ⟨j22, ej22, hf⟩ := bo_some hf
          rw [ej22]
          obtain ⟨r23, g23, hf⟩ := bo_some hf
          refine xl_I (i := j22) hx hb hK hP g23 d_H_begin_97 ?_
          refine lv_iconst (v := 0) hx hb d_H_begin_98 (by decide) ?_
          obtain ⟨j25, ej25, hf⟩ := bo_some hf
          rw [ej25]
          obtain ⟨hO9, hf⟩ := ck_some hf
          obtain ⟨u24, r24, hc24, hf⟩ := bx_some hf
          obtain ⟨hc24, hz24⟩ := gz_some hc24
          obtain ⟨hf, hw24⟩ := gw_some hf
          have hw24 := gt9 (e := tc x.2) (f := tsl x.2) hw24
          refine xV0 (i := j25) (As := [.int v1, .int r23, .int 0]) (rest := []) C0 hP hD hS ck_Fr hO9 (c_Fr_open N hc24) k_Fr_open (wd_of 1617 (by decide +kernel) rfl) hi_Fr_open hs_Fr_open hini_Fr rfl rfl hd_Fr_open rfl rm_H_begin_Fr_open hl.1 (Nat.le_of_ble_eq_true rfl) d_H_begin_99 rfl (hB.fit hm hz24 hw24) (fun H locs hP hD hS => ?_)
          have hB := hB.same2 hz24
          exact wb_H_begin_102 C0 hE hno hL N G hG _ _ hf hm _ _ _ hB H locs hP hD hS ls (lv_sub hl [] rfl)
      · rw [br_n _ hc] at hf
        cases hf
        obtain ⟨⟨a0, hT0⟩, hb0, hV, hRR, hZZ⟩ := id hE
        exact yx_throw (k := 2) (names := exUp) C0 hP hD hS hB hm hL hT0 hb0 rx7_0 rx7_1 rx7_2 rx7_5 oa_H_168_2 (lw_of 1439 (by decide +kernel)) (lw_of 1440 (by decide +kernel)) (lw_of 289 (by decide +kernel)) (by decide) (by decide) (hRR 9 _ rfl) (out_none hno _) (Nat.le_of_ble_eq_true rfl) (Nat.le_of_ble_eq_true rfl) hl.1 d_H_begin_47 d_H_begin_50 d_H_begin_51 d_H_begin_53 d_H_begin_56
    · rw [br_p _ hc] at hf
      cases hf
      obtain ⟨⟨a0, hT0⟩, hb0, hV, hRR, hZZ⟩ := id hE
      exact yx_throw (k := 1) (names := exUp) C0 hP hD hS hB hm hL hT0 hb0 rx13_0 rx13_1 rx13_2 rx13_5 oa_H_163_1 (lw_of 1423 (by decide +kernel)) (lw_of 1424 (by decide +kernel)) (lw_of 288 (by decide +kernel)) (by decide) (by decide) (hRR 8 _ rfl) (out_none hno _) (Nat.le_of_ble_eq_true rfl) (Nat.le_of_ble_eq_true rfl) hl.1 d_H_begin_25 d_H_begin_28 d_H_begin_29 d_H_begin_31 d_H_begin_34
  · rw [br_p _ hc] at hf
    cases hf
    obtain ⟨⟨a0, hT0⟩, hb0, hV, hRR, hZZ⟩ := id hE
    exact yx_throw (k := 0) (names := exUp) C0 hP hD hS hB hm hL hT0 hb0 rx7_0 rx7_1 rx7_2 rx7_5 oa_H_156_0 (lw_of 1407 (by decide +kernel)) (lw_of 1408 (by decide +kernel)) (lw_of 287 (by decide +kernel)) (by decide) (by decide) (hRR 7 _ rfl) (out_none hno _) (Nat.le_of_ble_eq_true rfl) (Nat.le_of_ble_eq_true rfl) hl.1 d_H_begin_7 d_H_begin_10 d_H_begin_11 d_H_begin_13 d_H_begin_16
def fm_H_begin (N : Nat) (u : CS) (v0 : Nat) (v1 : Int32) : Option (CS × (Unit ⊕ Nat)) := fb_H_begin_0 N () u v0 v1
set_option maxRecDepth 100000 in
set_option maxHeartbeats 4000000 in
theorem c_H_begin (N : Nat) {l : Launch} {s0 : State} {b0 : Nat} {D : va_G} {cB cI cJ cZ cS cP : ClassId} {sk sv : Nat → Nat} {ad : Nat → Nat} {u : CS} {sz mc ms : Nat} {v0 : Nat} {v1 : Int32} {x : CS × (Unit ⊕ Nat)} (hE : ENV s0 b0 sk sv) (hL : l.stackTraces = false) (hf : fm_H_begin N u v0 v1 = some x) (hm : u.1.1 + mc = x.1.1.1 + tc x.2 ∧ u.1.2 + ms = x.1.1.2 + tsl x.2) : MetX l y_H_begin (wd_ws y_H_begin b_H_begin 3 none) (rm_H_begin mc ms) (xPc s0 b0 D cB cI cJ cZ cS cP ad u sz [.ref (ad v0), .int v1]) (xQy D cB cI cJ cZ cS cP (xA cB cI cJ cZ cS cP ad u sz) ad u.1.1 (fun _ => none) x) mc ms (xA cB cI cJ cZ cS cP ad u sz) :=
  xMetX (by decide) rfl (Nat.le_of_ble_eq_true rfl) (fun p e s m below meth c ls hsz hno C0 hP hD hS hl =>
    wb_H_begin_0 C0 hE hno hL N () trivial u _ _ x hf hm ad 0 0 ⟨rfl, rfl, fun _ _ => rfl⟩ s.heap [] hP hD hS ls (lv_sub hl [0, 1] rfl))
abbrev b_Wl_find : ByteArray := prog_12_method_3_code
def y_Wl_find : MethodName := ⟨R_Wl, "find", "(I)LMailHouse$Process;"⟩
def w_Wl_find : List Cond := wd_ws y_Wl_find b_Wl_find 2 (some (.object "MailHouse$Process"))
set_option maxRecDepth 100000 in
theorem k_Wl_find : Cond.code y_Wl_find b_Wl_find 2 (some (.object "MailHouse$Process")) ∈ wd_tbl := wd_of 1299 rfl rfl
theorem d_Wl_find_0 : decode b_Wl_find 0 = .ok (.iload_n 1, 1) := by decide +kernel
theorem d_Wl_find_1 : decode b_Wl_find 1 = .ok (.ifCond .lt 11, 3) := by decide +kernel
theorem d_Wl_find_4 : decode b_Wl_find 4 = .ok (.iload_n 1, 1) := by decide +kernel
theorem d_Wl_find_5 : decode b_Wl_find 5 = .ok (.aload_n 0, 1) := by decide +kernel
theorem d_Wl_find_6 : decode b_Wl_find 6 = .ok (.getfield 41, 3) := by decide +kernel
theorem d_Wl_find_9 : decode b_Wl_find 9 = .ok (.if_icmp .lt 7, 3) := by decide +kernel
theorem d_Wl_find_12 : decode b_Wl_find 12 = .ok (.aconst_null, 1) := by decide +kernel
theorem d_Wl_find_13 : decode b_Wl_find 13 = .ok (.goto 9, 3) := by decide +kernel
theorem d_Wl_find_16 : decode b_Wl_find 16 = .ok (.aload_n 0, 1) := by decide +kernel
theorem d_Wl_find_17 : decode b_Wl_find 17 = .ok (.getfield 11, 3) := by decide +kernel
theorem d_Wl_find_20 : decode b_Wl_find 20 = .ok (.iload_n 1, 1) := by decide +kernel
theorem d_Wl_find_21 : decode b_Wl_find 21 = .ok (.aaload, 1) := by decide +kernel
theorem d_Wl_find_22 : decode b_Wl_find 22 = .ok (.areturn, 1) := by decide +kernel
set_option maxRecDepth 100000 in
theorem hl_Wl_find : Cond.methodLink R_Wl 172 y_Wl_find ∈ wd_tbl := wd_of 2060 (by decide +kernel) rfl
set_option maxRecDepth 100000 in
theorem hi_Wl_find : Cond.instanceMethod y_Wl_find ∈ wd_tbl := wd_of 1297 (by decide +kernel) rfl
set_option maxRecDepth 100000 in
theorem hs_Wl_find : Cond.selects R_Wl y_Wl_find y_Wl_find ∈ wd_tbl := wd_of 1298 (by decide +kernel) rfl
theorem hd_Wl_find : y_Wl_find.cls = R_Wl ∧ y_Wl_find.cls ≠ "java/lang/invoke/MethodHandle" ∧ y_Wl_find.cls ≠ "java/lang/invoke/VarHandle" ∧ (parseMethodDescriptor y_Wl_find.desc).map (fun d => d.parameters.length) = some 1 := by decide +kernel
def rm_Wl_find : Room := { frames := 0, cells := 0, slots := 0, locals := 0 }
def fb_Wl_find_22 (N : Nat) (G : Unit) (u : CS) (t0 : Option Nat) : Option (CS × Option Nat) := some (u, t0)
set_option maxRecDepth 100000 in
set_option maxHeartbeats 4000000 in
theorem wb_Wl_find_22 {p : Program} {l : Launch} {e : Env} {s : State} {m : MethodId} {args : Array Value} {below : List Frame} {meth : Method} {c : Code} {s0 : State} {b0 : Nat} {D : va_G} {cB cI cJ cZ cS cP : ClassId} {A : Nat → Prop} {sk sv : Nat → Nat} {ad : Nat → Nat} (C0 : XCx p s s0 b0 m args meth c R_Wl b_Wl_find 2 (some (.object "MailHouse$Process")) D cB cI cJ cZ cS cP A) (hE : ENV s0 b0 sk sv) (N : Nat) (G : Unit) (hG : True) : ∀ (u : CS) (t0 : Option Nat) (x : CS × Option Nat), fb_Wl_find_22 N G u t0 = some x → ∀ (H : Heap) (locs : List Loc), va_P D cls (wC cB cI cJ cZ cS cP ad u) H → va_D A (wC cB cI cJ cZ cS cP ad u) → va_S A s.heap H locs → ∀ (ls : Array Slot), lv_has ls 2 [] → W p l e rm_Wl_find s m args below meth c H locs 0 0 (MQ below (xQ0 D cB cI cJ cZ cS cP A ad x.1 (some (.inr (.inr x.2)))) args s 0 0 A) (F0 m 22 ls [va_rf (Option.map ad t0)]) := by
  intro u t0 x hf H locs hP hD hS ls hl
  obtain ⟨hx, hb, hr, hml, ht, hown, hK, hA, hlocks, hA0, hO, hbs⟩ := id C0
  unfold fb_Wl_find_22 at hf
  exact xr0_r (v := t0) C0 hP hD hS hf d_Wl_find_22
def fb_Wl_find_12 (N : Nat) (G : Unit) (u : CS) : Option (CS × Option Nat) := fb_Wl_find_22 N G u (none)
set_option maxRecDepth 100000 in
set_option maxHeartbeats 4000000 in
theorem wb_Wl_find_12 {p : Program} {l : Launch} {e : Env} {s : State} {m : MethodId} {args : Array Value} {below : List Frame} {meth : Method} {c : Code} {s0 : State} {b0 : Nat} {D : va_G} {cB cI cJ cZ cS cP : ClassId} {A : Nat → Prop} {sk sv : Nat → Nat} {ad : Nat → Nat} (C0 : XCx p s s0 b0 m args meth c R_Wl b_Wl_find 2 (some (.object "MailHouse$Process")) D cB cI cJ cZ cS cP A) (hE : ENV s0 b0 sk sv) (N : Nat) (G : Unit) (hG : True) : ∀ (u : CS) (x : CS × Option Nat), fb_Wl_find_12 N G u = some x → ∀ (H : Heap) (locs : List Loc), va_P D cls (wC cB cI cJ cZ cS cP ad u) H → va_D A (wC cB cI cJ cZ cS cP ad u) → va_S A s.heap H locs → ∀ (ls : Array Slot), lv_has ls 2 [] → W p l e rm_Wl_find s m args below meth c H locs 0 0 (MQ below (xQ0 D cB cI cJ cZ cS cP A ad x.1 (some (.inr (.inr x.2)))) args s 0 0 A) (F0 m 12 ls []) := by
  intro u x hf H locs hP hD hS ls hl
  obtain ⟨hx, hb, hr, hml, ht, hown, hK, hA, hlocks, hA0, hO, hbs⟩ := id C0
  unfold fb_Wl_find_12 at hf
  refine lv_null hx hb d_Wl_find_12 ?_
  refine lv_goto (tgt := 22) hx hb d_Wl_find_13 (by decide) ?_
  exact wb_Wl_find_22 C0 hE N G hG _ _ _ hf H locs hP hD hS ls (lv_sub hl [] rfl)
def fb_Wl_find_0 (N : Nat) (G : Unit) (u : CS) (v0 : Nat) (v1 : Int32) : Option (CS × Option Nat) := br (decide (v1 < 0)) (fb_Wl_find_12 N G u) (bo (gI u v0 12 2) (fun r1 => br (decide (v1 < r1)) (bo (gR u v0 12 1) (fun r2 => bo r2 (fun j3 => bo (aP u j3 v1) (fun r4 => fb_Wl_find_22 N G u (r4))))) (fb_Wl_find_12 N G u)))
set_option maxRecDepth 100000 in
set_option maxHeartbeats 4000000 in
theorem wb_Wl_find_0 {p : Program} {l : Launch} {e : Env} {s : State} {m : MethodId} {args : Array Value} {below : List Frame} {meth : Method} {c : Code} {s0 : State} {b0 : Nat} {D : va_G} {cB cI cJ cZ cS cP : ClassId} {A : Nat → Prop} {sk sv : Nat → Nat} {ad : Nat → Nat} (C0 : XCx p s s0 b0 m args meth c R_Wl b_Wl_find 2 (some (.object "MailHouse$Process")) D cB cI cJ cZ cS cP A) (hE : ENV s0 b0 sk sv) (N : Nat) (G : Unit) (hG : True) : ∀ (u : CS) (v0 : Nat) (v1 : Int32) (x : CS × Option Nat), fb_Wl_find_0 N G u v0 v1 = some x → ∀ (H : Heap) (locs : List Loc), va_P D cls (wC cB cI cJ cZ cS cP ad u) H → va_D A (wC cB cI cJ cZ cS cP ad u) → va_S A s.heap H locs → ∀ (ls : Array Slot), lv_has ls 2 [(0, .ref (ad v0)), (1, .int v1)] → W p l e rm_Wl_find s m args below meth c H locs 0 0 (MQ below (xQ0 D cB cI cJ cZ cS cP A ad x.1 (some (.inr (.inr x.2)))) args s 0 0 A) (F0 m 0 ls []) := by
  intro u v0 v1 x hf H locs hP hD hS ls hl
  obtain ⟨hx, hb, hr, hml, ht, hown, hK, hA, hlocks, hA0, hO, hbs⟩ := id C0
  unfold fb_Wl_find_0 at hf
  refine lv_iload_n hx hb d_Wl_find_0 rfl (lv_at hl 1 rfl) ?_
  refine lv_if_lt (tgt := 12) hx hb d_Wl_find_1 (by decide) (fun hc => ?_) (fun hc => ?_)
  · rw [br_p _ hc] at hf
    exact wb_Wl_find_12 C0 hE N G hG _ _ hf H locs hP hD hS ls (lv_sub hl [] rfl)
  · rw [br_n _ hc] at hf
    refine lv_iload_n hx hb d_Wl_find_4 rfl (lv_at hl 1 rfl) ?_
    refine lv_aload_n hx hb d_Wl_find_5 rfl (lv_at hl 0 rfl) ?_
    obtain ⟨r1, g1, hf⟩ := bo_some hf
    refine xg_I (i := v0) (k := 2) hx hb ht hown ck_Wl hK hP (by decide) fk_Wl_41 g1 d_Wl_find_6 ?_
    refine lv_icmp_lt (tgt := 16) hx hb d_Wl_find_9 (by decide) (fun hc => ?_) (fun hc => ?_)
    · rw [br_p _ hc] at hf
      refine lv_aload_n hx hb d_Wl_find_16 rfl (lv_at hl 0 rfl) ?_
      obtain ⟨r2, g2, hf⟩ := bo_some hf
      refine xg_R (i := v0) (k := 1) hx hb ht hown ck_Wl hK hP (by decide) fk_Wl_11 g2 d_Wl_find_17 ?_
      refine lv_iload_n hx hb d_Wl_find_20 rfl (lv_at hl 1 rfl) ?_
      obtain ⟨j3, ej3, hf⟩ := bo_some hf
      rw [ej3]
      obtain ⟨r4, g4, hf⟩ := bo_some hf
      refine xl_P (i := j3) hx hb hK hP g4 d_Wl_find_21 ?_
      exact wb_Wl_find_22 C0 hE N G hG _ _ _ hf H locs hP hD hS ls (lv_sub hl [] rfl)
    · rw [br_n _ hc] at hf
      exact wb_Wl_find_12 C0 hE N G hG _ _ hf H locs hP hD hS ls (lv_sub hl [] rfl)
def fm_Wl_find (N : Nat) (u : CS) (v0 : Nat) (v1 : Int32) : Option (CS × Option Nat) := fb_Wl_find_0 N () u v0 v1
set_option maxRecDepth 100000 in
set_option maxHeartbeats 4000000 in
theorem c_Wl_find (N : Nat) {l : Launch} {s0 : State} {b0 : Nat} {D : va_G} {cB cI cJ cZ cS cP : ClassId} {sk sv : Nat → Nat} {ad : Nat → Nat} {u : CS} {sz : Nat} {v0 : Nat} {v1 : Int32} {x : CS × Option Nat} (hE : ENV s0 b0 sk sv) (hf : fm_Wl_find N u v0 v1 = some x) : Met l y_Wl_find (wd_ws y_Wl_find b_Wl_find 2 (some (.object "MailHouse$Process"))) rm_Wl_find (xPc s0 b0 D cB cI cJ cZ cS cP ad u sz [.ref (ad v0), .int v1]) (xQ0 D cB cI cJ cZ cS cP (xA cB cI cJ cZ cS cP ad u sz) ad x.1 (some (.inr (.inr x.2)))) 0 0 (xA cB cI cJ cZ cS cP ad u sz) :=
  xMet (by decide) rfl (Nat.le_of_ble_eq_true rfl) (fun p e s m below meth c ls hsz hnm C0 hP hD hS hl =>
    wb_Wl_find_0 C0 hE N () trivial u _ _ x hf s.heap [] hP hD hS ls (lv_sub hl [0, 1] rfl))
abbrev b_Pr_clearHeap : ByteArray := prog_7_method_4_code
def y_Pr_clearHeap : MethodName := ⟨R_Pr, "clearHeap", "()V"⟩
def w_Pr_clearHeap : List Cond := wd_ws y_Pr_clearHeap b_Pr_clearHeap 9 none
set_option maxRecDepth 100000 in
theorem k_Pr_clearHeap : Cond.code y_Pr_clearHeap b_Pr_clearHeap 9 none ∈ wd_tbl := wd_of 1699 rfl rfl
theorem d_Pr_clearHeap_0 : decode b_Pr_clearHeap 0 = .ok (.aload_n 0, 1) := by decide +kernel
theorem d_Pr_clearHeap_1 : decode b_Pr_clearHeap 1 = .ok (.dup, 1) := by decide +kernel
theorem d_Pr_clearHeap_2 : decode b_Pr_clearHeap 2 = .ok (.getfield 42, 3) := by decide +kernel
theorem d_Pr_clearHeap_5 : decode b_Pr_clearHeap 5 = .ok (.iconst 1, 1) := by decide +kernel
theorem d_Pr_clearHeap_6 : decode b_Pr_clearHeap 6 = .ok (.iadd, 1) := by decide +kernel
theorem d_Pr_clearHeap_7 : decode b_Pr_clearHeap 7 = .ok (.putfield 42, 3) := by decide +kernel
theorem d_Pr_clearHeap_10 : decode b_Pr_clearHeap 10 = .ok (.iconst 0, 1) := by decide +kernel
theorem d_Pr_clearHeap_11 : decode b_Pr_clearHeap 11 = .ok (.istore_n 1, 1) := by decide +kernel
theorem d_Pr_clearHeap_12 : decode b_Pr_clearHeap 12 = .ok (.iconst 0, 1) := by decide +kernel
theorem d_Pr_clearHeap_13 : decode b_Pr_clearHeap 13 = .ok (.istore_n 2, 1) := by decide +kernel
theorem d_Pr_clearHeap_14 : decode b_Pr_clearHeap 14 = .ok (.iload_n 2, 1) := by decide +kernel
theorem d_Pr_clearHeap_15 : decode b_Pr_clearHeap 15 = .ok (.iconst 4, 1) := by decide +kernel
theorem d_Pr_clearHeap_16 : decode b_Pr_clearHeap 16 = .ok (.if_icmp .ge 246, 3) := by decide +kernel
theorem d_Pr_clearHeap_19 : decode b_Pr_clearHeap 19 = .ok (.iload_n 2, 1) := by decide +kernel
theorem d_Pr_clearHeap_20 : decode b_Pr_clearHeap 20 = .ok (.ifCond .ne 13, 3) := by decide +kernel
theorem d_Pr_clearHeap_23 : decode b_Pr_clearHeap 23 = .ok (.aload_n 0, 1) := by decide +kernel
theorem d_Pr_clearHeap_24 : decode b_Pr_clearHeap 24 = .ok (.getfield 12, 3) := by decide +kernel
theorem d_Pr_clearHeap_27 : decode b_Pr_clearHeap 27 = .ok (.getfield 83, 3) := by decide +kernel
theorem d_Pr_clearHeap_30 : decode b_Pr_clearHeap 30 = .ok (.goto 34, 3) := by decide +kernel
theorem d_Pr_clearHeap_33 : decode b_Pr_clearHeap 33 = .ok (.iload_n 2, 1) := by decide +kernel
theorem d_Pr_clearHeap_34 : decode b_Pr_clearHeap 34 = .ok (.iconst 1, 1) := by decide +kernel
theorem d_Pr_clearHeap_35 : decode b_Pr_clearHeap 35 = .ok (.if_icmp .ne 13, 3) := by decide +kernel
theorem d_Pr_clearHeap_38 : decode b_Pr_clearHeap 38 = .ok (.aload_n 0, 1) := by decide +kernel
theorem d_Pr_clearHeap_39 : decode b_Pr_clearHeap 39 = .ok (.getfield 12, 3) := by decide +kernel
theorem d_Pr_clearHeap_42 : decode b_Pr_clearHeap 42 = .ok (.getfield 86, 3) := by decide +kernel
theorem d_Pr_clearHeap_45 : decode b_Pr_clearHeap 45 = .ok (.goto 19, 3) := by decide +kernel
theorem d_Pr_clearHeap_48 : decode b_Pr_clearHeap 48 = .ok (.iload_n 2, 1) := by decide +kernel
theorem d_Pr_clearHeap_49 : decode b_Pr_clearHeap 49 = .ok (.iconst 2, 1) := by decide +kernel
theorem d_Pr_clearHeap_50 : decode b_Pr_clearHeap 50 = .ok (.if_icmp .ne 10, 3) := by decide +kernel
theorem d_Pr_clearHeap_53 : decode b_Pr_clearHeap 53 = .ok (.aload_n 0, 1) := by decide +kernel
theorem d_Pr_clearHeap_54 : decode b_Pr_clearHeap 54 = .ok (.getfield 25, 3) := by decide +kernel
theorem d_Pr_clearHeap_57 : decode b_Pr_clearHeap 57 = .ok (.goto 7, 3) := by decide +kernel
theorem d_Pr_clearHeap_60 : decode b_Pr_clearHeap 60 = .ok (.aload_n 0, 1) := by decide +kernel
theorem d_Pr_clearHeap_61 : decode b_Pr_clearHeap 61 = .ok (.getfield 22, 3) := by decide +kernel
theorem d_Pr_clearHeap_64 : decode b_Pr_clearHeap 64 = .ok (.astore_n 3, 1) := by decide +kernel
theorem d_Pr_clearHeap_65 : decode b_Pr_clearHeap 65 = .ok (.iload_n 2, 1) := by decide +kernel
theorem d_Pr_clearHeap_66 : decode b_Pr_clearHeap 66 = .ok (.ifCond .ne 13, 3) := by decide +kernel
theorem d_Pr_clearHeap_69 : decode b_Pr_clearHeap 69 = .ok (.aload_n 0, 1) := by decide +kernel
theorem d_Pr_clearHeap_70 : decode b_Pr_clearHeap 70 = .ok (.getfield 12, 3) := by decide +kernel
theorem d_Pr_clearHeap_73 : decode b_Pr_clearHeap 73 = .ok (.getfield 89, 3) := by decide +kernel
theorem d_Pr_clearHeap_76 : decode b_Pr_clearHeap 76 = .ok (.goto 31, 3) := by decide +kernel
theorem d_Pr_clearHeap_79 : decode b_Pr_clearHeap 79 = .ok (.iload_n 2, 1) := by decide +kernel
theorem d_Pr_clearHeap_80 : decode b_Pr_clearHeap 80 = .ok (.iconst 1, 1) := by decide +kernel
theorem d_Pr_clearHeap_81 : decode b_Pr_clearHeap 81 = .ok (.if_icmp .ne 13, 3) := by decide +kernel
theorem d_Pr_clearHeap_84 : decode b_Pr_clearHeap 84 = .ok (.aload_n 0, 1) := by decide +kernel
theorem d_Pr_clearHeap_85 : decode b_Pr_clearHeap 85 = .ok (.getfield 12, 3) := by decide +kernel
theorem d_Pr_clearHeap_88 : decode b_Pr_clearHeap 88 = .ok (.getfield 92, 3) := by decide +kernel
theorem d_Pr_clearHeap_91 : decode b_Pr_clearHeap 91 = .ok (.goto 16, 3) := by decide +kernel
theorem d_Pr_clearHeap_94 : decode b_Pr_clearHeap 94 = .ok (.iload_n 2, 1) := by decide +kernel
theorem d_Pr_clearHeap_95 : decode b_Pr_clearHeap 95 = .ok (.iconst 2, 1) := by decide +kernel
theorem d_Pr_clearHeap_96 : decode b_Pr_clearHeap 96 = .ok (.if_icmp .ne 10, 3) := by decide +kernel
theorem d_Pr_clearHeap_99 : decode b_Pr_clearHeap 99 = .ok (.aload_n 0, 1) := by decide +kernel
theorem d_Pr_clearHeap_100 : decode b_Pr_clearHeap 100 = .ok (.getfield 45, 3) := by decide +kernel
theorem d_Pr_clearHeap_103 : decode b_Pr_clearHeap 103 = .ok (.goto 4, 3) := by decide +kernel
theorem d_Pr_clearHeap_106 : decode b_Pr_clearHeap 106 = .ok (.iconst 0, 1) := by decide +kernel
theorem d_Pr_clearHeap_107 : decode b_Pr_clearHeap 107 = .ok (.istore 4, 2) := by decide +kernel
theorem d_Pr_clearHeap_109 : decode b_Pr_clearHeap 109 = .ok (.iconst 0, 1) := by decide +kernel
theorem d_Pr_clearHeap_110 : decode b_Pr_clearHeap 110 = .ok (.istore 5, 2) := by decide +kernel
theorem d_Pr_clearHeap_112 : decode b_Pr_clearHeap 112 = .ok (.iload 5, 2) := by decide +kernel
theorem d_Pr_clearHeap_114 : decode b_Pr_clearHeap 114 = .ok (.iload_n 2, 1) := by decide +kernel
theorem d_Pr_clearHeap_115 : decode b_Pr_clearHeap 115 = .ok (.iconst 3, 1) := by decide +kernel
theorem d_Pr_clearHeap_116 : decode b_Pr_clearHeap 116 = .ok (.if_icmp .ne 7, 3) := by decide +kernel
theorem d_Pr_clearHeap_119 : decode b_Pr_clearHeap 119 = .ok (.iload_n 1, 1) := by decide +kernel
theorem d_Pr_clearHeap_120 : decode b_Pr_clearHeap 120 = .ok (.goto 5, 3) := by decide +kernel
theorem d_Pr_clearHeap_123 : decode b_Pr_clearHeap 123 = .ok (.iload 4, 2) := by decide +kernel
theorem d_Pr_clearHeap_125 : decode b_Pr_clearHeap 125 = .ok (.if_icmp .ge 131, 3) := by decide +kernel
theorem d_Pr_clearHeap_128 : decode b_Pr_clearHeap 128 = .ok (.aload_n 3, 1) := by decide +kernel
theorem d_Pr_clearHeap_129 : decode b_Pr_clearHeap 129 = .ok (.iload 5, 2) := by decide +kernel
theorem d_Pr_clearHeap_131 : decode b_Pr_clearHeap 131 = .ok (.laload, 1) := by decide +kernel
theorem d_Pr_clearHeap_132 : decode b_Pr_clearHeap 132 = .ok (.bipush 32, 2) := by decide +kernel
theorem d_Pr_clearHeap_134 : decode b_Pr_clearHeap 134 = .ok (.lshr, 1) := by decide +kernel
theorem d_Pr_clearHeap_135 : decode b_Pr_clearHeap 135 = .ok (.l2i, 1) := by decide +kernel
theorem d_Pr_clearHeap_136 : decode b_Pr_clearHeap 136 = .ok (.istore 6, 2) := by decide +kernel
theorem d_Pr_clearHeap_138 : decode b_Pr_clearHeap 138 = .ok (.iload 6, 2) := by decide +kernel
theorem d_Pr_clearHeap_140 : decode b_Pr_clearHeap 140 = .ok (.bipush 7, 2) := by decide +kernel
theorem d_Pr_clearHeap_142 : decode b_Pr_clearHeap 142 = .ok (.if_icmp .eq 18, 3) := by decide +kernel
theorem d_Pr_clearHeap_145 : decode b_Pr_clearHeap 145 = .ok (.iload 6, 2) := by decide +kernel
theorem d_Pr_clearHeap_147 : decode b_Pr_clearHeap 147 = .ok (.iconst 5, 1) := by decide +kernel
theorem d_Pr_clearHeap_148 : decode b_Pr_clearHeap 148 = .ok (.if_icmp .eq 12, 3) := by decide +kernel
theorem d_Pr_clearHeap_151 : decode b_Pr_clearHeap 151 = .ok (.iload 6, 2) := by decide +kernel
theorem d_Pr_clearHeap_153 : decode b_Pr_clearHeap 153 = .ok (.iconst 3, 1) := by decide +kernel
theorem d_Pr_clearHeap_154 : decode b_Pr_clearHeap 154 = .ok (.if_icmp .eq 6, 3) := by decide +kernel
theorem d_Pr_clearHeap_157 : decode b_Pr_clearHeap 157 = .ok (.goto 93, 3) := by decide +kernel
theorem d_Pr_clearHeap_160 : decode b_Pr_clearHeap 160 = .ok (.aload_n 3, 1) := by decide +kernel
theorem d_Pr_clearHeap_161 : decode b_Pr_clearHeap 161 = .ok (.iload 5, 2) := by decide +kernel
theorem d_Pr_clearHeap_163 : decode b_Pr_clearHeap 163 = .ok (.laload, 1) := by decide +kernel
theorem d_Pr_clearHeap_164 : decode b_Pr_clearHeap 164 = .ok (.l2i, 1) := by decide +kernel
theorem d_Pr_clearHeap_165 : decode b_Pr_clearHeap 165 = .ok (.istore 7, 2) := by decide +kernel
theorem d_Pr_clearHeap_167 : decode b_Pr_clearHeap 167 = .ok (.aload_n 0, 1) := by decide +kernel
theorem d_Pr_clearHeap_168 : decode b_Pr_clearHeap 168 = .ok (.getfield 18, 3) := by decide +kernel
theorem d_Pr_clearHeap_171 : decode b_Pr_clearHeap 171 = .ok (.iload 7, 2) := by decide +kernel
theorem d_Pr_clearHeap_173 : decode b_Pr_clearHeap 173 = .ok (.laload, 1) := by decide +kernel
theorem d_Pr_clearHeap_174 : decode b_Pr_clearHeap 174 = .ok (.bipush 32, 2) := by decide +kernel
theorem d_Pr_clearHeap_176 : decode b_Pr_clearHeap 176 = .ok (.lshr, 1) := by decide +kernel
theorem d_Pr_clearHeap_177 : decode b_Pr_clearHeap 177 = .ok (.l2i, 1) := by decide +kernel
theorem d_Pr_clearHeap_178 : decode b_Pr_clearHeap 178 = .ok (.bipush 9, 2) := by decide +kernel
theorem d_Pr_clearHeap_180 : decode b_Pr_clearHeap 180 = .ok (.if_icmp .eq 50, 3) := by decide +kernel
theorem d_Pr_clearHeap_183 : decode b_Pr_clearHeap 183 = .ok (.aload_n 0, 1) := by decide +kernel
theorem d_Pr_clearHeap_184 : decode b_Pr_clearHeap 184 = .ok (.getfield 18, 3) := by decide +kernel
theorem d_Pr_clearHeap_187 : decode b_Pr_clearHeap 187 = .ok (.aload_n 3, 1) := by decide +kernel
theorem d_Pr_clearHeap_188 : decode b_Pr_clearHeap 188 = .ok (.iload 5, 2) := by decide +kernel
theorem d_Pr_clearHeap_190 : decode b_Pr_clearHeap 190 = .ok (.laload, 1) := by decide +kernel
theorem d_Pr_clearHeap_191 : decode b_Pr_clearHeap 191 = .ok (.invokestatic 97, 3) := by decide +kernel
theorem d_Pr_clearHeap_194 : decode b_Pr_clearHeap 194 = .ok (.istore 8, 2) := by decide +kernel
theorem d_Pr_clearHeap_196 : decode b_Pr_clearHeap 196 = .ok (.aload_n 0, 1) := by decide +kernel
theorem d_Pr_clearHeap_197 : decode b_Pr_clearHeap 197 = .ok (.getfield 18, 3) := by decide +kernel
theorem d_Pr_clearHeap_200 : decode b_Pr_clearHeap 200 = .ok (.iload 7, 2) := by decide +kernel
theorem d_Pr_clearHeap_202 : decode b_Pr_clearHeap 202 = .ok (.aload_n 0, 1) := by decide +kernel
theorem d_Pr_clearHeap_203 : decode b_Pr_clearHeap 203 = .ok (.getfield 22, 3) := by decide +kernel
theorem d_Pr_clearHeap_206 : decode b_Pr_clearHeap 206 = .ok (.iload_n 1, 1) := by decide +kernel
theorem d_Pr_clearHeap_207 : decode b_Pr_clearHeap 207 = .ok (.iload 8, 2) := by decide +kernel
theorem d_Pr_clearHeap_209 : decode b_Pr_clearHeap 209 = .ok (.invokestatic 101, 3) := by decide +kernel
theorem d_Pr_clearHeap_212 : decode b_Pr_clearHeap 212 = .ok (.aload_n 0, 1) := by decide +kernel
theorem d_Pr_clearHeap_213 : decode b_Pr_clearHeap 213 = .ok (.getfield 18, 3) := by decide +kernel
theorem d_Pr_clearHeap_216 : decode b_Pr_clearHeap 216 = .ok (.iload 7, 2) := by decide +kernel
theorem d_Pr_clearHeap_218 : decode b_Pr_clearHeap 218 = .ok (.ldc2_w 107, 3) := by decide +kernel
theorem d_Pr_clearHeap_221 : decode b_Pr_clearHeap 221 = .ok (.iload_n 1, 1) := by decide +kernel
theorem d_Pr_clearHeap_222 : decode b_Pr_clearHeap 222 = .ok (.i2l, 1) := by decide +kernel
theorem d_Pr_clearHeap_223 : decode b_Pr_clearHeap 223 = .ok (.lor, 1) := by decide +kernel
theorem d_Pr_clearHeap_224 : decode b_Pr_clearHeap 224 = .ok (.lastore, 1) := by decide +kernel
theorem d_Pr_clearHeap_225 : decode b_Pr_clearHeap 225 = .ok (.iload_n 1, 1) := by decide +kernel
theorem d_Pr_clearHeap_226 : decode b_Pr_clearHeap 226 = .ok (.iload 8, 2) := by decide +kernel
theorem d_Pr_clearHeap_228 : decode b_Pr_clearHeap 228 = .ok (.iadd, 1) := by decide +kernel
theorem d_Pr_clearHeap_229 : decode b_Pr_clearHeap 229 = .ok (.istore_n 1, 1) := by decide +kernel
theorem d_Pr_clearHeap_230 : decode b_Pr_clearHeap 230 = .ok (.aload_n 3, 1) := by decide +kernel
theorem d_Pr_clearHeap_231 : decode b_Pr_clearHeap 231 = .ok (.iload 5, 2) := by decide +kernel
theorem d_Pr_clearHeap_233 : decode b_Pr_clearHeap 233 = .ok (.iload 6, 2) := by decide +kernel
theorem d_Pr_clearHeap_235 : decode b_Pr_clearHeap 235 = .ok (.i2l, 1) := by decide +kernel
theorem d_Pr_clearHeap_236 : decode b_Pr_clearHeap 236 = .ok (.bipush 32, 2) := by decide +kernel
theorem d_Pr_clearHeap_238 : decode b_Pr_clearHeap 238 = .ok (.lshl, 1) := by decide +kernel
theorem d_Pr_clearHeap_239 : decode b_Pr_clearHeap 239 = .ok (.aload_n 0, 1) := by decide +kernel
theorem d_Pr_clearHeap_240 : decode b_Pr_clearHeap 240 = .ok (.getfield 18, 3) := by decide +kernel
theorem d_Pr_clearHeap_243 : decode b_Pr_clearHeap 243 = .ok (.iload 7, 2) := by decide +kernel
theorem d_Pr_clearHeap_245 : decode b_Pr_clearHeap 245 = .ok (.laload, 1) := by decide +kernel
theorem d_Pr_clearHeap_246 : decode b_Pr_clearHeap 246 = .ok (.l2i, 1) := by decide +kernel
theorem d_Pr_clearHeap_247 : decode b_Pr_clearHeap 247 = .ok (.i2l, 1) := by decide +kernel
theorem d_Pr_clearHeap_248 : decode b_Pr_clearHeap 248 = .ok (.lor, 1) := by decide +kernel
theorem d_Pr_clearHeap_249 : decode b_Pr_clearHeap 249 = .ok (.lastore, 1) := by decide +kernel
theorem d_Pr_clearHeap_250 : decode b_Pr_clearHeap 250 = .ok (.iinc 5 1, 3) := by decide +kernel
theorem d_Pr_clearHeap_253 : decode b_Pr_clearHeap 253 = .ok (.goto (-141), 3) := by decide +kernel
theorem d_Pr_clearHeap_256 : decode b_Pr_clearHeap 256 = .ok (.iinc 2 1, 3) := by decide +kernel
theorem d_Pr_clearHeap_259 : decode b_Pr_clearHeap 259 = .ok (.goto (-245), 3) := by decide +kernel
theorem d_Pr_clearHeap_262 : decode b_Pr_clearHeap 262 = .ok (.aload_n 0, 1) := by decide +kernel
theorem d_Pr_clearHeap_263 : decode b_Pr_clearHeap 263 = .ok (.getfield 18, 3) := by decide +kernel
theorem d_Pr_clearHeap_266 : decode b_Pr_clearHeap 266 = .ok (.astore_n 2, 1) := by decide +kernel
theorem d_Pr_clearHeap_267 : decode b_Pr_clearHeap 267 = .ok (.aload_n 0, 1) := by decide +kernel
theorem d_Pr_clearHeap_268 : decode b_Pr_clearHeap 268 = .ok (.aload_n 0, 1) := by decide +kernel
theorem d_Pr_clearHeap_269 : decode b_Pr_clearHeap 269 = .ok (.getfield 22, 3) := by decide +kernel
theorem d_Pr_clearHeap_272 : decode b_Pr_clearHeap 272 = .ok (.putfield 18, 3) := by decide +kernel
theorem d_Pr_clearHeap_275 : decode b_Pr_clearHeap 275 = .ok (.aload_n 0, 1) := by decide +kernel
theorem d_Pr_clearHeap_276 : decode b_Pr_clearHeap 276 = .ok (.aload_n 2, 1) := by decide +kernel
theorem d_Pr_clearHeap_277 : decode b_Pr_clearHeap 277 = .ok (.putfield 22, 3) := by decide +kernel
theorem d_Pr_clearHeap_280 : decode b_Pr_clearHeap 280 = .ok (.aload_n 0, 1) := by decide +kernel
theorem d_Pr_clearHeap_281 : decode b_Pr_clearHeap 281 = .ok (.iload_n 1, 1) := by decide +kernel
theorem d_Pr_clearHeap_282 : decode b_Pr_clearHeap 282 = .ok (.putfield 39, 3) := by decide +kernel
theorem d_Pr_clearHeap_285 : decode b_Pr_clearHeap 285 = .ok (.return_, 1) := by decide +kernel
set_option maxRecDepth 100000 in
theorem hl_Pr_clearHeap : Cond.methodLink R_Pr 80 y_Pr_clearHeap ∈ wd_tbl := wd_of 1696 (by decide +kernel) rfl
set_option maxRecDepth 100000 in
theorem hi_Pr_clearHeap : Cond.instanceMethod y_Pr_clearHeap ∈ wd_tbl := wd_of 1698 (by decide +kernel) rfl
set_option maxRecDepth 100000 in
theorem hs_Pr_clearHeap : Cond.selects R_Pr y_Pr_clearHeap y_Pr_clearHeap ∈ wd_tbl := wd_of 79 (by decide +kernel) rfl
theorem hd_Pr_clearHeap : y_Pr_clearHeap.cls = R_Pr ∧ y_Pr_clearHeap.cls ≠ "java/lang/invoke/MethodHandle" ∧ y_Pr_clearHeap.cls ≠ "java/lang/invoke/VarHandle" ∧ (parseMethodDescriptor y_Pr_clearHeap.desc).map (fun d => d.parameters.length) = some 0 := by decide +kernel
def rm_Pr_clearHeap : Room := { frames := 1, cells := 0, slots := 0, locals := 48 }
theorem rm_Pr_clearHeap_Te_cellsAt : (rm_Te_cellsAt).frames + 1 ≤ rm_Pr_clearHeap.frames ∧ 8 + (5 + 11) + (rm_Te_cellsAt).locals ≤ rm_Pr_clearHeap.locals := by
  show 0 + 1 ≤ 1 ∧ 8 + (5 + 11) + 0 ≤ 48
  decide
def fb_Pr_clearHeap_250 (N : Nat) (G : (CS → Nat → Int32 → Int32 → Option (CS × Unit)) × (CS → Nat → Int32 → Int32 → Option Nat → Int32 → Int32 → Option (CS × Unit))) (u : CS) (v0 : Nat) (v1 : Int32) (v2 : Int32) (v3 : Option Nat) (v4 : Int32) (v5 : Int32) : Option (CS × Unit) := G.2 u (v0) (v1) (v2) (v3) (v4) ((v5 + 1))
set_option maxRecDepth 100000 in
set_option maxHeartbeats 4000000 in
theorem wb_Pr_clearHeap_250 {p : Program} {l : Launch} {e : Env} {s : State} {m : MethodId} {args : Array Value} {below : List Frame} {meth : Method} {c : Code} {s0 : State} {b0 : Nat} {D : va_G} {cB cI cJ cZ cS cP : ClassId} {A : Nat → Prop} {sk sv : Nat → Nat} {ad : Nat → Nat} (C0 : XCx p s s0 b0 m args meth c R_Pr b_Pr_clearHeap 9 none D cB cI cJ cZ cS cP A) (hE : ENV s0 b0 sk sv) (N : Nat) (G : (CS → Nat → Int32 → Int32 → Option (CS × Unit)) × (CS → Nat → Int32 → Int32 → Option Nat → Int32 → Int32 → Option (CS × Unit))) (hG : (∀ (u : CS) (v0 : Nat) (v1 : Int32) (v2 : Int32) (x : CS × Unit), G.1 u v0 v1 v2 = some x → ∀ (H : Heap) (locs : List Loc), va_P D cls (wC cB cI cJ cZ cS cP ad u) H → va_D A (wC cB cI cJ cZ cS cP ad u) → va_S A s.heap H locs → ∀ (ls : Array Slot), lv_has ls 9 [(0, .ref (ad v0)), (1, .int v1), (2, .int v2)] → W p l e rm_Pr_clearHeap s m args below meth c H locs 0 0 (MQ below (xQ0 D cB cI cJ cZ cS cP A ad x.1 none) args s 0 0 A) (F0 m 14 ls [])) ∧ (∀ (u : CS) (v0 : Nat) (v1 : Int32) (v2 : Int32) (v3 : Option Nat) (v4 : Int32) (v5 : Int32) (x : CS × Unit), G.2 u v0 v1 v2 v3 v4 v5 = some x → ∀ (H : Heap) (locs : List Loc), va_P D cls (wC cB cI cJ cZ cS cP ad u) H → va_D A (wC cB cI cJ cZ cS cP ad u) → va_S A s.heap H locs → ∀ (ls : Array Slot), lv_has ls 9 [(0, .ref (ad v0)), (1, .int v1), (2, .int v2), (3, va_rf (Option.map ad v3)), (4, .int v4), (5, .int v5)] → W p l e rm_Pr_clearHeap s m args below meth c H locs 0 0 (MQ below (xQ0 D cB cI cJ cZ cS cP A ad x.1 none) args s 0 0 A) (F0 m 112 ls []))) : ∀ (u : CS) (v0 : Nat) (v1 : Int32) (v2 : Int32) (v3 : Option Nat) (v4 : Int32) (v5 : Int32) (x : CS × Unit), fb_Pr_clearHeap_250 N G u v0 v1 v2 v3 v4 v5 = some x → ∀ (H : Heap) (locs : List Loc), va_P D cls (wC cB cI cJ cZ cS cP ad u) H → va_D A (wC cB cI cJ cZ cS cP ad u) → va_S A s.heap H locs → ∀ (ls : Array Slot), lv_has ls 9 [(0, .ref (ad v0)), (1, .int v1), (2, .int v2), (3, va_rf (Option.map ad v3)), (4, .int v4), (5, .int v5)] → W p l e rm_Pr_clearHeap s m args below meth c H locs 0 0 (MQ below (xQ0 D cB cI cJ cZ cS cP A ad x.1 none) args s 0 0 A) (F0 m 250 ls []) := by
  intro u v0 v1 v2 v3 v4 v5 x hf H locs hP hD hS ls hl
  obtain ⟨hx, hb, hr, hml, ht, hown, hK, hA, hlocks, hA0, hO, hbs⟩ := id C0
  unfold fb_Pr_clearHeap_250 at hf
  refine lv_iinc (v := (v5 + 1)) (lv' := [(5, .int (v5 + 1)), (0, .ref (ad v0)), (1, .int v1), (2, .int v2), (3, va_rf (Option.map ad v3)), (4, .int v4)]) hx hb d_Pr_clearHeap_250 hl (k := 5) rfl rfl (by decide) (by first | rfl | simp [List.filter, cat_rf]) (fun ls hl => ?_)
  refine lv_goto (tgt := 112) hx hb d_Pr_clearHeap_253 (by decide) ?_
  exact hG.2 _ _ _ _ _ _ _ _ hf H locs hP hD hS ls (lv_sub hl [1, 2, 3, 4, 5, 0] rfl)
def fb_Pr_clearHeap_230 (N : Nat) (G : (CS → Nat → Int32 → Int32 → Option (CS × Unit)) × (CS → Nat → Int32 → Int32 → Option Nat → Int32 → Int32 → Option (CS × Unit))) (u : CS) (v0 : Nat) (v1 : Int32) (v2 : Int32) (v3 : Option Nat) (v4 : Int32) (v5 : Int32) (v6 : Int32) (v7 : Int32) : Option (CS × Unit) := bo (gR u v0 7 2) (fun r1 => bo r1 (fun j2 => bo (aJ u j2 v7) (fun r3 => bo v3 (fun j4 => bo (sJ u j4 v5 (((v6.toInt64) <<< ((32 : Int32).toInt64 &&& 63)) ||| (r3.toInt32).toInt64)) (fun w5 => fb_Pr_clearHeap_250 N G w5 (v0) (v1) (v2) (v3) (v4) (v5))))))
set_option maxRecDepth 100000 in
set_option maxHeartbeats 4000000 in
theorem wb_Pr_clearHeap_230 {p : Program} {l : Launch} {e : Env} {s : State} {m : MethodId} {args : Array Value} {below : List Frame} {meth : Method} {c : Code} {s0 : State} {b0 : Nat} {D : va_G} {cB cI cJ cZ cS cP : ClassId} {A : Nat → Prop} {sk sv : Nat → Nat} {ad : Nat → Nat} (C0 : XCx p s s0 b0 m args meth c R_Pr b_Pr_clearHeap 9 none D cB cI cJ cZ cS cP A) (hE : ENV s0 b0 sk sv) (N : Nat) (G : (CS → Nat → Int32 → Int32 → Option (CS × Unit)) × (CS → Nat → Int32 → Int32 → Option Nat → Int32 → Int32 → Option (CS × Unit))) (hG : (∀ (u : CS) (v0 : Nat) (v1 : Int32) (v2 : Int32) (x : CS × Unit), G.1 u v0 v1 v2 = some x → ∀ (H : Heap) (locs : List Loc), va_P D cls (wC cB cI cJ cZ cS cP ad u) H → va_D A (wC cB cI cJ cZ cS cP ad u) → va_S A s.heap H locs → ∀ (ls : Array Slot), lv_has ls 9 [(0, .ref (ad v0)), (1, .int v1), (2, .int v2)] → W p l e rm_Pr_clearHeap s m args below meth c H locs 0 0 (MQ below (xQ0 D cB cI cJ cZ cS cP A ad x.1 none) args s 0 0 A) (F0 m 14 ls [])) ∧ (∀ (u : CS) (v0 : Nat) (v1 : Int32) (v2 : Int32) (v3 : Option Nat) (v4 : Int32) (v5 : Int32) (x : CS × Unit), G.2 u v0 v1 v2 v3 v4 v5 = some x → ∀ (H : Heap) (locs : List Loc), va_P D cls (wC cB cI cJ cZ cS cP ad u) H → va_D A (wC cB cI cJ cZ cS cP ad u) → va_S A s.heap H locs → ∀ (ls : Array Slot), lv_has ls 9 [(0, .ref (ad v0)), (1, .int v1), (2, .int v2), (3, va_rf (Option.map ad v3)), (4, .int v4), (5, .int v5)] → W p l e rm_Pr_clearHeap s m args below meth c H locs 0 0 (MQ below (xQ0 D cB cI cJ cZ cS cP A ad x.1 none) args s 0 0 A) (F0 m 112 ls []))) : ∀ (u : CS) (v0 : Nat) (v1 : Int32) (v2 : Int32) (v3 : Option Nat) (v4 : Int32) (v5 : Int32) (v6 : Int32) (v7 : Int32) (x : CS × Unit), fb_Pr_clearHeap_230 N G u v0 v1 v2 v3 v4 v5 v6 v7 = some x → ∀ (H : Heap) (locs : List Loc), va_P D cls (wC cB cI cJ cZ cS cP ad u) H → va_D A (wC cB cI cJ cZ cS cP ad u) → va_S A s.heap H locs → ∀ (ls : Array Slot), lv_has ls 9 [(0, .ref (ad v0)), (1, .int v1), (2, .int v2), (3, va_rf (Option.map ad v3)), (4, .int v4), (5, .int v5), (6, .int v6), (7, .int v7)] → W p l e rm_Pr_clearHeap s m args below meth c H locs 0 0 (MQ below (xQ0 D cB cI cJ cZ cS cP A ad x.1 none) args s 0 0 A) (F0 m 230 ls []) := by
  intro u v0 v1 v2 v3 v4 v5 v6 v7 x hf H locs hP hD hS ls hl
  obtain ⟨hx, hb, hr, hml, ht, hown, hK, hA, hlocks, hA0, hO, hbs⟩ := id C0
  unfold fb_Pr_clearHeap_230 at hf
  refine x_aload_n hx hb d_Pr_clearHeap_230 rfl (lv_at hl 3 rfl) ?_
  refine lv_iload hx hb d_Pr_clearHeap_231 (lv_at hl 5 rfl) ?_
  refine lv_iload hx hb d_Pr_clearHeap_233 (lv_at hl 6 rfl) ?_
  refine lv_i2l hx hb d_Pr_clearHeap_235 rfl ?_
  refine lv_bipush (v := 32) hx hb d_Pr_clearHeap_236 (by decide) ?_
  refine lv_lshl hx hb d_Pr_clearHeap_238 rfl ?_
  refine lv_aload_n hx hb d_Pr_clearHeap_239 rfl (lv_at hl 0 rfl) ?_
  obtain ⟨r1, g1, hf⟩ := bo_some hf
  refine xg_R (i := v0) (k := 2) hx hb ht hown ck_Pr hK hP (by decide) fk_Pr_18 g1 d_Pr_clearHeap_240 ?_
  refine lv_iload hx hb d_Pr_clearHeap_243 (lv_at hl 7 rfl) ?_
  obtain ⟨j2, ej2, hf⟩ := bo_some hf
  rw [ej2]
  obtain ⟨r3, g3, hf⟩ := bo_some hf
  refine xl_J (i := j2) hx hb hK hP g3 d_Pr_clearHeap_245 ?_
  refine lv_l2i hx hb d_Pr_clearHeap_246 rfl ?_
  refine lv_i2l hx hb d_Pr_clearHeap_247 rfl ?_
  refine lv_lor hx hb d_Pr_clearHeap_248 ?_
  obtain ⟨j4, ej4, hf⟩ := bo_some hf
  rw [ej4]
  obtain ⟨w5, g5, hf⟩ := bo_some hf
  refine xs_J (i := j4) hx hb hK hP hD hS g5 d_Pr_clearHeap_249 (fun H locs hP hD hS => ?_)
  exact wb_Pr_clearHeap_250 C0 hE N G hG _ _ _ _ _ _ _ _ hf H locs hP hD hS ls (lv_sub hl [0, 1, 2, 3, 4, 5] rfl)
def fb_Pr_clearHeap_160 (N : Nat) (G : (CS → Nat → Int32 → Int32 → Option (CS × Unit)) × (CS → Nat → Int32 → Int32 → Option Nat → Int32 → Int32 → Option (CS × Unit))) (u : CS) (v0 : Nat) (v1 : Int32) (v2 : Int32) (v3 : Option Nat) (v4 : Int32) (v5 : Int32) (v6 : Int32) : Option (CS × Unit) := bo v3 (fun j6 => bo (aJ u j6 v5) (fun r7 => bo (gR u v0 7 2) (fun r8 => bo r8 (fun j9 => bo (aJ u j9 (r7.toInt32)) (fun r10 => br (decide ((r10 >>> ((32 : Int32).toInt64 &&& 63)).toInt32 = 9)) (fb_Pr_clearHeap_230 N G u (v0) (v1) (v2) (v3) (v4) (v5) (v6) (r7.toInt32)) (bo (gR u v0 7 2) (fun r11 => bo v3 (fun j12 => bo (aJ u j12 v5) (fun r13 => bx (fm_Te_cellsAt N u r11 r13) (fun u14 r14 => bo (gR u14 v0 7 2) (fun r15 => bo (gR u14 v0 7 3) (fun r16 => bo r16 (fun j17 => bo r15 (fun j18 => bo (cpJ u14 j18 (r7.toInt32) j17 v1 r14) (fun w19 => bo (gR w19 v0 7 2) (fun r20 => bo r20 (fun j21 => bo (sJ w19 j21 (r7.toInt32) (38654705664 ||| v1.toInt64)) (fun w22 => fb_Pr_clearHeap_230 N G w22 (v0) ((v1 + r14)) (v2) (v3) (v4) (v5) (v6) (r7.toInt32)))))))))))))))))))
set_option maxRecDepth 100000 in
set_option maxHeartbeats 4000000 in
theorem wb_Pr_clearHeap_160 {p : Program} {l : Launch} {e : Env} {s : State} {m : MethodId} {args : Array Value} {below : List Frame} {meth : Method} {c : Code} {s0 : State} {b0 : Nat} {D : va_G} {cB cI cJ cZ cS cP : ClassId} {A : Nat → Prop} {sk sv : Nat → Nat} {ad : Nat → Nat} (C0 : XCx p s s0 b0 m args meth c R_Pr b_Pr_clearHeap 9 none D cB cI cJ cZ cS cP A) (hE : ENV s0 b0 sk sv) (N : Nat) (G : (CS → Nat → Int32 → Int32 → Option (CS × Unit)) × (CS → Nat → Int32 → Int32 → Option Nat → Int32 → Int32 → Option (CS × Unit))) (hG : (∀ (u : CS) (v0 : Nat) (v1 : Int32) (v2 : Int32) (x : CS × Unit), G.1 u v0 v1 v2 = some x → ∀ (H : Heap) (locs : List Loc), va_P D cls (wC cB cI cJ cZ cS cP ad u) H → va_D A (wC cB cI cJ cZ cS cP ad u) → va_S A s.heap H locs → ∀ (ls : Array Slot), lv_has ls 9 [(0, .ref (ad v0)), (1, .int v1), (2, .int v2)] → W p l e rm_Pr_clearHeap s m args below meth c H locs 0 0 (MQ below (xQ0 D cB cI cJ cZ cS cP A ad x.1 none) args s 0 0 A) (F0 m 14 ls [])) ∧ (∀ (u : CS) (v0 : Nat) (v1 : Int32) (v2 : Int32) (v3 : Option Nat) (v4 : Int32) (v5 : Int32) (x : CS × Unit), G.2 u v0 v1 v2 v3 v4 v5 = some x → ∀ (H : Heap) (locs : List Loc), va_P D cls (wC cB cI cJ cZ cS cP ad u) H → va_D A (wC cB cI cJ cZ cS cP ad u) → va_S A s.heap H locs → ∀ (ls : Array Slot), lv_has ls 9 [(0, .ref (ad v0)), (1, .int v1), (2, .int v2), (3, va_rf (Option.map ad v3)), (4, .int v4), (5, .int v5)] → W p l e rm_Pr_clearHeap s m args below meth c H locs 0 0 (MQ below (xQ0 D cB cI cJ cZ cS cP A ad x.1 none) args s 0 0 A) (F0 m 112 ls []))) : ∀ (u : CS) (v0 : Nat) (v1 : Int32) (v2 : Int32) (v3 : Option Nat) (v4 : Int32) (v5 : Int32) (v6 : Int32) (x : CS × Unit), fb_Pr_clearHeap_160 N G u v0 v1 v2 v3 v4 v5 v6 = some x → ∀ (H : Heap) (locs : List Loc), va_P D cls (wC cB cI cJ cZ cS cP ad u) H → va_D A (wC cB cI cJ cZ cS cP ad u) → va_S A s.heap H locs → ∀ (ls : Array Slot), lv_has ls 9 [(0, .ref (ad v0)), (1, .int v1), (2, .int v2), (3, va_rf (Option.map ad v3)), (4, .int v4), (5, .int v5), (6, .int v6)] → W p l e rm_Pr_clearHeap s m args below meth c H locs 0 0 (MQ below (xQ0 D cB cI cJ cZ cS cP A ad x.1 none) args s 0 0 A) (F0 m 160 ls []) := by
  intro u v0 v1 v2 v3 v4 v5 v6 x hf H locs hP hD hS ls hl
  obtain ⟨hx, hb, hr, hml, ht, hown, hK, hA, hlocks, hA0, hO, hbs⟩ := id C0
  unfold fb_Pr_clearHeap_160 at hf
  refine x_aload_n hx hb d_Pr_clearHeap_160 rfl (lv_at hl 3 rfl) ?_
  refine lv_iload hx hb d_Pr_clearHeap_161 (lv_at hl 5 rfl) ?_
  obtain ⟨j6, ej6, hf⟩ := bo_some hf
  rw [ej6]
  obtain ⟨r7, g7, hf⟩ := bo_some hf
  refine xl_J (i := j6) hx hb hK hP g7 d_Pr_clearHeap_163 ?_
  refine lv_l2i hx hb d_Pr_clearHeap_164 rfl ?_
  refine lv_istore (lv' := [(7, .int r7.toInt32), (0, .ref (ad v0)), (1, .int v1), (2, .int v2), (3, va_rf (Option.map ad v3)), (4, .int v4), (5, .int v5), (6, .int v6)]) hx hb d_Pr_clearHeap_165 hl (by decide) (by first | rfl | simp [List.filter, cat_rf]) (fun ls hl => ?_)
  refine lv_aload_n hx hb d_Pr_clearHeap_167 rfl (lv_at hl 1 rfl) ?_
  obtain ⟨r8, g8, hf⟩ := bo_some hf
  refine xg_R (i := v0) (k := 2) hx hb ht hown ck_Pr hK hP (by decide) fk_Pr_18 g8 d_Pr_clearHeap_168 ?_
  refine lv_iload hx hb d_Pr_clearHeap_171 (lv_at hl 0 rfl) ?_
  obtain ⟨j9, ej9, hf⟩ := bo_some hf
  rw [ej9]
  obtain ⟨r10, g10, hf⟩ := bo_some hf
  refine xl_J (i := j9) hx hb hK hP g10 d_Pr_clearHeap_173 ?_
  refine lv_bipush (v := 32) hx hb d_Pr_clearHeap_174 (by decide) ?_
  refine lv_lshr hx hb d_Pr_clearHeap_176 rfl ?_
  refine lv_l2i hx hb d_Pr_clearHeap_177 rfl ?_
  refine lv_bipush (v := 9) hx hb d_Pr_clearHeap_178 (by decide) ?_
  refine lv_icmp_eq (tgt := 230) hx hb d_Pr_clearHeap_180 (by decide) (fun hc => ?_) (fun hc => ?_)
  · rw [br_p _ hc] at hf
    exact wb_Pr_clearHeap_230 C0 hE N G hG _ _ _ _ _ _ _ _ _ _ hf H locs hP hD hS ls (lv_sub hl [1, 2, 3, 4, 5, 6, 7, 0] rfl)
  · rw [br_n _ hc] at hf
    refine lv_aload_n hx hb d_Pr_clearHeap_183 rfl (lv_at hl 1 rfl) ?_
    obtain ⟨r11, g11, hf⟩ := bo_some hf
    refine xg_R (i := v0) (k := 2) hx hb ht hown ck_Pr hK hP (by decide) fk_Pr_18 g11 d_Pr_clearHeap_184 ?_
    refine x_aload_n hx hb d_Pr_clearHeap_187 rfl (lv_at hl 4 rfl) ?_
    refine lv_iload hx hb d_Pr_clearHeap_188 (lv_at hl 6 rfl) ?_
    obtain ⟨j12, ej12, hf⟩ := bo_some hf
    rw [ej12]
    obtain ⟨r13, g13, hf⟩ := bo_some hf
    refine xl_J (i := j12) hx hb hK hP g13 d_Pr_clearHeap_190 ?_
    obtain ⟨u14, r14, hc14, hf⟩ := bx_some hf
    refine xS0 (As := [va_rf (Option.map ad r11), .long r13]) (rest := []) C0 hP hD hS (c_Te_cellsAt N hc14) k_Te_cellsAt (wd_of 1700 (by decide +kernel) rfl) ht_Te_cellsAt hini_Te rfl rfl hd_Te_cellsAt rfl rm_Pr_clearHeap_Te_cellsAt hl.1 (Nat.le_of_ble_eq_true rfl) d_Pr_clearHeap_191 rfl ⟨Nat.zero_le _, Nat.zero_le _⟩ (fun H locs hP hD hS => ?_)
    refine lv_istore (lv' := [(8, .int r14), (7, .int r7.toInt32), (0, .ref (ad v0)), (1, .int v1), (2, .int v2), (3, va_rf (Option.map ad v3)), (4, .int v4), (5, .int v5), (6, .int v6)]) hx hb d_Pr_clearHeap_194 hl (by decide) (by first | rfl | simp [List.filter, cat_rf]) (fun ls hl => ?_)
    refine lv_aload_n hx hb d_Pr_clearHeap_196 rfl (lv_at hl 2 rfl) ?_
    obtain ⟨r15, g15, hf⟩ := bo_some hf
    refine xg_R (i := v0) (k := 2) hx hb ht hown ck_Pr hK hP (by decide) fk_Pr_18 g15 d_Pr_clearHeap_197 ?_
    refine lv_iload hx hb d_Pr_clearHeap_200 (lv_at hl 1 rfl) ?_
    refine lv_aload_n hx hb d_Pr_clearHeap_202 rfl (lv_at hl 2 rfl) ?_
    obtain ⟨r16, g16, hf⟩ := bo_some hf
    refine xg_R (i := v0) (k := 3) hx hb ht hown ck_Pr hK hP (by decide) fk_Pr_22 g16 d_Pr_clearHeap_203 ?_
    refine lv_iload_n hx hb d_Pr_clearHeap_206 rfl (lv_at hl 3 rfl) ?_
    refine lv_iload hx hb d_Pr_clearHeap_207 (lv_at hl 0 rfl) ?_
    obtain ⟨j17, ej17, hf⟩ := bo_some hf
    rw [ej17]
    obtain ⟨j18, ej18, hf⟩ := bo_some hf
    rw [ej18]
    obtain ⟨w19, g19, hf⟩ := bo_some hf
    refine x_cpJ (a0 := j18) (a1 := j17) hx hb (hml.trans hl.1.symm) ht hown (wd_of 1701 (by decide +kernel) rfl) (wd_of 870 (by decide +kernel) rfl) (wd_of 869 (by decide +kernel) rfl) (wd_of 282 (by decide +kernel) rfl) hK hP hD hS g19 (Nat.le_of_ble_eq_true rfl) (Nat.le_of_ble_eq_true rfl) d_Pr_clearHeap_209 (fun H locs hP hD hS => ?_)
    refine lv_aload_n hx hb d_Pr_clearHeap_212 rfl (lv_at hl 2 rfl) ?_
    obtain ⟨r20, g20, hf⟩ := bo_some hf
    refine xg_R (i := v0) (k := 2) hx hb ht hown ck_Pr hK hP (by decide) fk_Pr_18 g20 d_Pr_clearHeap_213 ?_
    refine lv_iload hx hb d_Pr_clearHeap_216 (lv_at hl 1 rfl) ?_
    refine lv_ldc2 (v := 38654705664) hx hb hown (ht _ (wd_of 1702 (by decide +kernel) rfl)) d_Pr_clearHeap_218 ?_
    refine lv_iload_n hx hb d_Pr_clearHeap_221 rfl (lv_at hl 3 rfl) ?_
    refine lv_i2l hx hb d_Pr_clearHeap_222 rfl ?_
    refine lv_lor hx hb d_Pr_clearHeap_223 ?_
    obtain ⟨j21, ej21, hf⟩ := bo_some hf
    rw [ej21]
    obtain ⟨w22, g22, hf⟩ := bo_some hf
    refine xs_J (i := j21) hx hb hK hP hD hS g22 d_Pr_clearHeap_224 (fun H locs hP hD hS => ?_)
    refine lv_iload_n hx hb d_Pr_clearHeap_225 rfl (lv_at hl 3 rfl) ?_
    refine lv_iload hx hb d_Pr_clearHeap_226 (lv_at hl 0 rfl) ?_
    refine lv_iadd hx hb d_Pr_clearHeap_228 ?_
    refine lv_istore_n (lv' := [(1, .int (v1 + r14)), (8, .int r14), (7, .int r7.toInt32), (0, .ref (ad v0)), (2, .int v2), (3, va_rf (Option.map ad v3)), (4, .int v4), (5, .int v5), (6, .int v6)]) hx hb d_Pr_clearHeap_229 rfl hl (by decide) (by first | rfl | simp [List.filter, cat_rf]) (fun ls hl => ?_)
    exact wb_Pr_clearHeap_230 C0 hE N G hG _ _ _ _ _ _ _ _ _ _ hf H locs hP hD hS ls (lv_sub hl [3, 0, 4, 5, 6, 7, 8, 2] rfl)
def fb_Pr_clearHeap_125 (N : Nat) (G : (CS → Nat → Int32 → Int32 → Option (CS × Unit)) × (CS → Nat → Int32 → Int32 → Option Nat → Int32 → Int32 → Option (CS × Unit))) (u : CS) (v0 : Nat) (v1 : Int32) (v2 : Int32) (v3 : Option Nat) (v4 : Int32) (v5 : Int32) (t0 : Int32) (t1 : Int32) : Option (CS × Unit) := br (decide (t1 ≤ t0)) (G.1 u (v0) (v1) ((v2 + 1))) (bo v3 (fun j23 => bo (aJ u j23 v5) (fun r24 => lt ((r24 >>> ((32 : Int32).toInt64 &&& 63)).toInt32) (fun y25 => br (decide (y25 = 7)) (fb_Pr_clearHeap_160 N G u (v0) (v1) (v2) (v3) (v4) (v5) (y25)) (br (decide (y25 = 5)) (fb_Pr_clearHeap_160 N G u (v0) (v1) (v2) (v3) (v4) (v5) (y25)) (br (decide (y25 = 3)) (fb_Pr_clearHeap_160 N G u (v0) (v1) (v2) (v3) (v4) (v5) (y25)) (fb_Pr_clearHeap_250 N G u (v0) (v1) (v2) (v3) (v4) (v5))))))))
set_option maxRecDepth 100000 in
set_option maxHeartbeats 4000000 in
theorem wb_Pr_clearHeap_125 {p : Program} {l : Launch} {e : Env} {s : State} {m : MethodId} {args : Array Value} {below : List Frame} {meth : Method} {c : Code} {s0 : State} {b0 : Nat} {D : va_G} {cB cI cJ cZ cS cP : ClassId} {A : Nat → Prop} {sk sv : Nat → Nat} {ad : Nat → Nat} (C0 : XCx p s s0 b0 m args meth c R_Pr b_Pr_clearHeap 9 none D cB cI cJ cZ cS cP A) (hE : ENV s0 b0 sk sv) (N : Nat) (G : (CS → Nat → Int32 → Int32 → Option (CS × Unit)) × (CS → Nat → Int32 → Int32 → Option Nat → Int32 → Int32 → Option (CS × Unit))) (hG : (∀ (u : CS) (v0 : Nat) (v1 : Int32) (v2 : Int32) (x : CS × Unit), G.1 u v0 v1 v2 = some x → ∀ (H : Heap) (locs : List Loc), va_P D cls (wC cB cI cJ cZ cS cP ad u) H → va_D A (wC cB cI cJ cZ cS cP ad u) → va_S A s.heap H locs → ∀ (ls : Array Slot), lv_has ls 9 [(0, .ref (ad v0)), (1, .int v1), (2, .int v2)] → W p l e rm_Pr_clearHeap s m args below meth c H locs 0 0 (MQ below (xQ0 D cB cI cJ cZ cS cP A ad x.1 none) args s 0 0 A) (F0 m 14 ls [])) ∧ (∀ (u : CS) (v0 : Nat) (v1 : Int32) (v2 : Int32) (v3 : Option Nat) (v4 : Int32) (v5 : Int32) (x : CS × Unit), G.2 u v0 v1 v2 v3 v4 v5 = some x → ∀ (H : Heap) (locs : List Loc), va_P D cls (wC cB cI cJ cZ cS cP ad u) H → va_D A (wC cB cI cJ cZ cS cP ad u) → va_S A s.heap H locs → ∀ (ls : Array Slot), lv_has ls 9 [(0, .ref (ad v0)), (1, .int v1), (2, .int v2), (3, va_rf (Option.map ad v3)), (4, .int v4), (5, .int v5)] → W p l e rm_Pr_clearHeap s m args below meth c H locs 0 0 (MQ below (xQ0 D cB cI cJ cZ cS cP A ad x.1 none) args s 0 0 A) (F0 m 112 ls []))) : ∀ (u : CS) (v0 : Nat) (v1 : Int32) (v2 : Int32) (v3 : Option Nat) (v4 : Int32) (v5 : Int32) (t0 : Int32) (t1 : Int32) (x : CS × Unit), fb_Pr_clearHeap_125 N G u v0 v1 v2 v3 v4 v5 t0 t1 = some x → ∀ (H : Heap) (locs : List Loc), va_P D cls (wC cB cI cJ cZ cS cP ad u) H → va_D A (wC cB cI cJ cZ cS cP ad u) → va_S A s.heap H locs → ∀ (ls : Array Slot), lv_has ls 9 [(0, .ref (ad v0)), (1, .int v1), (2, .int v2), (3, va_rf (Option.map ad v3)), (4, .int v4), (5, .int v5)] → W p l e rm_Pr_clearHeap s m args below meth c H locs 0 0 (MQ below (xQ0 D cB cI cJ cZ cS cP A ad x.1 none) args s 0 0 A) (F0 m 125 ls [.int t1, .int t0]) := by
  intro u v0 v1 v2 v3 v4 v5 t0 t1 x hf H locs hP hD hS ls hl
  obtain ⟨hx, hb, hr, hml, ht, hown, hK, hA, hlocks, hA0, hO, hbs⟩ := id C0
  unfold fb_Pr_clearHeap_125 at hf
  refine lv_icmp_ge (tgt := 256) hx hb d_Pr_clearHeap_125 (by decide) (fun hc => ?_) (fun hc => ?_)
  · rw [br_p _ hc] at hf
    refine lv_iinc (v := (v2 + 1)) (lv' := [(2, .int (v2 + 1)), (0, .ref (ad v0)), (1, .int v1), (3, va_rf (Option.map ad v3)), (4, .int v4), (5, .int v5)]) hx hb d_Pr_clearHeap_256 hl (k := 2) rfl rfl (by decide) (by first | rfl | simp [List.filter, cat_rf]) (fun ls hl => ?_)
    refine lv_goto (tgt := 14) hx hb d_Pr_clearHeap_259 (by decide) ?_
    exact hG.1 _ _ _ _ _ hf H locs hP hD hS ls (lv_sub hl [1, 2, 0] rfl)
  · rw [br_n _ hc] at hf
    refine x_aload_n hx hb d_Pr_clearHeap_128 rfl (lv_at hl 3 rfl) ?_
    refine lv_iload hx hb d_Pr_clearHeap_129 (lv_at hl 5 rfl) ?_
    obtain ⟨j23, ej23, hf⟩ := bo_some hf
    rw [ej23]
    obtain ⟨r24, g24, hf⟩ := bo_some hf
    refine xl_J (i := j23) hx hb hK hP g24 d_Pr_clearHeap_131 ?_
    refine lv_bipush (v := 32) hx hb d_Pr_clearHeap_132 (by decide) ?_
    refine lv_lshr hx hb d_Pr_clearHeap_134 rfl ?_
    refine lv_l2i hx hb d_Pr_clearHeap_135 rfl ?_
    obtain ⟨y25, e25, hf⟩ := lt_some hf
    rw [← e25]
    refine lv_istore (lv' := [(6, .int y25), (0, .ref (ad v0)), (1, .int v1), (2, .int v2), (3, va_rf (Option.map ad v3)), (4, .int v4), (5, .int v5)]) hx hb d_Pr_clearHeap_136 hl (by decide) (by first | rfl | simp [List.filter, cat_rf]) (fun ls hl => ?_)
    refine lv_iload hx hb d_Pr_clearHeap_138 (lv_at hl 0 rfl) ?_
    refine lv_bipush (v := 7) hx hb d_Pr_clearHeap_140 (by decide) ?_
    refine lv_icmp_eq (tgt := 160) hx hb d_Pr_clearHeap_142 (by decide) (fun hc => ?_) (fun hc => ?_)
    · rw [br_p _ hc] at hf
      exact wb_Pr_clearHeap_160 C0 hE N G hG _ _ _ _ _ _ _ _ _ hf H locs hP hD hS ls (lv_sub hl [1, 2, 3, 4, 5, 6, 0] rfl)
    · rw [br_n _ hc] at hf
      refine lv_iload hx hb d_Pr_clearHeap_145 (lv_at hl 0 rfl) ?_
      refine lv_iconst (v := 5) hx hb d_Pr_clearHeap_147 (by decide) ?_
      refine lv_icmp_eq (tgt := 160) hx hb d_Pr_clearHeap_148 (by decide) (fun hc => ?_) (fun hc => ?_)
      · rw [br_p _ hc] at hf
        exact wb_Pr_clearHeap_160 C0 hE N G hG _ _ _ _ _ _ _ _ _ hf H locs hP hD hS ls (lv_sub hl [1, 2, 3, 4, 5, 6, 0] rfl)
      · rw [br_n _ hc] at hf
        refine lv_iload hx hb d_Pr_clearHeap_151 (lv_at hl 0 rfl) ?_
        refine lv_iconst (v := 3) hx hb d_Pr_clearHeap_153 (by decide) ?_
        refine lv_icmp_eq (tgt := 160) hx hb d_Pr_clearHeap_154 (by decide) (fun hc => ?_) (fun hc => ?_)
        · rw [br_p _ hc] at hf
          exact wb_Pr_clearHeap_160 C0 hE N G hG _ _ _ _ _ _ _ _ _ hf H locs hP hD hS ls (lv_sub hl [1, 2, 3, 4, 5, 6, 0] rfl)
        · rw [br_n _ hc] at hf
          refine lv_goto (tgt := 250) hx hb d_Pr_clearHeap_157 (by decide) ?_
          exact wb_Pr_clearHeap_250 C0 hE N G hG _ _ _ _ _ _ _ _ hf H locs hP hD hS ls (lv_sub hl [1, 2, 3, 4, 5, 6] rfl)
def fb_Pr_clearHeap_112 (N : Nat) (G : (CS → Nat → Int32 → Int32 → Option (CS × Unit)) × (CS → Nat → Int32 → Int32 → Option Nat → Int32 → Int32 → Option (CS × Unit))) (u : CS) (v0 : Nat) (v1 : Int32) (v2 : Int32) (v3 : Option Nat) (v4 : Int32) (v5 : Int32) : Option (CS × Unit) := br (decide (v2 = 3)) (fb_Pr_clearHeap_125 N G u (v0) (v1) (v2) (v3) (v4) (v5) (v5) (v1)) (fb_Pr_clearHeap_125 N G u (v0) (v1) (v2) (v3) (v4) (v5) (v5) (v4))
set_option maxRecDepth 100000 in
set_option maxHeartbeats 4000000 in
theorem wb_Pr_clearHeap_112 {p : Program} {l : Launch} {e : Env} {s : State} {m : MethodId} {args : Array Value} {below : List Frame} {meth : Method} {c : Code} {s0 : State} {b0 : Nat} {D : va_G} {cB cI cJ cZ cS cP : ClassId} {A : Nat → Prop} {sk sv : Nat → Nat} {ad : Nat → Nat} (C0 : XCx p s s0 b0 m args meth c R_Pr b_Pr_clearHeap 9 none D cB cI cJ cZ cS cP A) (hE : ENV s0 b0 sk sv) (N : Nat) (G : (CS → Nat → Int32 → Int32 → Option (CS × Unit)) × (CS → Nat → Int32 → Int32 → Option Nat → Int32 → Int32 → Option (CS × Unit))) (hG : (∀ (u : CS) (v0 : Nat) (v1 : Int32) (v2 : Int32) (x : CS × Unit), G.1 u v0 v1 v2 = some x → ∀ (H : Heap) (locs : List Loc), va_P D cls (wC cB cI cJ cZ cS cP ad u) H → va_D A (wC cB cI cJ cZ cS cP ad u) → va_S A s.heap H locs → ∀ (ls : Array Slot), lv_has ls 9 [(0, .ref (ad v0)), (1, .int v1), (2, .int v2)] → W p l e rm_Pr_clearHeap s m args below meth c H locs 0 0 (MQ below (xQ0 D cB cI cJ cZ cS cP A ad x.1 none) args s 0 0 A) (F0 m 14 ls [])) ∧ (∀ (u : CS) (v0 : Nat) (v1 : Int32) (v2 : Int32) (v3 : Option Nat) (v4 : Int32) (v5 : Int32) (x : CS × Unit), G.2 u v0 v1 v2 v3 v4 v5 = some x → ∀ (H : Heap) (locs : List Loc), va_P D cls (wC cB cI cJ cZ cS cP ad u) H → va_D A (wC cB cI cJ cZ cS cP ad u) → va_S A s.heap H locs → ∀ (ls : Array Slot), lv_has ls 9 [(0, .ref (ad v0)), (1, .int v1), (2, .int v2), (3, va_rf (Option.map ad v3)), (4, .int v4), (5, .int v5)] → W p l e rm_Pr_clearHeap s m args below meth c H locs 0 0 (MQ below (xQ0 D cB cI cJ cZ cS cP A ad x.1 none) args s 0 0 A) (F0 m 112 ls []))) : ∀ (u : CS) (v0 : Nat) (v1 : Int32) (v2 : Int32) (v3 : Option Nat) (v4 : Int32) (v5 : Int32) (x : CS × Unit), fb_Pr_clearHeap_112 N G u v0 v1 v2 v3 v4 v5 = some x → ∀ (H : Heap) (locs : List Loc), va_P D cls (wC cB cI cJ cZ cS cP ad u) H → va_D A (wC cB cI cJ cZ cS cP ad u) → va_S A s.heap H locs → ∀ (ls : Array Slot), lv_has ls 9 [(0, .ref (ad v0)), (1, .int v1), (2, .int v2), (3, va_rf (Option.map ad v3)), (4, .int v4), (5, .int v5)] → W p l e rm_Pr_clearHeap s m args below meth c H locs 0 0 (MQ below (xQ0 D cB cI cJ cZ cS cP A ad x.1 none) args s 0 0 A) (F0 m 112 ls []) := by
  intro u v0 v1 v2 v3 v4 v5 x hf H locs hP hD hS ls hl
  obtain ⟨hx, hb, hr, hml, ht, hown, hK, hA, hlocks, hA0, hO, hbs⟩ := id C0
  unfold fb_Pr_clearHeap_112 at hf
  refine lv_iload hx hb d_Pr_clearHeap_112 (lv_at hl 5 rfl) ?_
  refine lv_iload_n hx hb d_Pr_clearHeap_114 rfl (lv_at hl 2 rfl) ?_
  refine lv_iconst (v := 3) hx hb d_Pr_clearHeap_115 (by decide) ?_
  refine lv_icmp_ne (tgt := 123) hx hb d_Pr_clearHeap_116 (by decide) (fun hc => ?_) (fun hc => ?_)
  · rw [br_n _ hc] at hf
    refine lv_iload hx hb d_Pr_clearHeap_123 (lv_at hl 4 rfl) ?_
    exact wb_Pr_clearHeap_125 C0 hE N G hG _ _ _ _ _ _ _ _ _ _ hf H locs hP hD hS ls (lv_sub hl [0, 1, 2, 3, 4, 5] rfl)
  · rw [br_p _ hc] at hf
    refine lv_iload_n hx hb d_Pr_clearHeap_119 rfl (lv_at hl 1 rfl) ?_
    refine lv_goto (tgt := 125) hx hb d_Pr_clearHeap_120 (by decide) ?_
    exact wb_Pr_clearHeap_125 C0 hE N G hG _ _ _ _ _ _ _ _ _ _ hf H locs hP hD hS ls (lv_sub hl [0, 1, 2, 3, 4, 5] rfl)
def fb_Pr_clearHeap_107 (N : Nat) (G : (CS → Nat → Int32 → Int32 → Option (CS × Unit)) × (CS → Nat → Int32 → Int32 → Option Nat → Int32 → Int32 → Option (CS × Unit))) (u : CS) (v0 : Nat) (v1 : Int32) (v2 : Int32) (v3 : Option Nat) (t0 : Int32) : Option (CS × Unit) := G.2 u (v0) (v1) (v2) (v3) (t0) (0)
set_option maxRecDepth 100000 in
set_option maxHeartbeats 4000000 in
theorem wb_Pr_clearHeap_107 {p : Program} {l : Launch} {e : Env} {s : State} {m : MethodId} {args : Array Value} {below : List Frame} {meth : Method} {c : Code} {s0 : State} {b0 : Nat} {D : va_G} {cB cI cJ cZ cS cP : ClassId} {A : Nat → Prop} {sk sv : Nat → Nat} {ad : Nat → Nat} (C0 : XCx p s s0 b0 m args meth c R_Pr b_Pr_clearHeap 9 none D cB cI cJ cZ cS cP A) (hE : ENV s0 b0 sk sv) (N : Nat) (G : (CS → Nat → Int32 → Int32 → Option (CS × Unit)) × (CS → Nat → Int32 → Int32 → Option Nat → Int32 → Int32 → Option (CS × Unit))) (hG : (∀ (u : CS) (v0 : Nat) (v1 : Int32) (v2 : Int32) (x : CS × Unit), G.1 u v0 v1 v2 = some x → ∀ (H : Heap) (locs : List Loc), va_P D cls (wC cB cI cJ cZ cS cP ad u) H → va_D A (wC cB cI cJ cZ cS cP ad u) → va_S A s.heap H locs → ∀ (ls : Array Slot), lv_has ls 9 [(0, .ref (ad v0)), (1, .int v1), (2, .int v2)] → W p l e rm_Pr_clearHeap s m args below meth c H locs 0 0 (MQ below (xQ0 D cB cI cJ cZ cS cP A ad x.1 none) args s 0 0 A) (F0 m 14 ls [])) ∧ (∀ (u : CS) (v0 : Nat) (v1 : Int32) (v2 : Int32) (v3 : Option Nat) (v4 : Int32) (v5 : Int32) (x : CS × Unit), G.2 u v0 v1 v2 v3 v4 v5 = some x → ∀ (H : Heap) (locs : List Loc), va_P D cls (wC cB cI cJ cZ cS cP ad u) H → va_D A (wC cB cI cJ cZ cS cP ad u) → va_S A s.heap H locs → ∀ (ls : Array Slot), lv_has ls 9 [(0, .ref (ad v0)), (1, .int v1), (2, .int v2), (3, va_rf (Option.map ad v3)), (4, .int v4), (5, .int v5)] → W p l e rm_Pr_clearHeap s m args below meth c H locs 0 0 (MQ below (xQ0 D cB cI cJ cZ cS cP A ad x.1 none) args s 0 0 A) (F0 m 112 ls []))) : ∀ (u : CS) (v0 : Nat) (v1 : Int32) (v2 : Int32) (v3 : Option Nat) (t0 : Int32) (x : CS × Unit), fb_Pr_clearHeap_107 N G u v0 v1 v2 v3 t0 = some x → ∀ (H : Heap) (locs : List Loc), va_P D cls (wC cB cI cJ cZ cS cP ad u) H → va_D A (wC cB cI cJ cZ cS cP ad u) → va_S A s.heap H locs → ∀ (ls : Array Slot), lv_has ls 9 [(0, .ref (ad v0)), (1, .int v1), (2, .int v2), (3, va_rf (Option.map ad v3))] → W p l e rm_Pr_clearHeap s m args below meth c H locs 0 0 (MQ below (xQ0 D cB cI cJ cZ cS cP A ad x.1 none) args s 0 0 A) (F0 m 107 ls [.int t0]) := by
  intro u v0 v1 v2 v3 t0 x hf H locs hP hD hS ls hl
  obtain ⟨hx, hb, hr, hml, ht, hown, hK, hA, hlocks, hA0, hO, hbs⟩ := id C0
  unfold fb_Pr_clearHeap_107 at hf
  refine lv_istore (lv' := [(4, .int t0), (0, .ref (ad v0)), (1, .int v1), (2, .int v2), (3, va_rf (Option.map ad v3))]) hx hb d_Pr_clearHeap_107 hl (by decide) (by first | rfl | simp [List.filter, cat_rf]) (fun ls hl => ?_)
  refine lv_iconst (v := 0) hx hb d_Pr_clearHeap_109 (by decide) ?_
  refine lv_istore (lv' := [(5, .int 0), (4, .int t0), (0, .ref (ad v0)), (1, .int v1), (2, .int v2), (3, va_rf (Option.map ad v3))]) hx hb d_Pr_clearHeap_110 hl (by decide) (by first | rfl | simp [List.filter, cat_rf]) (fun ls hl => ?_)
  exact hG.2 _ _ _ _ _ _ _ _ hf H locs hP hD hS ls (lv_sub hl [2, 3, 4, 5, 1, 0] rfl)
def fb_Pr_clearHeap_64 (N : Nat) (G : (CS → Nat → Int32 → Int32 → Option (CS × Unit)) × (CS → Nat → Int32 → Int32 → Option Nat → Int32 → Int32 → Option (CS × Unit))) (u : CS) (v0 : Nat) (v1 : Int32) (v2 : Int32) (t0 : Option Nat) : Option (CS × Unit) := br (decide (v2 = 0)) (bo (gR u v0 7 1) (fun r30 => bo r30 (fun j31 => bo (gI u j31 4 4) (fun r32 => fb_Pr_clearHeap_107 N G u (v0) (v1) (v2) (t0) (r32))))) (br (decide (v2 = 1)) (bo (gR u v0 7 1) (fun r27 => bo r27 (fun j28 => bo (gI u j28 4 6) (fun r29 => fb_Pr_clearHeap_107 N G u (v0) (v1) (v2) (t0) (r29))))) (br (decide (v2 = 2)) (bo (gI u v0 7 7) (fun r26 => fb_Pr_clearHeap_107 N G u (v0) (v1) (v2) (t0) (r26))) (fb_Pr_clearHeap_107 N G u (v0) (v1) (v2) (t0) (0))))
set_option maxRecDepth 100000 in
set_option maxHeartbeats 4000000 in
theorem wb_Pr_clearHeap_64 {p : Program} {l : Launch} {e : Env} {s : State} {m : MethodId} {args : Array Value} {below : List Frame} {meth : Method} {c : Code} {s0 : State} {b0 : Nat} {D : va_G} {cB cI cJ cZ cS cP : ClassId} {A : Nat → Prop} {sk sv : Nat → Nat} {ad : Nat → Nat} (C0 : XCx p s s0 b0 m args meth c R_Pr b_Pr_clearHeap 9 none D cB cI cJ cZ cS cP A) (hE : ENV s0 b0 sk sv) (N : Nat) (G : (CS → Nat → Int32 → Int32 → Option (CS × Unit)) × (CS → Nat → Int32 → Int32 → Option Nat → Int32 → Int32 → Option (CS × Unit))) (hG : (∀ (u : CS) (v0 : Nat) (v1 : Int32) (v2 : Int32) (x : CS × Unit), G.1 u v0 v1 v2 = some x → ∀ (H : Heap) (locs : List Loc), va_P D cls (wC cB cI cJ cZ cS cP ad u) H → va_D A (wC cB cI cJ cZ cS cP ad u) → va_S A s.heap H locs → ∀ (ls : Array Slot), lv_has ls 9 [(0, .ref (ad v0)), (1, .int v1), (2, .int v2)] → W p l e rm_Pr_clearHeap s m args below meth c H locs 0 0 (MQ below (xQ0 D cB cI cJ cZ cS cP A ad x.1 none) args s 0 0 A) (F0 m 14 ls [])) ∧ (∀ (u : CS) (v0 : Nat) (v1 : Int32) (v2 : Int32) (v3 : Option Nat) (v4 : Int32) (v5 : Int32) (x : CS × Unit), G.2 u v0 v1 v2 v3 v4 v5 = some x → ∀ (H : Heap) (locs : List Loc), va_P D cls (wC cB cI cJ cZ cS cP ad u) H → va_D A (wC cB cI cJ cZ cS cP ad u) → va_S A s.heap H locs → ∀ (ls : Array Slot), lv_has ls 9 [(0, .ref (ad v0)), (1, .int v1), (2, .int v2), (3, va_rf (Option.map ad v3)), (4, .int v4), (5, .int v5)] → W p l e rm_Pr_clearHeap s m args below meth c H locs 0 0 (MQ below (xQ0 D cB cI cJ cZ cS cP A ad x.1 none) args s 0 0 A) (F0 m 112 ls []))) : ∀ (u : CS) (v0 : Nat) (v1 : Int32) (v2 : Int32) (t0 : Option Nat) (x : CS × Unit), fb_Pr_clearHeap_64 N G u v0 v1 v2 t0 = some x → ∀ (H : Heap) (locs : List Loc), va_P D cls (wC cB cI cJ cZ cS cP ad u) H → va_D A (wC cB cI cJ cZ cS cP ad u) → va_S A s.heap H locs → ∀ (ls : Array Slot), lv_has ls 9 [(0, .ref (ad v0)), (1, .int v1), (2, .int v2)] → W p l e rm_Pr_clearHeap s m args below meth c H locs 0 0 (MQ below (xQ0 D cB cI cJ cZ cS cP A ad x.1 none) args s 0 0 A) (F0 m 64 ls [va_rf (Option.map ad t0)]) := by
  intro u v0 v1 v2 t0 x hf H locs hP hD hS ls hl
  obtain ⟨hx, hb, hr, hml, ht, hown, hK, hA, hlocks, hA0, hO, hbs⟩ := id C0
  unfold fb_Pr_clearHeap_64 at hf
  refine x_astore_n (lv' := [(3, va_rf (Option.map ad t0)), (0, .ref (ad v0)), (1, .int v1), (2, .int v2)]) hx hb d_Pr_clearHeap_64 rfl hl (by decide) (by first | rfl | simp [List.filter, cat_rf]) (fun ls hl => ?_)
  refine lv_iload_n hx hb d_Pr_clearHeap_65 rfl (lv_at hl 3 rfl) ?_
  refine lv_if_ne (tgt := 79) hx hb d_Pr_clearHeap_66 (by decide) (fun hc => ?_) (fun hc => ?_)
  · rw [br_n _ hc] at hf
    refine lv_iload_n hx hb d_Pr_clearHeap_79 rfl (lv_at hl 3 rfl) ?_
    refine lv_iconst (v := 1) hx hb d_Pr_clearHeap_80 (by decide) ?_
    refine lv_icmp_ne (tgt := 94) hx hb d_Pr_clearHeap_81 (by decide) (fun hc => ?_) (fun hc => ?_)
    · rw [br_n _ hc] at hf
      refine lv_iload_n hx hb d_Pr_clearHeap_94 rfl (lv_at hl 3 rfl) ?_
      refine lv_iconst (v := 2) hx hb d_Pr_clearHeap_95 (by decide) ?_
      refine lv_icmp_ne (tgt := 106) hx hb d_Pr_clearHeap_96 (by decide) (fun hc => ?_) (fun hc => ?_)
      · rw [br_n _ hc] at hf
        refine lv_iconst (v := 0) hx hb d_Pr_clearHeap_106 (by decide) ?_
        exact wb_Pr_clearHeap_107 C0 hE N G hG _ _ _ _ _ _ _ hf H locs hP hD hS ls (lv_sub hl [1, 2, 3, 0] rfl)
      · rw [br_p _ hc] at hf
        refine lv_aload_n hx hb d_Pr_clearHeap_99 rfl (lv_at hl 1 rfl) ?_
        obtain ⟨r26, g26, hf⟩ := bo_some hf
        refine xg_I (i := v0) (k := 7) hx hb ht hown ck_Pr hK hP (by decide) fk_Pr_45 g26 d_Pr_clearHeap_100 ?_
        refine lv_goto (tgt := 107) hx hb d_Pr_clearHeap_103 (by decide) ?_
        exact wb_Pr_clearHeap_107 C0 hE N G hG _ _ _ _ _ _ _ hf H locs hP hD hS ls (lv_sub hl [1, 2, 3, 0] rfl)
    · rw [br_p _ hc] at hf
      refine lv_aload_n hx hb d_Pr_clearHeap_84 rfl (lv_at hl 1 rfl) ?_
      obtain ⟨r27, g27, hf⟩ := bo_some hf
      refine xg_R (i := v0) (k := 1) hx hb ht hown ck_Pr hK hP (by decide) fk_Pr_12 g27 d_Pr_clearHeap_85 ?_
      obtain ⟨j28, ej28, hf⟩ := bo_some hf
      rw [ej28]
      obtain ⟨r29, g29, hf⟩ := bo_some hf
      refine xg_I (i := j28) (k := 6) hx hb ht hown ck_Fr hK hP (by decide) fk_Pr_92 g29 d_Pr_clearHeap_88 ?_
      refine lv_goto (tgt := 107) hx hb d_Pr_clearHeap_91 (by decide) ?_
      exact wb_Pr_clearHeap_107 C0 hE N G hG _ _ _ _ _ _ _ hf H locs hP hD hS ls (lv_sub hl [1, 2, 3, 0] rfl)
  · rw [br_p _ hc] at hf
    refine lv_aload_n hx hb d_Pr_clearHeap_69 rfl (lv_at hl 1 rfl) ?_
    obtain ⟨r30, g30, hf⟩ := bo_some hf
    refine xg_R (i := v0) (k := 1) hx hb ht hown ck_Pr hK hP (by decide) fk_Pr_12 g30 d_Pr_clearHeap_70 ?_
    obtain ⟨j31, ej31, hf⟩ := bo_some hf
    rw [ej31]
    obtain ⟨r32, g32, hf⟩ := bo_some hf
    refine xg_I (i := j31) (k := 4) hx hb ht hown ck_Fr hK hP (by decide) fk_Pr_89 g32 d_Pr_clearHeap_73 ?_
    refine lv_goto (tgt := 107) hx hb d_Pr_clearHeap_76 (by decide) ?_
    exact wb_Pr_clearHeap_107 C0 hE N G hG _ _ _ _ _ _ _ hf H locs hP hD hS ls (lv_sub hl [1, 2, 3, 0] rfl)
def fb_Pr_clearHeap_14 (N : Nat) (G : (CS → Nat → Int32 → Int32 → Option (CS × Unit)) × (CS → Nat → Int32 → Int32 → Option Nat → Int32 → Int32 → Option (CS × Unit))) (u : CS) (v0 : Nat) (v1 : Int32) (v2 : Int32) : Option (CS × Unit) := br (decide (4 ≤ v2)) (bo (gR u v0 7 2) (fun r33 => bo (gR u v0 7 3) (fun r34 => bo (pF u v0 7 2 (.inr (.inr r34))) (fun w35 => bo (pF w35 v0 7 3 (.inr (.inr r33))) (fun w36 => bo (pF w36 v0 7 4 (.inl v1)) (fun w37 => some (w37, ()))))))) (br (decide (v2 = 0)) (bo (gR u v0 7 1) (fun r43 => bo r43 (fun j44 => bo (gR u j44 4 3) (fun r45 => fb_Pr_clearHeap_64 N G u (v0) (v1) (v2) (r45))))) (br (decide (v2 = 1)) (bo (gR u v0 7 1) (fun r40 => bo r40 (fun j41 => bo (gR u j41 4 5) (fun r42 => fb_Pr_clearHeap_64 N G u (v0) (v1) (v2) (r42))))) (br (decide (v2 = 2)) (bo (gR u v0 7 6) (fun r39 => fb_Pr_clearHeap_64 N G u (v0) (v1) (v2) (r39))) (bo (gR u v0 7 3) (fun r38 => fb_Pr_clearHeap_64 N G u (v0) (v1) (v2) (r38))))))
set_option maxRecDepth 100000 in
set_option maxHeartbeats 4000000 in
theorem wb_Pr_clearHeap_14 {p : Program} {l : Launch} {e : Env} {s : State} {m : MethodId} {args : Array Value} {below : List Frame} {meth : Method} {c : Code} {s0 : State} {b0 : Nat} {D : va_G} {cB cI cJ cZ cS cP : ClassId} {A : Nat → Prop} {sk sv : Nat → Nat} {ad : Nat → Nat} (C0 : XCx p s s0 b0 m args meth c R_Pr b_Pr_clearHeap 9 none D cB cI cJ cZ cS cP A) (hE : ENV s0 b0 sk sv) (N : Nat) (G : (CS → Nat → Int32 → Int32 → Option (CS × Unit)) × (CS → Nat → Int32 → Int32 → Option Nat → Int32 → Int32 → Option (CS × Unit))) (hG : (∀ (u : CS) (v0 : Nat) (v1 : Int32) (v2 : Int32) (x : CS × Unit), G.1 u v0 v1 v2 = some x → ∀ (H : Heap) (locs : List Loc), va_P D cls (wC cB cI cJ cZ cS cP ad u) H → va_D A (wC cB cI cJ cZ cS cP ad u) → va_S A s.heap H locs → ∀ (ls : Array Slot), lv_has ls 9 [(0, .ref (ad v0)), (1, .int v1), (2, .int v2)] → W p l e rm_Pr_clearHeap s m args below meth c H locs 0 0 (MQ below (xQ0 D cB cI cJ cZ cS cP A ad x.1 none) args s 0 0 A) (F0 m 14 ls [])) ∧ (∀ (u : CS) (v0 : Nat) (v1 : Int32) (v2 : Int32) (v3 : Option Nat) (v4 : Int32) (v5 : Int32) (x : CS × Unit), G.2 u v0 v1 v2 v3 v4 v5 = some x → ∀ (H : Heap) (locs : List Loc), va_P D cls (wC cB cI cJ cZ cS cP ad u) H → va_D A (wC cB cI cJ cZ cS cP ad u) → va_S A s.heap H locs → ∀ (ls : Array Slot), lv_has ls 9 [(0, .ref (ad v0)), (1, .int v1), (2, .int v2), (3, va_rf (Option.map ad v3)), (4, .int v4), (5, .int v5)] → W p l e rm_Pr_clearHeap s m args below meth c H locs 0 0 (MQ below (xQ0 D cB cI cJ cZ cS cP A ad x.1 none) args s 0 0 A) (F0 m 112 ls []))) : ∀ (u : CS) (v0 : Nat) (v1 : Int32) (v2 : Int32) (x : CS × Unit), fb_Pr_clearHeap_14 N G u v0 v1 v2 = some x → ∀ (H : Heap) (locs : List Loc), va_P D cls (wC cB cI cJ cZ cS cP ad u) H → va_D A (wC cB cI cJ cZ cS cP ad u) → va_S A s.heap H locs → ∀ (ls : Array Slot), lv_has ls 9 [(0, .ref (ad v0)), (1, .int v1), (2, .int v2)] → W p l e rm_Pr_clearHeap s m args below meth c H locs 0 0 (MQ below (xQ0 D cB cI cJ cZ cS cP A ad x.1 none) args s 0 0 A) (F0 m 14 ls []) := by
  intro u v0 v1 v2 x hf H locs hP hD hS ls hl
  obtain ⟨hx, hb, hr, hml, ht, hown, hK, hA, hlocks, hA0, hO, hbs⟩ := id C0
  unfold fb_Pr_clearHeap_14 at hf
  refine lv_iload_n hx hb d_Pr_clearHeap_14 rfl (lv_at hl 2 rfl) ?_
  refine lv_iconst (v := 4) hx hb d_Pr_clearHeap_15 (by decide) ?_
  refine lv_icmp_ge (tgt := 262) hx hb d_Pr_clearHeap_16 (by decide) (fun hc => ?_) (fun hc => ?_)
  · rw [br_p _ hc] at hf
    refine lv_aload_n hx hb d_Pr_clearHeap_262 rfl (lv_at hl 0 rfl) ?_
    obtain ⟨r33, g33, hf⟩ := bo_some hf
    refine xg_R (i := v0) (k := 2) hx hb ht hown ck_Pr hK hP (by decide) fk_Pr_18 g33 d_Pr_clearHeap_263 ?_
    refine x_astore_n (lv' := [(2, va_rf (Option.map ad r33)), (0, .ref (ad v0)), (1, .int v1)]) hx hb d_Pr_clearHeap_266 rfl hl (by decide) (by first | rfl | simp [List.filter, cat_rf]) (fun ls hl => ?_)
    refine lv_aload_n hx hb d_Pr_clearHeap_267 rfl (lv_at hl 1 rfl) ?_
    refine lv_aload_n hx hb d_Pr_clearHeap_268 rfl (lv_at hl 1 rfl) ?_
    obtain ⟨r34, g34, hf⟩ := bo_some hf
    refine xg_R (i := v0) (k := 3) hx hb ht hown ck_Pr hK hP (by decide) fk_Pr_22 g34 d_Pr_clearHeap_269 ?_
    obtain ⟨w35, g35, hf⟩ := bo_some hf
    refine xp (i := v0) (k := 2) (v := (.inr (.inr r34))) hx hb ht hown ck_Pr hK hP hD hS (by decide) fk_Pr_18 rfl g35 (show narrow (.array .long) (va_rf _) = va_rf _ from nr_arr _ _) (show fits (.array .long) (va_rf _) = true from ft_arr _ _) d_Pr_clearHeap_272 (fun H locs hP hD hS => ?_)
    refine lv_aload_n hx hb d_Pr_clearHeap_275 rfl (lv_at hl 1 rfl) ?_
    refine x_aload_n hx hb d_Pr_clearHeap_276 rfl (lv_at hl 0 rfl) ?_
    obtain ⟨w36, g36, hf⟩ := bo_some hf
    refine xp (i := v0) (k := 3) (v := (.inr (.inr r33))) hx hb ht hown ck_Pr hK hP hD hS (by decide) fk_Pr_22 rfl g36 (show narrow (.array .long) (va_rf _) = va_rf _ from nr_arr _ _) (show fits (.array .long) (va_rf _) = true from ft_arr _ _) d_Pr_clearHeap_277 (fun H locs hP hD hS => ?_)
    refine lv_aload_n hx hb d_Pr_clearHeap_280 rfl (lv_at hl 1 rfl) ?_
    refine lv_iload_n hx hb d_Pr_clearHeap_281 rfl (lv_at hl 2 rfl) ?_
    obtain ⟨w37, g37, hf⟩ := bo_some hf
    refine xp (i := v0) (k := 4) (v := (.inl v1)) hx hb ht hown ck_Pr hK hP hD hS (by decide) fk_Pr_39 rfl g37 rfl rfl d_Pr_clearHeap_282 (fun H locs hP hD hS => ?_)
    exact xr0_v C0 hP hD hS hf d_Pr_clearHeap_285
  · rw [br_n _ hc] at hf
    refine lv_iload_n hx hb d_Pr_clearHeap_19 rfl (lv_at hl 2 rfl) ?_
    refine lv_if_ne (tgt := 33) hx hb d_Pr_clearHeap_20 (by decide) (fun hc => ?_) (fun hc => ?_)
    · rw [br_n _ hc] at hf
      refine lv_iload_n hx hb d_Pr_clearHeap_33 rfl (lv_at hl 2 rfl) ?_
      refine lv_iconst (v := 1) hx hb d_Pr_clearHeap_34 (by decide) ?_
      refine lv_icmp_ne (tgt := 48) hx hb d_Pr_clearHeap_35 (by decide) (fun hc => ?_) (fun hc => ?_)
      · rw [br_n _ hc] at hf
        refine lv_iload_n hx hb d_Pr_clearHeap_48 rfl (lv_at hl 2 rfl) ?_
        refine lv_iconst (v := 2) hx hb d_Pr_clearHeap_49 (by decide) ?_
        refine lv_icmp_ne (tgt := 60) hx hb d_Pr_clearHeap_50 (by decide) (fun hc => ?_) (fun hc => ?_)
        · rw [br_n _ hc] at hf
          refine lv_aload_n hx hb d_Pr_clearHeap_60 rfl (lv_at hl 0 rfl) ?_
          obtain ⟨r38, g38, hf⟩ := bo_some hf
          refine xg_R (i := v0) (k := 3) hx hb ht hown ck_Pr hK hP (by decide) fk_Pr_22 g38 d_Pr_clearHeap_61 ?_
          exact wb_Pr_clearHeap_64 C0 hE N G hG _ _ _ _ _ _ hf H locs hP hD hS ls (lv_sub hl [0, 1, 2] rfl)
        · rw [br_p _ hc] at hf
          refine lv_aload_n hx hb d_Pr_clearHeap_53 rfl (lv_at hl 0 rfl) ?_
          obtain ⟨r39, g39, hf⟩ := bo_some hf
          refine xg_R (i := v0) (k := 6) hx hb ht hown ck_Pr hK hP (by decide) fk_Pr_25 g39 d_Pr_clearHeap_54 ?_
          refine lv_goto (tgt := 64) hx hb d_Pr_clearHeap_57 (by decide) ?_
          exact wb_Pr_clearHeap_64 C0 hE N G hG _ _ _ _ _ _ hf H locs hP hD hS ls (lv_sub hl [0, 1, 2] rfl)
      · rw [br_p _ hc] at hf
        refine lv_aload_n hx hb d_Pr_clearHeap_38 rfl (lv_at hl 0 rfl) ?_
        obtain ⟨r40, g40, hf⟩ := bo_some hf
        refine xg_R (i := v0) (k := 1) hx hb ht hown ck_Pr hK hP (by decide) fk_Pr_12 g40 d_Pr_clearHeap_39 ?_
        obtain ⟨j41, ej41, hf⟩ := bo_some hf
        rw [ej41]
        obtain ⟨r42, g42, hf⟩ := bo_some hf
        refine xg_R (i := j41) (k := 5) hx hb ht hown ck_Fr hK hP (by decide) fk_Pr_86 g42 d_Pr_clearHeap_42 ?_
        refine lv_goto (tgt := 64) hx hb d_Pr_clearHeap_45 (by decide) ?_
        exact wb_Pr_clearHeap_64 C0 hE N G hG _ _ _ _ _ _ hf H locs hP hD hS ls (lv_sub hl [0, 1, 2] rfl)
    · rw [br_p _ hc] at hf
      refine lv_aload_n hx hb d_Pr_clearHeap_23 rfl (lv_at hl 0 rfl) ?_
      obtain ⟨r43, g43, hf⟩ := bo_some hf
      refine xg_R (i := v0) (k := 1) hx hb ht hown ck_Pr hK hP (by decide) fk_Pr_12 g43 d_Pr_clearHeap_24 ?_
      obtain ⟨j44, ej44, hf⟩ := bo_some hf
      rw [ej44]
      obtain ⟨r45, g45, hf⟩ := bo_some hf
      refine xg_R (i := j44) (k := 3) hx hb ht hown ck_Fr hK hP (by decide) fk_Pr_83 g45 d_Pr_clearHeap_27 ?_
      refine lv_goto (tgt := 64) hx hb d_Pr_clearHeap_30 (by decide) ?_
      exact wb_Pr_clearHeap_64 C0 hE N G hG _ _ _ _ _ _ hf H locs hP hD hS ls (lv_sub hl [0, 1, 2] rfl)
def fb_Pr_clearHeap_0 (N : Nat) (G : (CS → Nat → Int32 → Int32 → Option (CS × Unit)) × (CS → Nat → Int32 → Int32 → Option Nat → Int32 → Int32 → Option (CS × Unit))) (u : CS) (v0 : Nat) : Option (CS × Unit) := bo (gI u v0 7 5) (fun r46 => bo (pF u v0 7 5 (.inl (r46 + 1))) (fun w47 => G.1 w47 (v0) (0) (0)))
set_option maxRecDepth 100000 in
set_option maxHeartbeats 4000000 in
theorem wb_Pr_clearHeap_0 {p : Program} {l : Launch} {e : Env} {s : State} {m : MethodId} {args : Array Value} {below : List Frame} {meth : Method} {c : Code} {s0 : State} {b0 : Nat} {D : va_G} {cB cI cJ cZ cS cP : ClassId} {A : Nat → Prop} {sk sv : Nat → Nat} {ad : Nat → Nat} (C0 : XCx p s s0 b0 m args meth c R_Pr b_Pr_clearHeap 9 none D cB cI cJ cZ cS cP A) (hE : ENV s0 b0 sk sv) (N : Nat) (G : (CS → Nat → Int32 → Int32 → Option (CS × Unit)) × (CS → Nat → Int32 → Int32 → Option Nat → Int32 → Int32 → Option (CS × Unit))) (hG : (∀ (u : CS) (v0 : Nat) (v1 : Int32) (v2 : Int32) (x : CS × Unit), G.1 u v0 v1 v2 = some x → ∀ (H : Heap) (locs : List Loc), va_P D cls (wC cB cI cJ cZ cS cP ad u) H → va_D A (wC cB cI cJ cZ cS cP ad u) → va_S A s.heap H locs → ∀ (ls : Array Slot), lv_has ls 9 [(0, .ref (ad v0)), (1, .int v1), (2, .int v2)] → W p l e rm_Pr_clearHeap s m args below meth c H locs 0 0 (MQ below (xQ0 D cB cI cJ cZ cS cP A ad x.1 none) args s 0 0 A) (F0 m 14 ls [])) ∧ (∀ (u : CS) (v0 : Nat) (v1 : Int32) (v2 : Int32) (v3 : Option Nat) (v4 : Int32) (v5 : Int32) (x : CS × Unit), G.2 u v0 v1 v2 v3 v4 v5 = some x → ∀ (H : Heap) (locs : List Loc), va_P D cls (wC cB cI cJ cZ cS cP ad u) H → va_D A (wC cB cI cJ cZ cS cP ad u) → va_S A s.heap H locs → ∀ (ls : Array Slot), lv_has ls 9 [(0, .ref (ad v0)), (1, .int v1), (2, .int v2), (3, va_rf (Option.map ad v3)), (4, .int v4), (5, .int v5)] → W p l e rm_Pr_clearHeap s m args below meth c H locs 0 0 (MQ below (xQ0 D cB cI cJ cZ cS cP A ad x.1 none) args s 0 0 A) (F0 m 112 ls []))) : ∀ (u : CS) (v0 : Nat) (x : CS × Unit), fb_Pr_clearHeap_0 N G u v0 = some x → ∀ (H : Heap) (locs : List Loc), va_P D cls (wC cB cI cJ cZ cS cP ad u) H → va_D A (wC cB cI cJ cZ cS cP ad u) → va_S A s.heap H locs → ∀ (ls : Array Slot), lv_has ls 9 [(0, .ref (ad v0))] → W p l e rm_Pr_clearHeap s m args below meth c H locs 0 0 (MQ below (xQ0 D cB cI cJ cZ cS cP A ad x.1 none) args s 0 0 A) (F0 m 0 ls []) := by
  intro u v0 x hf H locs hP hD hS ls hl
  obtain ⟨hx, hb, hr, hml, ht, hown, hK, hA, hlocks, hA0, hO, hbs⟩ := id C0
  unfold fb_Pr_clearHeap_0 at hf
  refine lv_aload_n hx hb d_Pr_clearHeap_0 rfl (lv_at hl 0 rfl) ?_
  refine lv_dup hx hb d_Pr_clearHeap_1 rfl ?_
  obtain ⟨r46, g46, hf⟩ := bo_some hf
  refine xg_I (i := v0) (k := 5) hx hb ht hown ck_Pr hK hP (by decide) fk_Pr_42 g46 d_Pr_clearHeap_2 ?_
  refine lv_iconst (v := 1) hx hb d_Pr_clearHeap_5 (by decide) ?_
  refine lv_iadd hx hb d_Pr_clearHeap_6 ?_
  obtain ⟨w47, g47, hf⟩ := bo_some hf
  refine xp (i := v0) (k := 5) (v := (.inl (r46 + 1))) hx hb ht hown ck_Pr hK hP hD hS (by decide) fk_Pr_42 rfl g47 rfl rfl d_Pr_clearHeap_7 (fun H locs hP hD hS => ?_)
  refine lv_iconst (v := 0) hx hb d_Pr_clearHeap_10 (by decide) ?_
  refine lv_istore_n (lv' := [(1, .int 0), (0, .ref (ad v0))]) hx hb d_Pr_clearHeap_11 rfl hl (by decide) (by first | rfl | simp [List.filter, cat_rf]) (fun ls hl => ?_)
  refine lv_iconst (v := 0) hx hb d_Pr_clearHeap_12 (by decide) ?_
  refine lv_istore_n (lv' := [(2, .int 0), (1, .int 0), (0, .ref (ad v0))]) hx hb d_Pr_clearHeap_13 rfl hl (by decide) (by first | rfl | simp [List.filter, cat_rf]) (fun ls hl => ?_)
  exact hG.1 _ _ _ _ _ hf H locs hP hD hS ls (lv_sub hl [2, 1, 0] rfl)
def gg_Pr_clearHeap (N : Nat) : Nat → ((CS → Nat → Int32 → Int32 → Option (CS × Unit)) × (CS → Nat → Int32 → Int32 → Option Nat → Int32 → Int32 → Option (CS × Unit)))
  | 0 => (fun _ _ _ _ => none, fun _ _ _ _ _ _ _ => none)
  | n + 1 => (fb_Pr_clearHeap_14 N (gg_Pr_clearHeap N n), fb_Pr_clearHeap_112 N (gg_Pr_clearHeap N n))
theorem wg_Pr_clearHeap {p : Program} {l : Launch} {e : Env} {s : State} {m : MethodId} {args : Array Value} {below : List Frame} {meth : Method} {c : Code} {s0 : State} {b0 : Nat} {D : va_G} {cB cI cJ cZ cS cP : ClassId} {A : Nat → Prop} {sk sv : Nat → Nat} {ad : Nat → Nat} (C0 : XCx p s s0 b0 m args meth c R_Pr b_Pr_clearHeap 9 none D cB cI cJ cZ cS cP A) (hE : ENV s0 b0 sk sv) (N : Nat) : ∀ n : Nat, (∀ (u : CS) (v0 : Nat) (v1 : Int32) (v2 : Int32) (x : CS × Unit), (gg_Pr_clearHeap N n).1 u v0 v1 v2 = some x → ∀ (H : Heap) (locs : List Loc), va_P D cls (wC cB cI cJ cZ cS cP ad u) H → va_D A (wC cB cI cJ cZ cS cP ad u) → va_S A s.heap H locs → ∀ (ls : Array Slot), lv_has ls 9 [(0, .ref (ad v0)), (1, .int v1), (2, .int v2)] → W p l e rm_Pr_clearHeap s m args below meth c H locs 0 0 (MQ below (xQ0 D cB cI cJ cZ cS cP A ad x.1 none) args s 0 0 A) (F0 m 14 ls [])) ∧ (∀ (u : CS) (v0 : Nat) (v1 : Int32) (v2 : Int32) (v3 : Option Nat) (v4 : Int32) (v5 : Int32) (x : CS × Unit), (gg_Pr_clearHeap N n).2 u v0 v1 v2 v3 v4 v5 = some x → ∀ (H : Heap) (locs : List Loc), va_P D cls (wC cB cI cJ cZ cS cP ad u) H → va_D A (wC cB cI cJ cZ cS cP ad u) → va_S A s.heap H locs → ∀ (ls : Array Slot), lv_has ls 9 [(0, .ref (ad v0)), (1, .int v1), (2, .int v2), (3, va_rf (Option.map ad v3)), (4, .int v4), (5, .int v5)] → W p l e rm_Pr_clearHeap s m args below meth c H locs 0 0 (MQ below (xQ0 D cB cI cJ cZ cS cP A ad x.1 none) args s 0 0 A) (F0 m 112 ls []))
  | 0 => ⟨(fun u v0 v1 v2 x hf => by cases hf), (fun u v0 v1 v2 v3 v4 v5 x hf => by cases hf)⟩
  | n + 1 => ⟨wb_Pr_clearHeap_14 C0 hE N (gg_Pr_clearHeap N n) (wg_Pr_clearHeap C0 hE N n), wb_Pr_clearHeap_112 C0 hE N (gg_Pr_clearHeap N n) (wg_Pr_clearHeap C0 hE N n)⟩
def fm_Pr_clearHeap (N : Nat) (u : CS) (v0 : Nat) : Option (CS × Unit) := fb_Pr_clearHeap_0 N (gg_Pr_clearHeap N N) u v0
set_option maxRecDepth 100000 in
set_option maxHeartbeats 4000000 in
theorem c_Pr_clearHeap (N : Nat) {l : Launch} {s0 : State} {b0 : Nat} {D : va_G} {cB cI cJ cZ cS cP : ClassId} {sk sv : Nat → Nat} {ad : Nat → Nat} {u : CS} {sz : Nat} {v0 : Nat} {x : CS × Unit} (hE : ENV s0 b0 sk sv) (hf : fm_Pr_clearHeap N u v0 = some x) : Met l y_Pr_clearHeap (wd_ws y_Pr_clearHeap b_Pr_clearHeap 9 none) rm_Pr_clearHeap (xPc s0 b0 D cB cI cJ cZ cS cP ad u sz [.ref (ad v0)]) (xQ0 D cB cI cJ cZ cS cP (xA cB cI cJ cZ cS cP ad u sz) ad x.1 none) 0 0 (xA cB cI cJ cZ cS cP ad u sz) :=
  xMet (by decide) rfl (Nat.le_of_ble_eq_true rfl) (fun p e s m below meth c ls hsz hnm C0 hP hD hS hl =>
    wb_Pr_clearHeap_0 C0 hE N (gg_Pr_clearHeap N N) (wg_Pr_clearHeap C0 hE N N) u _ x hf s.heap [] hP hD hS ls (lv_sub hl [0] rfl))
abbrev b_Pr_want : ByteArray := prog_7_method_3_code
def y_Pr_want : MethodName := ⟨R_Pr, "want", "(I)Z"⟩
def w_Pr_want : List Cond := wd_ws y_Pr_want b_Pr_want 2 (some .boolean)
set_option maxRecDepth 100000 in
theorem k_Pr_want : Cond.code y_Pr_want b_Pr_want 2 (some .boolean) ∈ wd_tbl := wd_of 1695 rfl rfl
theorem d_Pr_want_0 : decode b_Pr_want 0 = .ok (.aload_n 0, 1) := by decide +kernel
theorem d_Pr_want_1 : decode b_Pr_want 1 = .ok (.getfield 39, 3) := by decide +kernel
theorem d_Pr_want_4 : decode b_Pr_want 4 = .ok (.iload_n 1, 1) := by decide +kernel
theorem d_Pr_want_5 : decode b_Pr_want 5 = .ok (.iadd, 1) := by decide +kernel
theorem d_Pr_want_6 : decode b_Pr_want 6 = .ok (.sipush 500, 3) := by decide +kernel
theorem d_Pr_want_9 : decode b_Pr_want 9 = .ok (.if_icmp .le 7, 3) := by decide +kernel
theorem d_Pr_want_12 : decode b_Pr_want 12 = .ok (.aload_n 0, 1) := by decide +kernel
theorem d_Pr_want_13 : decode b_Pr_want 13 = .ok (.invokevirtual 80, 3) := by decide +kernel
theorem d_Pr_want_16 : decode b_Pr_want 16 = .ok (.aload_n 0, 1) := by decide +kernel
theorem d_Pr_want_17 : decode b_Pr_want 17 = .ok (.getfield 39, 3) := by decide +kernel
theorem d_Pr_want_20 : decode b_Pr_want 20 = .ok (.iload_n 1, 1) := by decide +kernel
theorem d_Pr_want_21 : decode b_Pr_want 21 = .ok (.iadd, 1) := by decide +kernel
theorem d_Pr_want_22 : decode b_Pr_want 22 = .ok (.sipush 500, 3) := by decide +kernel
theorem d_Pr_want_25 : decode b_Pr_want 25 = .ok (.if_icmp .gt 7, 3) := by decide +kernel
theorem d_Pr_want_28 : decode b_Pr_want 28 = .ok (.iconst 1, 1) := by decide +kernel
theorem d_Pr_want_29 : decode b_Pr_want 29 = .ok (.goto 4, 3) := by decide +kernel
theorem d_Pr_want_32 : decode b_Pr_want 32 = .ok (.iconst 0, 1) := by decide +kernel
theorem d_Pr_want_33 : decode b_Pr_want 33 = .ok (.ireturn, 1) := by decide +kernel
set_option maxRecDepth 100000 in
theorem hi_Pr_want : Cond.instanceMethod y_Pr_want ∈ wd_tbl := wd_of 1693 (by decide +kernel) rfl
set_option maxRecDepth 100000 in
theorem hs_Pr_want : Cond.selects R_Pr y_Pr_want y_Pr_want ∈ wd_tbl := wd_of 1694 (by decide +kernel) rfl
theorem hd_Pr_want : y_Pr_want.cls = R_Pr ∧ y_Pr_want.cls ≠ "java/lang/invoke/MethodHandle" ∧ y_Pr_want.cls ≠ "java/lang/invoke/VarHandle" ∧ (parseMethodDescriptor y_Pr_want.desc).map (fun d => d.parameters.length) = some 1 := by decide +kernel
def rm_Pr_want : Room := { frames := 2, cells := 0, slots := 0, locals := 76 }
theorem rm_Pr_want_Pr_clearHeap : (rm_Pr_clearHeap).frames + 1 ≤ rm_Pr_want.frames ∧ 8 + (9 + 11) + (rm_Pr_clearHeap).locals ≤ rm_Pr_want.locals := by
  show 1 + 1 ≤ 2 ∧ 8 + (9 + 11) + 48 ≤ 76
  decide
def fb_Pr_want_33 (N : Nat) (G : Unit) (u : CS) (t0 : Int32) : Option (CS × Int32) := ck (isb t0) (some (u, t0))
set_option maxRecDepth 100000 in
set_option maxHeartbeats 4000000 in
theorem wb_Pr_want_33 {p : Program} {l : Launch} {e : Env} {s : State} {m : MethodId} {args : Array Value} {below : List Frame} {meth : Method} {c : Code} {s0 : State} {b0 : Nat} {D : va_G} {cB cI cJ cZ cS cP : ClassId} {A : Nat → Prop} {sk sv : Nat → Nat} {ad : Nat → Nat} (C0 : XCx p s s0 b0 m args meth c R_Pr b_Pr_want 2 (some .boolean) D cB cI cJ cZ cS cP A) (hE : ENV s0 b0 sk sv) (N : Nat) (G : Unit) (hG : True) : ∀ (u : CS) (t0 : Int32) (x : CS × Int32), fb_Pr_want_33 N G u t0 = some x → ∀ (H : Heap) (locs : List Loc), va_P D cls (wC cB cI cJ cZ cS cP ad u) H → va_D A (wC cB cI cJ cZ cS cP ad u) → va_S A s.heap H locs → ∀ (ls : Array Slot), lv_has ls 2 [] → W p l e rm_Pr_want s m args below meth c H locs 0 0 (MQ below (xQ0 D cB cI cJ cZ cS cP A ad x.1 (some (.inl x.2))) args s 0 0 A) (F0 m 33 ls [.int t0]) := by
  intro u t0 x hf H locs hP hD hS ls hl
  obtain ⟨hx, hb, hr, hml, ht, hown, hK, hA, hlocks, hA0, hO, hbs⟩ := id C0
  unfold fb_Pr_want_33 at hf
  obtain ⟨hz, hf⟩ := ck_some hf
  exact xr0_z C0 hP hD hS hz hf d_Pr_want_33
def fb_Pr_want_16 (N : Nat) (G : Unit) (u : CS) (v0 : Nat) (v1 : Int32) : Option (CS × Int32) := bo (gI u v0 7 4) (fun r1 => br (decide (500 < (r1 + v1))) (fb_Pr_want_33 N G u (0)) (fb_Pr_want_33 N G u (1)))
set_option maxRecDepth 100000 in
set_option maxHeartbeats 4000000 in
theorem wb_Pr_want_16 {p : Program} {l : Launch} {e : Env} {s : State} {m : MethodId} {args : Array Value} {below : List Frame} {meth : Method} {c : Code} {s0 : State} {b0 : Nat} {D : va_G} {cB cI cJ cZ cS cP : ClassId} {A : Nat → Prop} {sk sv : Nat → Nat} {ad : Nat → Nat} (C0 : XCx p s s0 b0 m args meth c R_Pr b_Pr_want 2 (some .boolean) D cB cI cJ cZ cS cP A) (hE : ENV s0 b0 sk sv) (N : Nat) (G : Unit) (hG : True) : ∀ (u : CS) (v0 : Nat) (v1 : Int32) (x : CS × Int32), fb_Pr_want_16 N G u v0 v1 = some x → ∀ (H : Heap) (locs : List Loc), va_P D cls (wC cB cI cJ cZ cS cP ad u) H → va_D A (wC cB cI cJ cZ cS cP ad u) → va_S A s.heap H locs → ∀ (ls : Array Slot), lv_has ls 2 [(0, .ref (ad v0)), (1, .int v1)] → W p l e rm_Pr_want s m args below meth c H locs 0 0 (MQ below (xQ0 D cB cI cJ cZ cS cP A ad x.1 (some (.inl x.2))) args s 0 0 A) (F0 m 16 ls []) := by
  intro u v0 v1 x hf H locs hP hD hS ls hl
  obtain ⟨hx, hb, hr, hml, ht, hown, hK, hA, hlocks, hA0, hO, hbs⟩ := id C0
  unfold fb_Pr_want_16 at hf
  refine lv_aload_n hx hb d_Pr_want_16 rfl (lv_at hl 0 rfl) ?_
  obtain ⟨r1, g1, hf⟩ := bo_some hf
  refine xg_I (i := v0) (k := 4) hx hb ht hown ck_Pr hK hP (by decide) fk_Pr_39 g1 d_Pr_want_17 ?_
  refine lv_iload_n hx hb d_Pr_want_20 rfl (lv_at hl 1 rfl) ?_
  refine lv_iadd hx hb d_Pr_want_21 ?_
  refine lv_sipush (v := 500) hx hb d_Pr_want_22 (by decide) ?_
  refine lv_icmp_gt (tgt := 32) hx hb d_Pr_want_25 (by decide) (fun hc => ?_) (fun hc => ?_)
  · rw [br_p _ hc] at hf
    refine lv_iconst (v := 0) hx hb d_Pr_want_32 (by decide) ?_
    exact wb_Pr_want_33 C0 hE N G hG _ _ _ hf H locs hP hD hS ls (lv_sub hl [] rfl)
  · rw [br_n _ hc] at hf
    refine lv_iconst (v := 1) hx hb d_Pr_want_28 (by decide) ?_
    refine lv_goto (tgt := 33) hx hb d_Pr_want_29 (by decide) ?_
    exact wb_Pr_want_33 C0 hE N G hG _ _ _ hf H locs hP hD hS ls (lv_sub hl [] rfl)
def fb_Pr_want_0 (N : Nat) (G : Unit) (u : CS) (v0 : Nat) (v1 : Int32) : Option (CS × Int32) := bo (gI u v0 7 4) (fun r2 => br (decide ((r2 + v1) ≤ 500)) (fb_Pr_want_16 N G u (v0) (v1)) (ck (isO u v0 7) (bx (fm_Pr_clearHeap N u v0) (fun u3 r3 => fb_Pr_want_16 N G u3 (v0) (v1)))))
set_option maxRecDepth 100000 in
set_option maxHeartbeats 4000000 in
theorem wb_Pr_want_0 {p : Program} {l : Launch} {e : Env} {s : State} {m : MethodId} {args : Array Value} {below : List Frame} {meth : Method} {c : Code} {s0 : State} {b0 : Nat} {D : va_G} {cB cI cJ cZ cS cP : ClassId} {A : Nat → Prop} {sk sv : Nat → Nat} {ad : Nat → Nat} (C0 : XCx p s s0 b0 m args meth c R_Pr b_Pr_want 2 (some .boolean) D cB cI cJ cZ cS cP A) (hE : ENV s0 b0 sk sv) (N : Nat) (G : Unit) (hG : True) : ∀ (u : CS) (v0 : Nat) (v1 : Int32) (x : CS × Int32), fb_Pr_want_0 N G u v0 v1 = some x → ∀ (H : Heap) (locs : List Loc), va_P D cls (wC cB cI cJ cZ cS cP ad u) H → va_D A (wC cB cI cJ cZ cS cP ad u) → va_S A s.heap H locs → ∀ (ls : Array Slot), lv_has ls 2 [(0, .ref (ad v0)), (1, .int v1)] → W p l e rm_Pr_want s m args below meth c H locs 0 0 (MQ below (xQ0 D cB cI cJ cZ cS cP A ad x.1 (some (.inl x.2))) args s 0 0 A) (F0 m 0 ls []) := by
  intro u v0 v1 x hf H locs hP hD hS ls hl
  obtain ⟨hx, hb, hr, hml, ht, hown, hK, hA, hlocks, hA0, hO, hbs⟩ := id C0
  unfold fb_Pr_want_0 at hf
  refine lv_aload_n hx hb d_Pr_want_0 rfl (lv_at hl 0 rfl) ?_
  obtain ⟨r2, g2, hf⟩ := bo_some hf
  refine xg_I (i := v0) (k := 4) hx hb ht hown ck_Pr hK hP (by decide) fk_Pr_39 g2 d_Pr_want_1 ?_
  refine lv_iload_n hx hb d_Pr_want_4 rfl (lv_at hl 1 rfl) ?_
  refine lv_iadd hx hb d_Pr_want_5 ?_
  refine lv_sipush (v := 500) hx hb d_Pr_want_6 (by decide) ?_
  refine lv_icmp_le (tgt := 16) hx hb d_Pr_want_9 (by decide) (fun hc => ?_) (fun hc => ?_)
  · rw [br_p _ hc] at hf
    exact wb_Pr_want_16 C0 hE N G hG _ _ _ _ hf H locs hP hD hS ls (lv_sub hl [0, 1] rfl)
  · rw [br_n _ hc] at hf
    refine lv_aload_n hx hb d_Pr_want_12 rfl (lv_at hl 0 rfl) ?_
    obtain ⟨hO9, hf⟩ := ck_some hf
    obtain ⟨u3, r3, hc3, hf⟩ := bx_some hf
    refine xV0 (i := v0) (As := []) (rest := []) C0 hP hD hS ck_Pr hO9 (c_Pr_clearHeap N hE hc3) k_Pr_clearHeap (wd_of 1696 (by decide +kernel) rfl) hi_Pr_clearHeap hs_Pr_clearHeap hini_Pr rfl rfl hd_Pr_clearHeap rfl rm_Pr_want_Pr_clearHeap hl.1 (Nat.le_of_ble_eq_true rfl) d_Pr_want_13 rfl ⟨Nat.zero_le _, Nat.zero_le _⟩ (fun H locs hP hD hS => ?_)
    exact wb_Pr_want_16 C0 hE N G hG _ _ _ _ hf H locs hP hD hS ls (lv_sub hl [0, 1] rfl)
def fm_Pr_want (N : Nat) (u : CS) (v0 : Nat) (v1 : Int32) : Option (CS × Int32) := fb_Pr_want_0 N () u v0 v1
set_option maxRecDepth 100000 in
set_option maxHeartbeats 4000000 in
theorem c_Pr_want (N : Nat) {l : Launch} {s0 : State} {b0 : Nat} {D : va_G} {cB cI cJ cZ cS cP : ClassId} {sk sv : Nat → Nat} {ad : Nat → Nat} {u : CS} {sz : Nat} {v0 : Nat} {v1 : Int32} {x : CS × Int32} (hE : ENV s0 b0 sk sv) (hf : fm_Pr_want N u v0 v1 = some x) : Met l y_Pr_want (wd_ws y_Pr_want b_Pr_want 2 (some .boolean)) rm_Pr_want (xPc s0 b0 D cB cI cJ cZ cS cP ad u sz [.ref (ad v0), .int v1]) (xQ0 D cB cI cJ cZ cS cP (xA cB cI cJ cZ cS cP ad u sz) ad x.1 (some (.inl x.2))) 0 0 (xA cB cI cJ cZ cS cP ad u sz) :=
  xMet (by decide) rfl (Nat.le_of_ble_eq_true rfl) (fun p e s m below meth c ls hsz hnm C0 hP hD hS hl =>
    wb_Pr_want_0 C0 hE N () trivial u _ _ x hf s.heap [] hP hD hS ls (lv_sub hl [0, 1] rfl))
abbrev b_Pr_copyIn : ByteArray := prog_7_method_5_code
def y_Pr_copyIn : MethodName := ⟨R_Pr, "copyIn", "([JJ)J"⟩
def w_Pr_copyIn : List Cond := wd_ws y_Pr_copyIn b_Pr_copyIn 13 (some .long)
set_option maxRecDepth 100000 in
theorem k_Pr_copyIn : Cond.code y_Pr_copyIn b_Pr_copyIn 13 (some .long) ∈ wd_tbl := wd_of 1706 rfl rfl
theorem d_Pr_copyIn_0 : decode b_Pr_copyIn 0 = .ok (.lload_n 2, 1) := by decide +kernel
theorem d_Pr_copyIn_1 : decode b_Pr_copyIn 1 = .ok (.lstore 4, 2) := by decide +kernel
theorem d_Pr_copyIn_3 : decode b_Pr_copyIn 3 = .ok (.aload_n 0, 1) := by decide +kernel
theorem d_Pr_copyIn_4 : decode b_Pr_copyIn 4 = .ok (.getfield 39, 3) := by decide +kernel
theorem d_Pr_copyIn_7 : decode b_Pr_copyIn 7 = .ok (.istore 6, 2) := by decide +kernel
theorem d_Pr_copyIn_9 : decode b_Pr_copyIn 9 = .ok (.iload 6, 2) := by decide +kernel
theorem d_Pr_copyIn_11 : decode b_Pr_copyIn 11 = .ok (.iconst 1, 1) := by decide +kernel
theorem d_Pr_copyIn_12 : decode b_Pr_copyIn 12 = .ok (.isub, 1) := by decide +kernel
theorem d_Pr_copyIn_13 : decode b_Pr_copyIn 13 = .ok (.istore 7, 2) := by decide +kernel
theorem d_Pr_copyIn_15 : decode b_Pr_copyIn 15 = .ok (.iload 7, 2) := by decide +kernel
theorem d_Pr_copyIn_17 : decode b_Pr_copyIn 17 = .ok (.aload_n 0, 1) := by decide +kernel
theorem d_Pr_copyIn_18 : decode b_Pr_copyIn 18 = .ok (.getfield 39, 3) := by decide +kernel
theorem d_Pr_copyIn_21 : decode b_Pr_copyIn 21 = .ok (.if_icmp .ge 125, 3) := by decide +kernel
theorem d_Pr_copyIn_24 : decode b_Pr_copyIn 24 = .ok (.iload 7, 2) := by decide +kernel
theorem d_Pr_copyIn_26 : decode b_Pr_copyIn 26 = .ok (.iload 6, 2) := by decide +kernel
theorem d_Pr_copyIn_28 : decode b_Pr_copyIn 28 = .ok (.if_icmp .ge 7, 3) := by decide +kernel
theorem d_Pr_copyIn_31 : decode b_Pr_copyIn 31 = .ok (.lload_n 2, 1) := by decide +kernel
theorem d_Pr_copyIn_32 : decode b_Pr_copyIn 32 = .ok (.goto 10, 3) := by decide +kernel
theorem d_Pr_copyIn_35 : decode b_Pr_copyIn 35 = .ok (.aload_n 0, 1) := by decide +kernel
theorem d_Pr_copyIn_36 : decode b_Pr_copyIn 36 = .ok (.getfield 18, 3) := by decide +kernel
theorem d_Pr_copyIn_39 : decode b_Pr_copyIn 39 = .ok (.iload 7, 2) := by decide +kernel
theorem d_Pr_copyIn_41 : decode b_Pr_copyIn 41 = .ok (.laload, 1) := by decide +kernel
theorem d_Pr_copyIn_42 : decode b_Pr_copyIn 42 = .ok (.lstore 8, 2) := by decide +kernel
theorem d_Pr_copyIn_44 : decode b_Pr_copyIn 44 = .ok (.aload_n 1, 1) := by decide +kernel
theorem d_Pr_copyIn_45 : decode b_Pr_copyIn 45 = .ok (.lload 8, 2) := by decide +kernel
theorem d_Pr_copyIn_47 : decode b_Pr_copyIn 47 = .ok (.invokestatic 97, 3) := by decide +kernel
theorem d_Pr_copyIn_50 : decode b_Pr_copyIn 50 = .ok (.istore 10, 2) := by decide +kernel
theorem d_Pr_copyIn_52 : decode b_Pr_copyIn 52 = .ok (.iload 10, 2) := by decide +kernel
theorem d_Pr_copyIn_54 : decode b_Pr_copyIn 54 = .ok (.ifCond .eq 86, 3) := by decide +kernel
theorem d_Pr_copyIn_57 : decode b_Pr_copyIn 57 = .ok (.aload_n 0, 1) := by decide +kernel
theorem d_Pr_copyIn_58 : decode b_Pr_copyIn 58 = .ok (.getfield 39, 3) := by decide +kernel
theorem d_Pr_copyIn_61 : decode b_Pr_copyIn 61 = .ok (.iload 10, 2) := by decide +kernel
theorem d_Pr_copyIn_63 : decode b_Pr_copyIn 63 = .ok (.iadd, 1) := by decide +kernel
theorem d_Pr_copyIn_64 : decode b_Pr_copyIn 64 = .ok (.sipush 512, 3) := by decide +kernel
theorem d_Pr_copyIn_67 : decode b_Pr_copyIn 67 = .ok (.if_icmp .le 6, 3) := by decide +kernel
theorem d_Pr_copyIn_70 : decode b_Pr_copyIn 70 = .ok (.goto 70, 3) := by decide +kernel
theorem d_Pr_copyIn_73 : decode b_Pr_copyIn 73 = .ok (.lload 8, 2) := by decide +kernel
theorem d_Pr_copyIn_75 : decode b_Pr_copyIn 75 = .ok (.bipush 32, 2) := by decide +kernel
theorem d_Pr_copyIn_77 : decode b_Pr_copyIn 77 = .ok (.lshr, 1) := by decide +kernel
theorem d_Pr_copyIn_78 : decode b_Pr_copyIn 78 = .ok (.bipush 32, 2) := by decide +kernel
theorem d_Pr_copyIn_80 : decode b_Pr_copyIn 80 = .ok (.lshl, 1) := by decide +kernel
theorem d_Pr_copyIn_81 : decode b_Pr_copyIn 81 = .ok (.aload_n 0, 1) := by decide +kernel
theorem d_Pr_copyIn_82 : decode b_Pr_copyIn 82 = .ok (.getfield 39, 3) := by decide +kernel
theorem d_Pr_copyIn_85 : decode b_Pr_copyIn 85 = .ok (.i2l, 1) := by decide +kernel
theorem d_Pr_copyIn_86 : decode b_Pr_copyIn 86 = .ok (.lor, 1) := by decide +kernel
theorem d_Pr_copyIn_87 : decode b_Pr_copyIn 87 = .ok (.lstore 11, 2) := by decide +kernel
theorem d_Pr_copyIn_89 : decode b_Pr_copyIn 89 = .ok (.aload_n 1, 1) := by decide +kernel
theorem d_Pr_copyIn_90 : decode b_Pr_copyIn 90 = .ok (.lload 8, 2) := by decide +kernel
theorem d_Pr_copyIn_92 : decode b_Pr_copyIn 92 = .ok (.l2i, 1) := by decide +kernel
theorem d_Pr_copyIn_93 : decode b_Pr_copyIn 93 = .ok (.aload_n 0, 1) := by decide +kernel
theorem d_Pr_copyIn_94 : decode b_Pr_copyIn 94 = .ok (.getfield 18, 3) := by decide +kernel
theorem d_Pr_copyIn_97 : decode b_Pr_copyIn 97 = .ok (.aload_n 0, 1) := by decide +kernel
theorem d_Pr_copyIn_98 : decode b_Pr_copyIn 98 = .ok (.getfield 39, 3) := by decide +kernel
theorem d_Pr_copyIn_101 : decode b_Pr_copyIn 101 = .ok (.iload 10, 2) := by decide +kernel
theorem d_Pr_copyIn_103 : decode b_Pr_copyIn 103 = .ok (.invokestatic 101, 3) := by decide +kernel
theorem d_Pr_copyIn_106 : decode b_Pr_copyIn 106 = .ok (.aload_n 0, 1) := by decide +kernel
theorem d_Pr_copyIn_107 : decode b_Pr_copyIn 107 = .ok (.dup, 1) := by decide +kernel
theorem d_Pr_copyIn_108 : decode b_Pr_copyIn 108 = .ok (.getfield 39, 3) := by decide +kernel
theorem d_Pr_copyIn_111 : decode b_Pr_copyIn 111 = .ok (.iload 10, 2) := by decide +kernel
theorem d_Pr_copyIn_113 : decode b_Pr_copyIn 113 = .ok (.iadd, 1) := by decide +kernel
theorem d_Pr_copyIn_114 : decode b_Pr_copyIn 114 = .ok (.putfield 39, 3) := by decide +kernel
theorem d_Pr_copyIn_117 : decode b_Pr_copyIn 117 = .ok (.iload 7, 2) := by decide +kernel
theorem d_Pr_copyIn_119 : decode b_Pr_copyIn 119 = .ok (.iload 6, 2) := by decide +kernel
theorem d_Pr_copyIn_121 : decode b_Pr_copyIn 121 = .ok (.if_icmp .ge 10, 3) := by decide +kernel
theorem d_Pr_copyIn_124 : decode b_Pr_copyIn 124 = .ok (.lload 11, 2) := by decide +kernel
theorem d_Pr_copyIn_126 : decode b_Pr_copyIn 126 = .ok (.lstore 4, 2) := by decide +kernel
theorem d_Pr_copyIn_128 : decode b_Pr_copyIn 128 = .ok (.goto 12, 3) := by decide +kernel
theorem d_Pr_copyIn_131 : decode b_Pr_copyIn 131 = .ok (.aload_n 0, 1) := by decide +kernel
theorem d_Pr_copyIn_132 : decode b_Pr_copyIn 132 = .ok (.getfield 18, 3) := by decide +kernel
theorem d_Pr_copyIn_135 : decode b_Pr_copyIn 135 = .ok (.iload 7, 2) := by decide +kernel
theorem d_Pr_copyIn_137 : decode b_Pr_copyIn 137 = .ok (.lload 11, 2) := by decide +kernel
theorem d_Pr_copyIn_139 : decode b_Pr_copyIn 139 = .ok (.lastore, 1) := by decide +kernel
theorem d_Pr_copyIn_140 : decode b_Pr_copyIn 140 = .ok (.iinc 7 1, 3) := by decide +kernel
theorem d_Pr_copyIn_143 : decode b_Pr_copyIn 143 = .ok (.goto (-128), 3) := by decide +kernel
theorem d_Pr_copyIn_146 : decode b_Pr_copyIn 146 = .ok (.lload 4, 2) := by decide +kernel
theorem d_Pr_copyIn_148 : decode b_Pr_copyIn 148 = .ok (.lreturn, 1) := by decide +kernel
set_option maxRecDepth 100000 in
theorem hi_Pr_copyIn : Cond.instanceMethod y_Pr_copyIn ∈ wd_tbl := wd_of 1704 (by decide +kernel) rfl
set_option maxRecDepth 100000 in
theorem hs_Pr_copyIn : Cond.selects R_Pr y_Pr_copyIn y_Pr_copyIn ∈ wd_tbl := wd_of 1705 (by decide +kernel) rfl
theorem hd_Pr_copyIn : y_Pr_copyIn.cls = R_Pr ∧ y_Pr_copyIn.cls ≠ "java/lang/invoke/MethodHandle" ∧ y_Pr_copyIn.cls ≠ "java/lang/invoke/VarHandle" ∧ (parseMethodDescriptor y_Pr_copyIn.desc).map (fun d => d.parameters.length) = some 2 := by decide +kernel
def rm_Pr_copyIn : Room := { frames := 1, cells := 0, slots := 0, locals := 48 }
theorem rm_Pr_copyIn_Te_cellsAt : (rm_Te_cellsAt).frames + 1 ≤ rm_Pr_copyIn.frames ∧ 8 + (5 + 11) + (rm_Te_cellsAt).locals ≤ rm_Pr_copyIn.locals := by
  show 0 + 1 ≤ 1 ∧ 8 + (5 + 11) + 0 ≤ 48
  decide
def fb_Pr_copyIn_140 (N : Nat) (G : (CS → Nat → Option Nat → Int64 → Int64 → Int32 → Int32 → Option (CS × Int64))) (u : CS) (v0 : Nat) (v1 : Option Nat) (v2 : Int64) (v4 : Int64) (v6 : Int32) (v7 : Int32) : Option (CS × Int64) := G u (v0) (v1) (v2) (v4) (v6) ((v7 + 1))
set_option maxRecDepth 100000 in
set_option maxHeartbeats 4000000 in
theorem wb_Pr_copyIn_140 {p : Program} {l : Launch} {e : Env} {s : State} {m : MethodId} {args : Array Value} {below : List Frame} {meth : Method} {c : Code} {s0 : State} {b0 : Nat} {D : va_G} {cB cI cJ cZ cS cP : ClassId} {A : Nat → Prop} {sk sv : Nat → Nat} {ad : Nat → Nat} (C0 : XCx p s s0 b0 m args meth c R_Pr b_Pr_copyIn 13 (some .long) D cB cI cJ cZ cS cP A) (hE : ENV s0 b0 sk sv) (N : Nat) (G : (CS → Nat → Option Nat → Int64 → Int64 → Int32 → Int32 → Option (CS × Int64))) (hG : (∀ (u : CS) (v0 : Nat) (v1 : Option Nat) (v2 : Int64) (v4 : Int64) (v6 : Int32) (v7 : Int32) (x : CS × Int64), G u v0 v1 v2 v4 v6 v7 = some x → ∀ (H : Heap) (locs : List Loc), va_P D cls (wC cB cI cJ cZ cS cP ad u) H → va_D A (wC cB cI cJ cZ cS cP ad u) → va_S A s.heap H locs → ∀ (ls : Array Slot), lv_has ls 13 [(0, .ref (ad v0)), (1, va_rf (Option.map ad v1)), (2, .long v2), (4, .long v4), (6, .int v6), (7, .int v7)] → W p l e rm_Pr_copyIn s m args below meth c H locs 0 0 (MQ below (xQ0 D cB cI cJ cZ cS cP A ad x.1 (some (.inr (.inl x.2)))) args s 0 0 A) (F0 m 15 ls []))) : ∀ (u : CS) (v0 : Nat) (v1 : Option Nat) (v2 : Int64) (v4 : Int64) (v6 : Int32) (v7 : Int32) (x : CS × Int64), fb_Pr_copyIn_140 N G u v0 v1 v2 v4 v6 v7 = some x → ∀ (H : Heap) (locs : List Loc), va_P D cls (wC cB cI cJ cZ cS cP ad u) H → va_D A (wC cB cI cJ cZ cS cP ad u) → va_S A s.heap H locs → ∀ (ls : Array Slot), lv_has ls 13 [(0, .ref (ad v0)), (1, va_rf (Option.map ad v1)), (2, .long v2), (4, .long v4), (6, .int v6), (7, .int v7)] → W p l e rm_Pr_copyIn s m args below meth c H locs 0 0 (MQ below (xQ0 D cB cI cJ cZ cS cP A ad x.1 (some (.inr (.inl x.2)))) args s 0 0 A) (F0 m 140 ls []) := by
  intro u v0 v1 v2 v4 v6 v7 x hf H locs hP hD hS ls hl
  obtain ⟨hx, hb, hr, hml, ht, hown, hK, hA, hlocks, hA0, hO, hbs⟩ := id C0
  unfold fb_Pr_copyIn_140 at hf
  refine lv_iinc (v := (v7 + 1)) (lv' := [(7, .int (v7 + 1)), (0, .ref (ad v0)), (1, va_rf (Option.map ad v1)), (2, .long v2), (4, .long v4), (6, .int v6)]) hx hb d_Pr_copyIn_140 hl (k := 5) rfl rfl (by decide) (by first | rfl | simp [List.filter, cat_rf]) (fun ls hl => ?_)
  refine lv_goto (tgt := 15) hx hb d_Pr_copyIn_143 (by decide) ?_
  exact hG _ _ _ _ _ _ _ _ hf H locs hP hD hS ls (lv_sub hl [1, 2, 3, 4, 5, 0] rfl)
def fb_Pr_copyIn_42 (N : Nat) (G : (CS → Nat → Option Nat → Int64 → Int64 → Int32 → Int32 → Option (CS × Int64))) (u : CS) (v0 : Nat) (v1 : Option Nat) (v2 : Int64) (v4 : Int64) (v6 : Int32) (v7 : Int32) (t0 : Int64) : Option (CS × Int64) := bx (fm_Te_cellsAt N u v1 t0) (fun u1 r1 => br (decide (r1 = 0)) (fb_Pr_copyIn_140 N G u1 (v0) (v1) (v2) (v4) (v6) (v7)) (bo (gI u1 v0 7 4) (fun r2 => br (decide ((r2 + r1) ≤ 512)) (bo (gI u1 v0 7 4) (fun r3 => lt (((t0 >>> ((32 : Int32).toInt64 &&& 63)) <<< ((32 : Int32).toInt64 &&& 63)) ||| r3.toInt64) (fun y4 => bo (gR u1 v0 7 2) (fun r5 => bo (gI u1 v0 7 4) (fun r6 => bo r5 (fun j7 => bo v1 (fun j8 => bo (cpJ u1 j8 (t0.toInt32) j7 r6 r1) (fun w9 => bo (gI w9 v0 7 4) (fun r10 => bo (pF w9 v0 7 4 (.inl (r10 + r1))) (fun w11 => br (decide (v6 ≤ v7)) (bo (gR w11 v0 7 2) (fun r12 => bo r12 (fun j13 => bo (sJ w11 j13 v7 y4) (fun w14 => fb_Pr_copyIn_140 N G w14 (v0) (v1) (v2) (v4) (v6) (v7))))) (fb_Pr_copyIn_140 N G w11 (v0) (v1) (v2) (y4) (v6) (v7)))))))))))) (fb_Pr_copyIn_140 N G u1 (v0) (v1) (v2) (v4) (v6) (v7)))))
set_option maxRecDepth 100000 in
set_option maxHeartbeats 4000000 in
theorem wb_Pr_copyIn_42 {p : Program} {l : Launch} {e : Env} {s : State} {m : MethodId} {args : Array Value} {below : List Frame} {meth : Method} {c : Code} {s0 : State} {b0 : Nat} {D : va_G} {cB cI cJ cZ cS cP : ClassId} {A : Nat → Prop} {sk sv : Nat → Nat} {ad : Nat → Nat} (C0 : XCx p s s0 b0 m args meth c R_Pr b_Pr_copyIn 13 (some .long) D cB cI cJ cZ cS cP A) (hE : ENV s0 b0 sk sv) (N : Nat) (G : (CS → Nat → Option Nat → Int64 → Int64 → Int32 → Int32 → Option (CS × Int64))) (hG : (∀ (u : CS) (v0 : Nat) (v1 : Option Nat) (v2 : Int64) (v4 : Int64) (v6 : Int32) (v7 : Int32) (x : CS × Int64), G u v0 v1 v2 v4 v6 v7 = some x → ∀ (H : Heap) (locs : List Loc), va_P D cls (wC cB cI cJ cZ cS cP ad u) H → va_D A (wC cB cI cJ cZ cS cP ad u) → va_S A s.heap H locs → ∀ (ls : Array Slot), lv_has ls 13 [(0, .ref (ad v0)), (1, va_rf (Option.map ad v1)), (2, .long v2), (4, .long v4), (6, .int v6), (7, .int v7)] → W p l e rm_Pr_copyIn s m args below meth c H locs 0 0 (MQ below (xQ0 D cB cI cJ cZ cS cP A ad x.1 (some (.inr (.inl x.2)))) args s 0 0 A) (F0 m 15 ls []))) : ∀ (u : CS) (v0 : Nat) (v1 : Option Nat) (v2 : Int64) (v4 : Int64) (v6 : Int32) (v7 : Int32) (t0 : Int64) (x : CS × Int64), fb_Pr_copyIn_42 N G u v0 v1 v2 v4 v6 v7 t0 = some x → ∀ (H : Heap) (locs : List Loc), va_P D cls (wC cB cI cJ cZ cS cP ad u) H → va_D A (wC cB cI cJ cZ cS cP ad u) → va_S A s.heap H locs → ∀ (ls : Array Slot), lv_has ls 13 [(0, .ref (ad v0)), (1, va_rf (Option.map ad v1)), (2, .long v2), (4, .long v4), (6, .int v6), (7, .int v7)] → W p l e rm_Pr_copyIn s m args below meth c H locs 0 0 (MQ below (xQ0 D cB cI cJ cZ cS cP A ad x.1 (some (.inr (.inl x.2)))) args s 0 0 A) (F0 m 42 ls [.long t0]) := by
  intro u v0 v1 v2 v4 v6 v7 t0 x hf H locs hP hD hS ls hl
  obtain ⟨hx, hb, hr, hml, ht, hown, hK, hA, hlocks, hA0, hO, hbs⟩ := id C0
  unfold fb_Pr_copyIn_42 at hf
  refine lv_lstore (lv' := [(8, .long t0), (0, .ref (ad v0)), (1, va_rf (Option.map ad v1)), (2, .long v2), (4, .long v4), (6, .int v6), (7, .int v7)]) hx hb d_Pr_copyIn_42 hl (by decide) (by first | rfl | simp [List.filter, cat_rf]) (fun ls hl => ?_)
  refine x_aload_n hx hb d_Pr_copyIn_44 rfl (lv_at hl 2 rfl) ?_
  refine lv_lload hx hb d_Pr_copyIn_45 (lv_at hl 0 rfl) ?_
  obtain ⟨u1, r1, hc1, hf⟩ := bx_some hf
  refine xS0 (As := [va_rf (Option.map ad v1), .long t0]) (rest := []) C0 hP hD hS (c_Te_cellsAt N hc1) k_Te_cellsAt (wd_of 1700 (by decide +kernel) rfl) ht_Te_cellsAt hini_Te rfl rfl hd_Te_cellsAt rfl rm_Pr_copyIn_Te_cellsAt hl.1 (Nat.le_of_ble_eq_true rfl) d_Pr_copyIn_47 rfl ⟨Nat.zero_le _, Nat.zero_le _⟩ (fun H locs hP hD hS => ?_)
  refine lv_istore (lv' := [(10, .int r1), (8, .long t0), (0, .ref (ad v0)), (1, va_rf (Option.map ad v1)), (2, .long v2), (4, .long v4), (6, .int v6), (7, .int v7)]) hx hb d_Pr_copyIn_50 hl (by decide) (by first | rfl | simp [List.filter, cat_rf]) (fun ls hl => ?_)
  refine lv_iload hx hb d_Pr_copyIn_52 (lv_at hl 0 rfl) ?_
  refine lv_if_eq (tgt := 140) hx hb d_Pr_copyIn_54 (by decide) (fun hc => ?_) (fun hc => ?_)
  · rw [br_p _ hc] at hf
    exact wb_Pr_copyIn_140 C0 hE N G hG _ _ _ _ _ _ _ _ hf H locs hP hD hS ls (lv_sub hl [2, 3, 4, 5, 6, 7] rfl)
  · rw [br_n _ hc] at hf
    refine lv_aload_n hx hb d_Pr_copyIn_57 rfl (lv_at hl 2 rfl) ?_
    obtain ⟨r2, g2, hf⟩ := bo_some hf
    refine xg_I (i := v0) (k := 4) hx hb ht hown ck_Pr hK hP (by decide) fk_Pr_39 g2 d_Pr_copyIn_58 ?_
    refine lv_iload hx hb d_Pr_copyIn_61 (lv_at hl 0 rfl) ?_
    refine lv_iadd hx hb d_Pr_copyIn_63 ?_
    refine lv_sipush (v := 512) hx hb d_Pr_copyIn_64 (by decide) ?_
    refine lv_icmp_le (tgt := 73) hx hb d_Pr_copyIn_67 (by decide) (fun hc => ?_) (fun hc => ?_)
    · rw [br_p _ hc] at hf
      refine lv_lload hx hb d_Pr_copyIn_73 (lv_at hl 1 rfl) ?_
      refine lv_bipush (v := 32) hx hb d_Pr_copyIn_75 (by decide) ?_
      refine lv_lshr hx hb d_Pr_copyIn_77 rfl ?_
      refine lv_bipush (v := 32) hx hb d_Pr_copyIn_78 (by decide) ?_
      refine lv_lshl hx hb d_Pr_copyIn_80 rfl ?_
      refine lv_aload_n hx hb d_Pr_copyIn_81 rfl (lv_at hl 2 rfl) ?_
      obtain ⟨r3, g3, hf⟩ := bo_some hf
      refine xg_I (i := v0) (k := 4) hx hb ht hown ck_Pr hK hP (by decide) fk_Pr_39 g3 d_Pr_copyIn_82 ?_
      refine lv_i2l hx hb d_Pr_copyIn_85 rfl ?_
      refine lv_lor hx hb d_Pr_copyIn_86 ?_
      obtain ⟨y4, e4, hf⟩ := lt_some hf
      rw [← e4]
      refine lv_lstore (lv' := [(11, .long y4), (10, .int r1), (8, .long t0), (0, .ref (ad v0)), (1, va_rf (Option.map ad v1)), (2, .long v2), (4, .long v4), (6, .int v6), (7, .int v7)]) hx hb d_Pr_copyIn_87 hl (by decide) (by first | rfl | simp [List.filter, cat_rf]) (fun ls hl => ?_)
      refine x_aload_n hx hb d_Pr_copyIn_89 rfl (lv_at hl 4 rfl) ?_
      refine lv_lload hx hb d_Pr_copyIn_90 (lv_at hl 2 rfl) ?_
      refine lv_l2i hx hb d_Pr_copyIn_92 rfl ?_
      refine lv_aload_n hx hb d_Pr_copyIn_93 rfl (lv_at hl 3 rfl) ?_
      obtain ⟨r5, g5, hf⟩ := bo_some hf
      refine xg_R (i := v0) (k := 2) hx hb ht hown ck_Pr hK hP (by decide) fk_Pr_18 g5 d_Pr_copyIn_94 ?_
      refine lv_aload_n hx hb d_Pr_copyIn_97 rfl (lv_at hl 3 rfl) ?_
      obtain ⟨r6, g6, hf⟩ := bo_some hf
      refine xg_I (i := v0) (k := 4) hx hb ht hown ck_Pr hK hP (by decide) fk_Pr_39 g6 d_Pr_copyIn_98 ?_
      refine lv_iload hx hb d_Pr_copyIn_101 (lv_at hl 1 rfl) ?_
      obtain ⟨j7, ej7, hf⟩ := bo_some hf
      rw [ej7]
      obtain ⟨j8, ej8, hf⟩ := bo_some hf
      rw [ej8]
      obtain ⟨w9, g9, hf⟩ := bo_some hf
      refine x_cpJ (a0 := j8) (a1 := j7) hx hb (hml.trans hl.1.symm) ht hown (wd_of 1701 (by decide +kernel) rfl) (wd_of 870 (by decide +kernel) rfl) (wd_of 869 (by decide +kernel) rfl) (wd_of 282 (by decide +kernel) rfl) hK hP hD hS g9 (Nat.le_of_ble_eq_true rfl) (Nat.le_of_ble_eq_true rfl) d_Pr_copyIn_103 (fun H locs hP hD hS => ?_)
      refine lv_aload_n hx hb d_Pr_copyIn_106 rfl (lv_at hl 3 rfl) ?_
      refine lv_dup hx hb d_Pr_copyIn_107 rfl ?_
      obtain ⟨r10, g10, hf⟩ := bo_some hf
      refine xg_I (i := v0) (k := 4) hx hb ht hown ck_Pr hK hP (by decide) fk_Pr_39 g10 d_Pr_copyIn_108 ?_
      refine lv_iload hx hb d_Pr_copyIn_111 (lv_at hl 1 rfl) ?_
      refine lv_iadd hx hb d_Pr_copyIn_113 ?_
      obtain ⟨w11, g11, hf⟩ := bo_some hf
      refine xp (i := v0) (k := 4) (v := (.inl (r10 + r1))) hx hb ht hown ck_Pr hK hP hD hS (by decide) fk_Pr_39 rfl g11 rfl rfl d_Pr_copyIn_114 (fun H locs hP hD hS => ?_)
      refine lv_iload hx hb d_Pr_copyIn_117 (lv_at hl 8 rfl) ?_
      refine lv_iload hx hb d_Pr_copyIn_119 (lv_at hl 7 rfl) ?_
      refine lv_icmp_ge (tgt := 131) hx hb d_Pr_copyIn_121 (by decide) (fun hc => ?_) (fun hc => ?_)
      · rw [br_p _ hc] at hf
        refine lv_aload_n hx hb d_Pr_copyIn_131 rfl (lv_at hl 3 rfl) ?_
        obtain ⟨r12, g12, hf⟩ := bo_some hf
        refine xg_R (i := v0) (k := 2) hx hb ht hown ck_Pr hK hP (by decide) fk_Pr_18 g12 d_Pr_copyIn_132 ?_
        refine lv_iload hx hb d_Pr_copyIn_135 (lv_at hl 8 rfl) ?_
        refine lv_lload hx hb d_Pr_copyIn_137 (lv_at hl 0 rfl) ?_
        obtain ⟨j13, ej13, hf⟩ := bo_some hf
        rw [ej13]
        obtain ⟨w14, g14, hf⟩ := bo_some hf
        refine xs_J (i := j13) hx hb hK hP hD hS g14 d_Pr_copyIn_139 (fun H locs hP hD hS => ?_)
        exact wb_Pr_copyIn_140 C0 hE N G hG _ _ _ _ _ _ _ _ hf H locs hP hD hS ls (lv_sub hl [3, 4, 5, 6, 7, 8] rfl)
      · rw [br_n _ hc] at hf
        refine lv_lload hx hb d_Pr_copyIn_124 (lv_at hl 0 rfl) ?_
        refine lv_lstore (lv' := [(4, .long y4), (11, .long y4), (10, .int r1), (8, .long t0), (0, .ref (ad v0)), (1, va_rf (Option.map ad v1)), (2, .long v2), (6, .int v6), (7, .int v7)]) hx hb d_Pr_copyIn_126 hl (by decide) (by first | rfl | simp [List.filter, cat_rf]) (fun ls hl => ?_)
        refine lv_goto (tgt := 140) hx hb d_Pr_copyIn_128 (by decide) ?_
        exact wb_Pr_copyIn_140 C0 hE N G hG _ _ _ _ _ _ _ _ hf H locs hP hD hS ls (lv_sub hl [4, 5, 6, 0, 7, 8] rfl)
    · rw [br_n _ hc] at hf
      refine lv_goto (tgt := 140) hx hb d_Pr_copyIn_70 (by decide) ?_
      exact wb_Pr_copyIn_140 C0 hE N G hG _ _ _ _ _ _ _ _ hf H locs hP hD hS ls (lv_sub hl [2, 3, 4, 5, 6, 7] rfl)
def fb_Pr_copyIn_15 (N : Nat) (G : (CS → Nat → Option Nat → Int64 → Int64 → Int32 → Int32 → Option (CS × Int64))) (u : CS) (v0 : Nat) (v1 : Option Nat) (v2 : Int64) (v4 : Int64) (v6 : Int32) (v7 : Int32) : Option (CS × Int64) := bo (gI u v0 7 4) (fun r15 => br (decide (r15 ≤ v7)) (some (u, v4)) (br (decide (v6 ≤ v7)) (bo (gR u v0 7 2) (fun r16 => bo r16 (fun j17 => bo (aJ u j17 v7) (fun r18 => fb_Pr_copyIn_42 N G u (v0) (v1) (v2) (v4) (v6) (v7) (r18))))) (fb_Pr_copyIn_42 N G u (v0) (v1) (v2) (v4) (v6) (v7) (v2))))
set_option maxRecDepth 100000 in
set_option maxHeartbeats 4000000 in
theorem wb_Pr_copyIn_15 {p : Program} {l : Launch} {e : Env} {s : State} {m : MethodId} {args : Array Value} {below : List Frame} {meth : Method} {c : Code} {s0 : State} {b0 : Nat} {D : va_G} {cB cI cJ cZ cS cP : ClassId} {A : Nat → Prop} {sk sv : Nat → Nat} {ad : Nat → Nat} (C0 : XCx p s s0 b0 m args meth c R_Pr b_Pr_copyIn 13 (some .long) D cB cI cJ cZ cS cP A) (hE : ENV s0 b0 sk sv) (N : Nat) (G : (CS → Nat → Option Nat → Int64 → Int64 → Int32 → Int32 → Option (CS × Int64))) (hG : (∀ (u : CS) (v0 : Nat) (v1 : Option Nat) (v2 : Int64) (v4 : Int64) (v6 : Int32) (v7 : Int32) (x : CS × Int64), G u v0 v1 v2 v4 v6 v7 = some x → ∀ (H : Heap) (locs : List Loc), va_P D cls (wC cB cI cJ cZ cS cP ad u) H → va_D A (wC cB cI cJ cZ cS cP ad u) → va_S A s.heap H locs → ∀ (ls : Array Slot), lv_has ls 13 [(0, .ref (ad v0)), (1, va_rf (Option.map ad v1)), (2, .long v2), (4, .long v4), (6, .int v6), (7, .int v7)] → W p l e rm_Pr_copyIn s m args below meth c H locs 0 0 (MQ below (xQ0 D cB cI cJ cZ cS cP A ad x.1 (some (.inr (.inl x.2)))) args s 0 0 A) (F0 m 15 ls []))) : ∀ (u : CS) (v0 : Nat) (v1 : Option Nat) (v2 : Int64) (v4 : Int64) (v6 : Int32) (v7 : Int32) (x : CS × Int64), fb_Pr_copyIn_15 N G u v0 v1 v2 v4 v6 v7 = some x → ∀ (H : Heap) (locs : List Loc), va_P D cls (wC cB cI cJ cZ cS cP ad u) H → va_D A (wC cB cI cJ cZ cS cP ad u) → va_S A s.heap H locs → ∀ (ls : Array Slot), lv_has ls 13 [(0, .ref (ad v0)), (1, va_rf (Option.map ad v1)), (2, .long v2), (4, .long v4), (6, .int v6), (7, .int v7)] → W p l e rm_Pr_copyIn s m args below meth c H locs 0 0 (MQ below (xQ0 D cB cI cJ cZ cS cP A ad x.1 (some (.inr (.inl x.2)))) args s 0 0 A) (F0 m 15 ls []) := by
  intro u v0 v1 v2 v4 v6 v7 x hf H locs hP hD hS ls hl
  obtain ⟨hx, hb, hr, hml, ht, hown, hK, hA, hlocks, hA0, hO, hbs⟩ := id C0
  unfold fb_Pr_copyIn_15 at hf
  refine lv_iload hx hb d_Pr_copyIn_15 (lv_at hl 5 rfl) ?_
  refine lv_aload_n hx hb d_Pr_copyIn_17 rfl (lv_at hl 0 rfl) ?_
  obtain ⟨r15, g15, hf⟩ := bo_some hf
  refine xg_I (i := v0) (k := 4) hx hb ht hown ck_Pr hK hP (by decide) fk_Pr_39 g15 d_Pr_copyIn_18 ?_
  refine lv_icmp_ge (tgt := 146) hx hb d_Pr_copyIn_21 (by decide) (fun hc => ?_) (fun hc => ?_)
  · rw [br_p _ hc] at hf
    refine lv_lload hx hb d_Pr_copyIn_146 (lv_at hl 3 rfl) ?_
    exact xr0_l C0 hP hD hS hf d_Pr_copyIn_148
  · rw [br_n _ hc] at hf
    refine lv_iload hx hb d_Pr_copyIn_24 (lv_at hl 5 rfl) ?_
    refine lv_iload hx hb d_Pr_copyIn_26 (lv_at hl 4 rfl) ?_
    refine lv_icmp_ge (tgt := 35) hx hb d_Pr_copyIn_28 (by decide) (fun hc => ?_) (fun hc => ?_)
    · rw [br_p _ hc] at hf
      refine lv_aload_n hx hb d_Pr_copyIn_35 rfl (lv_at hl 0 rfl) ?_
      obtain ⟨r16, g16, hf⟩ := bo_some hf
      refine xg_R (i := v0) (k := 2) hx hb ht hown ck_Pr hK hP (by decide) fk_Pr_18 g16 d_Pr_copyIn_36 ?_
      refine lv_iload hx hb d_Pr_copyIn_39 (lv_at hl 5 rfl) ?_
      obtain ⟨j17, ej17, hf⟩ := bo_some hf
      rw [ej17]
      obtain ⟨r18, g18, hf⟩ := bo_some hf
      refine xl_J (i := j17) hx hb hK hP g18 d_Pr_copyIn_41 ?_
      exact wb_Pr_copyIn_42 C0 hE N G hG _ _ _ _ _ _ _ _ _ hf H locs hP hD hS ls (lv_sub hl [0, 1, 2, 3, 4, 5] rfl)
    · rw [br_n _ hc] at hf
      refine lv_lload_n hx hb d_Pr_copyIn_31 rfl (lv_at hl 2 rfl) ?_
      refine lv_goto (tgt := 42) hx hb d_Pr_copyIn_32 (by decide) ?_
      exact wb_Pr_copyIn_42 C0 hE N G hG _ _ _ _ _ _ _ _ _ hf H locs hP hD hS ls (lv_sub hl [0, 1, 2, 3, 4, 5] rfl)
def fb_Pr_copyIn_0 (N : Nat) (G : (CS → Nat → Option Nat → Int64 → Int64 → Int32 → Int32 → Option (CS × Int64))) (u : CS) (v0 : Nat) (v1 : Option Nat) (v2 : Int64) : Option (CS × Int64) := bo (gI u v0 7 4) (fun r19 => G u (v0) (v1) (v2) (v2) (r19) ((r19 - 1)))
set_option maxRecDepth 100000 in
set_option maxHeartbeats 4000000 in
theorem wb_Pr_copyIn_0 {p : Program} {l : Launch} {e : Env} {s : State} {m : MethodId} {args : Array Value} {below : List Frame} {meth : Method} {c : Code} {s0 : State} {b0 : Nat} {D : va_G} {cB cI cJ cZ cS cP : ClassId} {A : Nat → Prop} {sk sv : Nat → Nat} {ad : Nat → Nat} (C0 : XCx p s s0 b0 m args meth c R_Pr b_Pr_copyIn 13 (some .long) D cB cI cJ cZ cS cP A) (hE : ENV s0 b0 sk sv) (N : Nat) (G : (CS → Nat → Option Nat → Int64 → Int64 → Int32 → Int32 → Option (CS × Int64))) (hG : (∀ (u : CS) (v0 : Nat) (v1 : Option Nat) (v2 : Int64) (v4 : Int64) (v6 : Int32) (v7 : Int32) (x : CS × Int64), G u v0 v1 v2 v4 v6 v7 = some x → ∀ (H : Heap) (locs : List Loc), va_P D cls (wC cB cI cJ cZ cS cP ad u) H → va_D A (wC cB cI cJ cZ cS cP ad u) → va_S A s.heap H locs → ∀ (ls : Array Slot), lv_has ls 13 [(0, .ref (ad v0)), (1, va_rf (Option.map ad v1)), (2, .long v2), (4, .long v4), (6, .int v6), (7, .int v7)] → W p l e rm_Pr_copyIn s m args below meth c H locs 0 0 (MQ below (xQ0 D cB cI cJ cZ cS cP A ad x.1 (some (.inr (.inl x.2)))) args s 0 0 A) (F0 m 15 ls []))) : ∀ (u : CS) (v0 : Nat) (v1 : Option Nat) (v2 : Int64) (x : CS × Int64), fb_Pr_copyIn_0 N G u v0 v1 v2 = some x → ∀ (H : Heap) (locs : List Loc), va_P D cls (wC cB cI cJ cZ cS cP ad u) H → va_D A (wC cB cI cJ cZ cS cP ad u) → va_S A s.heap H locs → ∀ (ls : Array Slot), lv_has ls 13 [(0, .ref (ad v0)), (1, va_rf (Option.map ad v1)), (2, .long v2)] → W p l e rm_Pr_copyIn s m args below meth c H locs 0 0 (MQ below (xQ0 D cB cI cJ cZ cS cP A ad x.1 (some (.inr (.inl x.2)))) args s 0 0 A) (F0 m 0 ls []) := by
  intro u v0 v1 v2 x hf H locs hP hD hS ls hl
  obtain ⟨hx, hb, hr, hml, ht, hown, hK, hA, hlocks, hA0, hO, hbs⟩ := id C0
  unfold fb_Pr_copyIn_0 at hf
  refine lv_lload_n hx hb d_Pr_copyIn_0 rfl (lv_at hl 2 rfl) ?_
  refine lv_lstore (lv' := [(4, .long v2), (0, .ref (ad v0)), (1, va_rf (Option.map ad v1)), (2, .long v2)]) hx hb d_Pr_copyIn_1 hl (by decide) (by first | rfl | simp [List.filter, cat_rf]) (fun ls hl => ?_)
  refine lv_aload_n hx hb d_Pr_copyIn_3 rfl (lv_at hl 1 rfl) ?_
  obtain ⟨r19, g19, hf⟩ := bo_some hf
  refine xg_I (i := v0) (k := 4) hx hb ht hown ck_Pr hK hP (by decide) fk_Pr_39 g19 d_Pr_copyIn_4 ?_
  refine lv_istore (lv' := [(6, .int r19), (4, .long v2), (0, .ref (ad v0)), (1, va_rf (Option.map ad v1)), (2, .long v2)]) hx hb d_Pr_copyIn_7 hl (by decide) (by first | rfl | simp [List.filter, cat_rf]) (fun ls hl => ?_)
  refine lv_iload hx hb d_Pr_copyIn_9 (lv_at hl 0 rfl) ?_
  refine lv_iconst (v := 1) hx hb d_Pr_copyIn_11 (by decide) ?_
  refine lv_isub hx hb d_Pr_copyIn_12 ?_
  refine lv_istore (lv' := [(7, .int (r19 - 1)), (6, .int r19), (4, .long v2), (0, .ref (ad v0)), (1, va_rf (Option.map ad v1)), (2, .long v2)]) hx hb d_Pr_copyIn_13 hl (by decide) (by first | rfl | simp [List.filter, cat_rf]) (fun ls hl => ?_)
  exact hG _ _ _ _ _ _ _ _ hf H locs hP hD hS ls (lv_sub hl [3, 4, 5, 2, 1, 0] rfl)
def gg_Pr_copyIn (N : Nat) : Nat → ((CS → Nat → Option Nat → Int64 → Int64 → Int32 → Int32 → Option (CS × Int64)))
  | 0 => fun _ _ _ _ _ _ _ => none
  | n + 1 => fb_Pr_copyIn_15 N (gg_Pr_copyIn N n)
theorem wg_Pr_copyIn {p : Program} {l : Launch} {e : Env} {s : State} {m : MethodId} {args : Array Value} {below : List Frame} {meth : Method} {c : Code} {s0 : State} {b0 : Nat} {D : va_G} {cB cI cJ cZ cS cP : ClassId} {A : Nat → Prop} {sk sv : Nat → Nat} {ad : Nat → Nat} (C0 : XCx p s s0 b0 m args meth c R_Pr b_Pr_copyIn 13 (some .long) D cB cI cJ cZ cS cP A) (hE : ENV s0 b0 sk sv) (N : Nat) : ∀ n : Nat, (∀ (u : CS) (v0 : Nat) (v1 : Option Nat) (v2 : Int64) (v4 : Int64) (v6 : Int32) (v7 : Int32) (x : CS × Int64), gg_Pr_copyIn N n u v0 v1 v2 v4 v6 v7 = some x → ∀ (H : Heap) (locs : List Loc), va_P D cls (wC cB cI cJ cZ cS cP ad u) H → va_D A (wC cB cI cJ cZ cS cP ad u) → va_S A s.heap H locs → ∀ (ls : Array Slot), lv_has ls 13 [(0, .ref (ad v0)), (1, va_rf (Option.map ad v1)), (2, .long v2), (4, .long v4), (6, .int v6), (7, .int v7)] → W p l e rm_Pr_copyIn s m args below meth c H locs 0 0 (MQ below (xQ0 D cB cI cJ cZ cS cP A ad x.1 (some (.inr (.inl x.2)))) args s 0 0 A) (F0 m 15 ls []))
  | 0 => (fun u v0 v1 v2 v4 v6 v7 x hf => by cases hf)
  | n + 1 => wb_Pr_copyIn_15 C0 hE N (gg_Pr_copyIn N n) (wg_Pr_copyIn C0 hE N n)
def fm_Pr_copyIn (N : Nat) (u : CS) (v0 : Nat) (v1 : Option Nat) (v2 : Int64) : Option (CS × Int64) := fb_Pr_copyIn_0 N (gg_Pr_copyIn N N) u v0 v1 v2
set_option maxRecDepth 100000 in
set_option maxHeartbeats 4000000 in
theorem c_Pr_copyIn (N : Nat) {l : Launch} {s0 : State} {b0 : Nat} {D : va_G} {cB cI cJ cZ cS cP : ClassId} {sk sv : Nat → Nat} {ad : Nat → Nat} {u : CS} {sz : Nat} {v0 : Nat} {v1 : Option Nat} {v2 : Int64} {x : CS × Int64} (hE : ENV s0 b0 sk sv) (hf : fm_Pr_copyIn N u v0 v1 v2 = some x) : Met l y_Pr_copyIn (wd_ws y_Pr_copyIn b_Pr_copyIn 13 (some .long)) rm_Pr_copyIn (xPc s0 b0 D cB cI cJ cZ cS cP ad u sz [.ref (ad v0), va_rf (Option.map ad v1), .long v2]) (xQ0 D cB cI cJ cZ cS cP (xA cB cI cJ cZ cS cP ad u sz) ad x.1 (some (.inr (.inl x.2)))) 0 0 (xA cB cI cJ cZ cS cP ad u sz) :=
  xMet (by decide) rfl (by cases v1 <;> exact Nat.le_of_ble_eq_true rfl) (fun p e s m below meth c ls hsz hnm C0 hP hD hS hl =>
    wb_Pr_copyIn_0 C0 hE N (gg_Pr_copyIn N N) (wg_Pr_copyIn C0 hE N N) u _ _ _ x hf s.heap [] hP hD hS ls (by rw [show lv_args 0 [.ref (ad v0), va_rf (Option.map ad v1), .long v2] = [(0, .ref (ad v0)), (1, va_rf (Option.map ad v1)), (2, .long v2)] from by cases v1 <;> rfl] at hl; exact lv_sub hl [0, 1, 2] rfl))
abbrev b_Fr_bind : ByteArray := prog_4_method_17_code
def y_Fr_bind : MethodName := ⟨R_Fr, "bind", "(IJ)V"⟩
def w_Fr_bind : List Cond := wd_ws y_Fr_bind b_Fr_bind 4 none
set_option maxRecDepth 100000 in
theorem k_Fr_bind : Cond.code y_Fr_bind b_Fr_bind 4 none ∈ wd_tbl := wd_of 1714 rfl rfl
theorem d_Fr_bind_0 : decode b_Fr_bind 0 = .ok (.aload_n 0, 1) := by decide +kernel
theorem d_Fr_bind_1 : decode b_Fr_bind 1 = .ok (.getfield 32, 3) := by decide +kernel
theorem d_Fr_bind_4 : decode b_Fr_bind 4 = .ok (.aload_n 0, 1) := by decide +kernel
theorem d_Fr_bind_5 : decode b_Fr_bind 5 = .ok (.getfield 18, 3) := by decide +kernel
theorem d_Fr_bind_8 : decode b_Fr_bind 8 = .ok (.arraylength, 1) := by decide +kernel
theorem d_Fr_bind_9 : decode b_Fr_bind 9 = .ok (.if_icmp .lt 39, 3) := by decide +kernel
theorem d_Fr_bind_12 : decode b_Fr_bind 12 = .ok (.aload_n 0, 1) := by decide +kernel
theorem d_Fr_bind_13 : decode b_Fr_bind 13 = .ok (.aload_n 0, 1) := by decide +kernel
theorem d_Fr_bind_14 : decode b_Fr_bind 14 = .ok (.getfield 18, 3) := by decide +kernel
theorem d_Fr_bind_17 : decode b_Fr_bind 17 = .ok (.aload_n 0, 1) := by decide +kernel
theorem d_Fr_bind_18 : decode b_Fr_bind 18 = .ok (.getfield 18, 3) := by decide +kernel
theorem d_Fr_bind_21 : decode b_Fr_bind 21 = .ok (.arraylength, 1) := by decide +kernel
theorem d_Fr_bind_22 : decode b_Fr_bind 22 = .ok (.iconst 2, 1) := by decide +kernel
theorem d_Fr_bind_23 : decode b_Fr_bind 23 = .ok (.imul, 1) := by decide +kernel
theorem d_Fr_bind_24 : decode b_Fr_bind 24 = .ok (.invokestatic 58, 3) := by decide +kernel
theorem d_Fr_bind_27 : decode b_Fr_bind 27 = .ok (.putfield 18, 3) := by decide +kernel
theorem d_Fr_bind_30 : decode b_Fr_bind 30 = .ok (.aload_n 0, 1) := by decide +kernel
theorem d_Fr_bind_31 : decode b_Fr_bind 31 = .ok (.aload_n 0, 1) := by decide +kernel
theorem d_Fr_bind_32 : decode b_Fr_bind 32 = .ok (.getfield 15, 3) := by decide +kernel
theorem d_Fr_bind_35 : decode b_Fr_bind 35 = .ok (.aload_n 0, 1) := by decide +kernel
theorem d_Fr_bind_36 : decode b_Fr_bind 36 = .ok (.getfield 15, 3) := by decide +kernel
theorem d_Fr_bind_39 : decode b_Fr_bind 39 = .ok (.arraylength, 1) := by decide +kernel
theorem d_Fr_bind_40 : decode b_Fr_bind 40 = .ok (.iconst 2, 1) := by decide +kernel
theorem d_Fr_bind_41 : decode b_Fr_bind 41 = .ok (.imul, 1) := by decide +kernel
theorem d_Fr_bind_42 : decode b_Fr_bind 42 = .ok (.invokestatic 69, 3) := by decide +kernel
theorem d_Fr_bind_45 : decode b_Fr_bind 45 = .ok (.putfield 15, 3) := by decide +kernel
theorem d_Fr_bind_48 : decode b_Fr_bind 48 = .ok (.aload_n 0, 1) := by decide +kernel
theorem d_Fr_bind_49 : decode b_Fr_bind 49 = .ok (.getfield 15, 3) := by decide +kernel
theorem d_Fr_bind_52 : decode b_Fr_bind 52 = .ok (.aload_n 0, 1) := by decide +kernel
theorem d_Fr_bind_53 : decode b_Fr_bind 53 = .ok (.getfield 32, 3) := by decide +kernel
theorem d_Fr_bind_56 : decode b_Fr_bind 56 = .ok (.iload_n 1, 1) := by decide +kernel
theorem d_Fr_bind_57 : decode b_Fr_bind 57 = .ok (.iastore, 1) := by decide +kernel
theorem d_Fr_bind_58 : decode b_Fr_bind 58 = .ok (.aload_n 0, 1) := by decide +kernel
theorem d_Fr_bind_59 : decode b_Fr_bind 59 = .ok (.getfield 18, 3) := by decide +kernel
theorem d_Fr_bind_62 : decode b_Fr_bind 62 = .ok (.aload_n 0, 1) := by decide +kernel
theorem d_Fr_bind_63 : decode b_Fr_bind 63 = .ok (.getfield 32, 3) := by decide +kernel
theorem d_Fr_bind_66 : decode b_Fr_bind 66 = .ok (.lload_n 2, 1) := by decide +kernel
theorem d_Fr_bind_67 : decode b_Fr_bind 67 = .ok (.lastore, 1) := by decide +kernel
theorem d_Fr_bind_68 : decode b_Fr_bind 68 = .ok (.aload_n 0, 1) := by decide +kernel
theorem d_Fr_bind_69 : decode b_Fr_bind 69 = .ok (.dup, 1) := by decide +kernel
theorem d_Fr_bind_70 : decode b_Fr_bind 70 = .ok (.getfield 32, 3) := by decide +kernel
theorem d_Fr_bind_73 : decode b_Fr_bind 73 = .ok (.iconst 1, 1) := by decide +kernel
theorem d_Fr_bind_74 : decode b_Fr_bind 74 = .ok (.iadd, 1) := by decide +kernel
theorem d_Fr_bind_75 : decode b_Fr_bind 75 = .ok (.putfield 32, 3) := by decide +kernel
theorem d_Fr_bind_78 : decode b_Fr_bind 78 = .ok (.return_, 1) := by decide +kernel
set_option maxRecDepth 100000 in
theorem hi_Fr_bind : Cond.instanceMethod y_Fr_bind ∈ wd_tbl := wd_of 1712 (by decide +kernel) rfl
set_option maxRecDepth 100000 in
theorem hs_Fr_bind : Cond.selects R_Fr y_Fr_bind y_Fr_bind ∈ wd_tbl := wd_of 1713 (by decide +kernel) rfl
theorem hd_Fr_bind : y_Fr_bind.cls = R_Fr ∧ y_Fr_bind.cls ≠ "java/lang/invoke/MethodHandle" ∧ y_Fr_bind.cls ≠ "java/lang/invoke/VarHandle" ∧ (parseMethodDescriptor y_Fr_bind.desc).map (fun d => d.parameters.length) = some 2 := by decide +kernel
def rm_Fr_bind (mc ms : Nat) : Room := { frames := 2, cells := mc, slots := ms, locals := 82 }
theorem rm_Fr_bind_JA_copyOf1 {mc ms : Nat} {mc2 ms2 : Nat} : (rm_JA_copyOf1 mc2 ms2).frames + 1 ≤ (rm_Fr_bind mc ms).frames ∧ 8 + (3 + 11) + (rm_JA_copyOf1 mc2 ms2).locals ≤ (rm_Fr_bind mc ms).locals := by
  show 1 + 1 ≤ 2 ∧ 8 + (3 + 11) + 60 ≤ 82
  decide
theorem rm_Fr_bind_JA_copyOf0 {mc ms : Nat} {mc2 ms2 : Nat} : (rm_JA_copyOf0 mc2 ms2).frames + 1 ≤ (rm_Fr_bind mc ms).frames ∧ 8 + (3 + 11) + (rm_JA_copyOf0 mc2 ms2).locals ≤ (rm_Fr_bind mc ms).locals := by
  show 1 + 1 ≤ 2 ∧ 8 + (3 + 11) + 60 ≤ 82
  decide
def fb_Fr_bind_48 (N : Nat) (G : Unit) (u : CS) (v0 : Nat) (v1 : Int32) (v2 : Int64) : Option (CS × Unit) := bo (gR u v0 4 2) (fun r1 => bo (gI u v0 4 4) (fun r2 => bo r1 (fun j3 => bo (sI u j3 4 r2 v1) (fun w4 => bo (gR w4 v0 4 3) (fun r5 => bo (gI w4 v0 4 4) (fun r6 => bo r5 (fun j7 => bo (sJ w4 j7 r6 v2) (fun w8 => bo (gI w8 v0 4 4) (fun r9 => bo (pF w8 v0 4 4 (.inl (r9 + 1))) (fun w10 => some (w10, ())))))))))))
set_option maxRecDepth 100000 in
set_option maxHeartbeats 4000000 in
theorem wb_Fr_bind_48 {p : Program} {l : Launch} {e : Env} {s : State} {m : MethodId} {args : Array Value} {below : List Frame} {meth : Method} {c : Code} {s0 : State} {b0 : Nat} {D : va_G} {cB cI cJ cZ cS cP : ClassId} {A : Nat → Prop} {sk sv : Nat → Nat} {uN uS mc ms : Nat} {ad0 : Nat → Nat} (C0 : XCx p s s0 b0 m args meth c R_Fr b_Fr_bind 4 none D cB cI cJ cZ cS cP A) (hE : ENV s0 b0 sk sv) (N : Nat) (G : Unit) (hG : True) : ∀ (u : CS) (v0 : Nat) (v1 : Int32) (v2 : Int64) (x : CS × Unit), fb_Fr_bind_48 N G u v0 v1 v2 = some x → (uN + mc = x.1.1.1 ∧ uS + ms = x.1.1.2) → ∀ (ad : Nat → Nat) (ce sl : Nat), AB uN uS ad0 u ad ce sl → ∀ (H : Heap) (locs : List Loc), va_P D cls (wC cB cI cJ cZ cS cP ad u) H → va_D A (wC cB cI cJ cZ cS cP ad u) → va_S A s.heap H locs → ∀ (ls : Array Slot), lv_has ls 4 [(0, .ref (ad v0)), (1, .int v1), (2, .long v2)] → W p l e (rm_Fr_bind mc ms) s m args below meth c H locs ce sl (MQ below (xQ D cB cI cJ cZ cS cP A ad0 uN x.1 none) args s mc ms A) (F0 m 48 ls []) := by
  intro u v0 v1 v2 x hf hm ad ce sl hB H locs hP hD hS ls hl
  obtain ⟨hx, hb, hr, hml, ht, hown, hK, hA, hlocks, hA0, hO, hbs⟩ := id C0
  unfold fb_Fr_bind_48 at hf
  refine lv_aload_n hx hb d_Fr_bind_48 rfl (lv_at hl 0 rfl) ?_
  obtain ⟨r1, g1, hf⟩ := bo_some hf
  refine xg_R (i := v0) (k := 2) hx hb ht hown ck_Fr hK hP (by decide) fk_Fr_15 g1 d_Fr_bind_49 ?_
  refine lv_aload_n hx hb d_Fr_bind_52 rfl (lv_at hl 0 rfl) ?_
  obtain ⟨r2, g2, hf⟩ := bo_some hf
  refine xg_I (i := v0) (k := 4) hx hb ht hown ck_Fr hK hP (by decide) fk_Fr_32 g2 d_Fr_bind_53 ?_
  refine lv_iload_n hx hb d_Fr_bind_56 rfl (lv_at hl 1 rfl) ?_
  obtain ⟨j3, ej3, hf⟩ := bo_some hf
  rw [ej3]
  obtain ⟨w4, g4, hf⟩ := bo_some hf
  refine xs_I (i := j3) hx hb hK hP hD hS g4 d_Fr_bind_57 (fun H locs hP hD hS => ?_)
  have hB := hB.same (sI_c g4)
  refine lv_aload_n hx hb d_Fr_bind_58 rfl (lv_at hl 0 rfl) ?_
  obtain ⟨r5, g5, hf⟩ := bo_some hf
  refine xg_R (i := v0) (k := 3) hx hb ht hown ck_Fr hK hP (by decide) fk_Fr_18 g5 d_Fr_bind_59 ?_
  refine lv_aload_n hx hb d_Fr_bind_62 rfl (lv_at hl 0 rfl) ?_
  obtain ⟨r6, g6, hf⟩ := bo_some hf
  refine xg_I (i := v0) (k := 4) hx hb ht hown ck_Fr hK hP (by decide) fk_Fr_32 g6 d_Fr_bind_63 ?_
  refine lv_lload_n hx hb d_Fr_bind_66 rfl (lv_at hl 2 rfl) ?_
  obtain ⟨j7, ej7, hf⟩ := bo_some hf
  rw [ej7]
  obtain ⟨w8, g8, hf⟩ := bo_some hf
  refine xs_J (i := j7) hx hb hK hP hD hS g8 d_Fr_bind_67 (fun H locs hP hD hS => ?_)
  have hB := hB.same (sJ_c g8)
  refine lv_aload_n hx hb d_Fr_bind_68 rfl (lv_at hl 0 rfl) ?_
  refine lv_dup hx hb d_Fr_bind_69 rfl ?_
  obtain ⟨r9, g9, hf⟩ := bo_some hf
  refine xg_I (i := v0) (k := 4) hx hb ht hown ck_Fr hK hP (by decide) fk_Fr_32 g9 d_Fr_bind_70 ?_
  refine lv_iconst (v := 1) hx hb d_Fr_bind_73 (by decide) ?_
  refine lv_iadd hx hb d_Fr_bind_74 ?_
  obtain ⟨w10, g10, hf⟩ := bo_some hf
  refine xp (i := v0) (k := 4) (v := (.inl (r9 + 1))) hx hb ht hown ck_Fr hK hP hD hS (by decide) fk_Fr_32 rfl g10 rfl rfl d_Fr_bind_75 (fun H locs hP hD hS => ?_)
  have hB := hB.same (pF_c g10)
  exact yr_v C0 hP hD hS hB hm hf d_Fr_bind_78
def fb_Fr_bind_0 (N : Nat) (G : Unit) (u : CS) (v0 : Nat) (v1 : Int32) (v2 : Int64) : Option (CS × Unit) := bo (gI u v0 4 4) (fun r11 => bo (gR u v0 4 3) (fun r12 => bo r12 (fun j13 => bo (nJ u j13) (fun r14 => br (decide (r11 < r14)) (fb_Fr_bind_48 N G u (v0) (v1) (v2)) (bo (gR u v0 4 3) (fun r15 => bo (gR u v0 4 3) (fun r16 => bo r16 (fun j17 => bo (nJ u j17) (fun r18 => ck (List.all [some v0] (okR u.1.1)) (bx (gw u (fm_JA_copyOf1 N u r15 (r18 * 2))) (fun u19 r19 => gw u19 (bo (pF u19 v0 4 3 (.inr (.inr r19))) (fun w20 => bo (gR w20 v0 4 2) (fun r21 => bo (gR w20 v0 4 2) (fun r22 => bo r22 (fun j23 => bo (nA w20 j23 4) (fun r24 => ck (List.all [some v0] (okR w20.1.1)) (bx (gw w20 (fm_JA_copyOf0 N w20 r21 (r24 * 2))) (fun u25 r25 => gw u25 (bo (pF u25 v0 4 2 (.inr (.inr r25))) (fun w26 => fb_Fr_bind_48 N G w26 (v0) (v1) (v2))))))))))))))))))))))
set_option maxRecDepth 100000 in
set_option maxHeartbeats 4000000 in
theorem wb_Fr_bind_0 {p : Program} {l : Launch} {e : Env} {s : State} {m : MethodId} {args : Array Value} {below : List Frame} {meth : Method} {c : Code} {s0 : State} {b0 : Nat} {D : va_G} {cB cI cJ cZ cS cP : ClassId} {A : Nat → Prop} {sk sv : Nat → Nat} {uN uS mc ms : Nat} {ad0 : Nat → Nat} (C0 : XCx p s s0 b0 m args meth c R_Fr b_Fr_bind 4 none D cB cI cJ cZ cS cP A) (hE : ENV s0 b0 sk sv) (N : Nat) (G : Unit) (hG : True) : ∀ (u : CS) (v0 : Nat) (v1 : Int32) (v2 : Int64) (x : CS × Unit), fb_Fr_bind_0 N G u v0 v1 v2 = some x → (uN + mc = x.1.1.1 ∧ uS + ms = x.1.1.2) → ∀ (ad : Nat → Nat) (ce sl : Nat), AB uN uS ad0 u ad ce sl → ∀ (H : Heap) (locs : List Loc), va_P D cls (wC cB cI cJ cZ cS cP ad u) H → va_D A (wC cB cI cJ cZ cS cP ad u) → va_S A s.heap H locs → ∀ (ls : Array Slot), lv_has ls 4 [(0, .ref (ad v0)), (1, .int v1), (2, .long v2)] → W p l e (rm_Fr_bind mc ms) s m args below meth c H locs ce sl (MQ below (xQ D cB cI cJ cZ cS cP A ad0 uN x.1 none) args s mc ms A) (F0 m 0 ls []) := by
  intro u v0 v1 v2 x hf hm ad ce sl hB H locs hP hD hS ls hl
  obtain ⟨hx, hb, hr, hml, ht, hown, hK, hA, hlocks, hA0, hO, hbs⟩ := id C0
  unfold fb_Fr_bind_0 at hf
  refine lv_aload_n hx hb d_Fr_bind_0 rfl (lv_at hl 0 rfl) ?_
  obtain ⟨r11, g11, hf⟩ := bo_some hf
  refine xg_I (i := v0) (k := 4) hx hb ht hown ck_Fr hK hP (by decide) fk_Fr_32 g11 d_Fr_bind_1 ?_
  refine lv_aload_n hx hb d_Fr_bind_4 rfl (lv_at hl 0 rfl) ?_
  obtain ⟨r12, g12, hf⟩ := bo_some hf
  refine xg_R (i := v0) (k := 3) hx hb ht hown ck_Fr hK hP (by decide) fk_Fr_18 g12 d_Fr_bind_5 ?_
  obtain ⟨j13, ej13, hf⟩ := bo_some hf
  rw [ej13]
  obtain ⟨r14, g14, hf⟩ := bo_some hf
  refine xn_J (i := j13) hx hb hK hP g14 d_Fr_bind_8 ?_
  refine lv_icmp_lt (tgt := 48) hx hb d_Fr_bind_9 (by decide) (fun hc => ?_) (fun hc => ?_)
  · rw [br_p _ hc] at hf
    exact wb_Fr_bind_48 C0 hE N G hG _ _ _ _ _ hf hm _ _ _ hB H locs hP hD hS ls (lv_sub hl [0, 1, 2] rfl)
  · rw [br_n _ hc] at hf
    refine lv_aload_n hx hb d_Fr_bind_12 rfl (lv_at hl 0 rfl) ?_
    refine lv_aload_n hx hb d_Fr_bind_13 rfl (lv_at hl 0 rfl) ?_
    obtain ⟨r15, g15, hf⟩ := bo_some hf
    refine xg_R (i := v0) (k := 3) hx hb ht hown ck_Fr hK hP (by decide) fk_Fr_18 g15 d_Fr_bind_14 ?_
    refine lv_aload_n hx hb d_Fr_bind_17 rfl (lv_at hl 0 rfl) ?_
    obtain ⟨r16, g16, hf⟩ := bo_some hf
    refine xg_R (i := v0) (k := 3) hx hb ht hown ck_Fr hK hP (by decide) fk_Fr_18 g16 d_Fr_bind_18 ?_
    obtain ⟨j17, ej17, hf⟩ := bo_some hf
    rw [ej17]
    obtain ⟨r18, g18, hf⟩ := bo_some hf
    refine xn_J (i := j17) hx hb hK hP g18 d_Fr_bind_21 ?_
    refine lv_iconst (v := 2) hx hb d_Fr_bind_22 (by decide) ?_
    refine lv_imul hx hb d_Fr_bind_23 ?_
    obtain ⟨hk19, hf⟩ := ck_some hf
    obtain ⟨u19, r19, hc19, hf⟩ := bx_some hf
    obtain ⟨hc19, hq19⟩ := gw_some hc19
    obtain ⟨hf, hw19⟩ := gw_some hf
    refine yS (As := [va_rf (Option.map ad r15), .int (r18 * 2)]) (rest := [.ref (ad v0)]) C0 hP hD hS (c_JA_copyOf1 N hE hc19 (gm hq19)) k_JA_copyOf1 (wd_of 1715 (by decide +kernel) rfl) ht_JA_copyOf1 hini_JA rfl rfl hd_JA_copyOf1 rfl rm_Fr_bind_JA_copyOf1 hl.1 (Nat.le_of_ble_eq_true rfl) d_Fr_bind_24 rfl (gm hq19) hB hm hw19 (fun ad19 H locs ce sl hg19 hB hP hD hS => ?_)
    have q19_0 : ad19 v0 = ad v0 := ko_O (k := 0) hk19 rfl hg19
    have hl : lv_has ls 4 [(0, .ref (ad19 v0)), (1, .int v1), (2, .long v2)] := by simp only [q19_0]; exact hl
    refine W.eq (g2 := F0 m 27 ls [va_rf (Option.map ad19 r19), .ref (ad19 v0)]) (by show F0 m _ ls [va_rf (Option.map ad19 r19), .ref (ad v0)] = F0 m _ ls [va_rf (Option.map ad19 r19), .ref (ad19 v0)]; simp only [q19_0]) ?_
    obtain ⟨w20, g20, hf⟩ := bo_some hf
    refine xp (i := v0) (k := 3) (v := (.inr (.inr r19))) hx hb ht hown ck_Fr hK hP hD hS (by decide) fk_Fr_18 rfl g20 (show narrow (.array .long) (va_rf _) = va_rf _ from nr_arr _ _) (show fits (.array .long) (va_rf _) = true from ft_arr _ _) d_Fr_bind_27 (fun H locs hP hD hS => ?_)
    have hB := hB.same (pF_c g20)
    refine lv_aload_n hx hb d_Fr_bind_30 rfl (lv_at hl 0 rfl) ?_
    refine lv_aload_n hx hb d_Fr_bind_31 rfl (lv_at hl 0 rfl) ?_
    obtain ⟨r21, g21, hf⟩ := bo_some hf
    refine xg_R (i := v0) (k := 2) hx hb ht hown ck_Fr hK hP (by decide) fk_Fr_15 g21 d_Fr_bind_32 ?_
    refine lv_aload_n hx hb d_Fr_bind_35 rfl (lv_at hl 0 rfl) ?_
    obtain ⟨r22, g22, hf⟩ := bo_some hf
    refine xg_R (i := v0) (k := 2) hx hb ht hown ck_Fr hK hP (by decide) fk_Fr_15 g22 d_Fr_bind_36 ?_
    obtain ⟨j23, ej23, hf⟩ := bo_some hf
    rw [ej23]
    obtain ⟨r24, g24, hf⟩ := bo_some hf
    refine xn_I (i := j23) hx hb hK hP g24 d_Fr_bind_39 ?_
    refine lv_iconst (v := 2) hx hb d_Fr_bind_40 (by decide) ?_
    refine lv_imul hx hb d_Fr_bind_41 ?_
    obtain ⟨hk25, hf⟩ := ck_some hf
    obtain ⟨u25, r25, hc25, hf⟩ := bx_some hf
    obtain ⟨hc25, hq25⟩ := gw_some hc25
    obtain ⟨hf, hw25⟩ := gw_some hf
    refine yS (As := [va_rf (Option.map ad19 r21), .int (r24 * 2)]) (rest := [.ref (ad19 v0)]) C0 hP hD hS (c_JA_copyOf0 N hE hc25 (gm hq25)) k_JA_copyOf0 (wd_of 1727 (by decide +kernel) rfl) ht_JA_copyOf0 hini_JA rfl rfl hd_JA_copyOf0 rfl rm_Fr_bind_JA_copyOf0 hl.1 (Nat.le_of_ble_eq_true rfl) d_Fr_bind_42 rfl (gm hq25) hB hm hw25 (fun ad25 H locs ce sl hg25 hB hP hD hS => ?_)
    have q25_0 : ad25 v0 = ad19 v0 := ko_O (k := 0) hk25 rfl hg25
    have hl : lv_has ls 4 [(0, .ref (ad25 v0)), (1, .int v1), (2, .long v2)] := by simp only [q25_0]; exact hl
    refine W.eq (g2 := F0 m 45 ls [va_rf (Option.map ad25 r25), .ref (ad25 v0)]) (by show F0 m _ ls [va_rf (Option.map ad25 r25), .ref (ad19 v0)] = F0 m _ ls [va_rf (Option.map ad25 r25), .ref (ad25 v0)]; simp only [q25_0]) ?_
    obtain ⟨w26, g26, hf⟩ := bo_some hf
    refine xp (i := v0) (k := 2) (v := (.inr (.inr r25))) hx hb ht hown ck_Fr hK hP hD hS (by decide) fk_Fr_15 rfl g26 (show narrow (.array .int) (va_rf _) = va_rf _ from nr_arr _ _) (show fits (.array .int) (va_rf _) = true from ft_arr _ _) d_Fr_bind_45 (fun H locs hP hD hS => ?_)
    have hB := hB.same (pF_c g26)
    exact wb_Fr_bind_48 C0 hE N G hG _ _ _ _ _ hf hm _ _ _ hB H locs hP hD hS ls (lv_sub hl [0, 1, 2] rfl)
def fm_Fr_bind (N : Nat) (u : CS) (v0 : Nat) (v1 : Int32) (v2 : Int64) : Option (CS × Unit) := fb_Fr_bind_0 N () u v0 v1 v2
set_option maxRecDepth 100000 in
set_option maxHeartbeats 4000000 in
theorem c_Fr_bind (N : Nat) {l : Launch} {s0 : State} {b0 : Nat} {D : va_G} {cB cI cJ cZ cS cP : ClassId} {sk sv : Nat → Nat} {ad : Nat → Nat} {u : CS} {sz mc ms : Nat} {v0 : Nat} {v1 : Int32} {v2 : Int64} {x : CS × Unit} (hE : ENV s0 b0 sk sv) (hf : fm_Fr_bind N u v0 v1 v2 = some x) (hm : u.1.1 + mc = x.1.1.1 ∧ u.1.2 + ms = x.1.1.2) : Met l y_Fr_bind (wd_ws y_Fr_bind b_Fr_bind 4 none) (rm_Fr_bind mc ms) (xPc s0 b0 D cB cI cJ cZ cS cP ad u sz [.ref (ad v0), .int v1, .long v2]) (xQ D cB cI cJ cZ cS cP (xA cB cI cJ cZ cS cP ad u sz) ad u.1.1 x.1 none) mc ms (xA cB cI cJ cZ cS cP ad u sz) :=
  xMet (by decide) rfl (Nat.le_of_ble_eq_true rfl) (fun p e s m below meth c ls hsz hnm C0 hP hD hS hl =>
    wb_Fr_bind_0 C0 hE N () trivial u _ _ _ x hf hm ad 0 0 ⟨rfl, rfl, fun _ _ => rfl⟩ s.heap [] hP hD hS ls (lv_sub hl [0, 1, 2] rfl))
abbrev b_Ma_hold : ByteArray := prog_5_method_43_code
def y_Ma_hold : MethodName := ⟨R_Ma, "hold", "(LMailHouse$Frames;[JJ)V"⟩
def w_Ma_hold : List Cond := wd_ws y_Ma_hold b_Ma_hold 8 none
set_option maxRecDepth 100000 in
theorem k_Ma_hold : Cond.code y_Ma_hold b_Ma_hold 8 none ∈ wd_tbl := wd_of 1710 rfl rfl
theorem d_Ma_hold_0 : decode b_Ma_hold 0 = .ok (.aload_n 2, 1) := by decide +kernel
theorem d_Ma_hold_1 : decode b_Ma_hold 1 = .ok (.lload_n 3, 1) := by decide +kernel
theorem d_Ma_hold_2 : decode b_Ma_hold 2 = .ok (.l2i, 1) := by decide +kernel
theorem d_Ma_hold_3 : decode b_Ma_hold 3 = .ok (.laload, 1) := by decide +kernel
theorem d_Ma_hold_4 : decode b_Ma_hold 4 = .ok (.l2i, 1) := by decide +kernel
theorem d_Ma_hold_5 : decode b_Ma_hold 5 = .ok (.istore 5, 2) := by decide +kernel
theorem d_Ma_hold_7 : decode b_Ma_hold 7 = .ok (.iload 5, 2) := by decide +kernel
theorem d_Ma_hold_9 : decode b_Ma_hold 9 = .ok (.ifCond .lt 15, 3) := by decide +kernel
theorem d_Ma_hold_12 : decode b_Ma_hold 12 = .ok (.iload 5, 2) := by decide +kernel
theorem d_Ma_hold_14 : decode b_Ma_hold 14 = .ok (.aload_n 0, 1) := by decide +kernel
theorem d_Ma_hold_15 : decode b_Ma_hold 15 = .ok (.getfield 9, 3) := by decide +kernel
theorem d_Ma_hold_18 : decode b_Ma_hold 18 = .ok (.getfield 388, 3) := by decide +kernel
theorem d_Ma_hold_21 : decode b_Ma_hold 21 = .ok (.if_icmp .lt 4, 3) := by decide +kernel
theorem d_Ma_hold_24 : decode b_Ma_hold 24 = .ok (.return_, 1) := by decide +kernel
theorem d_Ma_hold_25 : decode b_Ma_hold 25 = .ok (.aload_n 0, 1) := by decide +kernel
theorem d_Ma_hold_26 : decode b_Ma_hold 26 = .ok (.getfield 9, 3) := by decide +kernel
theorem d_Ma_hold_29 : decode b_Ma_hold 29 = .ok (.getfield 394, 3) := by decide +kernel
theorem d_Ma_hold_32 : decode b_Ma_hold 32 = .ok (.iload 5, 2) := by decide +kernel
theorem d_Ma_hold_34 : decode b_Ma_hold 34 = .ok (.iaload, 1) := by decide +kernel
theorem d_Ma_hold_35 : decode b_Ma_hold 35 = .ok (.istore 6, 2) := by decide +kernel
theorem d_Ma_hold_37 : decode b_Ma_hold 37 = .ok (.iconst 0, 1) := by decide +kernel
theorem d_Ma_hold_38 : decode b_Ma_hold 38 = .ok (.istore 7, 2) := by decide +kernel
theorem d_Ma_hold_40 : decode b_Ma_hold 40 = .ok (.iload 7, 2) := by decide +kernel
theorem d_Ma_hold_42 : decode b_Ma_hold 42 = .ok (.aload_n 0, 1) := by decide +kernel
theorem d_Ma_hold_43 : decode b_Ma_hold 43 = .ok (.getfield 9, 3) := by decide +kernel
theorem d_Ma_hold_46 : decode b_Ma_hold 46 = .ok (.iload 6, 2) := by decide +kernel
theorem d_Ma_hold_48 : decode b_Ma_hold 48 = .ok (.invokevirtual 67, 3) := by decide +kernel
theorem d_Ma_hold_51 : decode b_Ma_hold 51 = .ok (.if_icmp .ge 36, 3) := by decide +kernel
theorem d_Ma_hold_54 : decode b_Ma_hold 54 = .ok (.aload_n 1, 1) := by decide +kernel
theorem d_Ma_hold_55 : decode b_Ma_hold 55 = .ok (.aload_n 0, 1) := by decide +kernel
theorem d_Ma_hold_56 : decode b_Ma_hold 56 = .ok (.getfield 9, 3) := by decide +kernel
theorem d_Ma_hold_59 : decode b_Ma_hold 59 = .ok (.iload 6, 2) := by decide +kernel
theorem d_Ma_hold_61 : decode b_Ma_hold 61 = .ok (.iconst 1, 1) := by decide +kernel
theorem d_Ma_hold_62 : decode b_Ma_hold 62 = .ok (.iadd, 1) := by decide +kernel
theorem d_Ma_hold_63 : decode b_Ma_hold 63 = .ok (.iload 7, 2) := by decide +kernel
theorem d_Ma_hold_65 : decode b_Ma_hold 65 = .ok (.iadd, 1) := by decide +kernel
theorem d_Ma_hold_66 : decode b_Ma_hold 66 = .ok (.invokevirtual 67, 3) := by decide +kernel
theorem d_Ma_hold_69 : decode b_Ma_hold 69 = .ok (.aload_n 2, 1) := by decide +kernel
theorem d_Ma_hold_70 : decode b_Ma_hold 70 = .ok (.lload_n 3, 1) := by decide +kernel
theorem d_Ma_hold_71 : decode b_Ma_hold 71 = .ok (.l2i, 1) := by decide +kernel
theorem d_Ma_hold_72 : decode b_Ma_hold 72 = .ok (.iconst 2, 1) := by decide +kernel
theorem d_Ma_hold_73 : decode b_Ma_hold 73 = .ok (.iadd, 1) := by decide +kernel
theorem d_Ma_hold_74 : decode b_Ma_hold 74 = .ok (.iload 7, 2) := by decide +kernel
theorem d_Ma_hold_76 : decode b_Ma_hold 76 = .ok (.iadd, 1) := by decide +kernel
theorem d_Ma_hold_77 : decode b_Ma_hold 77 = .ok (.laload, 1) := by decide +kernel
theorem d_Ma_hold_78 : decode b_Ma_hold 78 = .ok (.invokevirtual 340, 3) := by decide +kernel
theorem d_Ma_hold_81 : decode b_Ma_hold 81 = .ok (.iinc 7 1, 3) := by decide +kernel
theorem d_Ma_hold_84 : decode b_Ma_hold 84 = .ok (.goto (-44), 3) := by decide +kernel
theorem d_Ma_hold_87 : decode b_Ma_hold 87 = .ok (.return_, 1) := by decide +kernel
set_option maxRecDepth 100000 in
theorem hl_Ma_hold : Cond.methodLink R_Ma 384 y_Ma_hold ∈ wd_tbl := wd_of 1707 (by decide +kernel) rfl
set_option maxRecDepth 100000 in
theorem hi_Ma_hold : Cond.instanceMethod y_Ma_hold ∈ wd_tbl := wd_of 1709 (by decide +kernel) rfl
set_option maxRecDepth 100000 in
theorem hs_Ma_hold : Cond.selects R_Ma y_Ma_hold y_Ma_hold ∈ wd_tbl := wd_of 80 (by decide +kernel) rfl
theorem hd_Ma_hold : y_Ma_hold.cls = R_Ma ∧ y_Ma_hold.cls ≠ "java/lang/invoke/MethodHandle" ∧ y_Ma_hold.cls ≠ "java/lang/invoke/VarHandle" ∧ (parseMethodDescriptor y_Ma_hold.desc).map (fun d => d.parameters.length) = some 3 := by decide +kernel
def rm_Ma_hold (mc ms : Nat) : Room := { frames := 3, cells := mc, slots := ms, locals := 105 }
theorem rm_Ma_hold_Co_at {mc ms : Nat} : (rm_Co_at).frames + 1 ≤ (rm_Ma_hold mc ms).frames ∧ 8 + (2 + 11) + (rm_Co_at).locals ≤ (rm_Ma_hold mc ms).locals := by
  show 0 + 1 ≤ 3 ∧ 8 + (2 + 11) + 0 ≤ 105
  decide
theorem rm_Ma_hold_Fr_bind {mc ms : Nat} {mc2 ms2 : Nat} : (rm_Fr_bind mc2 ms2).frames + 1 ≤ (rm_Ma_hold mc ms).frames ∧ 8 + (4 + 11) + (rm_Fr_bind mc2 ms2).locals ≤ (rm_Ma_hold mc ms).locals := by
  show 2 + 1 ≤ 3 ∧ 8 + (4 + 11) + 82 ≤ 105
  decide
def fb_Ma_hold_40 (N : Nat) (G : (CS → Nat → Option Nat → Option Nat → Int64 → Int32 → Int32 → Option (CS × Unit))) (u : CS) (v0 : Nat) (v1 : Option Nat) (v2 : Option Nat) (v3 : Int64) (v6 : Int32) (v7 : Int32) : Option (CS × Unit) := bo (gR u v0 5 0) (fun r1 => bo r1 (fun j3 => ck (isO u j3 2) (bx (gz u (fm_Co_at N u j3 v6)) (fun u2 r2 => gw u2 (br (decide (r2 ≤ v7)) (some (u2, ())) (bo (gR u2 v0 5 0) (fun r4 => bo r4 (fun j6 => ck (isO u2 j6 2) (bx (gz u2 (fm_Co_at N u2 j6 ((v6 + 1) + v7))) (fun u5 r5 => gw u5 (bo v2 (fun j7 => bo (aJ u5 j7 ((v3.toInt32 + 2) + v7)) (fun r8 => bo v1 (fun j10 => ck (isO u5 j10 4) (ck (List.all [some v0, v1, v2] (okR u5.1.1)) (bx (gw u5 (fm_Fr_bind N u5 j10 r5 r8)) (fun u9 r9 => gw u9 (G u9 (v0) (v1) (v2) (v3) (v6) ((v7 + 1))))))))))))))))))))
set_option maxRecDepth 100000 in
set_option maxHeartbeats 4000000 in
theorem wb_Ma_hold_40 {p : Program} {l : Launch} {e : Env} {s : State} {m : MethodId} {args : Array Value} {below : List Frame} {meth : Method} {c : Code} {s0 : State} {b0 : Nat} {D : va_G} {cB cI cJ cZ cS cP : ClassId} {A : Nat → Prop} {sk sv : Nat → Nat} {uN uS mc ms : Nat} {ad0 : Nat → Nat} (C0 : XCx p s s0 b0 m args meth c R_Ma b_Ma_hold 8 none D cB cI cJ cZ cS cP A) (hE : ENV s0 b0 sk sv) (N : Nat) (G : (CS → Nat → Option Nat → Option Nat → Int64 → Int32 → Int32 → Option (CS × Unit))) (hG : (∀ (u : CS) (v0 : Nat) (v1 : Option Nat) (v2 : Option Nat) (v3 : Int64) (v6 : Int32) (v7 : Int32) (x : CS × Unit), G u v0 v1 v2 v3 v6 v7 = some x → (uN + mc = x.1.1.1 ∧ uS + ms = x.1.1.2) → ∀ (ad : Nat → Nat) (ce sl : Nat), AB uN uS ad0 u ad ce sl → ∀ (H : Heap) (locs : List Loc), va_P D cls (wC cB cI cJ cZ cS cP ad u) H → va_D A (wC cB cI cJ cZ cS cP ad u) → va_S A s.heap H locs → ∀ (ls : Array Slot), lv_has ls 8 [(0, .ref (ad v0)), (1, va_rf (Option.map ad v1)), (2, va_rf (Option.map ad v2)), (3, .long v3), (6, .int v6), (7, .int v7)] → W p l e (rm_Ma_hold mc ms) s m args below meth c H locs ce sl (MQ below (xQ D cB cI cJ cZ cS cP A ad0 uN x.1 none) args s mc ms A) (F0 m 40 ls []))) : ∀ (u : CS) (v0 : Nat) (v1 : Option Nat) (v2 : Option Nat) (v3 : Int64) (v6 : Int32) (v7 : Int32) (x : CS × Unit), fb_Ma_hold_40 N G u v0 v1 v2 v3 v6 v7 = some x → (uN + mc = x.1.1.1 ∧ uS + ms = x.1.1.2) → ∀ (ad : Nat → Nat) (ce sl : Nat), AB uN uS ad0 u ad ce sl → ∀ (H : Heap) (locs : List Loc), va_P D cls (wC cB cI cJ cZ cS cP ad u) H → va_D A (wC cB cI cJ cZ cS cP ad u) → va_S A s.heap H locs → ∀ (ls : Array Slot), lv_has ls 8 [(0, .ref (ad v0)), (1, va_rf (Option.map ad v1)), (2, va_rf (Option.map ad v2)), (3, .long v3), (6, .int v6), (7, .int v7)] → W p l e (rm_Ma_hold mc ms) s m args below meth c H locs ce sl (MQ below (xQ D cB cI cJ cZ cS cP A ad0 uN x.1 none) args s mc ms A) (F0 m 40 ls []) := by
  intro u v0 v1 v2 v3 v6 v7 x hf hm ad ce sl hB H locs hP hD hS ls hl
  obtain ⟨hx, hb, hr, hml, ht, hown, hK, hA, hlocks, hA0, hO, hbs⟩ := id C0
  unfold fb_Ma_hold_40 at hf
  refine lv_iload hx hb d_Ma_hold_40 (lv_at hl 5 rfl) ?_
  refine lv_aload_n hx hb d_Ma_hold_42 rfl (lv_at hl 0 rfl) ?_
  obtain ⟨r1, g1, hf⟩ := bo_some hf
  refine xg_R (i := v0) (k := 0) hx hb ht hown ck_Ma hK hP (by decide) fk_Ma_9 g1 d_Ma_hold_43 ?_
  refine lv_iload hx hb d_Ma_hold_46 (lv_at hl 4 rfl) ?_
  obtain ⟨j3, ej3, hf⟩ := bo_some hf
  rw [ej3]
  obtain ⟨hO9, hf⟩ := ck_some hf
  obtain ⟨u2, r2, hc2, hf⟩ := bx_some hf
  obtain ⟨hc2, hz2⟩ := gz_some hc2
  obtain ⟨hf, hw2⟩ := gw_some hf
  refine xV0 (i := j3) (As := [.int v6]) (rest := [.int v7]) C0 hP hD hS ck_Co hO9 (c_Co_at N hc2) k_Co_at (wd_of 1644 (by decide +kernel) rfl) hi_Co_at hs_Co_at hini_Co rfl rfl hd_Co_at rfl rm_Ma_hold_Co_at hl.1 (Nat.le_of_ble_eq_true rfl) d_Ma_hold_48 rfl (hB.fit hm hz2 hw2) (fun H locs hP hD hS => ?_)
  have hB := hB.same2 hz2
  refine lv_icmp_ge (tgt := 87) hx hb d_Ma_hold_51 (by decide) (fun hc => ?_) (fun hc => ?_)
  · rw [br_p _ hc] at hf
    exact yr_v C0 hP hD hS hB hm hf d_Ma_hold_87
  · rw [br_n _ hc] at hf
    refine x_aload_n hx hb d_Ma_hold_54 rfl (lv_at hl 1 rfl) ?_
    refine lv_aload_n hx hb d_Ma_hold_55 rfl (lv_at hl 0 rfl) ?_
    obtain ⟨r4, g4, hf⟩ := bo_some hf
    refine xg_R (i := v0) (k := 0) hx hb ht hown ck_Ma hK hP (by decide) fk_Ma_9 g4 d_Ma_hold_56 ?_
    refine lv_iload hx hb d_Ma_hold_59 (lv_at hl 4 rfl) ?_
    refine lv_iconst (v := 1) hx hb d_Ma_hold_61 (by decide) ?_
    refine lv_iadd hx hb d_Ma_hold_62 ?_
    refine lv_iload hx hb d_Ma_hold_63 (lv_at hl 5 rfl) ?_
    refine lv_iadd hx hb d_Ma_hold_65 ?_
    obtain ⟨j6, ej6, hf⟩ := bo_some hf
    rw [ej6]
    obtain ⟨hO9, hf⟩ := ck_some hf
    obtain ⟨u5, r5, hc5, hf⟩ := bx_some hf
    obtain ⟨hc5, hz5⟩ := gz_some hc5
    obtain ⟨hf, hw5⟩ := gw_some hf
    refine xV0 (i := j6) (As := [.int ((v6 + 1) + v7)]) (rest := [va_rf (Option.map ad v1)]) C0 hP hD hS ck_Co hO9 (c_Co_at N hc5) k_Co_at (wd_of 1644 (by decide +kernel) rfl) hi_Co_at hs_Co_at hini_Co rfl rfl hd_Co_at rfl rm_Ma_hold_Co_at hl.1 (c8 (Nat.le_of_ble_eq_true rfl)) d_Ma_hold_66 rfl (hB.fit hm hz5 hw5) (fun H locs hP hD hS => ?_)
    have hB := hB.same2 hz5
    refine x_aload_n hx hb d_Ma_hold_69 rfl (lv_at hl 2 rfl) ?_
    refine lv_lload_n hx hb d_Ma_hold_70 rfl (lv_at hl 3 rfl) ?_
    refine lv_l2i hx hb d_Ma_hold_71 rfl ?_
    refine lv_iconst (v := 2) hx hb d_Ma_hold_72 (by decide) ?_
    refine lv_iadd hx hb d_Ma_hold_73 ?_
    refine lv_iload hx hb d_Ma_hold_74 (lv_at hl 5 rfl) ?_
    refine lv_iadd hx hb d_Ma_hold_76 ?_
    obtain ⟨j7, ej7, hf⟩ := bo_some hf
    rw [ej7]
    obtain ⟨r8, g8, hf⟩ := bo_some hf
    refine xl_J (i := j7) hx hb hK hP g8 d_Ma_hold_77 ?_
    obtain ⟨j10, ej10, hf⟩ := bo_some hf
    rw [ej10]
    obtain ⟨hO9, hf⟩ := ck_some hf
    obtain ⟨hk9, hf⟩ := ck_some hf
    obtain ⟨u9, r9, hc9, hf⟩ := bx_some hf
    obtain ⟨hc9, hq9⟩ := gw_some hc9
    obtain ⟨hf, hw9⟩ := gw_some hf
    refine yV (i := j10) (As := [.int r5, .long r8]) (rest := []) C0 hP hD hS ck_Fr hO9 (c_Fr_bind N hE hc9 (gm hq9)) k_Fr_bind (wd_of 1711 (by decide +kernel) rfl) hi_Fr_bind hs_Fr_bind hini_Fr rfl rfl hd_Fr_bind rfl rm_Ma_hold_Fr_bind hl.1 (Nat.le_of_ble_eq_true rfl) d_Ma_hold_78 rfl (gm hq9) hB hm hw9 (fun ad9 H locs ce sl hg9 hB hP hD hS => ?_)
    have q9_0 : ad9 v0 = ad v0 := ko_O (k := 0) hk9 rfl hg9
    have q9_1 : Option.map ad9 v1 = Option.map ad v1 := ko_N (k := 1) hk9 rfl hg9
    have q9_2 : Option.map ad9 v2 = Option.map ad v2 := ko_N (k := 2) hk9 rfl hg9
    have hl : lv_has ls 8 [(0, .ref (ad9 v0)), (1, va_rf (Option.map ad9 v1)), (2, va_rf (Option.map ad9 v2)), (3, .long v3), (6, .int v6), (7, .int v7)] := by simp only [q9_0, q9_1, q9_2]; exact hl
    refine lv_iinc (v := (v7 + 1)) (lv' := [(7, .int (v7 + 1)), (0, .ref (ad9 v0)), (1, va_rf (Option.map ad9 v1)), (2, va_rf (Option.map ad9 v2)), (3, .long v3), (6, .int v6)]) hx hb d_Ma_hold_81 hl (k := 5) rfl rfl (by decide) (by first | rfl | simp [List.filter, cat_rf]) (fun ls hl => ?_)
    refine lv_goto (tgt := 40) hx hb d_Ma_hold_84 (by decide) ?_
    exact hG _ _ _ _ _ _ _ _ hf hm _ _ _ hB H locs hP hD hS ls (lv_sub hl [1, 2, 3, 4, 5, 0] rfl)
def fb_Ma_hold_24 (N : Nat) (G : (CS → Nat → Option Nat → Option Nat → Int64 → Int32 → Int32 → Option (CS × Unit))) (u : CS) : Option (CS × Unit) := some (u, ())
set_option maxRecDepth 100000 in
set_option maxHeartbeats 4000000 in
theorem wb_Ma_hold_24 {p : Program} {l : Launch} {e : Env} {s : State} {m : MethodId} {args : Array Value} {below : List Frame} {meth : Method} {c : Code} {s0 : State} {b0 : Nat} {D : va_G} {cB cI cJ cZ cS cP : ClassId} {A : Nat → Prop} {sk sv : Nat → Nat} {uN uS mc ms : Nat} {ad0 : Nat → Nat} (C0 : XCx p s s0 b0 m args meth c R_Ma b_Ma_hold 8 none D cB cI cJ cZ cS cP A) (hE : ENV s0 b0 sk sv) (N : Nat) (G : (CS → Nat → Option Nat → Option Nat → Int64 → Int32 → Int32 → Option (CS × Unit))) (hG : (∀ (u : CS) (v0 : Nat) (v1 : Option Nat) (v2 : Option Nat) (v3 : Int64) (v6 : Int32) (v7 : Int32) (x : CS × Unit), G u v0 v1 v2 v3 v6 v7 = some x → (uN + mc = x.1.1.1 ∧ uS + ms = x.1.1.2) → ∀ (ad : Nat → Nat) (ce sl : Nat), AB uN uS ad0 u ad ce sl → ∀ (H : Heap) (locs : List Loc), va_P D cls (wC cB cI cJ cZ cS cP ad u) H → va_D A (wC cB cI cJ cZ cS cP ad u) → va_S A s.heap H locs → ∀ (ls : Array Slot), lv_has ls 8 [(0, .ref (ad v0)), (1, va_rf (Option.map ad v1)), (2, va_rf (Option.map ad v2)), (3, .long v3), (6, .int v6), (7, .int v7)] → W p l e (rm_Ma_hold mc ms) s m args below meth c H locs ce sl (MQ below (xQ D cB cI cJ cZ cS cP A ad0 uN x.1 none) args s mc ms A) (F0 m 40 ls []))) : ∀ (u : CS) (x : CS × Unit), fb_Ma_hold_24 N G u = some x → (uN + mc = x.1.1.1 ∧ uS + ms = x.1.1.2) → ∀ (ad : Nat → Nat) (ce sl : Nat), AB uN uS ad0 u ad ce sl → ∀ (H : Heap) (locs : List Loc), va_P D cls (wC cB cI cJ cZ cS cP ad u) H → va_D A (wC cB cI cJ cZ cS cP ad u) → va_S A s.heap H locs → ∀ (ls : Array Slot), lv_has ls 8 [] → W p l e (rm_Ma_hold mc ms) s m args below meth c H locs ce sl (MQ below (xQ D cB cI cJ cZ cS cP A ad0 uN x.1 none) args s mc ms A) (F0 m 24 ls []) := by
  intro u x hf hm ad ce sl hB H locs hP hD hS ls hl
  obtain ⟨hx, hb, hr, hml, ht, hown, hK, hA, hlocks, hA0, hO, hbs⟩ := id C0
  unfold fb_Ma_hold_24 at hf
  exact yr_v C0 hP hD hS hB hm hf d_Ma_hold_24
def fb_Ma_hold_0 (N : Nat) (G : (CS → Nat → Option Nat → Option Nat → Int64 → Int32 → Int32 → Option (CS × Unit))) (u : CS) (v0 : Nat) (v1 : Option Nat) (v2 : Option Nat) (v3 : Int64) : Option (CS × Unit) := bo v2 (fun j11 => bo (aJ u j11 (v3.toInt32)) (fun r12 => br (decide (r12.toInt32 < 0)) (fb_Ma_hold_24 N G u) (bo (gR u v0 5 0) (fun r13 => bo r13 (fun j14 => bo (gI u j14 2 9) (fun r15 => br (decide (r12.toInt32 < r15)) (bo (gR u v0 5 0) (fun r16 => bo r16 (fun j17 => bo (gR u j17 2 12) (fun r18 => bo r18 (fun j19 => bo (aI u j19 4 (r12.toInt32)) (fun r20 => G u (v0) (v1) (v2) (v3) (r20) (0))))))) (fb_Ma_hold_24 N G u)))))))
set_option maxRecDepth 100000 in
set_option maxHeartbeats 4000000 in
theorem wb_Ma_hold_0 {p : Program} {l : Launch} {e : Env} {s : State} {m : MethodId} {args : Array Value} {below : List Frame} {meth : Method} {c : Code} {s0 : State} {b0 : Nat} {D : va_G} {cB cI cJ cZ cS cP : ClassId} {A : Nat → Prop} {sk sv : Nat → Nat} {uN uS mc ms : Nat} {ad0 : Nat → Nat} (C0 : XCx p s s0 b0 m args meth c R_Ma b_Ma_hold 8 none D cB cI cJ cZ cS cP A) (hE : ENV s0 b0 sk sv) (N : Nat) (G : (CS → Nat → Option Nat → Option Nat → Int64 → Int32 → Int32 → Option (CS × Unit))) (hG : (∀ (u : CS) (v0 : Nat) (v1 : Option Nat) (v2 : Option Nat) (v3 : Int64) (v6 : Int32) (v7 : Int32) (x : CS × Unit), G u v0 v1 v2 v3 v6 v7 = some x → (uN + mc = x.1.1.1 ∧ uS + ms = x.1.1.2) → ∀ (ad : Nat → Nat) (ce sl : Nat), AB uN uS ad0 u ad ce sl → ∀ (H : Heap) (locs : List Loc), va_P D cls (wC cB cI cJ cZ cS cP ad u) H → va_D A (wC cB cI cJ cZ cS cP ad u) → va_S A s.heap H locs → ∀ (ls : Array Slot), lv_has ls 8 [(0, .ref (ad v0)), (1, va_rf (Option.map ad v1)), (2, va_rf (Option.map ad v2)), (3, .long v3), (6, .int v6), (7, .int v7)] → W p l e (rm_Ma_hold mc ms) s m args below meth c H locs ce sl (MQ below (xQ D cB cI cJ cZ cS cP A ad0 uN x.1 none) args s mc ms A) (F0 m 40 ls []))) : ∀ (u : CS) (v0 : Nat) (v1 : Option Nat) (v2 : Option Nat) (v3 : Int64) (x : CS × Unit), fb_Ma_hold_0 N G u v0 v1 v2 v3 = some x → (uN + mc = x.1.1.1 ∧ uS + ms = x.1.1.2) → ∀ (ad : Nat → Nat) (ce sl : Nat), AB uN uS ad0 u ad ce sl → ∀ (H : Heap) (locs : List Loc), va_P D cls (wC cB cI cJ cZ cS cP ad u) H → va_D A (wC cB cI cJ cZ cS cP ad u) → va_S A s.heap H locs → ∀ (ls : Array Slot), lv_has ls 8 [(0, .ref (ad v0)), (1, va_rf (Option.map ad v1)), (2, va_rf (Option.map ad v2)), (3, .long v3)] → W p l e (rm_Ma_hold mc ms) s m args below meth c H locs ce sl (MQ below (xQ D cB cI cJ cZ cS cP A ad0 uN x.1 none) args s mc ms A) (F0 m 0 ls []) := by
  intro u v0 v1 v2 v3 x hf hm ad ce sl hB H locs hP hD hS ls hl
  obtain ⟨hx, hb, hr, hml, ht, hown, hK, hA, hlocks, hA0, hO, hbs⟩ := id C0
  unfold fb_Ma_hold_0 at hf
  refine x_aload_n hx hb d_Ma_hold_0 rfl (lv_at hl 2 rfl) ?_
  refine lv_lload_n hx hb d_Ma_hold_1 rfl (lv_at hl 3 rfl) ?_
  refine lv_l2i hx hb d_Ma_hold_2 rfl ?_
  obtain ⟨j11, ej11, hf⟩ := bo_some hf
  rw [ej11]
  obtain ⟨r12, g12, hf⟩ := bo_some hf
  refine xl_J (i := j11) hx hb hK hP g12 d_Ma_hold_3 ?_
  refine lv_l2i hx hb d_Ma_hold_4 rfl ?_
  refine lv_istore (lv' := [(5, .int r12.toInt32), (0, .ref (ad v0)), (1, va_rf (Option.map ad v1)), (2, va_rf (Option.map ad v2)), (3, .long v3)]) hx hb d_Ma_hold_5 hl (by decide) (by first | rfl | simp [List.filter, cat_rf]) (fun ls hl => ?_)
  refine lv_iload hx hb d_Ma_hold_7 (lv_at hl 0 rfl) ?_
  refine lv_if_lt (tgt := 24) hx hb d_Ma_hold_9 (by decide) (fun hc => ?_) (fun hc => ?_)
  · rw [br_p _ hc] at hf
    exact wb_Ma_hold_24 C0 hE N G hG _ _ hf hm _ _ _ hB H locs hP hD hS ls (lv_sub hl [] rfl)
  · rw [br_n _ hc] at hf
    refine lv_iload hx hb d_Ma_hold_12 (lv_at hl 0 rfl) ?_
    refine lv_aload_n hx hb d_Ma_hold_14 rfl (lv_at hl 1 rfl) ?_
    obtain ⟨r13, g13, hf⟩ := bo_some hf
    refine xg_R (i := v0) (k := 0) hx hb ht hown ck_Ma hK hP (by decide) fk_Ma_9 g13 d_Ma_hold_15 ?_
    obtain ⟨j14, ej14, hf⟩ := bo_some hf
    rw [ej14]
    obtain ⟨r15, g15, hf⟩ := bo_some hf
    refine xg_I (i := j14) (k := 9) hx hb ht hown ck_Co hK hP (by decide) fk_Ma_388 g15 d_Ma_hold_18 ?_
    refine lv_icmp_lt (tgt := 25) hx hb d_Ma_hold_21 (by decide) (fun hc => ?_) (fun hc => ?_)
    · rw [br_p _ hc] at hf
      refine lv_aload_n hx hb d_Ma_hold_25 rfl (lv_at hl 1 rfl) ?_
      obtain ⟨r16, g16, hf⟩ := bo_some hf
      refine xg_R (i := v0) (k := 0) hx hb ht hown ck_Ma hK hP (by decide) fk_Ma_9 g16 d_Ma_hold_26 ?_
      obtain ⟨j17, ej17, hf⟩ := bo_some hf
      rw [ej17]
      obtain ⟨r18, g18, hf⟩ := bo_some hf
      refine xg_R (i := j17) (k := 12) hx hb ht hown ck_Co hK hP (by decide) fk_Ma_394 g18 d_Ma_hold_29 ?_
      refine lv_iload hx hb d_Ma_hold_32 (lv_at hl 0 rfl) ?_
      obtain ⟨j19, ej19, hf⟩ := bo_some hf
      rw [ej19]
      obtain ⟨r20, g20, hf⟩ := bo_some hf
      refine xl_I (i := j19) hx hb hK hP g20 d_Ma_hold_34 ?_
      refine lv_istore (lv' := [(6, .int r20), (5, .int r12.toInt32), (0, .ref (ad v0)), (1, va_rf (Option.map ad v1)), (2, va_rf (Option.map ad v2)), (3, .long v3)]) hx hb d_Ma_hold_35 hl (by decide) (by first | rfl | simp [List.filter, cat_rf]) (fun ls hl => ?_)
      refine lv_iconst (v := 0) hx hb d_Ma_hold_37 (by decide) ?_
      refine lv_istore (lv' := [(7, .int 0), (6, .int r20), (5, .int r12.toInt32), (0, .ref (ad v0)), (1, va_rf (Option.map ad v1)), (2, va_rf (Option.map ad v2)), (3, .long v3)]) hx hb d_Ma_hold_38 hl (by decide) (by first | rfl | simp [List.filter, cat_rf]) (fun ls hl => ?_)
      exact hG _ _ _ _ _ _ _ _ hf hm _ _ _ hB H locs hP hD hS ls (lv_sub hl [3, 4, 5, 6, 1, 0] rfl)
    · rw [br_n _ hc] at hf
      exact wb_Ma_hold_24 C0 hE N G hG _ _ hf hm _ _ _ hB H locs hP hD hS ls (lv_sub hl [] rfl)
def gg_Ma_hold (N : Nat) : Nat → ((CS → Nat → Option Nat → Option Nat → Int64 → Int32 → Int32 → Option (CS × Unit)))
  | 0 => fun _ _ _ _ _ _ _ => none
  | n + 1 => fb_Ma_hold_40 N (gg_Ma_hold N n)
theorem wg_Ma_hold {p : Program} {l : Launch} {e : Env} {s : State} {m : MethodId} {args : Array Value} {below : List Frame} {meth : Method} {c : Code} {s0 : State} {b0 : Nat} {D : va_G} {cB cI cJ cZ cS cP : ClassId} {A : Nat → Prop} {sk sv : Nat → Nat} {uN uS mc ms : Nat} {ad0 : Nat → Nat} (C0 : XCx p s s0 b0 m args meth c R_Ma b_Ma_hold 8 none D cB cI cJ cZ cS cP A) (hE : ENV s0 b0 sk sv) (N : Nat) : ∀ n : Nat, (∀ (u : CS) (v0 : Nat) (v1 : Option Nat) (v2 : Option Nat) (v3 : Int64) (v6 : Int32) (v7 : Int32) (x : CS × Unit), gg_Ma_hold N n u v0 v1 v2 v3 v6 v7 = some x → (uN + mc = x.1.1.1 ∧ uS + ms = x.1.1.2) → ∀ (ad : Nat → Nat) (ce sl : Nat), AB uN uS ad0 u ad ce sl → ∀ (H : Heap) (locs : List Loc), va_P D cls (wC cB cI cJ cZ cS cP ad u) H → va_D A (wC cB cI cJ cZ cS cP ad u) → va_S A s.heap H locs → ∀ (ls : Array Slot), lv_has ls 8 [(0, .ref (ad v0)), (1, va_rf (Option.map ad v1)), (2, va_rf (Option.map ad v2)), (3, .long v3), (6, .int v6), (7, .int v7)] → W p l e (rm_Ma_hold mc ms) s m args below meth c H locs ce sl (MQ below (xQ D cB cI cJ cZ cS cP A ad0 uN x.1 none) args s mc ms A) (F0 m 40 ls []))
  | 0 => (fun u v0 v1 v2 v3 v6 v7 x hf => by cases hf)
  | n + 1 => wb_Ma_hold_40 C0 hE N (gg_Ma_hold N n) (wg_Ma_hold C0 hE N n)
def fm_Ma_hold (N : Nat) (u : CS) (v0 : Nat) (v1 : Option Nat) (v2 : Option Nat) (v3 : Int64) : Option (CS × Unit) := fb_Ma_hold_0 N (gg_Ma_hold N N) u v0 v1 v2 v3
set_option maxRecDepth 100000 in
set_option maxHeartbeats 4000000 in
theorem c_Ma_hold (N : Nat) {l : Launch} {s0 : State} {b0 : Nat} {D : va_G} {cB cI cJ cZ cS cP : ClassId} {sk sv : Nat → Nat} {ad : Nat → Nat} {u : CS} {sz mc ms : Nat} {v0 : Nat} {v1 : Option Nat} {v2 : Option Nat} {v3 : Int64} {x : CS × Unit} (hE : ENV s0 b0 sk sv) (hf : fm_Ma_hold N u v0 v1 v2 v3 = some x) (hm : u.1.1 + mc = x.1.1.1 ∧ u.1.2 + ms = x.1.1.2) : Met l y_Ma_hold (wd_ws y_Ma_hold b_Ma_hold 8 none) (rm_Ma_hold mc ms) (xPc s0 b0 D cB cI cJ cZ cS cP ad u sz [.ref (ad v0), va_rf (Option.map ad v1), va_rf (Option.map ad v2), .long v3]) (xQ D cB cI cJ cZ cS cP (xA cB cI cJ cZ cS cP ad u sz) ad u.1.1 x.1 none) mc ms (xA cB cI cJ cZ cS cP ad u sz) :=
  xMet (by decide) rfl (by cases v1 <;> cases v2 <;> exact Nat.le_of_ble_eq_true rfl) (fun p e s m below meth c ls hsz hnm C0 hP hD hS hl =>
    wb_Ma_hold_0 C0 hE N (gg_Ma_hold N N) (wg_Ma_hold C0 hE N N) u _ _ _ _ x hf hm ad 0 0 ⟨rfl, rfl, fun _ _ => rfl⟩ s.heap [] hP hD hS ls (by rw [show lv_args 0 [.ref (ad v0), va_rf (Option.map ad v1), va_rf (Option.map ad v2), .long v3] = [(0, .ref (ad v0)), (1, va_rf (Option.map ad v1)), (2, va_rf (Option.map ad v2)), (3, .long v3)] from by cases v1 <;> cases v2 <;> rfl] at hl; exact lv_sub hl [0, 1, 2, 3] rfl))
abbrev b_Fr_drop : ByteArray := prog_4_method_15_code
def y_Fr_drop : MethodName := ⟨R_Fr, "drop", "(I)V"⟩
def w_Fr_drop : List Cond := wd_ws y_Fr_drop b_Fr_drop 2 none
set_option maxRecDepth 100000 in
theorem k_Fr_drop : Cond.code y_Fr_drop b_Fr_drop 2 none ∈ wd_tbl := wd_of 1751 rfl rfl
theorem d_Fr_drop_0 : decode b_Fr_drop 0 = .ok (.aload_n 0, 1) := by decide +kernel
theorem d_Fr_drop_1 : decode b_Fr_drop 1 = .ok (.iconst 0, 1) := by decide +kernel
theorem d_Fr_drop_2 : decode b_Fr_drop 2 = .ok (.aload_n 0, 1) := by decide +kernel
theorem d_Fr_drop_3 : decode b_Fr_drop 3 = .ok (.getfield 35, 3) := by decide +kernel
theorem d_Fr_drop_6 : decode b_Fr_drop 6 = .ok (.iload_n 1, 1) := by decide +kernel
theorem d_Fr_drop_7 : decode b_Fr_drop 7 = .ok (.isub, 1) := by decide +kernel
theorem d_Fr_drop_8 : decode b_Fr_drop 8 = .ok (.invokestatic 64, 3) := by decide +kernel
theorem d_Fr_drop_11 : decode b_Fr_drop 11 = .ok (.putfield 35, 3) := by decide +kernel
theorem d_Fr_drop_14 : decode b_Fr_drop 14 = .ok (.return_, 1) := by decide +kernel
set_option maxRecDepth 100000 in
theorem hi_Fr_drop : Cond.instanceMethod y_Fr_drop ∈ wd_tbl := wd_of 1749 (by decide +kernel) rfl
set_option maxRecDepth 100000 in
theorem hs_Fr_drop : Cond.selects R_Fr y_Fr_drop y_Fr_drop ∈ wd_tbl := wd_of 1750 (by decide +kernel) rfl
theorem hd_Fr_drop : y_Fr_drop.cls = R_Fr ∧ y_Fr_drop.cls ≠ "java/lang/invoke/MethodHandle" ∧ y_Fr_drop.cls ≠ "java/lang/invoke/VarHandle" ∧ (parseMethodDescriptor y_Fr_drop.desc).map (fun d => d.parameters.length) = some 1 := by decide +kernel
def rm_Fr_drop : Room := { frames := 1, cells := 0, slots := 0, locals := 23 }
def fb_Fr_drop_0 (N : Nat) (G : Unit) (u : CS) (v0 : Nat) (v1 : Int32) : Option (CS × Unit) := bo (gI u v0 4 6) (fun r1 => lt (if 0 < (r1 - v1) then (r1 - v1) else 0) (fun y2 => bo (pF u v0 4 6 (.inl y2)) (fun w3 => some (w3, ()))))
set_option maxRecDepth 100000 in
set_option maxHeartbeats 4000000 in
theorem wb_Fr_drop_0 {p : Program} {l : Launch} {e : Env} {s : State} {m : MethodId} {args : Array Value} {below : List Frame} {meth : Method} {c : Code} {s0 : State} {b0 : Nat} {D : va_G} {cB cI cJ cZ cS cP : ClassId} {A : Nat → Prop} {sk sv : Nat → Nat} {ad : Nat → Nat} (C0 : XCx p s s0 b0 m args meth c R_Fr b_Fr_drop 2 none D cB cI cJ cZ cS cP A) (hE : ENV s0 b0 sk sv) (N : Nat) (G : Unit) (hG : True) : ∀ (u : CS) (v0 : Nat) (v1 : Int32) (x : CS × Unit), fb_Fr_drop_0 N G u v0 v1 = some x → ∀ (H : Heap) (locs : List Loc), va_P D cls (wC cB cI cJ cZ cS cP ad u) H → va_D A (wC cB cI cJ cZ cS cP ad u) → va_S A s.heap H locs → ∀ (ls : Array Slot), lv_has ls 2 [(0, .ref (ad v0)), (1, .int v1)] → W p l e rm_Fr_drop s m args below meth c H locs 0 0 (MQ below (xQ0 D cB cI cJ cZ cS cP A ad x.1 none) args s 0 0 A) (F0 m 0 ls []) := by
  intro u v0 v1 x hf H locs hP hD hS ls hl
  obtain ⟨hx, hb, hr, hml, ht, hown, hK, hA, hlocks, hA0, hO, hbs⟩ := id C0
  unfold fb_Fr_drop_0 at hf
  refine lv_aload_n hx hb d_Fr_drop_0 rfl (lv_at hl 0 rfl) ?_
  refine lv_iconst (v := 0) hx hb d_Fr_drop_1 (by decide) ?_
  refine lv_aload_n hx hb d_Fr_drop_2 rfl (lv_at hl 0 rfl) ?_
  obtain ⟨r1, g1, hf⟩ := bo_some hf
  refine xg_I (i := v0) (k := 6) hx hb ht hown ck_Fr hK hP (by decide) fk_Fr_35 g1 d_Fr_drop_3 ?_
  refine lv_iload_n hx hb d_Fr_drop_6 rfl (lv_at hl 1 rfl) ?_
  refine lv_isub hx hb d_Fr_drop_7 ?_
  refine va_mmax hx hb (hml.trans hl.1.symm) hown (ht _ (wd_of 1752 (by decide +kernel) rfl)) (ht _ (wd_of 1184 (by decide +kernel) rfl)) (ht _ (wd_of 281 (by decide +kernel) rfl)) (ht _ (wd_of 1185 (by decide +kernel) rfl)) (Nat.le_of_ble_eq_true rfl) (Nat.le_trans (Nat.add_le_add_right (c8 (Nat.le_of_ble_eq_true rfl)) _) (Nat.le_of_ble_eq_true rfl)) (Nat.zero_le _) (Nat.zero_le _) d_Fr_drop_8 ?_
  obtain ⟨y2, e2, hf⟩ := lt_some hf
  rw [← e2]
  obtain ⟨w3, g3, hf⟩ := bo_some hf
  refine xp (i := v0) (k := 6) (v := (.inl y2)) hx hb ht hown ck_Fr hK hP hD hS (by decide) fk_Fr_35 rfl g3 rfl rfl d_Fr_drop_11 (fun H locs hP hD hS => ?_)
  exact xr0_v C0 hP hD hS hf d_Fr_drop_14
def fm_Fr_drop (N : Nat) (u : CS) (v0 : Nat) (v1 : Int32) : Option (CS × Unit) := fb_Fr_drop_0 N () u v0 v1
set_option maxRecDepth 100000 in
set_option maxHeartbeats 4000000 in
theorem c_Fr_drop (N : Nat) {l : Launch} {s0 : State} {b0 : Nat} {D : va_G} {cB cI cJ cZ cS cP : ClassId} {sk sv : Nat → Nat} {ad : Nat → Nat} {u : CS} {sz : Nat} {v0 : Nat} {v1 : Int32} {x : CS × Unit} (hE : ENV s0 b0 sk sv) (hf : fm_Fr_drop N u v0 v1 = some x) : Met l y_Fr_drop (wd_ws y_Fr_drop b_Fr_drop 2 none) rm_Fr_drop (xPc s0 b0 D cB cI cJ cZ cS cP ad u sz [.ref (ad v0), .int v1]) (xQ0 D cB cI cJ cZ cS cP (xA cB cI cJ cZ cS cP ad u sz) ad x.1 none) 0 0 (xA cB cI cJ cZ cS cP ad u sz) :=
  xMet (by decide) rfl (Nat.le_of_ble_eq_true rfl) (fun p e s m below meth c ls hsz hnm C0 hP hD hS hl =>
    wb_Fr_drop_0 C0 hE N () trivial u _ _ x hf s.heap [] hP hD hS ls (lv_sub hl [0, 1] rfl))
abbrev b_Fr_push : ByteArray := prog_4_method_13_code
def y_Fr_push : MethodName := ⟨R_Fr, "push", "(J)V"⟩
def w_Fr_push : List Cond := wd_ws y_Fr_push b_Fr_push 3 none
set_option maxRecDepth 100000 in
theorem k_Fr_push : Cond.code y_Fr_push b_Fr_push 3 none ∈ wd_tbl := wd_of 1756 rfl rfl
theorem d_Fr_push_0 : decode b_Fr_push 0 = .ok (.aload_n 0, 1) := by decide +kernel
theorem d_Fr_push_1 : decode b_Fr_push 1 = .ok (.getfield 35, 3) := by decide +kernel
theorem d_Fr_push_4 : decode b_Fr_push 4 = .ok (.aload_n 0, 1) := by decide +kernel
theorem d_Fr_push_5 : decode b_Fr_push 5 = .ok (.getfield 22, 3) := by decide +kernel
theorem d_Fr_push_8 : decode b_Fr_push 8 = .ok (.arraylength, 1) := by decide +kernel
theorem d_Fr_push_9 : decode b_Fr_push 9 = .ok (.if_icmp .lt 21, 3) := by decide +kernel
theorem d_Fr_push_12 : decode b_Fr_push 12 = .ok (.aload_n 0, 1) := by decide +kernel
theorem d_Fr_push_13 : decode b_Fr_push 13 = .ok (.aload_n 0, 1) := by decide +kernel
theorem d_Fr_push_14 : decode b_Fr_push 14 = .ok (.getfield 22, 3) := by decide +kernel
theorem d_Fr_push_17 : decode b_Fr_push 17 = .ok (.aload_n 0, 1) := by decide +kernel
theorem d_Fr_push_18 : decode b_Fr_push 18 = .ok (.getfield 22, 3) := by decide +kernel
theorem d_Fr_push_21 : decode b_Fr_push 21 = .ok (.arraylength, 1) := by decide +kernel
theorem d_Fr_push_22 : decode b_Fr_push 22 = .ok (.iconst 2, 1) := by decide +kernel
theorem d_Fr_push_23 : decode b_Fr_push 23 = .ok (.imul, 1) := by decide +kernel
theorem d_Fr_push_24 : decode b_Fr_push 24 = .ok (.invokestatic 58, 3) := by decide +kernel
theorem d_Fr_push_27 : decode b_Fr_push 27 = .ok (.putfield 22, 3) := by decide +kernel
theorem d_Fr_push_30 : decode b_Fr_push 30 = .ok (.aload_n 0, 1) := by decide +kernel
theorem d_Fr_push_31 : decode b_Fr_push 31 = .ok (.getfield 22, 3) := by decide +kernel
theorem d_Fr_push_34 : decode b_Fr_push 34 = .ok (.aload_n 0, 1) := by decide +kernel
theorem d_Fr_push_35 : decode b_Fr_push 35 = .ok (.getfield 35, 3) := by decide +kernel
theorem d_Fr_push_38 : decode b_Fr_push 38 = .ok (.lload_n 1, 1) := by decide +kernel
theorem d_Fr_push_39 : decode b_Fr_push 39 = .ok (.lastore, 1) := by decide +kernel
theorem d_Fr_push_40 : decode b_Fr_push 40 = .ok (.aload_n 0, 1) := by decide +kernel
theorem d_Fr_push_41 : decode b_Fr_push 41 = .ok (.dup, 1) := by decide +kernel
theorem d_Fr_push_42 : decode b_Fr_push 42 = .ok (.getfield 35, 3) := by decide +kernel
theorem d_Fr_push_45 : decode b_Fr_push 45 = .ok (.iconst 1, 1) := by decide +kernel
theorem d_Fr_push_46 : decode b_Fr_push 46 = .ok (.iadd, 1) := by decide +kernel
theorem d_Fr_push_47 : decode b_Fr_push 47 = .ok (.putfield 35, 3) := by decide +kernel
theorem d_Fr_push_50 : decode b_Fr_push 50 = .ok (.return_, 1) := by decide +kernel
set_option maxRecDepth 100000 in
theorem hi_Fr_push : Cond.instanceMethod y_Fr_push ∈ wd_tbl := wd_of 1754 (by decide +kernel) rfl
set_option maxRecDepth 100000 in
theorem hs_Fr_push : Cond.selects R_Fr y_Fr_push y_Fr_push ∈ wd_tbl := wd_of 1755 (by decide +kernel) rfl
theorem hd_Fr_push : y_Fr_push.cls = R_Fr ∧ y_Fr_push.cls ≠ "java/lang/invoke/MethodHandle" ∧ y_Fr_push.cls ≠ "java/lang/invoke/VarHandle" ∧ (parseMethodDescriptor y_Fr_push.desc).map (fun d => d.parameters.length) = some 1 := by decide +kernel
def rm_Fr_push (mc ms : Nat) : Room := { frames := 2, cells := mc, slots := ms, locals := 82 }
theorem rm_Fr_push_JA_copyOf1 {mc ms : Nat} {mc2 ms2 : Nat} : (rm_JA_copyOf1 mc2 ms2).frames + 1 ≤ (rm_Fr_push mc ms).frames ∧ 8 + (3 + 11) + (rm_JA_copyOf1 mc2 ms2).locals ≤ (rm_Fr_push mc ms).locals := by
  show 1 + 1 ≤ 2 ∧ 8 + (3 + 11) + 60 ≤ 82
  decide
def fb_Fr_push_30 (N : Nat) (G : Unit) (u : CS) (v0 : Nat) (v1 : Int64) : Option (CS × Unit) := bo (gR u v0 4 5) (fun r1 => bo (gI u v0 4 6) (fun r2 => bo r1 (fun j3 => bo (sJ u j3 r2 v1) (fun w4 => bo (gI w4 v0 4 6) (fun r5 => bo (pF w4 v0 4 6 (.inl (r5 + 1))) (fun w6 => some (w6, ())))))))
set_option maxRecDepth 100000 in
set_option maxHeartbeats 4000000 in
theorem wb_Fr_push_30 {p : Program} {l : Launch} {e : Env} {s : State} {m : MethodId} {args : Array Value} {below : List Frame} {meth : Method} {c : Code} {s0 : State} {b0 : Nat} {D : va_G} {cB cI cJ cZ cS cP : ClassId} {A : Nat → Prop} {sk sv : Nat → Nat} {uN uS mc ms : Nat} {ad0 : Nat → Nat} (C0 : XCx p s s0 b0 m args meth c R_Fr b_Fr_push 3 none D cB cI cJ cZ cS cP A) (hE : ENV s0 b0 sk sv) (N : Nat) (G : Unit) (hG : True) : ∀ (u : CS) (v0 : Nat) (v1 : Int64) (x : CS × Unit), fb_Fr_push_30 N G u v0 v1 = some x → (uN + mc = x.1.1.1 ∧ uS + ms = x.1.1.2) → ∀ (ad : Nat → Nat) (ce sl : Nat), AB uN uS ad0 u ad ce sl → ∀ (H : Heap) (locs : List Loc), va_P D cls (wC cB cI cJ cZ cS cP ad u) H → va_D A (wC cB cI cJ cZ cS cP ad u) → va_S A s.heap H locs → ∀ (ls : Array Slot), lv_has ls 3 [(0, .ref (ad v0)), (1, .long v1)] → W p l e (rm_Fr_push mc ms) s m args below meth c H locs ce sl (MQ below (xQ D cB cI cJ cZ cS cP A ad0 uN x.1 none) args s mc ms A) (F0 m 30 ls []) := by
  intro u v0 v1 x hf hm ad ce sl hB H locs hP hD hS ls hl
  obtain ⟨hx, hb, hr, hml, ht, hown, hK, hA, hlocks, hA0, hO, hbs⟩ := id C0
  unfold fb_Fr_push_30 at hf
  refine lv_aload_n hx hb d_Fr_push_30 rfl (lv_at hl 0 rfl) ?_
  obtain ⟨r1, g1, hf⟩ := bo_some hf
  refine xg_R (i := v0) (k := 5) hx hb ht hown ck_Fr hK hP (by decide) fk_Fr_22 g1 d_Fr_push_31 ?_
  refine lv_aload_n hx hb d_Fr_push_34 rfl (lv_at hl 0 rfl) ?_
  obtain ⟨r2, g2, hf⟩ := bo_some hf
  refine xg_I (i := v0) (k := 6) hx hb ht hown ck_Fr hK hP (by decide) fk_Fr_35 g2 d_Fr_push_35 ?_
  refine lv_lload_n hx hb d_Fr_push_38 rfl (lv_at hl 1 rfl) ?_
  obtain ⟨j3, ej3, hf⟩ := bo_some hf
  rw [ej3]
  obtain ⟨w4, g4, hf⟩ := bo_some hf
  refine xs_J (i := j3) hx hb hK hP hD hS g4 d_Fr_push_39 (fun H locs hP hD hS => ?_)
  have hB := hB.same (sJ_c g4)
  refine lv_aload_n hx hb d_Fr_push_40 rfl (lv_at hl 0 rfl) ?_
  refine lv_dup hx hb d_Fr_push_41 rfl ?_
  obtain ⟨r5, g5, hf⟩ := bo_some hf
  refine xg_I (i := v0) (k := 6) hx hb ht hown ck_Fr hK hP (by decide) fk_Fr_35 g5 d_Fr_push_42 ?_
  refine lv_iconst (v := 1) hx hb d_Fr_push_45 (by decide) ?_
  refine lv_iadd hx hb d_Fr_push_46 ?_
  obtain ⟨w6, g6, hf⟩ := bo_some hf
  refine xp (i := v0) (k := 6) (v := (.inl (r5 + 1))) hx hb ht hown ck_Fr hK hP hD hS (by decide) fk_Fr_35 rfl g6 rfl rfl d_Fr_push_47 (fun H locs hP hD hS => ?_)
  have hB := hB.same (pF_c g6)
  exact yr_v C0 hP hD hS hB hm hf d_Fr_push_50
def fb_Fr_push_0 (N : Nat) (G : Unit) (u : CS) (v0 : Nat) (v1 : Int64) : Option (CS × Unit) := bo (gI u v0 4 6) (fun r7 => bo (gR u v0 4 5) (fun r8 => bo r8 (fun j9 => bo (nJ u j9) (fun r10 => br (decide (r7 < r10)) (fb_Fr_push_30 N G u (v0) (v1)) (bo (gR u v0 4 5) (fun r11 => bo (gR u v0 4 5) (fun r12 => bo r12 (fun j13 => bo (nJ u j13) (fun r14 => ck (List.all [some v0] (okR u.1.1)) (bx (gw u (fm_JA_copyOf1 N u r11 (r14 * 2))) (fun u15 r15 => gw u15 (bo (pF u15 v0 4 5 (.inr (.inr r15))) (fun w16 => fb_Fr_push_30 N G w16 (v0) (v1))))))))))))))
set_option maxRecDepth 100000 in
set_option maxHeartbeats 4000000 in
theorem wb_Fr_push_0 {p : Program} {l : Launch} {e : Env} {s : State} {m : MethodId} {args : Array Value} {below : List Frame} {meth : Method} {c : Code} {s0 : State} {b0 : Nat} {D : va_G} {cB cI cJ cZ cS cP : ClassId} {A : Nat → Prop} {sk sv : Nat → Nat} {uN uS mc ms : Nat} {ad0 : Nat → Nat} (C0 : XCx p s s0 b0 m args meth c R_Fr b_Fr_push 3 none D cB cI cJ cZ cS cP A) (hE : ENV s0 b0 sk sv) (N : Nat) (G : Unit) (hG : True) : ∀ (u : CS) (v0 : Nat) (v1 : Int64) (x : CS × Unit), fb_Fr_push_0 N G u v0 v1 = some x → (uN + mc = x.1.1.1 ∧ uS + ms = x.1.1.2) → ∀ (ad : Nat → Nat) (ce sl : Nat), AB uN uS ad0 u ad ce sl → ∀ (H : Heap) (locs : List Loc), va_P D cls (wC cB cI cJ cZ cS cP ad u) H → va_D A (wC cB cI cJ cZ cS cP ad u) → va_S A s.heap H locs → ∀ (ls : Array Slot), lv_has ls 3 [(0, .ref (ad v0)), (1, .long v1)] → W p l e (rm_Fr_push mc ms) s m args below meth c H locs ce sl (MQ below (xQ D cB cI cJ cZ cS cP A ad0 uN x.1 none) args s mc ms A) (F0 m 0 ls []) := by
  intro u v0 v1 x hf hm ad ce sl hB H locs hP hD hS ls hl
  obtain ⟨hx, hb, hr, hml, ht, hown, hK, hA, hlocks, hA0, hO, hbs⟩ := id C0
  unfold fb_Fr_push_0 at hf
  refine lv_aload_n hx hb d_Fr_push_0 rfl (lv_at hl 0 rfl) ?_
  obtain ⟨r7, g7, hf⟩ := bo_some hf
  refine xg_I (i := v0) (k := 6) hx hb ht hown ck_Fr hK hP (by decide) fk_Fr_35 g7 d_Fr_push_1 ?_
  refine lv_aload_n hx hb d_Fr_push_4 rfl (lv_at hl 0 rfl) ?_
  obtain ⟨r8, g8, hf⟩ := bo_some hf
  refine xg_R (i := v0) (k := 5) hx hb ht hown ck_Fr hK hP (by decide) fk_Fr_22 g8 d_Fr_push_5 ?_
  obtain ⟨j9, ej9, hf⟩ := bo_some hf
  rw [ej9]
  obtain ⟨r10, g10, hf⟩ := bo_some hf
  refine xn_J (i := j9) hx hb hK hP g10 d_Fr_push_8 ?_
  refine lv_icmp_lt (tgt := 30) hx hb d_Fr_push_9 (by decide) (fun hc => ?_) (fun hc => ?_)
  · rw [br_p _ hc] at hf
    exact wb_Fr_push_30 C0 hE N G hG _ _ _ _ hf hm _ _ _ hB H locs hP hD hS ls (lv_sub hl [0, 1] rfl)
  · rw [br_n _ hc] at hf
    refine lv_aload_n hx hb d_Fr_push_12 rfl (lv_at hl 0 rfl) ?_
    refine lv_aload_n hx hb d_Fr_push_13 rfl (lv_at hl 0 rfl) ?_
    obtain ⟨r11, g11, hf⟩ := bo_some hf
    refine xg_R (i := v0) (k := 5) hx hb ht hown ck_Fr hK hP (by decide) fk_Fr_22 g11 d_Fr_push_14 ?_
    refine lv_aload_n hx hb d_Fr_push_17 rfl (lv_at hl 0 rfl) ?_
    obtain ⟨r12, g12, hf⟩ := bo_some hf
    refine xg_R (i := v0) (k := 5) hx hb ht hown ck_Fr hK hP (by decide) fk_Fr_22 g12 d_Fr_push_18 ?_
    obtain ⟨j13, ej13, hf⟩ := bo_some hf
    rw [ej13]
    obtain ⟨r14, g14, hf⟩ := bo_some hf
    refine xn_J (i := j13) hx hb hK hP g14 d_Fr_push_21 ?_
    refine lv_iconst (v := 2) hx hb d_Fr_push_22 (by decide) ?_
    refine lv_imul hx hb d_Fr_push_23 ?_
    obtain ⟨hk15, hf⟩ := ck_some hf
    obtain ⟨u15, r15, hc15, hf⟩ := bx_some hf
    obtain ⟨hc15, hq15⟩ := gw_some hc15
    obtain ⟨hf, hw15⟩ := gw_some hf
    refine yS (As := [va_rf (Option.map ad r11), .int (r14 * 2)]) (rest := [.ref (ad v0)]) C0 hP hD hS (c_JA_copyOf1 N hE hc15 (gm hq15)) k_JA_copyOf1 (wd_of 1715 (by decide +kernel) rfl) ht_JA_copyOf1 hini_JA rfl rfl hd_JA_copyOf1 rfl rm_Fr_push_JA_copyOf1 hl.1 (Nat.le_of_ble_eq_true rfl) d_Fr_push_24 rfl (gm hq15) hB hm hw15 (fun ad15 H locs ce sl hg15 hB hP hD hS => ?_)
    have q15_0 : ad15 v0 = ad v0 := ko_O (k := 0) hk15 rfl hg15
    have hl : lv_has ls 3 [(0, .ref (ad15 v0)), (1, .long v1)] := by simp only [q15_0]; exact hl
    refine W.eq (g2 := F0 m 27 ls [va_rf (Option.map ad15 r15), .ref (ad15 v0)]) (by show F0 m _ ls [va_rf (Option.map ad15 r15), .ref (ad v0)] = F0 m _ ls [va_rf (Option.map ad15 r15), .ref (ad15 v0)]; simp only [q15_0]) ?_
    obtain ⟨w16, g16, hf⟩ := bo_some hf
    refine xp (i := v0) (k := 5) (v := (.inr (.inr r15))) hx hb ht hown ck_Fr hK hP hD hS (by decide) fk_Fr_22 rfl g16 (show narrow (.array .long) (va_rf _) = va_rf _ from nr_arr _ _) (show fits (.array .long) (va_rf _) = true from ft_arr _ _) d_Fr_push_27 (fun H locs hP hD hS => ?_)
    have hB := hB.same (pF_c g16)
    exact wb_Fr_push_30 C0 hE N G hG _ _ _ _ hf hm _ _ _ hB H locs hP hD hS ls (lv_sub hl [0, 1] rfl)
def fm_Fr_push (N : Nat) (u : CS) (v0 : Nat) (v1 : Int64) : Option (CS × Unit) := fb_Fr_push_0 N () u v0 v1
set_option maxRecDepth 100000 in
set_option maxHeartbeats 4000000 in
theorem c_Fr_push (N : Nat) {l : Launch} {s0 : State} {b0 : Nat} {D : va_G} {cB cI cJ cZ cS cP : ClassId} {sk sv : Nat → Nat} {ad : Nat → Nat} {u : CS} {sz mc ms : Nat} {v0 : Nat} {v1 : Int64} {x : CS × Unit} (hE : ENV s0 b0 sk sv) (hf : fm_Fr_push N u v0 v1 = some x) (hm : u.1.1 + mc = x.1.1.1 ∧ u.1.2 + ms = x.1.1.2) : Met l y_Fr_push (wd_ws y_Fr_push b_Fr_push 3 none) (rm_Fr_push mc ms) (xPc s0 b0 D cB cI cJ cZ cS cP ad u sz [.ref (ad v0), .long v1]) (xQ D cB cI cJ cZ cS cP (xA cB cI cJ cZ cS cP ad u sz) ad u.1.1 x.1 none) mc ms (xA cB cI cJ cZ cS cP ad u sz) :=
  xMet (by decide) rfl (Nat.le_of_ble_eq_true rfl) (fun p e s m below meth c ls hsz hnm C0 hP hD hS hl =>
    wb_Fr_push_0 C0 hE N () trivial u _ _ x hf hm ad 0 0 ⟨rfl, rfl, fun _ _ => rfl⟩ s.heap [] hP hD hS ls (lv_sub hl [0, 1] rfl))
abbrev b_Ma_answer : ByteArray := prog_5_method_5_code
def y_Ma_answer : MethodName := ⟨R_Ma, "answer", "(IJ)V"⟩
def w_Ma_answer : List Cond := wd_ws y_Ma_answer b_Ma_answer 4 none
set_option maxRecDepth 100000 in
theorem k_Ma_answer : Cond.code y_Ma_answer b_Ma_answer 4 none ∈ wd_tbl := wd_of 1747 rfl rfl
theorem d_Ma_answer_0 : decode b_Ma_answer 0 = .ok (.aload_n 0, 1) := by decide +kernel
theorem d_Ma_answer_1 : decode b_Ma_answer 1 = .ok (.getfield 33, 3) := by decide +kernel
theorem d_Ma_answer_4 : decode b_Ma_answer 4 = .ok (.iload_n 1, 1) := by decide +kernel
theorem d_Ma_answer_5 : decode b_Ma_answer 5 = .ok (.invokevirtual 109, 3) := by decide +kernel
theorem d_Ma_answer_8 : decode b_Ma_answer 8 = .ok (.aload_n 0, 1) := by decide +kernel
theorem d_Ma_answer_9 : decode b_Ma_answer 9 = .ok (.getfield 33, 3) := by decide +kernel
theorem d_Ma_answer_12 : decode b_Ma_answer 12 = .ok (.lload_n 2, 1) := by decide +kernel
theorem d_Ma_answer_13 : decode b_Ma_answer 13 = .ok (.invokevirtual 112, 3) := by decide +kernel
theorem d_Ma_answer_16 : decode b_Ma_answer 16 = .ok (.return_, 1) := by decide +kernel
set_option maxRecDepth 100000 in
theorem hl_Ma_answer : Cond.methodLink R_Ma 145 y_Ma_answer ∈ wd_tbl := wd_of 1744 (by decide +kernel) rfl
set_option maxRecDepth 100000 in
theorem hi_Ma_answer : Cond.instanceMethod y_Ma_answer ∈ wd_tbl := wd_of 1746 (by decide +kernel) rfl
set_option maxRecDepth 100000 in
theorem hs_Ma_answer : Cond.selects R_Ma y_Ma_answer y_Ma_answer ∈ wd_tbl := wd_of 81 (by decide +kernel) rfl
theorem hd_Ma_answer : y_Ma_answer.cls = R_Ma ∧ y_Ma_answer.cls ≠ "java/lang/invoke/MethodHandle" ∧ y_Ma_answer.cls ≠ "java/lang/invoke/VarHandle" ∧ (parseMethodDescriptor y_Ma_answer.desc).map (fun d => d.parameters.length) = some 2 := by decide +kernel
def rm_Ma_answer (mc ms : Nat) : Room := { frames := 3, cells := mc, slots := ms, locals := 104 }
theorem rm_Ma_answer_Fr_drop {mc ms : Nat} : (rm_Fr_drop).frames + 1 ≤ (rm_Ma_answer mc ms).frames ∧ 8 + (2 + 11) + (rm_Fr_drop).locals ≤ (rm_Ma_answer mc ms).locals := by
  show 1 + 1 ≤ 3 ∧ 8 + (2 + 11) + 23 ≤ 104
  decide
theorem rm_Ma_answer_Fr_push {mc ms : Nat} {mc2 ms2 : Nat} : (rm_Fr_push mc2 ms2).frames + 1 ≤ (rm_Ma_answer mc ms).frames ∧ 8 + (3 + 11) + (rm_Fr_push mc2 ms2).locals ≤ (rm_Ma_answer mc ms).locals := by
  show 2 + 1 ≤ 3 ∧ 8 + (3 + 11) + 82 ≤ 104
  decide
def fb_Ma_answer_0 (N : Nat) (G : Unit) (u : CS) (v0 : Nat) (v1 : Int32) (v2 : Int64) : Option (CS × Unit) := bo (gR u v0 5 4) (fun r1 => bo r1 (fun j3 => ck (isO u j3 4) (bx (gz u (fm_Fr_drop N u j3 v1)) (fun u2 r2 => gw u2 (bo (gR u2 v0 5 4) (fun r4 => bo r4 (fun j6 => ck (isO u2 j6 4) (ck (List.all [some v0] (okR u2.1.1)) (bx (gw u2 (fm_Fr_push N u2 j6 v2)) (fun u5 r5 => gw u5 (some (u5, ()))))))))))))
set_option maxRecDepth 100000 in
set_option maxHeartbeats 4000000 in
theorem wb_Ma_answer_0 {p : Program} {l : Launch} {e : Env} {s : State} {m : MethodId} {args : Array Value} {below : List Frame} {meth : Method} {c : Code} {s0 : State} {b0 : Nat} {D : va_G} {cB cI cJ cZ cS cP : ClassId} {A : Nat → Prop} {sk sv : Nat → Nat} {uN uS mc ms : Nat} {ad0 : Nat → Nat} (C0 : XCx p s s0 b0 m args meth c R_Ma b_Ma_answer 4 none D cB cI cJ cZ cS cP A) (hE : ENV s0 b0 sk sv) (N : Nat) (G : Unit) (hG : True) : ∀ (u : CS) (v0 : Nat) (v1 : Int32) (v2 : Int64) (x : CS × Unit), fb_Ma_answer_0 N G u v0 v1 v2 = some x → (uN + mc = x.1.1.1 ∧ uS + ms = x.1.1.2) → ∀ (ad : Nat → Nat) (ce sl : Nat), AB uN uS ad0 u ad ce sl → ∀ (H : Heap) (locs : List Loc), va_P D cls (wC cB cI cJ cZ cS cP ad u) H → va_D A (wC cB cI cJ cZ cS cP ad u) → va_S A s.heap H locs → ∀ (ls : Array Slot), lv_has ls 4 [(0, .ref (ad v0)), (1, .int v1), (2, .long v2)] → W p l e (rm_Ma_answer mc ms) s m args below meth c H locs ce sl (MQ below (xQ D cB cI cJ cZ cS cP A ad0 uN x.1 none) args s mc ms A) (F0 m 0 ls []) := by
  intro u v0 v1 v2 x hf hm ad ce sl hB H locs hP hD hS ls hl
  obtain ⟨hx, hb, hr, hml, ht, hown, hK, hA, hlocks, hA0, hO, hbs⟩ := id C0
  unfold fb_Ma_answer_0 at hf
  refine lv_aload_n hx hb d_Ma_answer_0 rfl (lv_at hl 0 rfl) ?_
  obtain ⟨r1, g1, hf⟩ := bo_some hf
  refine xg_R (i := v0) (k := 4) hx hb ht hown ck_Ma hK hP (by decide) fk_Ma_33 g1 d_Ma_answer_1 ?_
  refine lv_iload_n hx hb d_Ma_answer_4 rfl (lv_at hl 1 rfl) ?_
  obtain ⟨j3, ej3, hf⟩ := bo_some hf
  rw [ej3]
  obtain ⟨hO9, hf⟩ := ck_some hf
  obtain ⟨u2, r2, hc2, hf⟩ := bx_some hf
  obtain ⟨hc2, hz2⟩ := gz_some hc2
  obtain ⟨hf, hw2⟩ := gw_some hf
  refine xV0 (i := j3) (As := [.int v1]) (rest := []) C0 hP hD hS ck_Fr hO9 (c_Fr_drop N hE hc2) k_Fr_drop (wd_of 1748 (by decide +kernel) rfl) hi_Fr_drop hs_Fr_drop hini_Fr rfl rfl hd_Fr_drop rfl rm_Ma_answer_Fr_drop hl.1 (Nat.le_of_ble_eq_true rfl) d_Ma_answer_5 rfl (hB.fit hm hz2 hw2) (fun H locs hP hD hS => ?_)
  have hB := hB.same2 hz2
  refine lv_aload_n hx hb d_Ma_answer_8 rfl (lv_at hl 0 rfl) ?_
  obtain ⟨r4, g4, hf⟩ := bo_some hf
  refine xg_R (i := v0) (k := 4) hx hb ht hown ck_Ma hK hP (by decide) fk_Ma_33 g4 d_Ma_answer_9 ?_
  refine lv_lload_n hx hb d_Ma_answer_12 rfl (lv_at hl 2 rfl) ?_
  obtain ⟨j6, ej6, hf⟩ := bo_some hf
  rw [ej6]
  obtain ⟨hO9, hf⟩ := ck_some hf
  obtain ⟨hk5, hf⟩ := ck_some hf
  obtain ⟨u5, r5, hc5, hf⟩ := bx_some hf
  obtain ⟨hc5, hq5⟩ := gw_some hc5
  obtain ⟨hf, hw5⟩ := gw_some hf
  refine yV (i := j6) (As := [.long v2]) (rest := []) C0 hP hD hS ck_Fr hO9 (c_Fr_push N hE hc5 (gm hq5)) k_Fr_push (wd_of 1753 (by decide +kernel) rfl) hi_Fr_push hs_Fr_push hini_Fr rfl rfl hd_Fr_push rfl rm_Ma_answer_Fr_push hl.1 (Nat.le_of_ble_eq_true rfl) d_Ma_answer_13 rfl (gm hq5) hB hm hw5 (fun ad5 H locs ce sl hg5 hB hP hD hS => ?_)
  have q5_0 : ad5 v0 = ad v0 := ko_O (k := 0) hk5 rfl hg5
  have hl : lv_has ls 4 [(0, .ref (ad5 v0)), (1, .int v1), (2, .long v2)] := by simp only [q5_0]; exact hl
  exact yr_v C0 hP hD hS hB hm hf d_Ma_answer_16
def fm_Ma_answer (N : Nat) (u : CS) (v0 : Nat) (v1 : Int32) (v2 : Int64) : Option (CS × Unit) := fb_Ma_answer_0 N () u v0 v1 v2
set_option maxRecDepth 100000 in
set_option maxHeartbeats 4000000 in
theorem c_Ma_answer (N : Nat) {l : Launch} {s0 : State} {b0 : Nat} {D : va_G} {cB cI cJ cZ cS cP : ClassId} {sk sv : Nat → Nat} {ad : Nat → Nat} {u : CS} {sz mc ms : Nat} {v0 : Nat} {v1 : Int32} {v2 : Int64} {x : CS × Unit} (hE : ENV s0 b0 sk sv) (hf : fm_Ma_answer N u v0 v1 v2 = some x) (hm : u.1.1 + mc = x.1.1.1 ∧ u.1.2 + ms = x.1.1.2) : Met l y_Ma_answer (wd_ws y_Ma_answer b_Ma_answer 4 none) (rm_Ma_answer mc ms) (xPc s0 b0 D cB cI cJ cZ cS cP ad u sz [.ref (ad v0), .int v1, .long v2]) (xQ D cB cI cJ cZ cS cP (xA cB cI cJ cZ cS cP ad u sz) ad u.1.1 x.1 none) mc ms (xA cB cI cJ cZ cS cP ad u sz) :=
  xMet (by decide) rfl (Nat.le_of_ble_eq_true rfl) (fun p e s m below meth c ls hsz hnm C0 hP hD hS hl =>
    wb_Ma_answer_0 C0 hE N () trivial u _ _ _ x hf hm ad 0 0 ⟨rfl, rfl, fun _ _ => rfl⟩ s.heap [] hP hD hS ls (lv_sub hl [0, 1, 2] rfl))
abbrev b_Ma_spawn : ByteArray := prog_5_method_48_code
def y_Ma_spawn : MethodName := ⟨R_Ma, "spawn", "()V"⟩
def w_Ma_spawn : List Cond := wd_ws y_Ma_spawn b_Ma_spawn 6 none
set_option maxRecDepth 100000 in
theorem k_Ma_spawn : Cond.code y_Ma_spawn b_Ma_spawn 6 none ∈ wd_tbl := wd_of 1652 rfl rfl
theorem d_Ma_spawn_0 : decode b_Ma_spawn 0 = .ok (.aload_n 0, 1) := by decide +kernel
theorem d_Ma_spawn_1 : decode b_Ma_spawn 1 = .ok (.getfield 33, 3) := by decide +kernel
theorem d_Ma_spawn_4 : decode b_Ma_spawn 4 = .ok (.iconst 0, 1) := by decide +kernel
theorem d_Ma_spawn_5 : decode b_Ma_spawn 5 = .ok (.invokevirtual 138, 3) := by decide +kernel
theorem d_Ma_spawn_8 : decode b_Ma_spawn 8 = .ok (.lstore_n 1, 1) := by decide +kernel
theorem d_Ma_spawn_9 : decode b_Ma_spawn 9 = .ok (.lload_n 1, 1) := by decide +kernel
theorem d_Ma_spawn_10 : decode b_Ma_spawn 10 = .ok (.invokestatic 253, 3) := by decide +kernel
theorem d_Ma_spawn_13 : decode b_Ma_spawn 13 = .ok (.iconst 3, 1) := by decide +kernel
theorem d_Ma_spawn_14 : decode b_Ma_spawn 14 = .ok (.if_icmp .ne 28, 3) := by decide +kernel
theorem d_Ma_spawn_17 : decode b_Ma_spawn 17 = .ok (.aload_n 0, 1) := by decide +kernel
theorem d_Ma_spawn_18 : decode b_Ma_spawn 18 = .ok (.getfield 9, 3) := by decide +kernel
theorem d_Ma_spawn_21 : decode b_Ma_spawn 21 = .ok (.aload_n 0, 1) := by decide +kernel
theorem d_Ma_spawn_22 : decode b_Ma_spawn 22 = .ok (.getfield 23, 3) := by decide +kernel
theorem d_Ma_spawn_25 : decode b_Ma_spawn 25 = .ok (.getfield 195, 3) := by decide +kernel
theorem d_Ma_spawn_28 : decode b_Ma_spawn 28 = .ok (.lload_n 1, 1) := by decide +kernel
theorem d_Ma_spawn_29 : decode b_Ma_spawn 29 = .ok (.l2i, 1) := by decide +kernel
theorem d_Ma_spawn_30 : decode b_Ma_spawn 30 = .ok (.laload, 1) := by decide +kernel
theorem d_Ma_spawn_31 : decode b_Ma_spawn 31 = .ok (.l2i, 1) := by decide +kernel
theorem d_Ma_spawn_32 : decode b_Ma_spawn 32 = .ok (.invokevirtual 372, 3) := by decide +kernel
theorem d_Ma_spawn_35 : decode b_Ma_spawn 35 = .ok (.ifCond .ne 7, 3) := by decide +kernel
theorem d_Ma_spawn_38 : decode b_Ma_spawn 38 = .ok (.iconst 1, 1) := by decide +kernel
theorem d_Ma_spawn_39 : decode b_Ma_spawn 39 = .ok (.goto 4, 3) := by decide +kernel
theorem d_Ma_spawn_42 : decode b_Ma_spawn 42 = .ok (.iconst 0, 1) := by decide +kernel
theorem d_Ma_spawn_43 : decode b_Ma_spawn 43 = .ok (.istore_n 3, 1) := by decide +kernel
theorem d_Ma_spawn_44 : decode b_Ma_spawn 44 = .ok (.iload_n 3, 1) := by decide +kernel
theorem d_Ma_spawn_45 : decode b_Ma_spawn 45 = .ok (.ifCond .eq 13, 3) := by decide +kernel
theorem d_Ma_spawn_48 : decode b_Ma_spawn 48 = .ok (.aload_n 0, 1) := by decide +kernel
theorem d_Ma_spawn_49 : decode b_Ma_spawn 49 = .ok (.getfield 15, 3) := by decide +kernel
theorem d_Ma_spawn_52 : decode b_Ma_spawn 52 = .ok (.invokevirtual 431, 3) := by decide +kernel
theorem d_Ma_spawn_55 : decode b_Ma_spawn 55 = .ok (.goto 4, 3) := by decide +kernel
theorem d_Ma_spawn_58 : decode b_Ma_spawn 58 = .ok (.aconst_null, 1) := by decide +kernel
theorem d_Ma_spawn_59 : decode b_Ma_spawn 59 = .ok (.astore 4, 2) := by decide +kernel
theorem d_Ma_spawn_61 : decode b_Ma_spawn 61 = .ok (.aload 4, 2) := by decide +kernel
theorem d_Ma_spawn_63 : decode b_Ma_spawn 63 = .ok (.ifnonnull 10, 3) := by decide +kernel
theorem d_Ma_spawn_66 : decode b_Ma_spawn 66 = .ok (.aload_n 0, 1) := by decide +kernel
theorem d_Ma_spawn_67 : decode b_Ma_spawn 67 = .ok (.bipush 11, 2) := by decide +kernel
theorem d_Ma_spawn_69 : decode b_Ma_spawn 69 = .ok (.invokevirtual 249, 3) := by decide +kernel
theorem d_Ma_spawn_72 : decode b_Ma_spawn 72 = .ok (.return_, 1) := by decide +kernel
theorem d_Ma_spawn_73 : decode b_Ma_spawn 73 = .ok (.aload_n 0, 1) := by decide +kernel
theorem d_Ma_spawn_74 : decode b_Ma_spawn 74 = .ok (.getfield 23, 3) := by decide +kernel
theorem d_Ma_spawn_77 : decode b_Ma_spawn 77 = .ok (.getfield 195, 3) := by decide +kernel
theorem d_Ma_spawn_80 : decode b_Ma_spawn 80 = .ok (.lload_n 1, 1) := by decide +kernel
theorem d_Ma_spawn_81 : decode b_Ma_spawn 81 = .ok (.l2i, 1) := by decide +kernel
theorem d_Ma_spawn_82 : decode b_Ma_spawn 82 = .ok (.laload, 1) := by decide +kernel
theorem d_Ma_spawn_83 : decode b_Ma_spawn 83 = .ok (.l2i, 1) := by decide +kernel
theorem d_Ma_spawn_84 : decode b_Ma_spawn 84 = .ok (.istore 5, 2) := by decide +kernel
theorem d_Ma_spawn_86 : decode b_Ma_spawn 86 = .ok (.aload 4, 2) := by decide +kernel
theorem d_Ma_spawn_88 : decode b_Ma_spawn 88 = .ok (.getfield 27, 3) := by decide +kernel
theorem d_Ma_spawn_91 : decode b_Ma_spawn 91 = .ok (.iload 5, 2) := by decide +kernel
theorem d_Ma_spawn_93 : decode b_Ma_spawn 93 = .ok (.invokestatic 378, 3) := by decide +kernel
theorem d_Ma_spawn_96 : decode b_Ma_spawn 96 = .ok (.aload_n 0, 1) := by decide +kernel
theorem d_Ma_spawn_97 : decode b_Ma_spawn 97 = .ok (.iload 5, 2) := by decide +kernel
theorem d_Ma_spawn_99 : decode b_Ma_spawn 99 = .ok (.invokevirtual 381, 3) := by decide +kernel
theorem d_Ma_spawn_102 : decode b_Ma_spawn 102 = .ok (.iconst 0, 1) := by decide +kernel
theorem d_Ma_spawn_103 : decode b_Ma_spawn 103 = .ok (.invokevirtual 369, 3) := by decide +kernel
theorem d_Ma_spawn_106 : decode b_Ma_spawn 106 = .ok (.aload 4, 2) := by decide +kernel
theorem d_Ma_spawn_108 : decode b_Ma_spawn 108 = .ok (.aload_n 0, 1) := by decide +kernel
theorem d_Ma_spawn_109 : decode b_Ma_spawn 109 = .ok (.getfield 19, 3) := by decide +kernel
theorem d_Ma_spawn_112 : decode b_Ma_spawn 112 = .ok (.aload_n 0, 1) := by decide +kernel
theorem d_Ma_spawn_113 : decode b_Ma_spawn 113 = .ok (.getfield 23, 3) := by decide +kernel
theorem d_Ma_spawn_116 : decode b_Ma_spawn 116 = .ok (.getfield 195, 3) := by decide +kernel
theorem d_Ma_spawn_119 : decode b_Ma_spawn 119 = .ok (.lload_n 1, 1) := by decide +kernel
theorem d_Ma_spawn_120 : decode b_Ma_spawn 120 = .ok (.invokevirtual 235, 3) := by decide +kernel
theorem d_Ma_spawn_123 : decode b_Ma_spawn 123 = .ok (.invokevirtual 127, 3) := by decide +kernel
theorem d_Ma_spawn_126 : decode b_Ma_spawn 126 = .ok (.ifCond .eq 33, 3) := by decide +kernel
theorem d_Ma_spawn_129 : decode b_Ma_spawn 129 = .ok (.aload_n 0, 1) := by decide +kernel
theorem d_Ma_spawn_130 : decode b_Ma_spawn 130 = .ok (.aload 4, 2) := by decide +kernel
theorem d_Ma_spawn_132 : decode b_Ma_spawn 132 = .ok (.getfield 27, 3) := by decide +kernel
theorem d_Ma_spawn_135 : decode b_Ma_spawn 135 = .ok (.aload 4, 2) := by decide +kernel
theorem d_Ma_spawn_137 : decode b_Ma_spawn 137 = .ok (.getfield 195, 3) := by decide +kernel
theorem d_Ma_spawn_140 : decode b_Ma_spawn 140 = .ok (.aload 4, 2) := by decide +kernel
theorem d_Ma_spawn_142 : decode b_Ma_spawn 142 = .ok (.aload_n 0, 1) := by decide +kernel
theorem d_Ma_spawn_143 : decode b_Ma_spawn 143 = .ok (.getfield 23, 3) := by decide +kernel
theorem d_Ma_spawn_146 : decode b_Ma_spawn 146 = .ok (.getfield 195, 3) := by decide +kernel
theorem d_Ma_spawn_149 : decode b_Ma_spawn 149 = .ok (.lload_n 1, 1) := by decide +kernel
theorem d_Ma_spawn_150 : decode b_Ma_spawn 150 = .ok (.invokevirtual 435, 3) := by decide +kernel
theorem d_Ma_spawn_153 : decode b_Ma_spawn 153 = .ok (.invokevirtual 384, 3) := by decide +kernel
theorem d_Ma_spawn_156 : decode b_Ma_spawn 156 = .ok (.goto 14, 3) := by decide +kernel
theorem d_Ma_spawn_159 : decode b_Ma_spawn 159 = .ok (.aload_n 0, 1) := by decide +kernel
theorem d_Ma_spawn_160 : decode b_Ma_spawn 160 = .ok (.getfield 15, 3) := by decide +kernel
theorem d_Ma_spawn_163 : decode b_Ma_spawn 163 = .ok (.aload 4, 2) := by decide +kernel
theorem d_Ma_spawn_165 : decode b_Ma_spawn 165 = .ok (.bipush 20, 2) := by decide +kernel
theorem d_Ma_spawn_167 : decode b_Ma_spawn 167 = .ok (.invokevirtual 131, 3) := by decide +kernel
theorem d_Ma_spawn_170 : decode b_Ma_spawn 170 = .ok (.aload_n 0, 1) := by decide +kernel
theorem d_Ma_spawn_171 : decode b_Ma_spawn 171 = .ok (.iconst 1, 1) := by decide +kernel
theorem d_Ma_spawn_172 : decode b_Ma_spawn 172 = .ok (.iconst 4, 1) := by decide +kernel
theorem d_Ma_spawn_173 : decode b_Ma_spawn 173 = .ok (.aload 4, 2) := by decide +kernel
theorem d_Ma_spawn_175 : decode b_Ma_spawn 175 = .ok (.getfield 282, 3) := by decide +kernel
theorem d_Ma_spawn_178 : decode b_Ma_spawn 178 = .ok (.invokestatic 101, 3) := by decide +kernel
theorem d_Ma_spawn_181 : decode b_Ma_spawn 181 = .ok (.invokevirtual 145, 3) := by decide +kernel
theorem d_Ma_spawn_184 : decode b_Ma_spawn 184 = .ok (.return_, 1) := by decide +kernel
set_option maxRecDepth 100000 in
theorem hl_Ma_spawn : Cond.methodLink R_Ma 415 y_Ma_spawn ∈ wd_tbl := wd_of 1649 (by decide +kernel) rfl
set_option maxRecDepth 100000 in
theorem hi_Ma_spawn : Cond.instanceMethod y_Ma_spawn ∈ wd_tbl := wd_of 1651 (by decide +kernel) rfl
set_option maxRecDepth 100000 in
theorem hs_Ma_spawn : Cond.selects R_Ma y_Ma_spawn y_Ma_spawn ∈ wd_tbl := wd_of 75 (by decide +kernel) rfl
theorem hd_Ma_spawn : y_Ma_spawn.cls = R_Ma ∧ y_Ma_spawn.cls ≠ "java/lang/invoke/MethodHandle" ∧ y_Ma_spawn.cls ≠ "java/lang/invoke/VarHandle" ∧ (parseMethodDescriptor y_Ma_spawn.desc).map (fun d => d.parameters.length) = some 0 := by decide +kernel
def rm_Ma_spawn (mc ms : Nat) : Room := { frames := 4, cells := mc, slots := ms, locals := 132 }
theorem rm_Ma_spawn_Fr_below {mc ms : Nat} : (rm_Fr_below).frames + 1 ≤ (rm_Ma_spawn mc ms).frames ∧ 8 + (3 + 11) + (rm_Fr_below).locals ≤ (rm_Ma_spawn mc ms).locals := by
  show 0 + 1 ≤ 4 ∧ 8 + (3 + 11) + 0 ≤ 132
  decide
theorem rm_Ma_spawn_Te_tag {mc ms : Nat} : (rm_Te_tag).frames + 1 ≤ (rm_Ma_spawn mc ms).frames ∧ 8 + (2 + 11) + (rm_Te_tag).locals ≤ (rm_Ma_spawn mc ms).locals := by
  show 0 + 1 ≤ 4 ∧ 8 + (2 + 11) + 0 ≤ 132
  decide
theorem rm_Ma_spawn_Co_takes {mc ms : Nat} : (rm_Co_takes).frames + 1 ≤ (rm_Ma_spawn mc ms).frames ∧ 8 + (3 + 11) + (rm_Co_takes).locals ≤ (rm_Ma_spawn mc ms).locals := by
  show 0 + 1 ≤ 4 ∧ 8 + (3 + 11) + 0 ≤ 132
  decide
theorem rm_Ma_spawn_Wl_born {mc ms : Nat} {mc2 ms2 : Nat} : (rm_Wl_born mc2 ms2).frames + 1 ≤ (rm_Ma_spawn mc ms).frames ∧ 8 + (2 + 11) + (rm_Wl_born mc2 ms2).locals ≤ (rm_Ma_spawn mc ms).locals := by
  show 3 + 1 ≤ 4 ∧ 8 + (2 + 11) + 53 ≤ 132
  decide
theorem rm_Ma_spawn_Ma_wrong {mc ms : Nat} : (rm_Ma_wrong).frames + 1 ≤ (rm_Ma_spawn mc ms).frames ∧ 8 + (2 + 11) + (rm_Ma_wrong).locals ≤ (rm_Ma_spawn mc ms).locals := by
  show 2 + 1 ≤ 4 ∧ 8 + (2 + 11) + 41 ≤ 132
  decide
theorem rm_Ma_spawn_Ma_functionOf {mc ms : Nat} : (rm_Ma_functionOf).frames + 1 ≤ (rm_Ma_spawn mc ms).frames ∧ 8 + (1 + 11) + (rm_Ma_functionOf).locals ≤ (rm_Ma_spawn mc ms).locals := by
  show 0 + 1 ≤ 4 ∧ 8 + (1 + 11) + 0 ≤ 132
  decide
theorem rm_Ma_spawn_Ma_entryOf {mc ms : Nat} : (rm_Ma_entryOf).frames + 1 ≤ (rm_Ma_spawn mc ms).frames ∧ 8 + (3 + 11) + (rm_Ma_entryOf).locals ≤ (rm_Ma_spawn mc ms).locals := by
  show 1 + 1 ≤ 4 ∧ 8 + (3 + 11) + 20 ≤ 132
  decide
theorem rm_Ma_spawn_Fr_open {mc ms : Nat} : (rm_Fr_open).frames + 1 ≤ (rm_Ma_spawn mc ms).frames ∧ 8 + (4 + 11) + (rm_Fr_open).locals ≤ (rm_Ma_spawn mc ms).locals := by
  show 1 + 1 ≤ 4 ∧ 8 + (4 + 11) + 22 ≤ 132
  decide
theorem rm_Ma_spawn_Te_size {mc ms : Nat} : (rm_Te_size).frames + 1 ≤ (rm_Ma_spawn mc ms).frames ∧ 8 + (11 + 11) + (rm_Te_size).locals ≤ (rm_Ma_spawn mc ms).locals := by
  show 1 + 1 ≤ 4 ∧ 8 + (11 + 11) + 24 ≤ 132
  decide
theorem rm_Ma_spawn_Pr_want {mc ms : Nat} : (rm_Pr_want).frames + 1 ≤ (rm_Ma_spawn mc ms).frames ∧ 8 + (2 + 11) + (rm_Pr_want).locals ≤ (rm_Ma_spawn mc ms).locals := by
  show 2 + 1 ≤ 4 ∧ 8 + (2 + 11) + 76 ≤ 132
  decide
theorem rm_Ma_spawn_Pr_copyIn {mc ms : Nat} : (rm_Pr_copyIn).frames + 1 ≤ (rm_Ma_spawn mc ms).frames ∧ 8 + (13 + 11) + (rm_Pr_copyIn).locals ≤ (rm_Ma_spawn mc ms).locals := by
  show 1 + 1 ≤ 4 ∧ 8 + (13 + 11) + 48 ≤ 132
  decide
theorem rm_Ma_spawn_Ma_hold {mc ms : Nat} {mc2 ms2 : Nat} : (rm_Ma_hold mc2 ms2).frames + 1 ≤ (rm_Ma_spawn mc ms).frames ∧ 8 + (8 + 11) + (rm_Ma_hold mc2 ms2).locals ≤ (rm_Ma_spawn mc ms).locals := by
  show 3 + 1 ≤ 4 ∧ 8 + (8 + 11) + 105 ≤ 132
  decide
theorem rm_Ma_spawn_Wl_endsBy {mc ms : Nat} : (rm_Wl_endsBy).frames + 1 ≤ (rm_Ma_spawn mc ms).frames ∧ 8 + (3 + 11) + (rm_Wl_endsBy).locals ≤ (rm_Ma_spawn mc ms).locals := by
  show 1 + 1 ≤ 4 ∧ 8 + (3 + 11) + 24 ≤ 132
  decide
theorem rm_Ma_spawn_Te_make {mc ms : Nat} : (rm_Te_make).frames + 1 ≤ (rm_Ma_spawn mc ms).frames ∧ 8 + (2 + 11) + (rm_Te_make).locals ≤ (rm_Ma_spawn mc ms).locals := by
  show 0 + 1 ≤ 4 ∧ 8 + (2 + 11) + 0 ≤ 132
  decide
theorem rm_Ma_spawn_Ma_answer {mc ms : Nat} {mc2 ms2 : Nat} : (rm_Ma_answer mc2 ms2).frames + 1 ≤ (rm_Ma_spawn mc ms).frames ∧ 8 + (4 + 11) + (rm_Ma_answer mc2 ms2).locals ≤ (rm_Ma_spawn mc ms).locals := by
  show 3 + 1 ≤ 4 ∧ 8 + (4 + 11) + 104 ≤ 132
  decide
def fb_Ma_spawn_170 (N : Nat) (G : Unit) (u : CS) (v0 : Nat) (v4 : Option Nat) : Option (CS × Unit) := bo v4 (fun j1 => bo (gI u j1 7 0) (fun r2 => bx (gz u (fm_Te_make N u 4 r2)) (fun u3 r3 => gw u3 (ck (isO u3 v0 5) (ck (List.all [some v0, v4] (okR u3.1.1)) (bx (gw u3 (fm_Ma_answer N u3 v0 1 r3)) (fun u4 r4 => gw u4 (some (u4, ())))))))))
set_option maxRecDepth 100000 in
set_option maxHeartbeats 4000000 in
theorem wb_Ma_spawn_170 {p : Program} {l : Launch} {e : Env} {s : State} {m : MethodId} {args : Array Value} {below : List Frame} {meth : Method} {c : Code} {s0 : State} {b0 : Nat} {D : va_G} {cB cI cJ cZ cS cP : ClassId} {A : Nat → Prop} {sk sv : Nat → Nat} {uN uS mc ms : Nat} {ad0 : Nat → Nat} (C0 : XCx p s s0 b0 m args meth c R_Ma b_Ma_spawn 6 none D cB cI cJ cZ cS cP A) (hE : ENV s0 b0 sk sv) (N : Nat) (G : Unit) (hG : True) : ∀ (u : CS) (v0 : Nat) (v4 : Option Nat) (x : CS × Unit), fb_Ma_spawn_170 N G u v0 v4 = some x → (uN + mc = x.1.1.1 ∧ uS + ms = x.1.1.2) → ∀ (ad : Nat → Nat) (ce sl : Nat), AB uN uS ad0 u ad ce sl → ∀ (H : Heap) (locs : List Loc), va_P D cls (wC cB cI cJ cZ cS cP ad u) H → va_D A (wC cB cI cJ cZ cS cP ad u) → va_S A s.heap H locs → ∀ (ls : Array Slot), lv_has ls 6 [(0, .ref (ad v0)), (4, va_rf (Option.map ad v4))] → W p l e (rm_Ma_spawn mc ms) s m args below meth c H locs ce sl (MQ below (xQ D cB cI cJ cZ cS cP A ad0 uN x.1 none) args s mc ms A) (F0 m 170 ls []) := by
  intro u v0 v4 x hf hm ad ce sl hB H locs hP hD hS ls hl
  obtain ⟨hx, hb, hr, hml, ht, hown, hK, hA, hlocks, hA0, hO, hbs⟩ := id C0
  unfold fb_Ma_spawn_170 at hf
  refine lv_aload_n hx hb d_Ma_spawn_170 rfl (lv_at hl 0 rfl) ?_
  refine lv_iconst (v := 1) hx hb d_Ma_spawn_171 (by decide) ?_
  refine lv_iconst (v := 4) hx hb d_Ma_spawn_172 (by decide) ?_
  refine x_aload hx hb d_Ma_spawn_173 (lv_at hl 1 rfl) ?_
  obtain ⟨j1, ej1, hf⟩ := bo_some hf
  rw [ej1]
  obtain ⟨r2, g2, hf⟩ := bo_some hf
  refine xg_I (i := j1) (k := 0) hx hb ht hown ck_Pr hK hP (by decide) fk_Ma_282 g2 d_Ma_spawn_175 ?_
  obtain ⟨u3, r3, hc3, hf⟩ := bx_some hf
  obtain ⟨hc3, hz3⟩ := gz_some hc3
  obtain ⟨hf, hw3⟩ := gw_some hf
  refine xS0 (As := [.int 4, .int r2]) (rest := [.int 1, .ref (ad v0)]) C0 hP hD hS (c_Te_make N hc3) k_Te_make (wd_of 1671 (by decide +kernel) rfl) ht_Te_make hini_Te rfl rfl hd_Te_make rfl rm_Ma_spawn_Te_make hl.1 (Nat.le_of_ble_eq_true rfl) d_Ma_spawn_178 rfl (hB.fit hm hz3 hw3) (fun H locs hP hD hS => ?_)
  have hB := hB.same2 hz3
  obtain ⟨hO9, hf⟩ := ck_some hf
  obtain ⟨hk4, hf⟩ := ck_some hf
  obtain ⟨u4, r4, hc4, hf⟩ := bx_some hf
  obtain ⟨hc4, hq4⟩ := gw_some hc4
  obtain ⟨hf, hw4⟩ := gw_some hf
  refine yV (i := v0) (As := [.int 1, .long r3]) (rest := []) C0 hP hD hS ck_Ma hO9 (c_Ma_answer N hE hc4 (gm hq4)) k_Ma_answer (wd_of 1744 (by decide +kernel) rfl) hi_Ma_answer hs_Ma_answer hini_Ma rfl rfl hd_Ma_answer rfl rm_Ma_spawn_Ma_answer hl.1 (Nat.le_of_ble_eq_true rfl) d_Ma_spawn_181 rfl (gm hq4) hB hm hw4 (fun ad4 H locs ce sl hg4 hB hP hD hS => ?_)
  have q4_0 : ad4 v0 = ad v0 := ko_O (k := 0) hk4 rfl hg4
  have q4_1 : Option.map ad4 v4 = Option.map ad v4 := ko_N (k := 1) hk4 rfl hg4
  have hl : lv_has ls 6 [(0, .ref (ad4 v0)), (4, va_rf (Option.map ad4 v4))] := by simp only [q4_0, q4_1]; exact hl
  exact yr_v C0 hP hD hS hB hm hf d_Ma_spawn_184
def fb_Ma_spawn_59 (N : Nat) (G : Unit) (u : CS) (v0 : Nat) (v1 : Int64) (t0 : Option Nat) : Option (CS × Unit) := br (decide (t0 = none)) (ck (isO u v0 5) (bx (gz u (fm_Ma_wrong N u v0 11)) (fun u37 r37 => gw u37 (some (u37, ()))))) (bo (gR u v0 5 3) (fun r5 => bo r5 (fun j6 => bo (gR u j6 7 2) (fun r7 => bo r7 (fun j8 => bo (aJ u j8 (v1.toInt32)) (fun r9 => bo t0 (fun j10 => bo (gR u j10 7 1) (fun r11 => bx (gz u (fm_Ma_functionOf N u (r9.toInt32))) (fun u12 r12 => gw u12 (ck (isO u12 v0 5) (bx (gz u12 (fm_Ma_entryOf N u12 v0 (r9.toInt32))) (fun u13 r13 => gw u13 (bo r11 (fun j15 => ck (isO u13 j15 4) (bx (gz u13 (fm_Fr_open N u13 j15 r12 r13 0)) (fun u14 r14 => gw u14 (bo (gR u14 v0 5 2) (fun r16 => bo (gR u14 v0 5 3) (fun r17 => bo r17 (fun j18 => bo (gR u14 j18 7 2) (fun r19 => bo r16 (fun j21 => ck (isO u14 j21 8) (bx (gz u14 (fm_Te_size N u14 j21 r19 v1)) (fun u20 r20 => gw u20 (bo t0 (fun j23 => ck (isO u20 j23 7) (bx (gz u20 (fm_Pr_want N u20 j23 r20)) (fun u22 r22 => gw u22 (br (decide (r22 = 0)) (bo (gR u22 v0 5 1) (fun r24 => bo r24 (fun j26 => ck (isO u22 j26 12) (bx (gz u22 (fm_Wl_endsBy N u22 j26 t0 20)) (fun u25 r25 => gw u25 (fb_Ma_spawn_170 N G u25 (v0) (t0))))))) (bo t0 (fun j27 => bo (gR u22 j27 7 1) (fun r28 => bo t0 (fun j29 => bo (gR u22 j29 7 2) (fun r30 => bo (gR u22 v0 5 3) (fun r31 => bo r31 (fun j32 => bo (gR u22 j32 7 2) (fun r33 => bo t0 (fun j35 => ck (isO u22 j35 7) (bx (gz u22 (fm_Pr_copyIn N u22 j35 r33 v1)) (fun u34 r34 => gw u34 (ck (isO u34 v0 5) (ck (List.all [t0, some v0] (okR u34.1.1)) (bx (gw u34 (fm_Ma_hold N u34 v0 r28 r30 r34)) (fun u36 r36 => gw u36 (fb_Ma_spawn_170 N G u36 (v0) (t0))))))))))))))))))))))))))))))))))))))))))))))
set_option maxRecDepth 100000 in
set_option maxHeartbeats 4000000 in
theorem wb_Ma_spawn_59 {p : Program} {l : Launch} {e : Env} {s : State} {m : MethodId} {args : Array Value} {below : List Frame} {meth : Method} {c : Code} {s0 : State} {b0 : Nat} {D : va_G} {cB cI cJ cZ cS cP : ClassId} {A : Nat → Prop} {sk sv : Nat → Nat} {uN uS mc ms : Nat} {ad0 : Nat → Nat} (C0 : XCx p s s0 b0 m args meth c R_Ma b_Ma_spawn 6 none D cB cI cJ cZ cS cP A) (hE : ENV s0 b0 sk sv) (N : Nat) (G : Unit) (hG : True) : ∀ (u : CS) (v0 : Nat) (v1 : Int64) (t0 : Option Nat) (x : CS × Unit), fb_Ma_spawn_59 N G u v0 v1 t0 = some x → (uN + mc = x.1.1.1 ∧ uS + ms = x.1.1.2) → ∀ (ad : Nat → Nat) (ce sl : Nat), AB uN uS ad0 u ad ce sl → ∀ (H : Heap) (locs : List Loc), va_P D cls (wC cB cI cJ cZ cS cP ad u) H → va_D A (wC cB cI cJ cZ cS cP ad u) → va_S A s.heap H locs → ∀ (ls : Array Slot), lv_has ls 6 [(0, .ref (ad v0)), (1, .long v1)] → W p l e (rm_Ma_spawn mc ms) s m args below meth c H locs ce sl (MQ below (xQ D cB cI cJ cZ cS cP A ad0 uN x.1 none) args s mc ms A) (F0 m 59 ls [va_rf (Option.map ad t0)]) := by
  intro u v0 v1 t0 x hf hm ad ce sl hB H locs hP hD hS ls hl
  obtain ⟨hx, hb, hr, hml, ht, hown, hK, hA, hlocks, hA0, hO, hbs⟩ := id C0
  unfold fb_Ma_spawn_59 at hf
  refine x_astore (lv' := [(4, va_rf (Option.map ad t0)), (0, .ref (ad v0)), (1, .long v1)]) hx hb d_Ma_spawn_59 hl (by decide) (by first | rfl | simp [List.filter, cat_rf]) (fun ls hl => ?_)
  refine x_aload hx hb d_Ma_spawn_61 (lv_at hl 0 rfl) ?_
  refine x_ifnonnull (r := t0) (tgt := 73) hx hb d_Ma_spawn_63 (by decide) (fun hc => ?_) (fun hc => ?_)
  · rw [br_n _ hc] at hf
    refine lv_aload_n hx hb d_Ma_spawn_73 rfl (lv_at hl 1 rfl) ?_
    obtain ⟨r5, g5, hf⟩ := bo_some hf
    refine xg_R (i := v0) (k := 3) hx hb ht hown ck_Ma hK hP (by decide) fk_Ma_23 g5 d_Ma_spawn_74 ?_
    obtain ⟨j6, ej6, hf⟩ := bo_some hf
    rw [ej6]
    obtain ⟨r7, g7, hf⟩ := bo_some hf
    refine xg_R (i := j6) (k := 2) hx hb ht hown ck_Pr hK hP (by decide) fk_Ma_195 g7 d_Ma_spawn_77 ?_
    refine lv_lload_n hx hb d_Ma_spawn_80 rfl (lv_at hl 2 rfl) ?_
    refine lv_l2i hx hb d_Ma_spawn_81 rfl ?_
    obtain ⟨j8, ej8, hf⟩ := bo_some hf
    rw [ej8]
    obtain ⟨r9, g9, hf⟩ := bo_some hf
    refine xl_J (i := j8) hx hb hK hP g9 d_Ma_spawn_82 ?_
    refine lv_l2i hx hb d_Ma_spawn_83 rfl ?_
    refine lv_istore (lv' := [(5, .int r9.toInt32), (4, va_rf (Option.map ad t0)), (0, .ref (ad v0)), (1, .long v1)]) hx hb d_Ma_spawn_84 hl (by decide) (by first | rfl | simp [List.filter, cat_rf]) (fun ls hl => ?_)
    refine x_aload hx hb d_Ma_spawn_86 (lv_at hl 1 rfl) ?_
    obtain ⟨j10, ej10, hf⟩ := bo_some hf
    rw [ej10]
    obtain ⟨r11, g11, hf⟩ := bo_some hf
    refine xg_R (i := j10) (k := 1) hx hb ht hown ck_Pr hK hP (by decide) fk_Ma_27 g11 d_Ma_spawn_88 ?_
    refine lv_iload hx hb d_Ma_spawn_91 (lv_at hl 0 rfl) ?_
    obtain ⟨u12, r12, hc12, hf⟩ := bx_some hf
    obtain ⟨hc12, hz12⟩ := gz_some hc12
    obtain ⟨hf, hw12⟩ := gw_some hf
    refine xS0 (As := [.int r9.toInt32]) (rest := [va_rf (Option.map ad r11)]) C0 hP hD hS (c_Ma_functionOf N hc12) k_Ma_functionOf (wd_of 1676 (by decide +kernel) rfl) ht_Ma_functionOf hini_Ma rfl rfl hd_Ma_functionOf rfl rm_Ma_spawn_Ma_functionOf hl.1 (c8 (Nat.le_of_ble_eq_true rfl)) d_Ma_spawn_93 rfl (hB.fit hm hz12 hw12) (fun H locs hP hD hS => ?_)
    have hB := hB.same2 hz12
    refine lv_aload_n hx hb d_Ma_spawn_96 rfl (lv_at hl 2 rfl) ?_
    refine lv_iload hx hb d_Ma_spawn_97 (lv_at hl 0 rfl) ?_
    obtain ⟨hO9, hf⟩ := ck_some hf
    obtain ⟨u13, r13, hc13, hf⟩ := bx_some hf
    obtain ⟨hc13, hz13⟩ := gz_some hc13
    obtain ⟨hf, hw13⟩ := gw_some hf
    refine xV0 (i := v0) (As := [.int r9.toInt32]) (rest := [.int r12, va_rf (Option.map ad r11)]) C0 hP hD hS ck_Ma hO9 (c_Ma_entryOf N hc13) k_Ma_entryOf (wd_of 1680 (by decide +kernel) rfl) hi_Ma_entryOf hs_Ma_entryOf hini_Ma rfl rfl hd_Ma_entryOf rfl rm_Ma_spawn_Ma_entryOf hl.1 (c8 (Nat.le_of_ble_eq_true rfl)) d_Ma_spawn_99 rfl (hB.fit hm hz13 hw13) (fun H locs hP hD hS => ?_)
    have hB := hB.same2 hz13
    refine lv_iconst (v := 0) hx hb d_Ma_spawn_102 (by decide) ?_
    obtain ⟨j15, ej15, hf⟩ := bo_some hf
    rw [ej15]
    obtain ⟨hO9, hf⟩ := ck_some hf
    obtain ⟨u14, r14, hc14, hf⟩ := bx_some hf
    obtain ⟨hc14, hz14⟩ := gz_some hc14
    obtain ⟨hf, hw14⟩ := gw_some hf
    refine xV0 (i := j15) (As := [.int r12, .int r13, .int 0]) (rest := []) C0 hP hD hS ck_Fr hO9 (c_Fr_open N hc14) k_Fr_open (wd_of 1684 (by decide +kernel) rfl) hi_Fr_open hs_Fr_open hini_Fr rfl rfl hd_Fr_open rfl rm_Ma_spawn_Fr_open hl.1 (Nat.le_of_ble_eq_true rfl) d_Ma_spawn_103 rfl (hB.fit hm hz14 hw14) (fun H locs hP hD hS => ?_)
    have hB := hB.same2 hz14
    refine x_aload hx hb d_Ma_spawn_106 (lv_at hl 1 rfl) ?_
    refine lv_aload_n hx hb d_Ma_spawn_108 rfl (lv_at hl 2 rfl) ?_
    obtain ⟨r16, g16, hf⟩ := bo_some hf
    refine xg_R (i := v0) (k := 2) hx hb ht hown ck_Ma hK hP (by decide) fk_Ma_19 g16 d_Ma_spawn_109 ?_
    refine lv_aload_n hx hb d_Ma_spawn_112 rfl (lv_at hl 2 rfl) ?_
    obtain ⟨r17, g17, hf⟩ := bo_some hf
    refine xg_R (i := v0) (k := 3) hx hb ht hown ck_Ma hK hP (by decide) fk_Ma_23 g17 d_Ma_spawn_113 ?_
    obtain ⟨j18, ej18, hf⟩ := bo_some hf
    rw [ej18]
    obtain ⟨r19, g19, hf⟩ := bo_some hf
    refine xg_R (i := j18) (k := 2) hx hb ht hown ck_Pr hK hP (by decide) fk_Ma_195 g19 d_Ma_spawn_116 ?_
    refine lv_lload_n hx hb d_Ma_spawn_119 rfl (lv_at hl 3 rfl) ?_
    obtain ⟨j21, ej21, hf⟩ := bo_some hf
    rw [ej21]
    obtain ⟨hO9, hf⟩ := ck_some hf
    obtain ⟨u20, r20, hc20, hf⟩ := bx_some hf
    obtain ⟨hc20, hz20⟩ := gz_some hc20
    obtain ⟨hf, hw20⟩ := gw_some hf
    refine xV0 (i := j21) (As := [va_rf (Option.map ad r19), .long v1]) (rest := [va_rf (Option.map ad t0)]) C0 hP hD hS ck_Te hO9 (c_Te_size N hc20) k_Te_size (wd_of 1685 (by decide +kernel) rfl) hi_Te_size hs_Te_size hini_Te rfl rfl hd_Te_size rfl rm_Ma_spawn_Te_size hl.1 (c8 (Nat.le_of_ble_eq_true rfl)) d_Ma_spawn_120 rfl (hB.fit hm hz20 hw20) (fun H locs hP hD hS => ?_)
    have hB := hB.same2 hz20
    obtain ⟨j23, ej23, hf⟩ := bo_some hf
    rw [ej23]
    obtain ⟨hO9, hf⟩ := ck_some hf
    obtain ⟨u22, r22, hc22, hf⟩ := bx_some hf
    obtain ⟨hc22, hz22⟩ := gz_some hc22
    obtain ⟨hf, hw22⟩ := gw_some hf
    refine xV0 (i := j23) (As := [.int r20]) (rest := []) C0 hP hD hS ck_Pr hO9 (c_Pr_want N hE hc22) k_Pr_want (wd_of 1692 (by decide +kernel) rfl) hi_Pr_want hs_Pr_want hini_Pr rfl rfl hd_Pr_want rfl rm_Ma_spawn_Pr_want hl.1 (Nat.le_of_ble_eq_true rfl) d_Ma_spawn_123 rfl (hB.fit hm hz22 hw22) (fun H locs hP hD hS => ?_)
    have hB := hB.same2 hz22
    refine lv_if_eq (tgt := 159) hx hb d_Ma_spawn_126 (by decide) (fun hc => ?_) (fun hc => ?_)
    · rw [br_p _ hc] at hf
      refine lv_aload_n hx hb d_Ma_spawn_159 rfl (lv_at hl 2 rfl) ?_
      obtain ⟨r24, g24, hf⟩ := bo_some hf
      refine xg_R (i := v0) (k := 1) hx hb ht hown ck_Ma hK hP (by decide) fk_Ma_15 g24 d_Ma_spawn_160 ?_
      refine x_aload hx hb d_Ma_spawn_163 (lv_at hl 1 rfl) ?_
      refine lv_bipush (v := 20) hx hb d_Ma_spawn_165 (by decide) ?_
      obtain ⟨j26, ej26, hf⟩ := bo_some hf
      rw [ej26]
      obtain ⟨hO9, hf⟩ := ck_some hf
      obtain ⟨u25, r25, hc25, hf⟩ := bx_some hf
      obtain ⟨hc25, hz25⟩ := gz_some hc25
      obtain ⟨hf, hw25⟩ := gw_some hf
      refine xV0 (i := j26) (As := [va_rf (Option.map ad t0), .int 20]) (rest := []) C0 hP hD hS ck_Wl hO9 (c_Wl_endsBy N hc25) k_Wl_endsBy (wd_of 1735 (by decide +kernel) rfl) hi_Wl_endsBy hs_Wl_endsBy hini_Wl rfl rfl hd_Wl_endsBy rfl rm_Ma_spawn_Wl_endsBy hl.1 (Nat.le_of_ble_eq_true rfl) d_Ma_spawn_167 rfl (hB.fit hm hz25 hw25) (fun H locs hP hD hS => ?_)
      have hB := hB.same2 hz25
      exact wb_Ma_spawn_170 C0 hE N G hG _ _ _ _ hf hm _ _ _ hB H locs hP hD hS ls (lv_sub hl [2, 1] rfl)
    · rw [br_n _ hc] at hf
      refine lv_aload_n hx hb d_Ma_spawn_129 rfl (lv_at hl 2 rfl) ?_
      refine x_aload hx hb d_Ma_spawn_130 (lv_at hl 1 rfl) ?_
      obtain ⟨j27, ej27, hf⟩ := bo_some hf
      rw [ej27]
      obtain ⟨r28, g28, hf⟩ := bo_some hf
      refine xg_R (i := j27) (k := 1) hx hb ht hown ck_Pr hK hP (by decide) fk_Ma_27 g28 d_Ma_spawn_132 ?_
      refine x_aload hx hb d_Ma_spawn_135 (lv_at hl 1 rfl) ?_
      obtain ⟨j29, ej29, hf⟩ := bo_some hf
      rw [ej29]
      obtain ⟨r30, g30, hf⟩ := bo_some hf
      refine xg_R (i := j29) (k := 2) hx hb ht hown ck_Pr hK hP (by decide) fk_Ma_195 g30 d_Ma_spawn_137 ?_
      refine x_aload hx hb d_Ma_spawn_140 (lv_at hl 1 rfl) ?_
      refine lv_aload_n hx hb d_Ma_spawn_142 rfl (lv_at hl 2 rfl) ?_
      obtain ⟨r31, g31, hf⟩ := bo_some hf
      refine xg_R (i := v0) (k := 3) hx hb ht hown ck_Ma hK hP (by decide) fk_Ma_23 g31 d_Ma_spawn_143 ?_
      obtain ⟨j32, ej32, hf⟩ := bo_some hf
      rw [ej32]
      obtain ⟨r33, g33, hf⟩ := bo_some hf
      refine xg_R (i := j32) (k := 2) hx hb ht hown ck_Pr hK hP (by decide) fk_Ma_195 g33 d_Ma_spawn_146 ?_
      refine lv_lload_n hx hb d_Ma_spawn_149 rfl (lv_at hl 3 rfl) ?_
      obtain ⟨j35, ej35, hf⟩ := bo_some hf
      rw [ej35]
      obtain ⟨hO9, hf⟩ := ck_some hf
      obtain ⟨u34, r34, hc34, hf⟩ := bx_some hf
      obtain ⟨hc34, hz34⟩ := gz_some hc34
      obtain ⟨hf, hw34⟩ := gw_some hf
      refine xV0 (i := j35) (As := [va_rf (Option.map ad r33), .long v1]) (rest := [va_rf (Option.map ad r30), va_rf (Option.map ad r28), .ref (ad v0)]) C0 hP hD hS ck_Pr hO9 (c_Pr_copyIn N hE hc34) k_Pr_copyIn (wd_of 1703 (by decide +kernel) rfl) hi_Pr_copyIn hs_Pr_copyIn hini_Pr rfl rfl hd_Pr_copyIn rfl rm_Ma_spawn_Pr_copyIn hl.1 (c8 (Nat.le_of_ble_eq_true rfl)) d_Ma_spawn_150 rfl (hB.fit hm hz34 hw34) (fun H locs hP hD hS => ?_)
      have hB := hB.same2 hz34
      obtain ⟨hO9, hf⟩ := ck_some hf
      obtain ⟨hk36, hf⟩ := ck_some hf
      obtain ⟨u36, r36, hc36, hf⟩ := bx_some hf
      obtain ⟨hc36, hq36⟩ := gw_some hc36
      obtain ⟨hf, hw36⟩ := gw_some hf
      refine yV (i := v0) (As := [va_rf (Option.map ad r28), va_rf (Option.map ad r30), .long r34]) (rest := []) C0 hP hD hS ck_Ma hO9 (c_Ma_hold N hE hc36 (gm hq36)) k_Ma_hold (wd_of 1707 (by decide +kernel) rfl) hi_Ma_hold hs_Ma_hold hini_Ma rfl rfl hd_Ma_hold rfl rm_Ma_spawn_Ma_hold hl.1 (Nat.le_of_ble_eq_true rfl) d_Ma_spawn_153 rfl (gm hq36) hB hm hw36 (fun ad36 H locs ce sl hg36 hB hP hD hS => ?_)
      have q36_0 : Option.map ad36 t0 = Option.map ad t0 := ko_N (k := 0) hk36 rfl hg36
      have q36_1 : ad36 v0 = ad v0 := ko_O (k := 1) hk36 rfl hg36
      have hl : lv_has ls 6 [(5, .int r9.toInt32), (4, va_rf (Option.map ad36 t0)), (0, .ref (ad36 v0)), (1, .long v1)] := by simp only [q36_0, q36_1]; exact hl
      refine lv_goto (tgt := 170) hx hb d_Ma_spawn_156 (by decide) ?_
      exact wb_Ma_spawn_170 C0 hE N G hG _ _ _ _ hf hm _ _ _ hB H locs hP hD hS ls (lv_sub hl [2, 1] rfl)
  · rw [br_p _ hc] at hf
    refine lv_aload_n hx hb d_Ma_spawn_66 rfl (lv_at hl 1 rfl) ?_
    refine lv_bipush (v := 11) hx hb d_Ma_spawn_67 (by decide) ?_
    obtain ⟨hO9, hf⟩ := ck_some hf
    obtain ⟨u37, r37, hc37, hf⟩ := bx_some hf
    obtain ⟨hc37, hz37⟩ := gz_some hc37
    obtain ⟨hf, hw37⟩ := gw_some hf
    refine xV0 (i := v0) (As := [.int 11]) (rest := []) C0 hP hD hS ck_Ma hO9 (c_Ma_wrong N hc37) k_Ma_wrong (wd_of 1664 (by decide +kernel) rfl) hi_Ma_wrong hs_Ma_wrong hini_Ma rfl rfl hd_Ma_wrong rfl rm_Ma_spawn_Ma_wrong hl.1 (Nat.le_of_ble_eq_true rfl) d_Ma_spawn_69 rfl (hB.fit hm hz37 hw37) (fun H locs hP hD hS => ?_)
    have hB := hB.same2 hz37
    exact yr_v C0 hP hD hS hB hm hf d_Ma_spawn_72
def fb_Ma_spawn_43 (N : Nat) (G : Unit) (u : CS) (v0 : Nat) (v1 : Int64) (t0 : Int32) : Option (CS × Unit) := br (decide (t0 = 0)) (fb_Ma_spawn_59 N G u (v0) (v1) (none)) (bo (gR u v0 5 1) (fun r38 => bo r38 (fun j40 => ck (isO u j40 12) (ck (List.all [some v0] (okR u.1.1)) (bx (gw u (fm_Wl_born N u j40)) (fun u39 r39 => gw u39 (fb_Ma_spawn_59 N G u39 (v0) (v1) (r39))))))))
set_option maxRecDepth 100000 in
set_option maxHeartbeats 4000000 in
theorem wb_Ma_spawn_43 {p : Program} {l : Launch} {e : Env} {s : State} {m : MethodId} {args : Array Value} {below : List Frame} {meth : Method} {c : Code} {s0 : State} {b0 : Nat} {D : va_G} {cB cI cJ cZ cS cP : ClassId} {A : Nat → Prop} {sk sv : Nat → Nat} {uN uS mc ms : Nat} {ad0 : Nat → Nat} (C0 : XCx p s s0 b0 m args meth c R_Ma b_Ma_spawn 6 none D cB cI cJ cZ cS cP A) (hE : ENV s0 b0 sk sv) (N : Nat) (G : Unit) (hG : True) : ∀ (u : CS) (v0 : Nat) (v1 : Int64) (t0 : Int32) (x : CS × Unit), fb_Ma_spawn_43 N G u v0 v1 t0 = some x → (uN + mc = x.1.1.1 ∧ uS + ms = x.1.1.2) → ∀ (ad : Nat → Nat) (ce sl : Nat), AB uN uS ad0 u ad ce sl → ∀ (H : Heap) (locs : List Loc), va_P D cls (wC cB cI cJ cZ cS cP ad u) H → va_D A (wC cB cI cJ cZ cS cP ad u) → va_S A s.heap H locs → ∀ (ls : Array Slot), lv_has ls 6 [(0, .ref (ad v0)), (1, .long v1)] → W p l e (rm_Ma_spawn mc ms) s m args below meth c H locs ce sl (MQ below (xQ D cB cI cJ cZ cS cP A ad0 uN x.1 none) args s mc ms A) (F0 m 43 ls [.int t0]) := by
  intro u v0 v1 t0 x hf hm ad ce sl hB H locs hP hD hS ls hl
  obtain ⟨hx, hb, hr, hml, ht, hown, hK, hA, hlocks, hA0, hO, hbs⟩ := id C0
  unfold fb_Ma_spawn_43 at hf
  refine lv_istore_n (lv' := [(3, .int t0), (0, .ref (ad v0)), (1, .long v1)]) hx hb d_Ma_spawn_43 rfl hl (by decide) (by first | rfl | simp [List.filter, cat_rf]) (fun ls hl => ?_)
  refine lv_iload_n hx hb d_Ma_spawn_44 rfl (lv_at hl 0 rfl) ?_
  refine lv_if_eq (tgt := 58) hx hb d_Ma_spawn_45 (by decide) (fun hc => ?_) (fun hc => ?_)
  · rw [br_p _ hc] at hf
    refine lv_null hx hb d_Ma_spawn_58 ?_
    exact wb_Ma_spawn_59 C0 hE N G hG _ _ _ _ _ hf hm _ _ _ hB H locs hP hD hS ls (lv_sub hl [1, 2] rfl)
  · rw [br_n _ hc] at hf
    refine lv_aload_n hx hb d_Ma_spawn_48 rfl (lv_at hl 1 rfl) ?_
    obtain ⟨r38, g38, hf⟩ := bo_some hf
    refine xg_R (i := v0) (k := 1) hx hb ht hown ck_Ma hK hP (by decide) fk_Ma_15 g38 d_Ma_spawn_49 ?_
    obtain ⟨j40, ej40, hf⟩ := bo_some hf
    rw [ej40]
    obtain ⟨hO9, hf⟩ := ck_some hf
    obtain ⟨hk39, hf⟩ := ck_some hf
    obtain ⟨u39, r39, hc39, hf⟩ := bx_some hf
    obtain ⟨hc39, hq39⟩ := gw_some hc39
    obtain ⟨hf, hw39⟩ := gw_some hf
    refine yV (i := j40) (As := []) (rest := []) C0 hP hD hS ck_Wl hO9 (c_Wl_born N hE hc39 (gm hq39)) k_Wl_born (wd_of 1663 (by decide +kernel) rfl) hi_Wl_born hs_Wl_born hini_Wl rfl rfl hd_Wl_born rfl rm_Ma_spawn_Wl_born hl.1 (Nat.le_of_ble_eq_true rfl) d_Ma_spawn_52 rfl (gm hq39) hB hm hw39 (fun ad39 H locs ce sl hg39 hB hP hD hS => ?_)
    have q39_0 : ad39 v0 = ad v0 := ko_O (k := 0) hk39 rfl hg39
    have hl : lv_has ls 6 [(3, .int t0), (0, .ref (ad39 v0)), (1, .long v1)] := by simp only [q39_0]; exact hl
    refine lv_goto (tgt := 59) hx hb d_Ma_spawn_55 (by decide) ?_
    exact wb_Ma_spawn_59 C0 hE N G hG _ _ _ _ _ hf hm _ _ _ hB H locs hP hD hS ls (lv_sub hl [1, 2] rfl)
def fb_Ma_spawn_42 (N : Nat) (G : Unit) (u : CS) (v0 : Nat) (v1 : Int64) : Option (CS × Unit) := fb_Ma_spawn_43 N G u (v0) (v1) (0)
set_option maxRecDepth 100000 in
set_option maxHeartbeats 4000000 in
theorem wb_Ma_spawn_42 {p : Program} {l : Launch} {e : Env} {s : State} {m : MethodId} {args : Array Value} {below : List Frame} {meth : Method} {c : Code} {s0 : State} {b0 : Nat} {D : va_G} {cB cI cJ cZ cS cP : ClassId} {A : Nat → Prop} {sk sv : Nat → Nat} {uN uS mc ms : Nat} {ad0 : Nat → Nat} (C0 : XCx p s s0 b0 m args meth c R_Ma b_Ma_spawn 6 none D cB cI cJ cZ cS cP A) (hE : ENV s0 b0 sk sv) (N : Nat) (G : Unit) (hG : True) : ∀ (u : CS) (v0 : Nat) (v1 : Int64) (x : CS × Unit), fb_Ma_spawn_42 N G u v0 v1 = some x → (uN + mc = x.1.1.1 ∧ uS + ms = x.1.1.2) → ∀ (ad : Nat → Nat) (ce sl : Nat), AB uN uS ad0 u ad ce sl → ∀ (H : Heap) (locs : List Loc), va_P D cls (wC cB cI cJ cZ cS cP ad u) H → va_D A (wC cB cI cJ cZ cS cP ad u) → va_S A s.heap H locs → ∀ (ls : Array Slot), lv_has ls 6 [(0, .ref (ad v0)), (1, .long v1)] → W p l e (rm_Ma_spawn mc ms) s m args below meth c H locs ce sl (MQ below (xQ D cB cI cJ cZ cS cP A ad0 uN x.1 none) args s mc ms A) (F0 m 42 ls []) := by
  intro u v0 v1 x hf hm ad ce sl hB H locs hP hD hS ls hl
  obtain ⟨hx, hb, hr, hml, ht, hown, hK, hA, hlocks, hA0, hO, hbs⟩ := id C0
  unfold fb_Ma_spawn_42 at hf
  refine lv_iconst (v := 0) hx hb d_Ma_spawn_42 (by decide) ?_
  exact wb_Ma_spawn_43 C0 hE N G hG _ _ _ _ _ hf hm _ _ _ hB H locs hP hD hS ls (lv_sub hl [0, 1] rfl)
def fb_Ma_spawn_0 (N : Nat) (G : Unit) (u : CS) (v0 : Nat) : Option (CS × Unit) := bo (gR u v0 5 4) (fun r41 => bo r41 (fun j43 => ck (isO u j43 4) (bx (gz u (fm_Fr_below N u j43 0)) (fun u42 r42 => gw u42 (bx (gz u42 (fm_Te_tag N u42 r42)) (fun u44 r44 => gw u44 (br (decide (r44 = 3)) (bo (gR u44 v0 5 0) (fun r45 => bo (gR u44 v0 5 3) (fun r46 => bo r46 (fun j47 => bo (gR u44 j47 7 2) (fun r48 => bo r48 (fun j49 => bo (aJ u44 j49 (r42.toInt32)) (fun r50 => bo r45 (fun j52 => ck (isO u44 j52 2) (bx (gz u44 (fm_Co_takes N u44 j52 (r50.toInt32))) (fun u51 r51 => gw u51 (br (decide (r51 = 0)) (fb_Ma_spawn_43 N G u51 (v0) (r42) (1)) (fb_Ma_spawn_42 N G u51 (v0) (r42))))))))))))) (fb_Ma_spawn_42 N G u44 (v0) (r42)))))))))
set_option maxRecDepth 100000 in
set_option maxHeartbeats 4000000 in
theorem wb_Ma_spawn_0 {p : Program} {l : Launch} {e : Env} {s : State} {m : MethodId} {args : Array Value} {below : List Frame} {meth : Method} {c : Code} {s0 : State} {b0 : Nat} {D : va_G} {cB cI cJ cZ cS cP : ClassId} {A : Nat → Prop} {sk sv : Nat → Nat} {uN uS mc ms : Nat} {ad0 : Nat → Nat} (C0 : XCx p s s0 b0 m args meth c R_Ma b_Ma_spawn 6 none D cB cI cJ cZ cS cP A) (hE : ENV s0 b0 sk sv) (N : Nat) (G : Unit) (hG : True) : ∀ (u : CS) (v0 : Nat) (x : CS × Unit), fb_Ma_spawn_0 N G u v0 = some x → (uN + mc = x.1.1.1 ∧ uS + ms = x.1.1.2) → ∀ (ad : Nat → Nat) (ce sl : Nat), AB uN uS ad0 u ad ce sl → ∀ (H : Heap) (locs : List Loc), va_P D cls (wC cB cI cJ cZ cS cP ad u) H → va_D A (wC cB cI cJ cZ cS cP ad u) → va_S A s.heap H locs → ∀ (ls : Array Slot), lv_has ls 6 [(0, .ref (ad v0))] → W p l e (rm_Ma_spawn mc ms) s m args below meth c H locs ce sl (MQ below (xQ D cB cI cJ cZ cS cP A ad0 uN x.1 none) args s mc ms A) (F0 m 0 ls []) := by
  intro u v0 x hf hm ad ce sl hB H locs hP hD hS ls hl
  obtain ⟨hx, hb, hr, hml, ht, hown, hK, hA, hlocks, hA0, hO, hbs⟩ := id C0
  unfold fb_Ma_spawn_0 at hf
  refine lv_aload_n hx hb d_Ma_spawn_0 rfl (lv_at hl 0 rfl) ?_
  obtain ⟨r41, g41, hf⟩ := bo_some hf
  refine xg_R (i := v0) (k := 4) hx hb ht hown ck_Ma hK hP (by decide) fk_Ma_33 g41 d_Ma_spawn_1 ?_
  refine lv_iconst (v := 0) hx hb d_Ma_spawn_4 (by decide) ?_
  obtain ⟨j43, ej43, hf⟩ := bo_some hf
  rw [ej43]
  obtain ⟨hO9, hf⟩ := ck_some hf
  obtain ⟨u42, r42, hc42, hf⟩ := bx_some hf
  obtain ⟨hc42, hz42⟩ := gz_some hc42
  obtain ⟨hf, hw42⟩ := gw_some hf
  refine xV0 (i := j43) (As := [.int 0]) (rest := []) C0 hP hD hS ck_Fr hO9 (c_Fr_below N hc42) k_Fr_below (wd_of 1653 (by decide +kernel) rfl) hi_Fr_below hs_Fr_below hini_Fr rfl rfl hd_Fr_below rfl rm_Ma_spawn_Fr_below hl.1 (Nat.le_of_ble_eq_true rfl) d_Ma_spawn_5 rfl (hB.fit hm hz42 hw42) (fun H locs hP hD hS => ?_)
  have hB := hB.same2 hz42
  refine lv_lstore_n (lv' := [(1, .long r42), (0, .ref (ad v0))]) hx hb d_Ma_spawn_8 rfl hl (by decide) (by first | rfl | simp [List.filter, cat_rf]) (fun ls hl => ?_)
  refine lv_lload_n hx hb d_Ma_spawn_9 rfl (lv_at hl 0 rfl) ?_
  obtain ⟨u44, r44, hc44, hf⟩ := bx_some hf
  obtain ⟨hc44, hz44⟩ := gz_some hc44
  obtain ⟨hf, hw44⟩ := gw_some hf
  refine xS0 (As := [.long r42]) (rest := []) C0 hP hD hS (c_Te_tag N hc44) k_Te_tag (wd_of 1657 (by decide +kernel) rfl) ht_Te_tag hini_Te rfl rfl hd_Te_tag rfl rm_Ma_spawn_Te_tag hl.1 (Nat.le_of_ble_eq_true rfl) d_Ma_spawn_10 rfl (hB.fit hm hz44 hw44) (fun H locs hP hD hS => ?_)
  have hB := hB.same2 hz44
  refine lv_iconst (v := 3) hx hb d_Ma_spawn_13 (by decide) ?_
  refine lv_icmp_ne (tgt := 42) hx hb d_Ma_spawn_14 (by decide) (fun hc => ?_) (fun hc => ?_)
  · rw [br_n _ hc] at hf
    exact wb_Ma_spawn_42 C0 hE N G hG _ _ _ _ hf hm _ _ _ hB H locs hP hD hS ls (lv_sub hl [1, 0] rfl)
  · rw [br_p _ hc] at hf
    refine lv_aload_n hx hb d_Ma_spawn_17 rfl (lv_at hl 1 rfl) ?_
    obtain ⟨r45, g45, hf⟩ := bo_some hf
    refine xg_R (i := v0) (k := 0) hx hb ht hown ck_Ma hK hP (by decide) fk_Ma_9 g45 d_Ma_spawn_18 ?_
    refine lv_aload_n hx hb d_Ma_spawn_21 rfl (lv_at hl 1 rfl) ?_
    obtain ⟨r46, g46, hf⟩ := bo_some hf
    refine xg_R (i := v0) (k := 3) hx hb ht hown ck_Ma hK hP (by decide) fk_Ma_23 g46 d_Ma_spawn_22 ?_
    obtain ⟨j47, ej47, hf⟩ := bo_some hf
    rw [ej47]
    obtain ⟨r48, g48, hf⟩ := bo_some hf
    refine xg_R (i := j47) (k := 2) hx hb ht hown ck_Pr hK hP (by decide) fk_Ma_195 g48 d_Ma_spawn_25 ?_
    refine lv_lload_n hx hb d_Ma_spawn_28 rfl (lv_at hl 0 rfl) ?_
    refine lv_l2i hx hb d_Ma_spawn_29 rfl ?_
    obtain ⟨j49, ej49, hf⟩ := bo_some hf
    rw [ej49]
    obtain ⟨r50, g50, hf⟩ := bo_some hf
    refine xl_J (i := j49) hx hb hK hP g50 d_Ma_spawn_30 ?_
    refine lv_l2i hx hb d_Ma_spawn_31 rfl ?_
    obtain ⟨j52, ej52, hf⟩ := bo_some hf
    rw [ej52]
    obtain ⟨hO9, hf⟩ := ck_some hf
    obtain ⟨u51, r51, hc51, hf⟩ := bx_some hf
    obtain ⟨hc51, hz51⟩ := gz_some hc51
    obtain ⟨hf, hw51⟩ := gw_some hf
    refine xV0 (i := j52) (As := [.int r50.toInt32]) (rest := []) C0 hP hD hS ck_Co hO9 (c_Co_takes N hc51) k_Co_takes (wd_of 1658 (by decide +kernel) rfl) hi_Co_takes hs_Co_takes hini_Co rfl rfl hd_Co_takes rfl rm_Ma_spawn_Co_takes hl.1 (Nat.le_of_ble_eq_true rfl) d_Ma_spawn_32 rfl (hB.fit hm hz51 hw51) (fun H locs hP hD hS => ?_)
    have hB := hB.same2 hz51
    refine lv_if_ne (tgt := 42) hx hb d_Ma_spawn_35 (by decide) (fun hc => ?_) (fun hc => ?_)
    · rw [br_n _ hc] at hf
      exact wb_Ma_spawn_42 C0 hE N G hG _ _ _ _ hf hm _ _ _ hB H locs hP hD hS ls (lv_sub hl [1, 0] rfl)
    · rw [br_p _ hc] at hf
      refine lv_iconst (v := 1) hx hb d_Ma_spawn_38 (by decide) ?_
      refine lv_goto (tgt := 43) hx hb d_Ma_spawn_39 (by decide) ?_
      exact wb_Ma_spawn_43 C0 hE N G hG _ _ _ _ _ hf hm _ _ _ hB H locs hP hD hS ls (lv_sub hl [1, 0] rfl)
def fm_Ma_spawn (N : Nat) (u : CS) (v0 : Nat) : Option (CS × Unit) := fb_Ma_spawn_0 N () u v0
set_option maxRecDepth 100000 in
set_option maxHeartbeats 4000000 in
theorem c_Ma_spawn (N : Nat) {l : Launch} {s0 : State} {b0 : Nat} {D : va_G} {cB cI cJ cZ cS cP : ClassId} {sk sv : Nat → Nat} {ad : Nat → Nat} {u : CS} {sz mc ms : Nat} {v0 : Nat} {x : CS × Unit} (hE : ENV s0 b0 sk sv) (hf : fm_Ma_spawn N u v0 = some x) (hm : u.1.1 + mc = x.1.1.1 ∧ u.1.2 + ms = x.1.1.2) : Met l y_Ma_spawn (wd_ws y_Ma_spawn b_Ma_spawn 6 none) (rm_Ma_spawn mc ms) (xPc s0 b0 D cB cI cJ cZ cS cP ad u sz [.ref (ad v0)]) (xQ D cB cI cJ cZ cS cP (xA cB cI cJ cZ cS cP ad u sz) ad u.1.1 x.1 none) mc ms (xA cB cI cJ cZ cS cP ad u sz) :=
  xMet (by decide) rfl (Nat.le_of_ble_eq_true rfl) (fun p e s m below meth c ls hsz hnm C0 hP hD hS hl =>
    wb_Ma_spawn_0 C0 hE N () trivial u _ x hf hm ad 0 0 ⟨rfl, rfl, fun _ _ => rfl⟩ s.heap [] hP hD hS ls (lv_sub hl [0] rfl))
abbrev b_Te_write : ByteArray := prog_8_method_17_code
def y_Te_write : MethodName := ⟨R_Te, "write", "(I)V"⟩
def w_Te_write : List Cond := wd_ws y_Te_write b_Te_write 2 none
set_option maxRecDepth 100000 in
theorem k_Te_write : Cond.code y_Te_write b_Te_write 2 none ∈ wd_tbl := wd_of 1352 rfl rfl
theorem d_Te_write_0 : decode b_Te_write 0 = .ok (.aload_n 0, 1) := by decide +kernel
theorem d_Te_write_1 : decode b_Te_write 1 = .ok (.getfield 63, 3) := by decide +kernel
theorem d_Te_write_4 : decode b_Te_write 4 = .ok (.bipush 100, 2) := by decide +kernel
theorem d_Te_write_6 : decode b_Te_write 6 = .ok (.if_icmp .ge 46, 3) := by decide +kernel
theorem d_Te_write_9 : decode b_Te_write 9 = .ok (.aload_n 0, 1) := by decide +kernel
theorem d_Te_write_10 : decode b_Te_write 10 = .ok (.getfield 59, 3) := by decide +kernel
theorem d_Te_write_13 : decode b_Te_write 13 = .ok (.aload_n 0, 1) := by decide +kernel
theorem d_Te_write_14 : decode b_Te_write 14 = .ok (.getfield 63, 3) := by decide +kernel
theorem d_Te_write_17 : decode b_Te_write 17 = .ok (.iadd, 1) := by decide +kernel
theorem d_Te_write_18 : decode b_Te_write 18 = .ok (.aload_n 0, 1) := by decide +kernel
theorem d_Te_write_19 : decode b_Te_write 19 = .ok (.getfield 55, 3) := by decide +kernel
theorem d_Te_write_22 : decode b_Te_write 22 = .ok (.arraylength, 1) := by decide +kernel
theorem d_Te_write_23 : decode b_Te_write 23 = .ok (.if_icmp .ge 29, 3) := by decide +kernel
theorem d_Te_write_26 : decode b_Te_write 26 = .ok (.aload_n 0, 1) := by decide +kernel
theorem d_Te_write_27 : decode b_Te_write 27 = .ok (.getfield 55, 3) := by decide +kernel
theorem d_Te_write_30 : decode b_Te_write 30 = .ok (.aload_n 0, 1) := by decide +kernel
theorem d_Te_write_31 : decode b_Te_write 31 = .ok (.getfield 59, 3) := by decide +kernel
theorem d_Te_write_34 : decode b_Te_write 34 = .ok (.aload_n 0, 1) := by decide +kernel
theorem d_Te_write_35 : decode b_Te_write 35 = .ok (.getfield 63, 3) := by decide +kernel
theorem d_Te_write_38 : decode b_Te_write 38 = .ok (.iadd, 1) := by decide +kernel
theorem d_Te_write_39 : decode b_Te_write 39 = .ok (.iload_n 1, 1) := by decide +kernel
theorem d_Te_write_40 : decode b_Te_write 40 = .ok (.i2b, 1) := by decide +kernel
theorem d_Te_write_41 : decode b_Te_write 41 = .ok (.bastore, 1) := by decide +kernel
theorem d_Te_write_42 : decode b_Te_write 42 = .ok (.aload_n 0, 1) := by decide +kernel
theorem d_Te_write_43 : decode b_Te_write 43 = .ok (.dup, 1) := by decide +kernel
theorem d_Te_write_44 : decode b_Te_write 44 = .ok (.getfield 63, 3) := by decide +kernel
theorem d_Te_write_47 : decode b_Te_write 47 = .ok (.iconst 1, 1) := by decide +kernel
theorem d_Te_write_48 : decode b_Te_write 48 = .ok (.iadd, 1) := by decide +kernel
theorem d_Te_write_49 : decode b_Te_write 49 = .ok (.putfield 63, 3) := by decide +kernel
theorem d_Te_write_52 : decode b_Te_write 52 = .ok (.return_, 1) := by decide +kernel
set_option maxRecDepth 100000 in
theorem hl_Te_write : Cond.methodLink R_Te 66 y_Te_write ∈ wd_tbl := wd_of 1349 (by decide +kernel) rfl
set_option maxRecDepth 100000 in
theorem hi_Te_write : Cond.instanceMethod y_Te_write ∈ wd_tbl := wd_of 1351 (by decide +kernel) rfl
set_option maxRecDepth 100000 in
theorem hs_Te_write : Cond.selects R_Te y_Te_write y_Te_write ∈ wd_tbl := wd_of 66 (by decide +kernel) rfl
theorem hd_Te_write : y_Te_write.cls = R_Te ∧ y_Te_write.cls ≠ "java/lang/invoke/MethodHandle" ∧ y_Te_write.cls ≠ "java/lang/invoke/VarHandle" ∧ (parseMethodDescriptor y_Te_write.desc).map (fun d => d.parameters.length) = some 1 := by decide +kernel
def rm_Te_write : Room := { frames := 0, cells := 0, slots := 0, locals := 0 }
def fb_Te_write_52 (N : Nat) (G : Unit) (u : CS) : Option (CS × Unit) := some (u, ())
set_option maxRecDepth 100000 in
set_option maxHeartbeats 4000000 in
theorem wb_Te_write_52 {p : Program} {l : Launch} {e : Env} {s : State} {m : MethodId} {args : Array Value} {below : List Frame} {meth : Method} {c : Code} {s0 : State} {b0 : Nat} {D : va_G} {cB cI cJ cZ cS cP : ClassId} {A : Nat → Prop} {sk sv : Nat → Nat} {ad : Nat → Nat} (C0 : XCx p s s0 b0 m args meth c R_Te b_Te_write 2 none D cB cI cJ cZ cS cP A) (hE : ENV s0 b0 sk sv) (N : Nat) (G : Unit) (hG : True) : ∀ (u : CS) (x : CS × Unit), fb_Te_write_52 N G u = some x → ∀ (H : Heap) (locs : List Loc), va_P D cls (wC cB cI cJ cZ cS cP ad u) H → va_D A (wC cB cI cJ cZ cS cP ad u) → va_S A s.heap H locs → ∀ (ls : Array Slot), lv_has ls 2 [] → W p l e rm_Te_write s m args below meth c H locs 0 0 (MQ below (xQ0 D cB cI cJ cZ cS cP A ad x.1 none) args s 0 0 A) (F0 m 52 ls []) := by
  intro u x hf H locs hP hD hS ls hl
  obtain ⟨hx, hb, hr, hml, ht, hown, hK, hA, hlocks, hA0, hO, hbs⟩ := id C0
  unfold fb_Te_write_52 at hf
  exact xr0_v C0 hP hD hS hf d_Te_write_52
def fb_Te_write_0 (N : Nat) (G : Unit) (u : CS) (v0 : Nat) (v1 : Int32) : Option (CS × Unit) := bo (gI u v0 8 6) (fun r1 => br (decide (100 ≤ r1)) (fb_Te_write_52 N G u) (bo (gI u v0 8 5) (fun r2 => bo (gI u v0 8 6) (fun r3 => bo (gR u v0 8 4) (fun r4 => bo r4 (fun j5 => bo (nA u j5 3) (fun r6 => br (decide (r6 ≤ (r2 + r3))) (fb_Te_write_52 N G u) (bo (gR u v0 8 4) (fun r7 => bo (gI u v0 8 5) (fun r8 => bo (gI u v0 8 6) (fun r9 => bo r7 (fun j10 => bo (sI u j10 3 (r8 + r9) (vp_nar .byte (v1.toInt8.toInt32))) (fun w11 => bo (gI w11 v0 8 6) (fun r12 => bo (pF w11 v0 8 6 (.inl (r12 + 1))) (fun w13 => fb_Te_write_52 N G w13)))))))))))))))
set_option maxRecDepth 100000 in
set_option maxHeartbeats 4000000 in
theorem wb_Te_write_0 {p : Program} {l : Launch} {e : Env} {s : State} {m : MethodId} {args : Array Value} {below : List Frame} {meth : Method} {c : Code} {s0 : State} {b0 : Nat} {D : va_G} {cB cI cJ cZ cS cP : ClassId} {A : Nat → Prop} {sk sv : Nat → Nat} {ad : Nat → Nat} (C0 : XCx p s s0 b0 m args meth c R_Te b_Te_write 2 none D cB cI cJ cZ cS cP A) (hE : ENV s0 b0 sk sv) (N : Nat) (G : Unit) (hG : True) : ∀ (u : CS) (v0 : Nat) (v1 : Int32) (x : CS × Unit), fb_Te_write_0 N G u v0 v1 = some x → ∀ (H : Heap) (locs : List Loc), va_P D cls (wC cB cI cJ cZ cS cP ad u) H → va_D A (wC cB cI cJ cZ cS cP ad u) → va_S A s.heap H locs → ∀ (ls : Array Slot), lv_has ls 2 [(0, .ref (ad v0)), (1, .int v1)] → W p l e rm_Te_write s m args below meth c H locs 0 0 (MQ below (xQ0 D cB cI cJ cZ cS cP A ad x.1 none) args s 0 0 A) (F0 m 0 ls []) := by
  intro u v0 v1 x hf H locs hP hD hS ls hl
  obtain ⟨hx, hb, hr, hml, ht, hown, hK, hA, hlocks, hA0, hO, hbs⟩ := id C0
  unfold fb_Te_write_0 at hf
  refine lv_aload_n hx hb d_Te_write_0 rfl (lv_at hl 0 rfl) ?_
  obtain ⟨r1, g1, hf⟩ := bo_some hf
  refine xg_I (i := v0) (k := 6) hx hb ht hown ck_Te hK hP (by decide) fk_Te_63 g1 d_Te_write_1 ?_
  refine lv_bipush (v := 100) hx hb d_Te_write_4 (by decide) ?_
  refine lv_icmp_ge (tgt := 52) hx hb d_Te_write_6 (by decide) (fun hc => ?_) (fun hc => ?_)
  · rw [br_p _ hc] at hf
    exact wb_Te_write_52 C0 hE N G hG _ _ hf H locs hP hD hS ls (lv_sub hl [] rfl)
  · rw [br_n _ hc] at hf
    refine lv_aload_n hx hb d_Te_write_9 rfl (lv_at hl 0 rfl) ?_
    obtain ⟨r2, g2, hf⟩ := bo_some hf
    refine xg_I (i := v0) (k := 5) hx hb ht hown ck_Te hK hP (by decide) fk_Te_59 g2 d_Te_write_10 ?_
    refine lv_aload_n hx hb d_Te_write_13 rfl (lv_at hl 0 rfl) ?_
    obtain ⟨r3, g3, hf⟩ := bo_some hf
    refine xg_I (i := v0) (k := 6) hx hb ht hown ck_Te hK hP (by decide) fk_Te_63 g3 d_Te_write_14 ?_
    refine lv_iadd hx hb d_Te_write_17 ?_
    refine lv_aload_n hx hb d_Te_write_18 rfl (lv_at hl 0 rfl) ?_
    obtain ⟨r4, g4, hf⟩ := bo_some hf
    refine xg_R (i := v0) (k := 4) hx hb ht hown ck_Te hK hP (by decide) fk_Te_55 g4 d_Te_write_19 ?_
    obtain ⟨j5, ej5, hf⟩ := bo_some hf
    rw [ej5]
    obtain ⟨r6, g6, hf⟩ := bo_some hf
    refine xn_B (i := j5) hx hb hK hP g6 d_Te_write_22 ?_
    refine lv_icmp_ge (tgt := 52) hx hb d_Te_write_23 (by decide) (fun hc => ?_) (fun hc => ?_)
    · rw [br_p _ hc] at hf
      exact wb_Te_write_52 C0 hE N G hG _ _ hf H locs hP hD hS ls (lv_sub hl [] rfl)
    · rw [br_n _ hc] at hf
      refine lv_aload_n hx hb d_Te_write_26 rfl (lv_at hl 0 rfl) ?_
      obtain ⟨r7, g7, hf⟩ := bo_some hf
      refine xg_R (i := v0) (k := 4) hx hb ht hown ck_Te hK hP (by decide) fk_Te_55 g7 d_Te_write_27 ?_
      refine lv_aload_n hx hb d_Te_write_30 rfl (lv_at hl 0 rfl) ?_
      obtain ⟨r8, g8, hf⟩ := bo_some hf
      refine xg_I (i := v0) (k := 5) hx hb ht hown ck_Te hK hP (by decide) fk_Te_59 g8 d_Te_write_31 ?_
      refine lv_aload_n hx hb d_Te_write_34 rfl (lv_at hl 0 rfl) ?_
      obtain ⟨r9, g9, hf⟩ := bo_some hf
      refine xg_I (i := v0) (k := 6) hx hb ht hown ck_Te hK hP (by decide) fk_Te_63 g9 d_Te_write_35 ?_
      refine lv_iadd hx hb d_Te_write_38 ?_
      refine lv_iload_n hx hb d_Te_write_39 rfl (lv_at hl 1 rfl) ?_
      refine lv_i2b hx hb d_Te_write_40 rfl ?_
      obtain ⟨j10, ej10, hf⟩ := bo_some hf
      rw [ej10]
      obtain ⟨w11, g11, hf⟩ := bo_some hf
      refine xs_B (i := j10) hx hb hK hP hD hS g11 d_Te_write_41 (fun H locs hP hD hS => ?_)
      refine lv_aload_n hx hb d_Te_write_42 rfl (lv_at hl 0 rfl) ?_
      refine lv_dup hx hb d_Te_write_43 rfl ?_
      obtain ⟨r12, g12, hf⟩ := bo_some hf
      refine xg_I (i := v0) (k := 6) hx hb ht hown ck_Te hK hP (by decide) fk_Te_63 g12 d_Te_write_44 ?_
      refine lv_iconst (v := 1) hx hb d_Te_write_47 (by decide) ?_
      refine lv_iadd hx hb d_Te_write_48 ?_
      obtain ⟨w13, g13, hf⟩ := bo_some hf
      refine xp (i := v0) (k := 6) (v := (.inl (r12 + 1))) hx hb ht hown ck_Te hK hP hD hS (by decide) fk_Te_63 rfl g13 rfl rfl d_Te_write_49 (fun H locs hP hD hS => ?_)
      exact wb_Te_write_52 C0 hE N G hG _ _ hf H locs hP hD hS ls (lv_sub hl [] rfl)
def fm_Te_write (N : Nat) (u : CS) (v0 : Nat) (v1 : Int32) : Option (CS × Unit) := fb_Te_write_0 N () u v0 v1
set_option maxRecDepth 100000 in
set_option maxHeartbeats 4000000 in
theorem c_Te_write (N : Nat) {l : Launch} {s0 : State} {b0 : Nat} {D : va_G} {cB cI cJ cZ cS cP : ClassId} {sk sv : Nat → Nat} {ad : Nat → Nat} {u : CS} {sz : Nat} {v0 : Nat} {v1 : Int32} {x : CS × Unit} (hE : ENV s0 b0 sk sv) (hf : fm_Te_write N u v0 v1 = some x) : Met l y_Te_write (wd_ws y_Te_write b_Te_write 2 none) rm_Te_write (xPc s0 b0 D cB cI cJ cZ cS cP ad u sz [.ref (ad v0), .int v1]) (xQ0 D cB cI cJ cZ cS cP (xA cB cI cJ cZ cS cP ad u sz) ad x.1 none) 0 0 (xA cB cI cJ cZ cS cP ad u sz) :=
  xMet (by decide) rfl (Nat.le_of_ble_eq_true rfl) (fun p e s m below meth c ls hsz hnm C0 hP hD hS hl =>
    wb_Te_write_0 C0 hE N () trivial u _ _ x hf s.heap [] hP hD hS ls (lv_sub hl [0, 1] rfl))
abbrev b_Te_toWriteRest : ByteArray := prog_8_method_14_code
def y_Te_toWriteRest : MethodName := ⟨R_Te, "toWriteRest", "([JI)I"⟩
def w_Te_toWriteRest : List Cond := wd_ws y_Te_toWriteRest b_Te_toWriteRest 6 (some .int)
set_option maxRecDepth 100000 in
theorem k_Te_toWriteRest : Cond.code y_Te_toWriteRest b_Te_toWriteRest 6 (some .int) ∈ wd_tbl := wd_of 1372 rfl rfl
theorem d_Te_toWriteRest_0 : decode b_Te_toWriteRest 0 = .ok (.iload_n 2, 1) := by decide +kernel
theorem d_Te_toWriteRest_1 : decode b_Te_toWriteRest 1 = .ok (.ifCond .lt 12, 3) := by decide +kernel
theorem d_Te_toWriteRest_4 : decode b_Te_toWriteRest 4 = .ok (.aload_n 0, 1) := by decide +kernel
theorem d_Te_toWriteRest_5 : decode b_Te_toWriteRest 5 = .ok (.getfield 15, 3) := by decide +kernel
theorem d_Te_toWriteRest_8 : decode b_Te_toWriteRest 8 = .ok (.iload_n 2, 1) := by decide +kernel
theorem d_Te_toWriteRest_9 : decode b_Te_toWriteRest 9 = .ok (.laload, 1) := by decide +kernel
theorem d_Te_toWriteRest_10 : decode b_Te_toWriteRest 10 = .ok (.goto 9, 3) := by decide +kernel
theorem d_Te_toWriteRest_13 : decode b_Te_toWriteRest 13 = .ok (.bipush 6, 2) := by decide +kernel
theorem d_Te_toWriteRest_15 : decode b_Te_toWriteRest 15 = .ok (.iconst 0, 1) := by decide +kernel
theorem d_Te_toWriteRest_16 : decode b_Te_toWriteRest 16 = .ok (.invokestatic 85, 3) := by decide +kernel
theorem d_Te_toWriteRest_19 : decode b_Te_toWriteRest 19 = .ok (.lstore_n 3, 1) := by decide +kernel
theorem d_Te_toWriteRest_20 : decode b_Te_toWriteRest 20 = .ok (.iload_n 2, 1) := by decide +kernel
theorem d_Te_toWriteRest_21 : decode b_Te_toWriteRest 21 = .ok (.iconst 0, 1) := by decide +kernel
theorem d_Te_toWriteRest_22 : decode b_Te_toWriteRest 22 = .ok (.invokestatic 93, 3) := by decide +kernel
theorem d_Te_toWriteRest_25 : decode b_Te_toWriteRest 25 = .ok (.istore 5, 2) := by decide +kernel
theorem d_Te_toWriteRest_27 : decode b_Te_toWriteRest 27 = .ok (.lload_n 3, 1) := by decide +kernel
theorem d_Te_toWriteRest_28 : decode b_Te_toWriteRest 28 = .ok (.invokestatic 40, 3) := by decide +kernel
theorem d_Te_toWriteRest_31 : decode b_Te_toWriteRest 31 = .ok (.bipush 6, 2) := by decide +kernel
theorem d_Te_toWriteRest_33 : decode b_Te_toWriteRest 33 = .ok (.if_icmp .ne 12, 3) := by decide +kernel
theorem d_Te_toWriteRest_36 : decode b_Te_toWriteRest 36 = .ok (.aload_n 0, 1) := by decide +kernel
theorem d_Te_toWriteRest_37 : decode b_Te_toWriteRest 37 = .ok (.bipush 93, 2) := by decide +kernel
theorem d_Te_toWriteRest_39 : decode b_Te_toWriteRest 39 = .ok (.invokevirtual 66, 3) := by decide +kernel
theorem d_Te_toWriteRest_42 : decode b_Te_toWriteRest 42 = .ok (.iload 5, 2) := by decide +kernel
theorem d_Te_toWriteRest_44 : decode b_Te_toWriteRest 44 = .ok (.ireturn, 1) := by decide +kernel
theorem d_Te_toWriteRest_45 : decode b_Te_toWriteRest 45 = .ok (.lload_n 3, 1) := by decide +kernel
theorem d_Te_toWriteRest_46 : decode b_Te_toWriteRest 46 = .ok (.invokestatic 40, 3) := by decide +kernel
theorem d_Te_toWriteRest_49 : decode b_Te_toWriteRest 49 = .ok (.bipush 7, 2) := by decide +kernel
theorem d_Te_toWriteRest_51 : decode b_Te_toWriteRest 51 = .ok (.if_icmp .ne 19, 3) := by decide +kernel
theorem d_Te_toWriteRest_54 : decode b_Te_toWriteRest 54 = .ok (.aload_n 0, 1) := by decide +kernel
theorem d_Te_toWriteRest_55 : decode b_Te_toWriteRest 55 = .ok (.bipush 44, 2) := by decide +kernel
theorem d_Te_toWriteRest_57 : decode b_Te_toWriteRest 57 = .ok (.invokevirtual 66, 3) := by decide +kernel
theorem d_Te_toWriteRest_60 : decode b_Te_toWriteRest 60 = .ok (.aload_n 0, 1) := by decide +kernel
theorem d_Te_toWriteRest_61 : decode b_Te_toWriteRest 61 = .ok (.aload_n 1, 1) := by decide +kernel
theorem d_Te_toWriteRest_62 : decode b_Te_toWriteRest 62 = .ok (.lload_n 3, 1) := by decide +kernel
theorem d_Te_toWriteRest_63 : decode b_Te_toWriteRest 63 = .ok (.l2i, 1) := by decide +kernel
theorem d_Te_toWriteRest_64 : decode b_Te_toWriteRest 64 = .ok (.iload 5, 2) := by decide +kernel
theorem d_Te_toWriteRest_66 : decode b_Te_toWriteRest 66 = .ok (.invokevirtual 74, 3) := by decide +kernel
theorem d_Te_toWriteRest_69 : decode b_Te_toWriteRest 69 = .ok (.ireturn, 1) := by decide +kernel
theorem d_Te_toWriteRest_70 : decode b_Te_toWriteRest 70 = .ok (.aload_n 0, 1) := by decide +kernel
theorem d_Te_toWriteRest_71 : decode b_Te_toWriteRest 71 = .ok (.bipush 124, 2) := by decide +kernel
theorem d_Te_toWriteRest_73 : decode b_Te_toWriteRest 73 = .ok (.invokevirtual 66, 3) := by decide +kernel
theorem d_Te_toWriteRest_76 : decode b_Te_toWriteRest 76 = .ok (.aload_n 0, 1) := by decide +kernel
theorem d_Te_toWriteRest_77 : decode b_Te_toWriteRest 77 = .ok (.iload 5, 2) := by decide +kernel
theorem d_Te_toWriteRest_79 : decode b_Te_toWriteRest 79 = .ok (.bipush 10, 2) := by decide +kernel
theorem d_Te_toWriteRest_81 : decode b_Te_toWriteRest 81 = .ok (.bipush 93, 2) := by decide +kernel
theorem d_Te_toWriteRest_83 : decode b_Te_toWriteRest 83 = .ok (.invokestatic 85, 3) := by decide +kernel
theorem d_Te_toWriteRest_86 : decode b_Te_toWriteRest 86 = .ok (.invokevirtual 89, 3) := by decide +kernel
theorem d_Te_toWriteRest_89 : decode b_Te_toWriteRest 89 = .ok (.istore 5, 2) := by decide +kernel
theorem d_Te_toWriteRest_91 : decode b_Te_toWriteRest 91 = .ok (.aload_n 0, 1) := by decide +kernel
theorem d_Te_toWriteRest_92 : decode b_Te_toWriteRest 92 = .ok (.iload 5, 2) := by decide +kernel
theorem d_Te_toWriteRest_94 : decode b_Te_toWriteRest 94 = .ok (.lload_n 3, 1) := by decide +kernel
theorem d_Te_toWriteRest_95 : decode b_Te_toWriteRest 95 = .ok (.invokevirtual 89, 3) := by decide +kernel
theorem d_Te_toWriteRest_98 : decode b_Te_toWriteRest 98 = .ok (.ireturn, 1) := by decide +kernel
set_option maxRecDepth 100000 in
theorem hl_Te_toWriteRest : Cond.methodLink R_Te 77 y_Te_toWriteRest ∈ wd_tbl := wd_of 1369 (by decide +kernel) rfl
set_option maxRecDepth 100000 in
theorem hi_Te_toWriteRest : Cond.instanceMethod y_Te_toWriteRest ∈ wd_tbl := wd_of 1371 (by decide +kernel) rfl
set_option maxRecDepth 100000 in
theorem hs_Te_toWriteRest : Cond.selects R_Te y_Te_toWriteRest y_Te_toWriteRest ∈ wd_tbl := wd_of 70 (by decide +kernel) rfl
theorem hd_Te_toWriteRest : y_Te_toWriteRest.cls = R_Te ∧ y_Te_toWriteRest.cls ≠ "java/lang/invoke/MethodHandle" ∧ y_Te_toWriteRest.cls ≠ "java/lang/invoke/VarHandle" ∧ (parseMethodDescriptor y_Te_toWriteRest.desc).map (fun d => d.parameters.length) = some 2 := by decide +kernel
def rm_Te_toWriteRest : Room := { frames := 2, cells := 0, slots := 0, locals := 47 }
theorem rm_Te_toWriteRest_Te_make : (rm_Te_make).frames + 1 ≤ rm_Te_toWriteRest.frames ∧ 8 + (2 + 11) + (rm_Te_make).locals ≤ rm_Te_toWriteRest.locals := by
  show 0 + 1 ≤ 2 ∧ 8 + (2 + 11) + 0 ≤ 47
  decide
theorem rm_Te_toWriteRest_Te_tag : (rm_Te_tag).frames + 1 ≤ rm_Te_toWriteRest.frames ∧ 8 + (2 + 11) + (rm_Te_tag).locals ≤ rm_Te_toWriteRest.locals := by
  show 0 + 1 ≤ 2 ∧ 8 + (2 + 11) + 0 ≤ 47
  decide
theorem rm_Te_toWriteRest_Te_write : (rm_Te_write).frames + 1 ≤ rm_Te_toWriteRest.frames ∧ 8 + (2 + 11) + (rm_Te_write).locals ≤ rm_Te_toWriteRest.locals := by
  show 0 + 1 ≤ 2 ∧ 8 + (2 + 11) + 0 ≤ 47
  decide
theorem rm_Te_toWriteRest_Te_toWritePair : (rm_Te_toWritePair).frames + 1 ≤ rm_Te_toWriteRest.frames ∧ 8 + (5 + 11) + (rm_Te_toWritePair).locals ≤ rm_Te_toWriteRest.locals := by
  show 1 + 1 ≤ 2 ∧ 8 + (5 + 11) + 23 ≤ 47
  decide
theorem rm_Te_toWriteRest_Te_push : (rm_Te_push).frames + 1 ≤ rm_Te_toWriteRest.frames ∧ 8 + (4 + 11) + (rm_Te_push).locals ≤ rm_Te_toWriteRest.locals := by
  show 0 + 1 ≤ 2 ∧ 8 + (4 + 11) + 0 ≤ 47
  decide
def fb_Te_toWriteRest_19 (N : Nat) (G : Unit) (u : CS) (v0 : Nat) (v1 : Option Nat) (v2 : Int32) (t0 : Int64) : Option (CS × Int32) := lt (if v2 < 0 then 0 else v2) (fun y1 => bx (fm_Te_tag N u t0) (fun u2 r2 => br (decide (r2 = 6)) (ck (isO u2 v0 8) (bx (fm_Te_write N u2 v0 93) (fun u10 r10 => some (u10, y1)))) (bx (fm_Te_tag N u2 t0) (fun u3 r3 => br (decide (r3 = 7)) (ck (isO u3 v0 8) (bx (fm_Te_write N u3 v0 44) (fun u8 r8 => ck (isO u8 v0 8) (bx (fm_Te_toWritePair N u8 v0 v1 (t0.toInt32) y1) (fun u9 r9 => some (u9, r9)))))) (ck (isO u3 v0 8) (bx (fm_Te_write N u3 v0 124) (fun u4 r4 => bx (fm_Te_make N u4 10 93) (fun u5 r5 => ck (isO u5 v0 8) (bx (fm_Te_push N u5 v0 y1 r5) (fun u6 r6 => ck (isO u6 v0 8) (bx (fm_Te_push N u6 v0 r6 t0) (fun u7 r7 => some (u7, r7)))))))))))))
set_option maxRecDepth 100000 in
set_option maxHeartbeats 4000000 in
theorem wb_Te_toWriteRest_19 {p : Program} {l : Launch} {e : Env} {s : State} {m : MethodId} {args : Array Value} {below : List Frame} {meth : Method} {c : Code} {s0 : State} {b0 : Nat} {D : va_G} {cB cI cJ cZ cS cP : ClassId} {A : Nat → Prop} {sk sv : Nat → Nat} {ad : Nat → Nat} (C0 : XCx p s s0 b0 m args meth c R_Te b_Te_toWriteRest 6 (some .int) D cB cI cJ cZ cS cP A) (hE : ENV s0 b0 sk sv) (N : Nat) (G : Unit) (hG : True) : ∀ (u : CS) (v0 : Nat) (v1 : Option Nat) (v2 : Int32) (t0 : Int64) (x : CS × Int32), fb_Te_toWriteRest_19 N G u v0 v1 v2 t0 = some x → ∀ (H : Heap) (locs : List Loc), va_P D cls (wC cB cI cJ cZ cS cP ad u) H → va_D A (wC cB cI cJ cZ cS cP ad u) → va_S A s.heap H locs → ∀ (ls : Array Slot), lv_has ls 6 [(0, .ref (ad v0)), (1, va_rf (Option.map ad v1)), (2, .int v2)] → W p l e rm_Te_toWriteRest s m args below meth c H locs 0 0 (MQ below (xQ0 D cB cI cJ cZ cS cP A ad x.1 (some (.inl x.2))) args s 0 0 A) (F0 m 19 ls [.long t0]) := by
  intro u v0 v1 v2 t0 x hf H locs hP hD hS ls hl
  obtain ⟨hx, hb, hr, hml, ht, hown, hK, hA, hlocks, hA0, hO, hbs⟩ := id C0
  unfold fb_Te_toWriteRest_19 at hf
  refine lv_lstore_n (lv' := [(3, .long t0), (0, .ref (ad v0)), (1, va_rf (Option.map ad v1)), (2, .int v2)]) hx hb d_Te_toWriteRest_19 rfl hl (by decide) (by first | rfl | simp [List.filter, cat_rf]) (fun ls hl => ?_)
  refine lv_iload_n hx hb d_Te_toWriteRest_20 rfl (lv_at hl 3 rfl) ?_
  refine lv_iconst (v := 0) hx hb d_Te_toWriteRest_21 (by decide) ?_
  refine va_mmax hx hb (hml.trans hl.1.symm) hown (ht _ (wd_of 1373 (by decide +kernel) rfl)) (ht _ (wd_of 1184 (by decide +kernel) rfl)) (ht _ (wd_of 281 (by decide +kernel) rfl)) (ht _ (wd_of 1185 (by decide +kernel) rfl)) (Nat.le_of_ble_eq_true rfl) (Nat.le_of_ble_eq_true rfl) (Nat.zero_le _) (Nat.zero_le _) d_Te_toWriteRest_22 ?_
  obtain ⟨y1, e1, hf⟩ := lt_some hf
  rw [← e1]
  refine lv_istore (lv' := [(5, .int y1), (3, .long t0), (0, .ref (ad v0)), (1, va_rf (Option.map ad v1)), (2, .int v2)]) hx hb d_Te_toWriteRest_25 hl (by decide) (by first | rfl | simp [List.filter, cat_rf]) (fun ls hl => ?_)
  refine lv_lload_n hx hb d_Te_toWriteRest_27 rfl (lv_at hl 1 rfl) ?_
  obtain ⟨u2, r2, hc2, hf⟩ := bx_some hf
  refine xS0 (As := [.long t0]) (rest := []) C0 hP hD hS (c_Te_tag N hc2) k_Te_tag (wd_of 1346 (by decide +kernel) rfl) ht_Te_tag hini_Te rfl rfl hd_Te_tag rfl rm_Te_toWriteRest_Te_tag hl.1 (Nat.le_of_ble_eq_true rfl) d_Te_toWriteRest_28 rfl ⟨Nat.zero_le _, Nat.zero_le _⟩ (fun H locs hP hD hS => ?_)
  refine lv_bipush (v := 6) hx hb d_Te_toWriteRest_31 (by decide) ?_
  refine lv_icmp_ne (tgt := 45) hx hb d_Te_toWriteRest_33 (by decide) (fun hc => ?_) (fun hc => ?_)
  · rw [br_n _ hc] at hf
    refine lv_lload_n hx hb d_Te_toWriteRest_45 rfl (lv_at hl 1 rfl) ?_
    obtain ⟨u3, r3, hc3, hf⟩ := bx_some hf
    refine xS0 (As := [.long t0]) (rest := []) C0 hP hD hS (c_Te_tag N hc3) k_Te_tag (wd_of 1346 (by decide +kernel) rfl) ht_Te_tag hini_Te rfl rfl hd_Te_tag rfl rm_Te_toWriteRest_Te_tag hl.1 (Nat.le_of_ble_eq_true rfl) d_Te_toWriteRest_46 rfl ⟨Nat.zero_le _, Nat.zero_le _⟩ (fun H locs hP hD hS => ?_)
    refine lv_bipush (v := 7) hx hb d_Te_toWriteRest_49 (by decide) ?_
    refine lv_icmp_ne (tgt := 70) hx hb d_Te_toWriteRest_51 (by decide) (fun hc => ?_) (fun hc => ?_)
    · rw [br_n _ hc] at hf
      refine lv_aload_n hx hb d_Te_toWriteRest_70 rfl (lv_at hl 2 rfl) ?_
      refine lv_bipush (v := 124) hx hb d_Te_toWriteRest_71 (by decide) ?_
      obtain ⟨hO9, hf⟩ := ck_some hf
      obtain ⟨u4, r4, hc4, hf⟩ := bx_some hf
      refine xV0 (i := v0) (As := [.int 124]) (rest := []) C0 hP hD hS ck_Te hO9 (c_Te_write N hE hc4) k_Te_write (wd_of 1349 (by decide +kernel) rfl) hi_Te_write hs_Te_write hini_Te rfl rfl hd_Te_write rfl rm_Te_toWriteRest_Te_write hl.1 (Nat.le_of_ble_eq_true rfl) d_Te_toWriteRest_73 rfl ⟨Nat.zero_le _, Nat.zero_le _⟩ (fun H locs hP hD hS => ?_)
      refine lv_aload_n hx hb d_Te_toWriteRest_76 rfl (lv_at hl 2 rfl) ?_
      refine lv_iload hx hb d_Te_toWriteRest_77 (lv_at hl 0 rfl) ?_
      refine lv_bipush (v := 10) hx hb d_Te_toWriteRest_79 (by decide) ?_
      refine lv_bipush (v := 93) hx hb d_Te_toWriteRest_81 (by decide) ?_
      obtain ⟨u5, r5, hc5, hf⟩ := bx_some hf
      refine xS0 (As := [.int 10, .int 93]) (rest := [.int y1, .ref (ad v0)]) C0 hP hD hS (c_Te_make N hc5) k_Te_make (wd_of 1357 (by decide +kernel) rfl) ht_Te_make hini_Te rfl rfl hd_Te_make rfl rm_Te_toWriteRest_Te_make hl.1 (Nat.le_of_ble_eq_true rfl) d_Te_toWriteRest_83 rfl ⟨Nat.zero_le _, Nat.zero_le _⟩ (fun H locs hP hD hS => ?_)
      obtain ⟨hO9, hf⟩ := ck_some hf
      obtain ⟨u6, r6, hc6, hf⟩ := bx_some hf
      refine xV0 (i := v0) (As := [.int y1, .long r5]) (rest := []) C0 hP hD hS ck_Te hO9 (c_Te_push N hc6) k_Te_push (wd_of 1361 (by decide +kernel) rfl) hi_Te_push hs_Te_push hini_Te rfl rfl hd_Te_push rfl rm_Te_toWriteRest_Te_push hl.1 (Nat.le_of_ble_eq_true rfl) d_Te_toWriteRest_86 rfl ⟨Nat.zero_le _, Nat.zero_le _⟩ (fun H locs hP hD hS => ?_)
      refine lv_istore (lv' := [(5, .int r6), (3, .long t0), (0, .ref (ad v0)), (1, va_rf (Option.map ad v1)), (2, .int v2)]) hx hb d_Te_toWriteRest_89 hl (by decide) (by first | rfl | simp [List.filter, cat_rf]) (fun ls hl => ?_)
      refine lv_aload_n hx hb d_Te_toWriteRest_91 rfl (lv_at hl 2 rfl) ?_
      refine lv_iload hx hb d_Te_toWriteRest_92 (lv_at hl 0 rfl) ?_
      refine lv_lload_n hx hb d_Te_toWriteRest_94 rfl (lv_at hl 1 rfl) ?_
      obtain ⟨hO9, hf⟩ := ck_some hf
      obtain ⟨u7, r7, hc7, hf⟩ := bx_some hf
      refine xV0 (i := v0) (As := [.int r6, .long t0]) (rest := []) C0 hP hD hS ck_Te hO9 (c_Te_push N hc7) k_Te_push (wd_of 1361 (by decide +kernel) rfl) hi_Te_push hs_Te_push hini_Te rfl rfl hd_Te_push rfl rm_Te_toWriteRest_Te_push hl.1 (Nat.le_of_ble_eq_true rfl) d_Te_toWriteRest_95 rfl ⟨Nat.zero_le _, Nat.zero_le _⟩ (fun H locs hP hD hS => ?_)
      exact xr0_i C0 hP hD hS hf d_Te_toWriteRest_98
    · rw [br_p _ hc] at hf
      refine lv_aload_n hx hb d_Te_toWriteRest_54 rfl (lv_at hl 2 rfl) ?_
      refine lv_bipush (v := 44) hx hb d_Te_toWriteRest_55 (by decide) ?_
      obtain ⟨hO9, hf⟩ := ck_some hf
      obtain ⟨u8, r8, hc8, hf⟩ := bx_some hf
      refine xV0 (i := v0) (As := [.int 44]) (rest := []) C0 hP hD hS ck_Te hO9 (c_Te_write N hE hc8) k_Te_write (wd_of 1349 (by decide +kernel) rfl) hi_Te_write hs_Te_write hini_Te rfl rfl hd_Te_write rfl rm_Te_toWriteRest_Te_write hl.1 (Nat.le_of_ble_eq_true rfl) d_Te_toWriteRest_57 rfl ⟨Nat.zero_le _, Nat.zero_le _⟩ (fun H locs hP hD hS => ?_)
      refine lv_aload_n hx hb d_Te_toWriteRest_60 rfl (lv_at hl 2 rfl) ?_
      refine x_aload_n hx hb d_Te_toWriteRest_61 rfl (lv_at hl 3 rfl) ?_
      refine lv_lload_n hx hb d_Te_toWriteRest_62 rfl (lv_at hl 1 rfl) ?_
      refine lv_l2i hx hb d_Te_toWriteRest_63 rfl ?_
      refine lv_iload hx hb d_Te_toWriteRest_64 (lv_at hl 0 rfl) ?_
      obtain ⟨hO9, hf⟩ := ck_some hf
      obtain ⟨u9, r9, hc9, hf⟩ := bx_some hf
      refine xV0 (i := v0) (As := [va_rf (Option.map ad v1), .int t0.toInt32, .int y1]) (rest := []) C0 hP hD hS ck_Te hO9 (c_Te_toWritePair N hc9) k_Te_toWritePair (wd_of 1365 (by decide +kernel) rfl) hi_Te_toWritePair hs_Te_toWritePair hini_Te rfl rfl hd_Te_toWritePair rfl rm_Te_toWriteRest_Te_toWritePair hl.1 (Nat.le_of_ble_eq_true rfl) d_Te_toWriteRest_66 rfl ⟨Nat.zero_le _, Nat.zero_le _⟩ (fun H locs hP hD hS => ?_)
      exact xr0_i C0 hP hD hS hf d_Te_toWriteRest_69
  · rw [br_p _ hc] at hf
    refine lv_aload_n hx hb d_Te_toWriteRest_36 rfl (lv_at hl 2 rfl) ?_
    refine lv_bipush (v := 93) hx hb d_Te_toWriteRest_37 (by decide) ?_
    obtain ⟨hO9, hf⟩ := ck_some hf
    obtain ⟨u10, r10, hc10, hf⟩ := bx_some hf
    refine xV0 (i := v0) (As := [.int 93]) (rest := []) C0 hP hD hS ck_Te hO9 (c_Te_write N hE hc10) k_Te_write (wd_of 1349 (by decide +kernel) rfl) hi_Te_write hs_Te_write hini_Te rfl rfl hd_Te_write rfl rm_Te_toWriteRest_Te_write hl.1 (Nat.le_of_ble_eq_true rfl) d_Te_toWriteRest_39 rfl ⟨Nat.zero_le _, Nat.zero_le _⟩ (fun H locs hP hD hS => ?_)
    refine lv_iload hx hb d_Te_toWriteRest_42 (lv_at hl 0 rfl) ?_
    exact xr0_i C0 hP hD hS hf d_Te_toWriteRest_44
def fb_Te_toWriteRest_0 (N : Nat) (G : Unit) (u : CS) (v0 : Nat) (v1 : Option Nat) (v2 : Int32) : Option (CS × Int32) := br (decide (v2 < 0)) (bx (fm_Te_make N u 6 0) (fun u11 r11 => fb_Te_toWriteRest_19 N G u11 (v0) (v1) (v2) (r11))) (bo (gR u v0 8 1) (fun r12 => bo r12 (fun j13 => bo (aJ u j13 v2) (fun r14 => fb_Te_toWriteRest_19 N G u (v0) (v1) (v2) (r14)))))
set_option maxRecDepth 100000 in
set_option maxHeartbeats 4000000 in
theorem wb_Te_toWriteRest_0 {p : Program} {l : Launch} {e : Env} {s : State} {m : MethodId} {args : Array Value} {below : List Frame} {meth : Method} {c : Code} {s0 : State} {b0 : Nat} {D : va_G} {cB cI cJ cZ cS cP : ClassId} {A : Nat → Prop} {sk sv : Nat → Nat} {ad : Nat → Nat} (C0 : XCx p s s0 b0 m args meth c R_Te b_Te_toWriteRest 6 (some .int) D cB cI cJ cZ cS cP A) (hE : ENV s0 b0 sk sv) (N : Nat) (G : Unit) (hG : True) : ∀ (u : CS) (v0 : Nat) (v1 : Option Nat) (v2 : Int32) (x : CS × Int32), fb_Te_toWriteRest_0 N G u v0 v1 v2 = some x → ∀ (H : Heap) (locs : List Loc), va_P D cls (wC cB cI cJ cZ cS cP ad u) H → va_D A (wC cB cI cJ cZ cS cP ad u) → va_S A s.heap H locs → ∀ (ls : Array Slot), lv_has ls 6 [(0, .ref (ad v0)), (1, va_rf (Option.map ad v1)), (2, .int v2)] → W p l e rm_Te_toWriteRest s m args below meth c H locs 0 0 (MQ below (xQ0 D cB cI cJ cZ cS cP A ad x.1 (some (.inl x.2))) args s 0 0 A) (F0 m 0 ls []) := by
  intro u v0 v1 v2 x hf H locs hP hD hS ls hl
  obtain ⟨hx, hb, hr, hml, ht, hown, hK, hA, hlocks, hA0, hO, hbs⟩ := id C0
  unfold fb_Te_toWriteRest_0 at hf
  refine lv_iload_n hx hb d_Te_toWriteRest_0 rfl (lv_at hl 2 rfl) ?_
  refine lv_if_lt (tgt := 13) hx hb d_Te_toWriteRest_1 (by decide) (fun hc => ?_) (fun hc => ?_)
  · rw [br_p _ hc] at hf
    refine lv_bipush (v := 6) hx hb d_Te_toWriteRest_13 (by decide) ?_
    refine lv_iconst (v := 0) hx hb d_Te_toWriteRest_15 (by decide) ?_
    obtain ⟨u11, r11, hc11, hf⟩ := bx_some hf
    refine xS0 (As := [.int 6, .int 0]) (rest := []) C0 hP hD hS (c_Te_make N hc11) k_Te_make (wd_of 1357 (by decide +kernel) rfl) ht_Te_make hini_Te rfl rfl hd_Te_make rfl rm_Te_toWriteRest_Te_make hl.1 (Nat.le_of_ble_eq_true rfl) d_Te_toWriteRest_16 rfl ⟨Nat.zero_le _, Nat.zero_le _⟩ (fun H locs hP hD hS => ?_)
    exact wb_Te_toWriteRest_19 C0 hE N G hG _ _ _ _ _ _ hf H locs hP hD hS ls (lv_sub hl [0, 1, 2] rfl)
  · rw [br_n _ hc] at hf
    refine lv_aload_n hx hb d_Te_toWriteRest_4 rfl (lv_at hl 0 rfl) ?_
    obtain ⟨r12, g12, hf⟩ := bo_some hf
    refine xg_R (i := v0) (k := 1) hx hb ht hown ck_Te hK hP (by decide) fk_Te_15 g12 d_Te_toWriteRest_5 ?_
    refine lv_iload_n hx hb d_Te_toWriteRest_8 rfl (lv_at hl 2 rfl) ?_
    obtain ⟨j13, ej13, hf⟩ := bo_some hf
    rw [ej13]
    obtain ⟨r14, g14, hf⟩ := bo_some hf
    refine xl_J (i := j13) hx hb hK hP g14 d_Te_toWriteRest_9 ?_
    refine lv_goto (tgt := 19) hx hb d_Te_toWriteRest_10 (by decide) ?_
    exact wb_Te_toWriteRest_19 C0 hE N G hG _ _ _ _ _ _ hf H locs hP hD hS ls (lv_sub hl [0, 1, 2] rfl)
def fm_Te_toWriteRest (N : Nat) (u : CS) (v0 : Nat) (v1 : Option Nat) (v2 : Int32) : Option (CS × Int32) := fb_Te_toWriteRest_0 N () u v0 v1 v2
set_option maxRecDepth 100000 in
set_option maxHeartbeats 4000000 in
theorem c_Te_toWriteRest (N : Nat) {l : Launch} {s0 : State} {b0 : Nat} {D : va_G} {cB cI cJ cZ cS cP : ClassId} {sk sv : Nat → Nat} {ad : Nat → Nat} {u : CS} {sz : Nat} {v0 : Nat} {v1 : Option Nat} {v2 : Int32} {x : CS × Int32} (hE : ENV s0 b0 sk sv) (hf : fm_Te_toWriteRest N u v0 v1 v2 = some x) : Met l y_Te_toWriteRest (wd_ws y_Te_toWriteRest b_Te_toWriteRest 6 (some .int)) rm_Te_toWriteRest (xPc s0 b0 D cB cI cJ cZ cS cP ad u sz [.ref (ad v0), va_rf (Option.map ad v1), .int v2]) (xQ0 D cB cI cJ cZ cS cP (xA cB cI cJ cZ cS cP ad u sz) ad x.1 (some (.inl x.2))) 0 0 (xA cB cI cJ cZ cS cP ad u sz) :=
  xMet (by decide) rfl (by cases v1 <;> exact Nat.le_of_ble_eq_true rfl) (fun p e s m below meth c ls hsz hnm C0 hP hD hS hl =>
    wb_Te_toWriteRest_0 C0 hE N () trivial u _ _ _ x hf s.heap [] hP hD hS ls (by rw [show lv_args 0 [.ref (ad v0), va_rf (Option.map ad v1), .int v2] = [(0, .ref (ad v0)), (1, va_rf (Option.map ad v1)), (2, .int v2)] from by cases v1 <;> rfl] at hl; exact lv_sub hl [0, 1, 2] rfl))
abbrev b_Te_writeNumber : ByteArray := prog_8_method_16_code
def y_Te_writeNumber : MethodName := ⟨R_Te, "writeNumber", "(I)V"⟩
def w_Te_writeNumber : List Cond := wd_ws y_Te_writeNumber b_Te_writeNumber 6 none
set_option maxRecDepth 100000 in
theorem k_Te_writeNumber : Cond.code y_Te_writeNumber b_Te_writeNumber 6 none ∈ wd_tbl := wd_of 1381 rfl rfl
theorem d_Te_writeNumber_0 : decode b_Te_writeNumber 0 = .ok (.iload_n 1, 1) := by decide +kernel
theorem d_Te_writeNumber_1 : decode b_Te_writeNumber 1 = .ok (.i2l, 1) := by decide +kernel
theorem d_Te_writeNumber_2 : decode b_Te_writeNumber 2 = .ok (.lstore_n 2, 1) := by decide +kernel
theorem d_Te_writeNumber_3 : decode b_Te_writeNumber 3 = .ok (.lload_n 2, 1) := by decide +kernel
theorem d_Te_writeNumber_4 : decode b_Te_writeNumber 4 = .ok (.lconst 0, 1) := by decide +kernel
theorem d_Te_writeNumber_5 : decode b_Te_writeNumber 5 = .ok (.lcmp, 1) := by decide +kernel
theorem d_Te_writeNumber_6 : decode b_Te_writeNumber 6 = .ok (.ifCond .ge 12, 3) := by decide +kernel
theorem d_Te_writeNumber_9 : decode b_Te_writeNumber 9 = .ok (.aload_n 0, 1) := by decide +kernel
theorem d_Te_writeNumber_10 : decode b_Te_writeNumber 10 = .ok (.bipush 45, 2) := by decide +kernel
theorem d_Te_writeNumber_12 : decode b_Te_writeNumber 12 = .ok (.invokevirtual 66, 3) := by decide +kernel
theorem d_Te_writeNumber_15 : decode b_Te_writeNumber 15 = .ok (.lload_n 2, 1) := by decide +kernel
theorem d_Te_writeNumber_16 : decode b_Te_writeNumber 16 = .ok (.lneg, 1) := by decide +kernel
theorem d_Te_writeNumber_17 : decode b_Te_writeNumber 17 = .ok (.lstore_n 2, 1) := by decide +kernel
theorem d_Te_writeNumber_18 : decode b_Te_writeNumber 18 = .ok (.lconst 1, 1) := by decide +kernel
theorem d_Te_writeNumber_19 : decode b_Te_writeNumber 19 = .ok (.lstore 4, 2) := by decide +kernel
theorem d_Te_writeNumber_21 : decode b_Te_writeNumber 21 = .ok (.lload 4, 2) := by decide +kernel
theorem d_Te_writeNumber_23 : decode b_Te_writeNumber 23 = .ok (.lload_n 2, 1) := by decide +kernel
theorem d_Te_writeNumber_24 : decode b_Te_writeNumber 24 = .ok (.ldc2_w 107, 3) := by decide +kernel
theorem d_Te_writeNumber_27 : decode b_Te_writeNumber 27 = .ok (.ldiv, 1) := by decide +kernel
theorem d_Te_writeNumber_28 : decode b_Te_writeNumber 28 = .ok (.lcmp, 1) := by decide +kernel
theorem d_Te_writeNumber_29 : decode b_Te_writeNumber 29 = .ok (.ifCond .gt 14, 3) := by decide +kernel
theorem d_Te_writeNumber_32 : decode b_Te_writeNumber 32 = .ok (.lload 4, 2) := by decide +kernel
theorem d_Te_writeNumber_34 : decode b_Te_writeNumber 34 = .ok (.ldc2_w 107, 3) := by decide +kernel
theorem d_Te_writeNumber_37 : decode b_Te_writeNumber 37 = .ok (.lmul, 1) := by decide +kernel
theorem d_Te_writeNumber_38 : decode b_Te_writeNumber 38 = .ok (.lstore 4, 2) := by decide +kernel
theorem d_Te_writeNumber_40 : decode b_Te_writeNumber 40 = .ok (.goto (-19), 3) := by decide +kernel
theorem d_Te_writeNumber_43 : decode b_Te_writeNumber 43 = .ok (.lload 4, 2) := by decide +kernel
theorem d_Te_writeNumber_45 : decode b_Te_writeNumber 45 = .ok (.lconst 0, 1) := by decide +kernel
theorem d_Te_writeNumber_46 : decode b_Te_writeNumber 46 = .ok (.lcmp, 1) := by decide +kernel
theorem d_Te_writeNumber_47 : decode b_Te_writeNumber 47 = .ok (.ifCond .le 31, 3) := by decide +kernel
theorem d_Te_writeNumber_50 : decode b_Te_writeNumber 50 = .ok (.aload_n 0, 1) := by decide +kernel
theorem d_Te_writeNumber_51 : decode b_Te_writeNumber 51 = .ok (.ldc2_w 109, 3) := by decide +kernel
theorem d_Te_writeNumber_54 : decode b_Te_writeNumber 54 = .ok (.lload_n 2, 1) := by decide +kernel
theorem d_Te_writeNumber_55 : decode b_Te_writeNumber 55 = .ok (.lload 4, 2) := by decide +kernel
theorem d_Te_writeNumber_57 : decode b_Te_writeNumber 57 = .ok (.ldiv, 1) := by decide +kernel
theorem d_Te_writeNumber_58 : decode b_Te_writeNumber 58 = .ok (.ldc2_w 107, 3) := by decide +kernel
theorem d_Te_writeNumber_61 : decode b_Te_writeNumber 61 = .ok (.lrem, 1) := by decide +kernel
theorem d_Te_writeNumber_62 : decode b_Te_writeNumber 62 = .ok (.ladd, 1) := by decide +kernel
theorem d_Te_writeNumber_63 : decode b_Te_writeNumber 63 = .ok (.l2i, 1) := by decide +kernel
theorem d_Te_writeNumber_64 : decode b_Te_writeNumber 64 = .ok (.invokevirtual 66, 3) := by decide +kernel
theorem d_Te_writeNumber_67 : decode b_Te_writeNumber 67 = .ok (.lload 4, 2) := by decide +kernel
theorem d_Te_writeNumber_69 : decode b_Te_writeNumber 69 = .ok (.ldc2_w 107, 3) := by decide +kernel
theorem d_Te_writeNumber_72 : decode b_Te_writeNumber 72 = .ok (.ldiv, 1) := by decide +kernel
theorem d_Te_writeNumber_73 : decode b_Te_writeNumber 73 = .ok (.lstore 4, 2) := by decide +kernel
theorem d_Te_writeNumber_75 : decode b_Te_writeNumber 75 = .ok (.goto (-32), 3) := by decide +kernel
theorem d_Te_writeNumber_78 : decode b_Te_writeNumber 78 = .ok (.return_, 1) := by decide +kernel
set_option maxRecDepth 100000 in
theorem hl_Te_writeNumber : Cond.methodLink R_Te 98 y_Te_writeNumber ∈ wd_tbl := wd_of 1378 (by decide +kernel) rfl
set_option maxRecDepth 100000 in
theorem hi_Te_writeNumber : Cond.instanceMethod y_Te_writeNumber ∈ wd_tbl := wd_of 1380 (by decide +kernel) rfl
set_option maxRecDepth 100000 in
theorem hs_Te_writeNumber : Cond.selects R_Te y_Te_writeNumber y_Te_writeNumber ∈ wd_tbl := wd_of 72 (by decide +kernel) rfl
theorem hd_Te_writeNumber : y_Te_writeNumber.cls = R_Te ∧ y_Te_writeNumber.cls ≠ "java/lang/invoke/MethodHandle" ∧ y_Te_writeNumber.cls ≠ "java/lang/invoke/VarHandle" ∧ (parseMethodDescriptor y_Te_writeNumber.desc).map (fun d => d.parameters.length) = some 1 := by decide +kernel
def rm_Te_writeNumber : Room := { frames := 1, cells := 0, slots := 0, locals := 21 }
theorem rm_Te_writeNumber_Te_write : (rm_Te_write).frames + 1 ≤ rm_Te_writeNumber.frames ∧ 8 + (2 + 11) + (rm_Te_write).locals ≤ rm_Te_writeNumber.locals := by
  show 0 + 1 ≤ 1 ∧ 8 + (2 + 11) + 0 ≤ 21
  decide
def fb_Te_writeNumber_43 (N : Nat) (G : (CS → Nat → Int64 → Int64 → Option (CS × Unit)) × (CS → Nat → Int64 → Int64 → Option (CS × Unit))) (u : CS) (v0 : Nat) (v2 : Int64) (v4 : Int64) : Option (CS × Unit) := br (decide ((lg_cmp v4 0) ≤ 0)) (some (u, ())) (ck (decide (¬ v4 = 0)) (ck (decide (¬ 10 = 0)) (ck (isO u v0 8) (bx (fm_Te_write N u v0 ((48 + ((v2 / v4) - (v2 / v4) / 10 * 10)).toInt32)) (fun u1 r1 => ck (decide (¬ 10 = 0)) (G.2 u1 (v0) (v2) ((v4 / 10))))))))
set_option maxRecDepth 100000 in
set_option maxHeartbeats 4000000 in
theorem wb_Te_writeNumber_43 {p : Program} {l : Launch} {e : Env} {s : State} {m : MethodId} {args : Array Value} {below : List Frame} {meth : Method} {c : Code} {s0 : State} {b0 : Nat} {D : va_G} {cB cI cJ cZ cS cP : ClassId} {A : Nat → Prop} {sk sv : Nat → Nat} {ad : Nat → Nat} (C0 : XCx p s s0 b0 m args meth c R_Te b_Te_writeNumber 6 none D cB cI cJ cZ cS cP A) (hE : ENV s0 b0 sk sv) (N : Nat) (G : (CS → Nat → Int64 → Int64 → Option (CS × Unit)) × (CS → Nat → Int64 → Int64 → Option (CS × Unit))) (hG : (∀ (u : CS) (v0 : Nat) (v2 : Int64) (v4 : Int64) (x : CS × Unit), G.1 u v0 v2 v4 = some x → ∀ (H : Heap) (locs : List Loc), va_P D cls (wC cB cI cJ cZ cS cP ad u) H → va_D A (wC cB cI cJ cZ cS cP ad u) → va_S A s.heap H locs → ∀ (ls : Array Slot), lv_has ls 6 [(0, .ref (ad v0)), (2, .long v2), (4, .long v4)] → W p l e rm_Te_writeNumber s m args below meth c H locs 0 0 (MQ below (xQ0 D cB cI cJ cZ cS cP A ad x.1 none) args s 0 0 A) (F0 m 21 ls [])) ∧ (∀ (u : CS) (v0 : Nat) (v2 : Int64) (v4 : Int64) (x : CS × Unit), G.2 u v0 v2 v4 = some x → ∀ (H : Heap) (locs : List Loc), va_P D cls (wC cB cI cJ cZ cS cP ad u) H → va_D A (wC cB cI cJ cZ cS cP ad u) → va_S A s.heap H locs → ∀ (ls : Array Slot), lv_has ls 6 [(0, .ref (ad v0)), (2, .long v2), (4, .long v4)] → W p l e rm_Te_writeNumber s m args below meth c H locs 0 0 (MQ below (xQ0 D cB cI cJ cZ cS cP A ad x.1 none) args s 0 0 A) (F0 m 43 ls []))) : ∀ (u : CS) (v0 : Nat) (v2 : Int64) (v4 : Int64) (x : CS × Unit), fb_Te_writeNumber_43 N G u v0 v2 v4 = some x → ∀ (H : Heap) (locs : List Loc), va_P D cls (wC cB cI cJ cZ cS cP ad u) H → va_D A (wC cB cI cJ cZ cS cP ad u) → va_S A s.heap H locs → ∀ (ls : Array Slot), lv_has ls 6 [(0, .ref (ad v0)), (2, .long v2), (4, .long v4)] → W p l e rm_Te_writeNumber s m args below meth c H locs 0 0 (MQ below (xQ0 D cB cI cJ cZ cS cP A ad x.1 none) args s 0 0 A) (F0 m 43 ls []) := by
  intro u v0 v2 v4 x hf H locs hP hD hS ls hl
  obtain ⟨hx, hb, hr, hml, ht, hown, hK, hA, hlocks, hA0, hO, hbs⟩ := id C0
  unfold fb_Te_writeNumber_43 at hf
  refine lv_lload hx hb d_Te_writeNumber_43 (lv_at hl 2 rfl) ?_
  refine lv_lconst (v := 0) hx hb d_Te_writeNumber_45 (by decide) ?_
  refine W.lcmp hx hb d_Te_writeNumber_46 ?_
  refine lv_if_le (tgt := 78) hx hb d_Te_writeNumber_47 (by decide) (fun hc => ?_) (fun hc => ?_)
  · rw [br_p _ hc] at hf
    exact xr0_v C0 hP hD hS hf d_Te_writeNumber_78
  · rw [br_n _ hc] at hf
    refine lv_aload_n hx hb d_Te_writeNumber_50 rfl (lv_at hl 0 rfl) ?_
    refine lv_ldc2 (v := 48) hx hb hown (ht _ (wd_of 1383 (by decide +kernel) rfl)) d_Te_writeNumber_51 ?_
    refine lv_lload_n hx hb d_Te_writeNumber_54 rfl (lv_at hl 1 rfl) ?_
    refine lv_lload hx hb d_Te_writeNumber_55 (lv_at hl 2 rfl) ?_
    obtain ⟨hn9, hf⟩ := ck_some hf
    refine lv_ldiv hx hb d_Te_writeNumber_57 (of_decide_eq_true hn9) ?_
    refine lv_ldc2 (v := 10) hx hb hown (ht _ (wd_of 1382 (by decide +kernel) rfl)) d_Te_writeNumber_58 ?_
    obtain ⟨hn9, hf⟩ := ck_some hf
    refine lv_lrem hx hb d_Te_writeNumber_61 (of_decide_eq_true hn9) ?_
    refine lv_ladd hx hb d_Te_writeNumber_62 ?_
    refine lv_l2i hx hb d_Te_writeNumber_63 rfl ?_
    obtain ⟨hO9, hf⟩ := ck_some hf
    obtain ⟨u1, r1, hc1, hf⟩ := bx_some hf
    refine xV0 (i := v0) (As := [.int (48 + ((v2 / v4) - (v2 / v4) / 10 * 10)).toInt32]) (rest := []) C0 hP hD hS ck_Te hO9 (c_Te_write N hE hc1) k_Te_write (wd_of 1349 (by decide +kernel) rfl) hi_Te_write hs_Te_write hini_Te rfl rfl hd_Te_write rfl rm_Te_writeNumber_Te_write hl.1 (Nat.le_of_ble_eq_true rfl) d_Te_writeNumber_64 rfl ⟨Nat.zero_le _, Nat.zero_le _⟩ (fun H locs hP hD hS => ?_)
    refine lv_lload hx hb d_Te_writeNumber_67 (lv_at hl 2 rfl) ?_
    refine lv_ldc2 (v := 10) hx hb hown (ht _ (wd_of 1382 (by decide +kernel) rfl)) d_Te_writeNumber_69 ?_
    obtain ⟨hn9, hf⟩ := ck_some hf
    refine lv_ldiv hx hb d_Te_writeNumber_72 (of_decide_eq_true hn9) ?_
    refine lv_lstore (lv' := [(4, .long (v4 / 10)), (0, .ref (ad v0)), (2, .long v2)]) hx hb d_Te_writeNumber_73 hl (by decide) (by first | rfl | simp [List.filter, cat_rf]) (fun ls hl => ?_)
    refine lv_goto (tgt := 43) hx hb d_Te_writeNumber_75 (by decide) ?_
    exact hG.2 _ _ _ _ _ hf H locs hP hD hS ls (lv_sub hl [1, 2, 0] rfl)
def fb_Te_writeNumber_21 (N : Nat) (G : (CS → Nat → Int64 → Int64 → Option (CS × Unit)) × (CS → Nat → Int64 → Int64 → Option (CS × Unit))) (u : CS) (v0 : Nat) (v2 : Int64) (v4 : Int64) : Option (CS × Unit) := ck (decide (¬ 10 = 0)) (br (decide (0 < (lg_cmp v4 (v2 / 10)))) (G.2 u (v0) (v2) (v4)) (G.1 u (v0) (v2) ((v4 * 10))))
set_option maxRecDepth 100000 in
set_option maxHeartbeats 4000000 in
theorem wb_Te_writeNumber_21 {p : Program} {l : Launch} {e : Env} {s : State} {m : MethodId} {args : Array Value} {below : List Frame} {meth : Method} {c : Code} {s0 : State} {b0 : Nat} {D : va_G} {cB cI cJ cZ cS cP : ClassId} {A : Nat → Prop} {sk sv : Nat → Nat} {ad : Nat → Nat} (C0 : XCx p s s0 b0 m args meth c R_Te b_Te_writeNumber 6 none D cB cI cJ cZ cS cP A) (hE : ENV s0 b0 sk sv) (N : Nat) (G : (CS → Nat → Int64 → Int64 → Option (CS × Unit)) × (CS → Nat → Int64 → Int64 → Option (CS × Unit))) (hG : (∀ (u : CS) (v0 : Nat) (v2 : Int64) (v4 : Int64) (x : CS × Unit), G.1 u v0 v2 v4 = some x → ∀ (H : Heap) (locs : List Loc), va_P D cls (wC cB cI cJ cZ cS cP ad u) H → va_D A (wC cB cI cJ cZ cS cP ad u) → va_S A s.heap H locs → ∀ (ls : Array Slot), lv_has ls 6 [(0, .ref (ad v0)), (2, .long v2), (4, .long v4)] → W p l e rm_Te_writeNumber s m args below meth c H locs 0 0 (MQ below (xQ0 D cB cI cJ cZ cS cP A ad x.1 none) args s 0 0 A) (F0 m 21 ls [])) ∧ (∀ (u : CS) (v0 : Nat) (v2 : Int64) (v4 : Int64) (x : CS × Unit), G.2 u v0 v2 v4 = some x → ∀ (H : Heap) (locs : List Loc), va_P D cls (wC cB cI cJ cZ cS cP ad u) H → va_D A (wC cB cI cJ cZ cS cP ad u) → va_S A s.heap H locs → ∀ (ls : Array Slot), lv_has ls 6 [(0, .ref (ad v0)), (2, .long v2), (4, .long v4)] → W p l e rm_Te_writeNumber s m args below meth c H locs 0 0 (MQ below (xQ0 D cB cI cJ cZ cS cP A ad x.1 none) args s 0 0 A) (F0 m 43 ls []))) : ∀ (u : CS) (v0 : Nat) (v2 : Int64) (v4 : Int64) (x : CS × Unit), fb_Te_writeNumber_21 N G u v0 v2 v4 = some x → ∀ (H : Heap) (locs : List Loc), va_P D cls (wC cB cI cJ cZ cS cP ad u) H → va_D A (wC cB cI cJ cZ cS cP ad u) → va_S A s.heap H locs → ∀ (ls : Array Slot), lv_has ls 6 [(0, .ref (ad v0)), (2, .long v2), (4, .long v4)] → W p l e rm_Te_writeNumber s m args below meth c H locs 0 0 (MQ below (xQ0 D cB cI cJ cZ cS cP A ad x.1 none) args s 0 0 A) (F0 m 21 ls []) := by
  intro u v0 v2 v4 x hf H locs hP hD hS ls hl
  obtain ⟨hx, hb, hr, hml, ht, hown, hK, hA, hlocks, hA0, hO, hbs⟩ := id C0
  unfold fb_Te_writeNumber_21 at hf
  refine lv_lload hx hb d_Te_writeNumber_21 (lv_at hl 2 rfl) ?_
  refine lv_lload_n hx hb d_Te_writeNumber_23 rfl (lv_at hl 1 rfl) ?_
  refine lv_ldc2 (v := 10) hx hb hown (ht _ (wd_of 1382 (by decide +kernel) rfl)) d_Te_writeNumber_24 ?_
  obtain ⟨hn9, hf⟩ := ck_some hf
  refine lv_ldiv hx hb d_Te_writeNumber_27 (of_decide_eq_true hn9) ?_
  refine W.lcmp hx hb d_Te_writeNumber_28 ?_
  refine lv_if_gt (tgt := 43) hx hb d_Te_writeNumber_29 (by decide) (fun hc => ?_) (fun hc => ?_)
  · rw [br_p _ hc] at hf
    exact hG.2 _ _ _ _ _ hf H locs hP hD hS ls (lv_sub hl [0, 1, 2] rfl)
  · rw [br_n _ hc] at hf
    refine lv_lload hx hb d_Te_writeNumber_32 (lv_at hl 2 rfl) ?_
    refine lv_ldc2 (v := 10) hx hb hown (ht _ (wd_of 1382 (by decide +kernel) rfl)) d_Te_writeNumber_34 ?_
    refine lv_lmul hx hb d_Te_writeNumber_37 ?_
    refine lv_lstore (lv' := [(4, .long (v4 * 10)), (0, .ref (ad v0)), (2, .long v2)]) hx hb d_Te_writeNumber_38 hl (by decide) (by first | rfl | simp [List.filter, cat_rf]) (fun ls hl => ?_)
    refine lv_goto (tgt := 21) hx hb d_Te_writeNumber_40 (by decide) ?_
    exact hG.1 _ _ _ _ _ hf H locs hP hD hS ls (lv_sub hl [1, 2, 0] rfl)
def fb_Te_writeNumber_18 (N : Nat) (G : (CS → Nat → Int64 → Int64 → Option (CS × Unit)) × (CS → Nat → Int64 → Int64 → Option (CS × Unit))) (u : CS) (v0 : Nat) (v2 : Int64) : Option (CS × Unit) := G.1 u (v0) (v2) (1)
set_option maxRecDepth 100000 in
set_option maxHeartbeats 4000000 in
theorem wb_Te_writeNumber_18 {p : Program} {l : Launch} {e : Env} {s : State} {m : MethodId} {args : Array Value} {below : List Frame} {meth : Method} {c : Code} {s0 : State} {b0 : Nat} {D : va_G} {cB cI cJ cZ cS cP : ClassId} {A : Nat → Prop} {sk sv : Nat → Nat} {ad : Nat → Nat} (C0 : XCx p s s0 b0 m args meth c R_Te b_Te_writeNumber 6 none D cB cI cJ cZ cS cP A) (hE : ENV s0 b0 sk sv) (N : Nat) (G : (CS → Nat → Int64 → Int64 → Option (CS × Unit)) × (CS → Nat → Int64 → Int64 → Option (CS × Unit))) (hG : (∀ (u : CS) (v0 : Nat) (v2 : Int64) (v4 : Int64) (x : CS × Unit), G.1 u v0 v2 v4 = some x → ∀ (H : Heap) (locs : List Loc), va_P D cls (wC cB cI cJ cZ cS cP ad u) H → va_D A (wC cB cI cJ cZ cS cP ad u) → va_S A s.heap H locs → ∀ (ls : Array Slot), lv_has ls 6 [(0, .ref (ad v0)), (2, .long v2), (4, .long v4)] → W p l e rm_Te_writeNumber s m args below meth c H locs 0 0 (MQ below (xQ0 D cB cI cJ cZ cS cP A ad x.1 none) args s 0 0 A) (F0 m 21 ls [])) ∧ (∀ (u : CS) (v0 : Nat) (v2 : Int64) (v4 : Int64) (x : CS × Unit), G.2 u v0 v2 v4 = some x → ∀ (H : Heap) (locs : List Loc), va_P D cls (wC cB cI cJ cZ cS cP ad u) H → va_D A (wC cB cI cJ cZ cS cP ad u) → va_S A s.heap H locs → ∀ (ls : Array Slot), lv_has ls 6 [(0, .ref (ad v0)), (2, .long v2), (4, .long v4)] → W p l e rm_Te_writeNumber s m args below meth c H locs 0 0 (MQ below (xQ0 D cB cI cJ cZ cS cP A ad x.1 none) args s 0 0 A) (F0 m 43 ls []))) : ∀ (u : CS) (v0 : Nat) (v2 : Int64) (x : CS × Unit), fb_Te_writeNumber_18 N G u v0 v2 = some x → ∀ (H : Heap) (locs : List Loc), va_P D cls (wC cB cI cJ cZ cS cP ad u) H → va_D A (wC cB cI cJ cZ cS cP ad u) → va_S A s.heap H locs → ∀ (ls : Array Slot), lv_has ls 6 [(0, .ref (ad v0)), (2, .long v2)] → W p l e rm_Te_writeNumber s m args below meth c H locs 0 0 (MQ below (xQ0 D cB cI cJ cZ cS cP A ad x.1 none) args s 0 0 A) (F0 m 18 ls []) := by
  intro u v0 v2 x hf H locs hP hD hS ls hl
  obtain ⟨hx, hb, hr, hml, ht, hown, hK, hA, hlocks, hA0, hO, hbs⟩ := id C0
  unfold fb_Te_writeNumber_18 at hf
  refine lv_lconst (v := 1) hx hb d_Te_writeNumber_18 (by decide) ?_
  refine lv_lstore (lv' := [(4, .long 1), (0, .ref (ad v0)), (2, .long v2)]) hx hb d_Te_writeNumber_19 hl (by decide) (by first | rfl | simp [List.filter, cat_rf]) (fun ls hl => ?_)
  exact hG.1 _ _ _ _ _ hf H locs hP hD hS ls (lv_sub hl [1, 2, 0] rfl)
def fb_Te_writeNumber_0 (N : Nat) (G : (CS → Nat → Int64 → Int64 → Option (CS × Unit)) × (CS → Nat → Int64 → Int64 → Option (CS × Unit))) (u : CS) (v0 : Nat) (v1 : Int32) : Option (CS × Unit) := br (decide (0 ≤ (lg_cmp (v1.toInt64) 0))) (fb_Te_writeNumber_18 N G u (v0) (v1.toInt64)) (ck (isO u v0 8) (bx (fm_Te_write N u v0 45) (fun u2 r2 => fb_Te_writeNumber_18 N G u2 (v0) ((-(v1.toInt64))))))
set_option maxRecDepth 100000 in
set_option maxHeartbeats 4000000 in
theorem wb_Te_writeNumber_0 {p : Program} {l : Launch} {e : Env} {s : State} {m : MethodId} {args : Array Value} {below : List Frame} {meth : Method} {c : Code} {s0 : State} {b0 : Nat} {D : va_G} {cB cI cJ cZ cS cP : ClassId} {A : Nat → Prop} {sk sv : Nat → Nat} {ad : Nat → Nat} (C0 : XCx p s s0 b0 m args meth c R_Te b_Te_writeNumber 6 none D cB cI cJ cZ cS cP A) (hE : ENV s0 b0 sk sv) (N : Nat) (G : (CS → Nat → Int64 → Int64 → Option (CS × Unit)) × (CS → Nat → Int64 → Int64 → Option (CS × Unit))) (hG : (∀ (u : CS) (v0 : Nat) (v2 : Int64) (v4 : Int64) (x : CS × Unit), G.1 u v0 v2 v4 = some x → ∀ (H : Heap) (locs : List Loc), va_P D cls (wC cB cI cJ cZ cS cP ad u) H → va_D A (wC cB cI cJ cZ cS cP ad u) → va_S A s.heap H locs → ∀ (ls : Array Slot), lv_has ls 6 [(0, .ref (ad v0)), (2, .long v2), (4, .long v4)] → W p l e rm_Te_writeNumber s m args below meth c H locs 0 0 (MQ below (xQ0 D cB cI cJ cZ cS cP A ad x.1 none) args s 0 0 A) (F0 m 21 ls [])) ∧ (∀ (u : CS) (v0 : Nat) (v2 : Int64) (v4 : Int64) (x : CS × Unit), G.2 u v0 v2 v4 = some x → ∀ (H : Heap) (locs : List Loc), va_P D cls (wC cB cI cJ cZ cS cP ad u) H → va_D A (wC cB cI cJ cZ cS cP ad u) → va_S A s.heap H locs → ∀ (ls : Array Slot), lv_has ls 6 [(0, .ref (ad v0)), (2, .long v2), (4, .long v4)] → W p l e rm_Te_writeNumber s m args below meth c H locs 0 0 (MQ below (xQ0 D cB cI cJ cZ cS cP A ad x.1 none) args s 0 0 A) (F0 m 43 ls []))) : ∀ (u : CS) (v0 : Nat) (v1 : Int32) (x : CS × Unit), fb_Te_writeNumber_0 N G u v0 v1 = some x → ∀ (H : Heap) (locs : List Loc), va_P D cls (wC cB cI cJ cZ cS cP ad u) H → va_D A (wC cB cI cJ cZ cS cP ad u) → va_S A s.heap H locs → ∀ (ls : Array Slot), lv_has ls 6 [(0, .ref (ad v0)), (1, .int v1)] → W p l e rm_Te_writeNumber s m args below meth c H locs 0 0 (MQ below (xQ0 D cB cI cJ cZ cS cP A ad x.1 none) args s 0 0 A) (F0 m 0 ls []) := by
  intro u v0 v1 x hf H locs hP hD hS ls hl
  obtain ⟨hx, hb, hr, hml, ht, hown, hK, hA, hlocks, hA0, hO, hbs⟩ := id C0
  unfold fb_Te_writeNumber_0 at hf
  refine lv_iload_n hx hb d_Te_writeNumber_0 rfl (lv_at hl 1 rfl) ?_
  refine lv_i2l hx hb d_Te_writeNumber_1 rfl ?_
  refine lv_lstore_n (lv' := [(2, .long v1.toInt64), (0, .ref (ad v0)), (1, .int v1)]) hx hb d_Te_writeNumber_2 rfl hl (by decide) (by first | rfl | simp [List.filter, cat_rf]) (fun ls hl => ?_)
  refine lv_lload_n hx hb d_Te_writeNumber_3 rfl (lv_at hl 0 rfl) ?_
  refine lv_lconst (v := 0) hx hb d_Te_writeNumber_4 (by decide) ?_
  refine W.lcmp hx hb d_Te_writeNumber_5 ?_
  refine lv_if_ge (tgt := 18) hx hb d_Te_writeNumber_6 (by decide) (fun hc => ?_) (fun hc => ?_)
  · rw [br_p _ hc] at hf
    exact wb_Te_writeNumber_18 C0 hE N G hG _ _ _ _ hf H locs hP hD hS ls (lv_sub hl [1, 0] rfl)
  · rw [br_n _ hc] at hf
    refine lv_aload_n hx hb d_Te_writeNumber_9 rfl (lv_at hl 1 rfl) ?_
    refine lv_bipush (v := 45) hx hb d_Te_writeNumber_10 (by decide) ?_
    obtain ⟨hO9, hf⟩ := ck_some hf
    obtain ⟨u2, r2, hc2, hf⟩ := bx_some hf
    refine xV0 (i := v0) (As := [.int 45]) (rest := []) C0 hP hD hS ck_Te hO9 (c_Te_write N hE hc2) k_Te_write (wd_of 1349 (by decide +kernel) rfl) hi_Te_write hs_Te_write hini_Te rfl rfl hd_Te_write rfl rm_Te_writeNumber_Te_write hl.1 (Nat.le_of_ble_eq_true rfl) d_Te_writeNumber_12 rfl ⟨Nat.zero_le _, Nat.zero_le _⟩ (fun H locs hP hD hS => ?_)
    refine lv_lload_n hx hb d_Te_writeNumber_15 rfl (lv_at hl 0 rfl) ?_
    refine lv_lneg hx hb d_Te_writeNumber_16 ?_
    refine lv_lstore_n (lv' := [(2, .long (-(v1.toInt64))), (0, .ref (ad v0)), (1, .int v1)]) hx hb d_Te_writeNumber_17 rfl hl (by decide) (by first | rfl | simp [List.filter, cat_rf]) (fun ls hl => ?_)
    exact wb_Te_writeNumber_18 C0 hE N G hG _ _ _ _ hf H locs hP hD hS ls (lv_sub hl [1, 0] rfl)
def gg_Te_writeNumber (N : Nat) : Nat → ((CS → Nat → Int64 → Int64 → Option (CS × Unit)) × (CS → Nat → Int64 → Int64 → Option (CS × Unit)))
  | 0 => (fun _ _ _ _ => none, fun _ _ _ _ => none)
  | n + 1 => (fb_Te_writeNumber_21 N (gg_Te_writeNumber N n), fb_Te_writeNumber_43 N (gg_Te_writeNumber N n))
theorem wg_Te_writeNumber {p : Program} {l : Launch} {e : Env} {s : State} {m : MethodId} {args : Array Value} {below : List Frame} {meth : Method} {c : Code} {s0 : State} {b0 : Nat} {D : va_G} {cB cI cJ cZ cS cP : ClassId} {A : Nat → Prop} {sk sv : Nat → Nat} {ad : Nat → Nat} (C0 : XCx p s s0 b0 m args meth c R_Te b_Te_writeNumber 6 none D cB cI cJ cZ cS cP A) (hE : ENV s0 b0 sk sv) (N : Nat) : ∀ n : Nat, (∀ (u : CS) (v0 : Nat) (v2 : Int64) (v4 : Int64) (x : CS × Unit), (gg_Te_writeNumber N n).1 u v0 v2 v4 = some x → ∀ (H : Heap) (locs : List Loc), va_P D cls (wC cB cI cJ cZ cS cP ad u) H → va_D A (wC cB cI cJ cZ cS cP ad u) → va_S A s.heap H locs → ∀ (ls : Array Slot), lv_has ls 6 [(0, .ref (ad v0)), (2, .long v2), (4, .long v4)] → W p l e rm_Te_writeNumber s m args below meth c H locs 0 0 (MQ below (xQ0 D cB cI cJ cZ cS cP A ad x.1 none) args s 0 0 A) (F0 m 21 ls [])) ∧ (∀ (u : CS) (v0 : Nat) (v2 : Int64) (v4 : Int64) (x : CS × Unit), (gg_Te_writeNumber N n).2 u v0 v2 v4 = some x → ∀ (H : Heap) (locs : List Loc), va_P D cls (wC cB cI cJ cZ cS cP ad u) H → va_D A (wC cB cI cJ cZ cS cP ad u) → va_S A s.heap H locs → ∀ (ls : Array Slot), lv_has ls 6 [(0, .ref (ad v0)), (2, .long v2), (4, .long v4)] → W p l e rm_Te_writeNumber s m args below meth c H locs 0 0 (MQ below (xQ0 D cB cI cJ cZ cS cP A ad x.1 none) args s 0 0 A) (F0 m 43 ls []))
  | 0 => ⟨(fun u v0 v2 v4 x hf => by cases hf), (fun u v0 v2 v4 x hf => by cases hf)⟩
  | n + 1 => ⟨wb_Te_writeNumber_21 C0 hE N (gg_Te_writeNumber N n) (wg_Te_writeNumber C0 hE N n), wb_Te_writeNumber_43 C0 hE N (gg_Te_writeNumber N n) (wg_Te_writeNumber C0 hE N n)⟩
def fm_Te_writeNumber (N : Nat) (u : CS) (v0 : Nat) (v1 : Int32) : Option (CS × Unit) := fb_Te_writeNumber_0 N (gg_Te_writeNumber N N) u v0 v1
set_option maxRecDepth 100000 in
set_option maxHeartbeats 4000000 in
theorem c_Te_writeNumber (N : Nat) {l : Launch} {s0 : State} {b0 : Nat} {D : va_G} {cB cI cJ cZ cS cP : ClassId} {sk sv : Nat → Nat} {ad : Nat → Nat} {u : CS} {sz : Nat} {v0 : Nat} {v1 : Int32} {x : CS × Unit} (hE : ENV s0 b0 sk sv) (hf : fm_Te_writeNumber N u v0 v1 = some x) : Met l y_Te_writeNumber (wd_ws y_Te_writeNumber b_Te_writeNumber 6 none) rm_Te_writeNumber (xPc s0 b0 D cB cI cJ cZ cS cP ad u sz [.ref (ad v0), .int v1]) (xQ0 D cB cI cJ cZ cS cP (xA cB cI cJ cZ cS cP ad u sz) ad x.1 none) 0 0 (xA cB cI cJ cZ cS cP ad u sz) :=
  xMet (by decide) rfl (Nat.le_of_ble_eq_true rfl) (fun p e s m below meth c ls hsz hnm C0 hP hD hS hl =>
    wb_Te_writeNumber_0 C0 hE N (gg_Te_writeNumber N N) (wg_Te_writeNumber C0 hE N N) u _ _ x hf s.heap [] hP hD hS ls (lv_sub hl [0, 1] rfl))
abbrev b_Te_writeAlone : ByteArray := prog_8_method_15_code
def y_Te_writeAlone : MethodName := ⟨R_Te, "writeAlone", "(J)V"⟩
def w_Te_writeAlone : List Cond := wd_ws y_Te_writeAlone b_Te_writeAlone 5 none
set_option maxRecDepth 100000 in
theorem k_Te_writeAlone : Cond.code y_Te_writeAlone b_Te_writeAlone 5 none ∈ wd_tbl := wd_of 1377 rfl rfl
theorem d_Te_writeAlone_0 : decode b_Te_writeAlone 0 = .ok (.lload_n 1, 1) := by decide +kernel
theorem d_Te_writeAlone_1 : decode b_Te_writeAlone 1 = .ok (.l2i, 1) := by decide +kernel
theorem d_Te_writeAlone_2 : decode b_Te_writeAlone 2 = .ok (.istore_n 3, 1) := by decide +kernel
theorem d_Te_writeAlone_3 : decode b_Te_writeAlone 3 = .ok (.lload_n 1, 1) := by decide +kernel
theorem d_Te_writeAlone_4 : decode b_Te_writeAlone 4 = .ok (.invokestatic 40, 3) := by decide +kernel
theorem d_Te_writeAlone_7 : decode b_Te_writeAlone 7 = .ok (.tableswitch 158 0 6 #[41, 49, 88, 122, 102, 158, 143], 41) := by decide +kernel
theorem d_Te_writeAlone_48 : decode b_Te_writeAlone 48 = .ok (.aload_n 0, 1) := by decide +kernel
theorem d_Te_writeAlone_49 : decode b_Te_writeAlone 49 = .ok (.iload_n 3, 1) := by decide +kernel
theorem d_Te_writeAlone_50 : decode b_Te_writeAlone 50 = .ok (.invokevirtual 98, 3) := by decide +kernel
theorem d_Te_writeAlone_53 : decode b_Te_writeAlone 53 = .ok (.goto 117, 3) := by decide +kernel
theorem d_Te_writeAlone_56 : decode b_Te_writeAlone 56 = .ok (.iconst 0, 1) := by decide +kernel
theorem d_Te_writeAlone_57 : decode b_Te_writeAlone 57 = .ok (.istore 4, 2) := by decide +kernel
theorem d_Te_writeAlone_59 : decode b_Te_writeAlone 59 = .ok (.iload 4, 2) := by decide +kernel
theorem d_Te_writeAlone_61 : decode b_Te_writeAlone 61 = .ok (.aload_n 0, 1) := by decide +kernel
theorem d_Te_writeAlone_62 : decode b_Te_writeAlone 62 = .ok (.getfield 21, 3) := by decide +kernel
theorem d_Te_writeAlone_65 : decode b_Te_writeAlone 65 = .ok (.iload_n 3, 1) := by decide +kernel
theorem d_Te_writeAlone_66 : decode b_Te_writeAlone 66 = .ok (.invokevirtual 101, 3) := by decide +kernel
theorem d_Te_writeAlone_69 : decode b_Te_writeAlone 69 = .ok (.if_icmp .ge 23, 3) := by decide +kernel
theorem d_Te_writeAlone_72 : decode b_Te_writeAlone 72 = .ok (.aload_n 0, 1) := by decide +kernel
theorem d_Te_writeAlone_73 : decode b_Te_writeAlone 73 = .ok (.aload_n 0, 1) := by decide +kernel
theorem d_Te_writeAlone_74 : decode b_Te_writeAlone 74 = .ok (.getfield 21, 3) := by decide +kernel
theorem d_Te_writeAlone_77 : decode b_Te_writeAlone 77 = .ok (.iload_n 3, 1) := by decide +kernel
theorem d_Te_writeAlone_78 : decode b_Te_writeAlone 78 = .ok (.iload 4, 2) := by decide +kernel
theorem d_Te_writeAlone_80 : decode b_Te_writeAlone 80 = .ok (.invokevirtual 104, 3) := by decide +kernel
theorem d_Te_writeAlone_83 : decode b_Te_writeAlone 83 = .ok (.invokevirtual 66, 3) := by decide +kernel
theorem d_Te_writeAlone_86 : decode b_Te_writeAlone 86 = .ok (.iinc 4 1, 3) := by decide +kernel
theorem d_Te_writeAlone_89 : decode b_Te_writeAlone 89 = .ok (.goto (-30), 3) := by decide +kernel
theorem d_Te_writeAlone_92 : decode b_Te_writeAlone 92 = .ok (.goto 78, 3) := by decide +kernel
theorem d_Te_writeAlone_95 : decode b_Te_writeAlone 95 = .ok (.aload_n 0, 1) := by decide +kernel
theorem d_Te_writeAlone_96 : decode b_Te_writeAlone 96 = .ok (.bipush 35, 2) := by decide +kernel
theorem d_Te_writeAlone_98 : decode b_Te_writeAlone 98 = .ok (.invokevirtual 66, 3) := by decide +kernel
theorem d_Te_writeAlone_101 : decode b_Te_writeAlone 101 = .ok (.aload_n 0, 1) := by decide +kernel
theorem d_Te_writeAlone_102 : decode b_Te_writeAlone 102 = .ok (.iload_n 3, 1) := by decide +kernel
theorem d_Te_writeAlone_103 : decode b_Te_writeAlone 103 = .ok (.invokevirtual 98, 3) := by decide +kernel
theorem d_Te_writeAlone_106 : decode b_Te_writeAlone 106 = .ok (.goto 64, 3) := by decide +kernel
theorem d_Te_writeAlone_109 : decode b_Te_writeAlone 109 = .ok (.aload_n 0, 1) := by decide +kernel
theorem d_Te_writeAlone_110 : decode b_Te_writeAlone 110 = .ok (.bipush 60, 2) := by decide +kernel
theorem d_Te_writeAlone_112 : decode b_Te_writeAlone 112 = .ok (.invokevirtual 66, 3) := by decide +kernel
theorem d_Te_writeAlone_115 : decode b_Te_writeAlone 115 = .ok (.aload_n 0, 1) := by decide +kernel
theorem d_Te_writeAlone_116 : decode b_Te_writeAlone 116 = .ok (.iload_n 3, 1) := by decide +kernel
theorem d_Te_writeAlone_117 : decode b_Te_writeAlone 117 = .ok (.invokevirtual 98, 3) := by decide +kernel
theorem d_Te_writeAlone_120 : decode b_Te_writeAlone 120 = .ok (.aload_n 0, 1) := by decide +kernel
theorem d_Te_writeAlone_121 : decode b_Te_writeAlone 121 = .ok (.bipush 62, 2) := by decide +kernel
theorem d_Te_writeAlone_123 : decode b_Te_writeAlone 123 = .ok (.invokevirtual 66, 3) := by decide +kernel
theorem d_Te_writeAlone_126 : decode b_Te_writeAlone 126 = .ok (.goto 44, 3) := by decide +kernel
theorem d_Te_writeAlone_129 : decode b_Te_writeAlone 129 = .ok (.aload_n 0, 1) := by decide +kernel
theorem d_Te_writeAlone_130 : decode b_Te_writeAlone 130 = .ok (.bipush 102, 2) := by decide +kernel
theorem d_Te_writeAlone_132 : decode b_Te_writeAlone 132 = .ok (.invokevirtual 66, 3) := by decide +kernel
theorem d_Te_writeAlone_135 : decode b_Te_writeAlone 135 = .ok (.aload_n 0, 1) := by decide +kernel
theorem d_Te_writeAlone_136 : decode b_Te_writeAlone 136 = .ok (.bipush 117, 2) := by decide +kernel
theorem d_Te_writeAlone_138 : decode b_Te_writeAlone 138 = .ok (.invokevirtual 66, 3) := by decide +kernel
theorem d_Te_writeAlone_141 : decode b_Te_writeAlone 141 = .ok (.aload_n 0, 1) := by decide +kernel
theorem d_Te_writeAlone_142 : decode b_Te_writeAlone 142 = .ok (.bipush 110, 2) := by decide +kernel
theorem d_Te_writeAlone_144 : decode b_Te_writeAlone 144 = .ok (.invokevirtual 66, 3) := by decide +kernel
theorem d_Te_writeAlone_147 : decode b_Te_writeAlone 147 = .ok (.goto 23, 3) := by decide +kernel
theorem d_Te_writeAlone_150 : decode b_Te_writeAlone 150 = .ok (.aload_n 0, 1) := by decide +kernel
theorem d_Te_writeAlone_151 : decode b_Te_writeAlone 151 = .ok (.bipush 91, 2) := by decide +kernel
theorem d_Te_writeAlone_153 : decode b_Te_writeAlone 153 = .ok (.invokevirtual 66, 3) := by decide +kernel
theorem d_Te_writeAlone_156 : decode b_Te_writeAlone 156 = .ok (.aload_n 0, 1) := by decide +kernel
theorem d_Te_writeAlone_157 : decode b_Te_writeAlone 157 = .ok (.bipush 93, 2) := by decide +kernel
theorem d_Te_writeAlone_159 : decode b_Te_writeAlone 159 = .ok (.invokevirtual 66, 3) := by decide +kernel
theorem d_Te_writeAlone_162 : decode b_Te_writeAlone 162 = .ok (.goto 8, 3) := by decide +kernel
theorem d_Te_writeAlone_165 : decode b_Te_writeAlone 165 = .ok (.aload_n 0, 1) := by decide +kernel
theorem d_Te_writeAlone_166 : decode b_Te_writeAlone 166 = .ok (.iload_n 3, 1) := by decide +kernel
theorem d_Te_writeAlone_167 : decode b_Te_writeAlone 167 = .ok (.invokevirtual 66, 3) := by decide +kernel
theorem d_Te_writeAlone_170 : decode b_Te_writeAlone 170 = .ok (.return_, 1) := by decide +kernel
set_option maxRecDepth 100000 in
theorem hl_Te_writeAlone : Cond.methodLink R_Te 81 y_Te_writeAlone ∈ wd_tbl := wd_of 1374 (by decide +kernel) rfl
set_option maxRecDepth 100000 in
theorem hi_Te_writeAlone : Cond.instanceMethod y_Te_writeAlone ∈ wd_tbl := wd_of 1376 (by decide +kernel) rfl
set_option maxRecDepth 100000 in
theorem hs_Te_writeAlone : Cond.selects R_Te y_Te_writeAlone y_Te_writeAlone ∈ wd_tbl := wd_of 71 (by decide +kernel) rfl
theorem hd_Te_writeAlone : y_Te_writeAlone.cls = R_Te ∧ y_Te_writeAlone.cls ≠ "java/lang/invoke/MethodHandle" ∧ y_Te_writeAlone.cls ≠ "java/lang/invoke/VarHandle" ∧ (parseMethodDescriptor y_Te_writeAlone.desc).map (fun d => d.parameters.length) = some 1 := by decide +kernel
def rm_Te_writeAlone : Room := { frames := 2, cells := 0, slots := 0, locals := 46 }
theorem rm_Te_writeAlone_Te_tag : (rm_Te_tag).frames + 1 ≤ rm_Te_writeAlone.frames ∧ 8 + (2 + 11) + (rm_Te_tag).locals ≤ rm_Te_writeAlone.locals := by
  show 0 + 1 ≤ 2 ∧ 8 + (2 + 11) + 0 ≤ 46
  decide
theorem rm_Te_writeAlone_Te_writeNumber : (rm_Te_writeNumber).frames + 1 ≤ rm_Te_writeAlone.frames ∧ 8 + (6 + 11) + (rm_Te_writeNumber).locals ≤ rm_Te_writeAlone.locals := by
  show 1 + 1 ≤ 2 ∧ 8 + (6 + 11) + 21 ≤ 46
  decide
theorem rm_Te_writeAlone_Wo_length : (rm_Wo_length).frames + 1 ≤ rm_Te_writeAlone.frames ∧ 8 + (2 + 11) + (rm_Wo_length).locals ≤ rm_Te_writeAlone.locals := by
  show 0 + 1 ≤ 2 ∧ 8 + (2 + 11) + 0 ≤ 46
  decide
theorem rm_Te_writeAlone_Wo_sign : (rm_Wo_sign).frames + 1 ≤ rm_Te_writeAlone.frames ∧ 8 + (3 + 11) + (rm_Wo_sign).locals ≤ rm_Te_writeAlone.locals := by
  show 0 + 1 ≤ 2 ∧ 8 + (3 + 11) + 0 ≤ 46
  decide
theorem rm_Te_writeAlone_Te_write : (rm_Te_write).frames + 1 ≤ rm_Te_writeAlone.frames ∧ 8 + (2 + 11) + (rm_Te_write).locals ≤ rm_Te_writeAlone.locals := by
  show 0 + 1 ≤ 2 ∧ 8 + (2 + 11) + 0 ≤ 46
  decide
def fb_Te_writeAlone_170 (N : Nat) (G : (CS → Nat → Int32 → Int32 → Option (CS × Unit))) (u : CS) : Option (CS × Unit) := some (u, ())
set_option maxRecDepth 100000 in
set_option maxHeartbeats 4000000 in
theorem wb_Te_writeAlone_170 {p : Program} {l : Launch} {e : Env} {s : State} {m : MethodId} {args : Array Value} {below : List Frame} {meth : Method} {c : Code} {s0 : State} {b0 : Nat} {D : va_G} {cB cI cJ cZ cS cP : ClassId} {A : Nat → Prop} {sk sv : Nat → Nat} {ad : Nat → Nat} (C0 : XCx p s s0 b0 m args meth c R_Te b_Te_writeAlone 5 none D cB cI cJ cZ cS cP A) (hE : ENV s0 b0 sk sv) (N : Nat) (G : (CS → Nat → Int32 → Int32 → Option (CS × Unit))) (hG : (∀ (u : CS) (v0 : Nat) (v3 : Int32) (v4 : Int32) (x : CS × Unit), G u v0 v3 v4 = some x → ∀ (H : Heap) (locs : List Loc), va_P D cls (wC cB cI cJ cZ cS cP ad u) H → va_D A (wC cB cI cJ cZ cS cP ad u) → va_S A s.heap H locs → ∀ (ls : Array Slot), lv_has ls 5 [(0, .ref (ad v0)), (3, .int v3), (4, .int v4)] → W p l e rm_Te_writeAlone s m args below meth c H locs 0 0 (MQ below (xQ0 D cB cI cJ cZ cS cP A ad x.1 none) args s 0 0 A) (F0 m 59 ls []))) : ∀ (u : CS) (x : CS × Unit), fb_Te_writeAlone_170 N G u = some x → ∀ (H : Heap) (locs : List Loc), va_P D cls (wC cB cI cJ cZ cS cP ad u) H → va_D A (wC cB cI cJ cZ cS cP ad u) → va_S A s.heap H locs → ∀ (ls : Array Slot), lv_has ls 5 [] → W p l e rm_Te_writeAlone s m args below meth c H locs 0 0 (MQ below (xQ0 D cB cI cJ cZ cS cP A ad x.1 none) args s 0 0 A) (F0 m 170 ls []) := by
  intro u x hf H locs hP hD hS ls hl
  obtain ⟨hx, hb, hr, hml, ht, hown, hK, hA, hlocks, hA0, hO, hbs⟩ := id C0
  unfold fb_Te_writeAlone_170 at hf
  exact xr0_v C0 hP hD hS hf d_Te_writeAlone_170
def fb_Te_writeAlone_59 (N : Nat) (G : (CS → Nat → Int32 → Int32 → Option (CS × Unit))) (u : CS) (v0 : Nat) (v3 : Int32) (v4 : Int32) : Option (CS × Unit) := bo (gR u v0 8 3) (fun r1 => bo r1 (fun j3 => ck (isO u j3 11) (bx (fm_Wo_length N u j3 v3) (fun u2 r2 => br (decide (r2 ≤ v4)) (fb_Te_writeAlone_170 N G u2) (bo (gR u2 v0 8 3) (fun r4 => bo r4 (fun j6 => ck (isO u2 j6 11) (bx (fm_Wo_sign N u2 j6 v3 v4) (fun u5 r5 => ck (isO u5 v0 8) (bx (fm_Te_write N u5 v0 r5) (fun u7 r7 => G u7 (v0) (v3) ((v4 + 1)))))))))))))
set_option maxRecDepth 100000 in
set_option maxHeartbeats 4000000 in
theorem wb_Te_writeAlone_59 {p : Program} {l : Launch} {e : Env} {s : State} {m : MethodId} {args : Array Value} {below : List Frame} {meth : Method} {c : Code} {s0 : State} {b0 : Nat} {D : va_G} {cB cI cJ cZ cS cP : ClassId} {A : Nat → Prop} {sk sv : Nat → Nat} {ad : Nat → Nat} (C0 : XCx p s s0 b0 m args meth c R_Te b_Te_writeAlone 5 none D cB cI cJ cZ cS cP A) (hE : ENV s0 b0 sk sv) (N : Nat) (G : (CS → Nat → Int32 → Int32 → Option (CS × Unit))) (hG : (∀ (u : CS) (v0 : Nat) (v3 : Int32) (v4 : Int32) (x : CS × Unit), G u v0 v3 v4 = some x → ∀ (H : Heap) (locs : List Loc), va_P D cls (wC cB cI cJ cZ cS cP ad u) H → va_D A (wC cB cI cJ cZ cS cP ad u) → va_S A s.heap H locs → ∀ (ls : Array Slot), lv_has ls 5 [(0, .ref (ad v0)), (3, .int v3), (4, .int v4)] → W p l e rm_Te_writeAlone s m args below meth c H locs 0 0 (MQ below (xQ0 D cB cI cJ cZ cS cP A ad x.1 none) args s 0 0 A) (F0 m 59 ls []))) : ∀ (u : CS) (v0 : Nat) (v3 : Int32) (v4 : Int32) (x : CS × Unit), fb_Te_writeAlone_59 N G u v0 v3 v4 = some x → ∀ (H : Heap) (locs : List Loc), va_P D cls (wC cB cI cJ cZ cS cP ad u) H → va_D A (wC cB cI cJ cZ cS cP ad u) → va_S A s.heap H locs → ∀ (ls : Array Slot), lv_has ls 5 [(0, .ref (ad v0)), (3, .int v3), (4, .int v4)] → W p l e rm_Te_writeAlone s m args below meth c H locs 0 0 (MQ below (xQ0 D cB cI cJ cZ cS cP A ad x.1 none) args s 0 0 A) (F0 m 59 ls []) := by
  intro u v0 v3 v4 x hf H locs hP hD hS ls hl
  obtain ⟨hx, hb, hr, hml, ht, hown, hK, hA, hlocks, hA0, hO, hbs⟩ := id C0
  unfold fb_Te_writeAlone_59 at hf
  refine lv_iload hx hb d_Te_writeAlone_59 (lv_at hl 2 rfl) ?_
  refine lv_aload_n hx hb d_Te_writeAlone_61 rfl (lv_at hl 0 rfl) ?_
  obtain ⟨r1, g1, hf⟩ := bo_some hf
  refine xg_R (i := v0) (k := 3) hx hb ht hown ck_Te hK hP (by decide) fk_Te_21 g1 d_Te_writeAlone_62 ?_
  refine lv_iload_n hx hb d_Te_writeAlone_65 rfl (lv_at hl 1 rfl) ?_
  obtain ⟨j3, ej3, hf⟩ := bo_some hf
  rw [ej3]
  obtain ⟨hO9, hf⟩ := ck_some hf
  obtain ⟨u2, r2, hc2, hf⟩ := bx_some hf
  refine xV0 (i := j3) (As := [.int v3]) (rest := [.int v4]) C0 hP hD hS ck_Wo hO9 (c_Wo_length N hc2) k_Wo_length (wd_of 1384 (by decide +kernel) rfl) hi_Wo_length hs_Wo_length hini_Wo rfl rfl hd_Wo_length rfl rm_Te_writeAlone_Wo_length hl.1 (Nat.le_of_ble_eq_true rfl) d_Te_writeAlone_66 rfl ⟨Nat.zero_le _, Nat.zero_le _⟩ (fun H locs hP hD hS => ?_)
  refine lv_icmp_ge (tgt := 92) hx hb d_Te_writeAlone_69 (by decide) (fun hc => ?_) (fun hc => ?_)
  · rw [br_p _ hc] at hf
    refine lv_goto (tgt := 170) hx hb d_Te_writeAlone_92 (by decide) ?_
    exact wb_Te_writeAlone_170 C0 hE N G hG _ _ hf H locs hP hD hS ls (lv_sub hl [] rfl)
  · rw [br_n _ hc] at hf
    refine lv_aload_n hx hb d_Te_writeAlone_72 rfl (lv_at hl 0 rfl) ?_
    refine lv_aload_n hx hb d_Te_writeAlone_73 rfl (lv_at hl 0 rfl) ?_
    obtain ⟨r4, g4, hf⟩ := bo_some hf
    refine xg_R (i := v0) (k := 3) hx hb ht hown ck_Te hK hP (by decide) fk_Te_21 g4 d_Te_writeAlone_74 ?_
    refine lv_iload_n hx hb d_Te_writeAlone_77 rfl (lv_at hl 1 rfl) ?_
    refine lv_iload hx hb d_Te_writeAlone_78 (lv_at hl 2 rfl) ?_
    obtain ⟨j6, ej6, hf⟩ := bo_some hf
    rw [ej6]
    obtain ⟨hO9, hf⟩ := ck_some hf
    obtain ⟨u5, r5, hc5, hf⟩ := bx_some hf
    refine xV0 (i := j6) (As := [.int v3, .int v4]) (rest := [.ref (ad v0)]) C0 hP hD hS ck_Wo hO9 (c_Wo_sign N hc5) k_Wo_sign (wd_of 1388 (by decide +kernel) rfl) hi_Wo_sign hs_Wo_sign hini_Wo rfl rfl hd_Wo_sign rfl rm_Te_writeAlone_Wo_sign hl.1 (Nat.le_of_ble_eq_true rfl) d_Te_writeAlone_80 rfl ⟨Nat.zero_le _, Nat.zero_le _⟩ (fun H locs hP hD hS => ?_)
    obtain ⟨hO9, hf⟩ := ck_some hf
    obtain ⟨u7, r7, hc7, hf⟩ := bx_some hf
    refine xV0 (i := v0) (As := [.int r5]) (rest := []) C0 hP hD hS ck_Te hO9 (c_Te_write N hE hc7) k_Te_write (wd_of 1349 (by decide +kernel) rfl) hi_Te_write hs_Te_write hini_Te rfl rfl hd_Te_write rfl rm_Te_writeAlone_Te_write hl.1 (Nat.le_of_ble_eq_true rfl) d_Te_writeAlone_83 rfl ⟨Nat.zero_le _, Nat.zero_le _⟩ (fun H locs hP hD hS => ?_)
    refine lv_iinc (v := (v4 + 1)) (lv' := [(4, .int (v4 + 1)), (0, .ref (ad v0)), (3, .int v3)]) hx hb d_Te_writeAlone_86 hl (k := 2) rfl rfl (by decide) (by first | rfl | simp [List.filter, cat_rf]) (fun ls hl => ?_)
    refine lv_goto (tgt := 59) hx hb d_Te_writeAlone_89 (by decide) ?_
    exact hG _ _ _ _ _ hf H locs hP hD hS ls (lv_sub hl [1, 2, 0] rfl)
def fb_Te_writeAlone_0 (N : Nat) (G : (CS → Nat → Int32 → Int32 → Option (CS × Unit))) (u : CS) (v0 : Nat) (v1 : Int64) : Option (CS × Unit) := bx (fm_Te_tag N u v1) (fun u8 r8 => br (decide (r8 = 0)) (ck (isO u8 v0 8) (bx (fm_Te_writeNumber N u8 v0 (v1.toInt32)) (fun u9 r9 => fb_Te_writeAlone_170 N G u9))) (br (decide (r8 = 1)) (G u8 (v0) (v1.toInt32) (0)) (br (decide (r8 = 2)) (ck (isO u8 v0 8) (bx (fm_Te_write N u8 v0 35) (fun u10 r10 => ck (isO u10 v0 8) (bx (fm_Te_writeNumber N u10 v0 (v1.toInt32)) (fun u11 r11 => fb_Te_writeAlone_170 N G u11))))) (br (decide (r8 = 3)) (ck (isO u8 v0 8) (bx (fm_Te_write N u8 v0 102) (fun u12 r12 => ck (isO u12 v0 8) (bx (fm_Te_write N u12 v0 117) (fun u13 r13 => ck (isO u13 v0 8) (bx (fm_Te_write N u13 v0 110) (fun u14 r14 => fb_Te_writeAlone_170 N G u14))))))) (br (decide (r8 = 4)) (ck (isO u8 v0 8) (bx (fm_Te_write N u8 v0 60) (fun u15 r15 => ck (isO u15 v0 8) (bx (fm_Te_writeNumber N u15 v0 (v1.toInt32)) (fun u16 r16 => ck (isO u16 v0 8) (bx (fm_Te_write N u16 v0 62) (fun u17 r17 => fb_Te_writeAlone_170 N G u17))))))) (br (decide (r8 = 5)) (ck (isO u8 v0 8) (bx (fm_Te_write N u8 v0 (v1.toInt32)) (fun u18 r18 => fb_Te_writeAlone_170 N G u18))) (br (decide (r8 = 6)) (ck (isO u8 v0 8) (bx (fm_Te_write N u8 v0 91) (fun u19 r19 => ck (isO u19 v0 8) (bx (fm_Te_write N u19 v0 93) (fun u20 r20 => fb_Te_writeAlone_170 N G u20))))) (ck (isO u8 v0 8) (bx (fm_Te_write N u8 v0 (v1.toInt32)) (fun u21 r21 => fb_Te_writeAlone_170 N G u21))))))))))
set_option maxRecDepth 100000 in
set_option maxHeartbeats 4000000 in
theorem wb_Te_writeAlone_0 {p : Program} {l : Launch} {e : Env} {s : State} {m : MethodId} {args : Array Value} {below : List Frame} {meth : Method} {c : Code} {s0 : State} {b0 : Nat} {D : va_G} {cB cI cJ cZ cS cP : ClassId} {A : Nat → Prop} {sk sv : Nat → Nat} {ad : Nat → Nat} (C0 : XCx p s s0 b0 m args meth c R_Te b_Te_writeAlone 5 none D cB cI cJ cZ cS cP A) (hE : ENV s0 b0 sk sv) (N : Nat) (G : (CS → Nat → Int32 → Int32 → Option (CS × Unit))) (hG : (∀ (u : CS) (v0 : Nat) (v3 : Int32) (v4 : Int32) (x : CS × Unit), G u v0 v3 v4 = some x → ∀ (H : Heap) (locs : List Loc), va_P D cls (wC cB cI cJ cZ cS cP ad u) H → va_D A (wC cB cI cJ cZ cS cP ad u) → va_S A s.heap H locs → ∀ (ls : Array Slot), lv_has ls 5 [(0, .ref (ad v0)), (3, .int v3), (4, .int v4)] → W p l e rm_Te_writeAlone s m args below meth c H locs 0 0 (MQ below (xQ0 D cB cI cJ cZ cS cP A ad x.1 none) args s 0 0 A) (F0 m 59 ls []))) : ∀ (u : CS) (v0 : Nat) (v1 : Int64) (x : CS × Unit), fb_Te_writeAlone_0 N G u v0 v1 = some x → ∀ (H : Heap) (locs : List Loc), va_P D cls (wC cB cI cJ cZ cS cP ad u) H → va_D A (wC cB cI cJ cZ cS cP ad u) → va_S A s.heap H locs → ∀ (ls : Array Slot), lv_has ls 5 [(0, .ref (ad v0)), (1, .long v1)] → W p l e rm_Te_writeAlone s m args below meth c H locs 0 0 (MQ below (xQ0 D cB cI cJ cZ cS cP A ad x.1 none) args s 0 0 A) (F0 m 0 ls []) := by
  intro u v0 v1 x hf H locs hP hD hS ls hl
  obtain ⟨hx, hb, hr, hml, ht, hown, hK, hA, hlocks, hA0, hO, hbs⟩ := id C0
  unfold fb_Te_writeAlone_0 at hf
  refine lv_lload_n hx hb d_Te_writeAlone_0 rfl (lv_at hl 1 rfl) ?_
  refine lv_l2i hx hb d_Te_writeAlone_1 rfl ?_
  refine lv_istore_n (lv' := [(3, .int v1.toInt32), (0, .ref (ad v0)), (1, .long v1)]) hx hb d_Te_writeAlone_2 rfl hl (by decide) (by first | rfl | simp [List.filter, cat_rf]) (fun ls hl => ?_)
  refine lv_lload_n hx hb d_Te_writeAlone_3 rfl (lv_at hl 2 rfl) ?_
  obtain ⟨u8, r8, hc8, hf⟩ := bx_some hf
  refine xS0 (As := [.long v1]) (rest := []) C0 hP hD hS (c_Te_tag N hc8) k_Te_tag (wd_of 1346 (by decide +kernel) rfl) ht_Te_tag hini_Te rfl rfl hd_Te_tag rfl rm_Te_writeAlone_Te_tag hl.1 (Nat.le_of_ble_eq_true rfl) d_Te_writeAlone_4 rfl ⟨Nat.zero_le _, Nat.zero_le _⟩ (fun H locs hP hD hS => ?_)
  refine W.eq (g2 := F0 m 7 ls [.int r8]) rfl ?_
  by_cases hc0 : r8 = 0
  · rw [br_p _ hc0] at hf
    refine lv_tableIn (tgt := 48) hx hb d_Te_writeAlone_7 (by rw [hc0]; decide) (by rw [hc0]; decide) (by rw [hc0]; rfl) (by decide) ?_
    refine lv_aload_n hx hb d_Te_writeAlone_48 rfl (lv_at hl 1 rfl) ?_
    refine lv_iload_n hx hb d_Te_writeAlone_49 rfl (lv_at hl 0 rfl) ?_
    obtain ⟨hO9, hf⟩ := ck_some hf
    obtain ⟨u9, r9, hc9, hf⟩ := bx_some hf
    refine xV0 (i := v0) (As := [.int v1.toInt32]) (rest := []) C0 hP hD hS ck_Te hO9 (c_Te_writeNumber N hE hc9) k_Te_writeNumber (wd_of 1378 (by decide +kernel) rfl) hi_Te_writeNumber hs_Te_writeNumber hini_Te rfl rfl hd_Te_writeNumber rfl rm_Te_writeAlone_Te_writeNumber hl.1 (Nat.le_of_ble_eq_true rfl) d_Te_writeAlone_50 rfl ⟨Nat.zero_le _, Nat.zero_le _⟩ (fun H locs hP hD hS => ?_)
    refine lv_goto (tgt := 170) hx hb d_Te_writeAlone_53 (by decide) ?_
    exact wb_Te_writeAlone_170 C0 hE N G hG _ _ hf H locs hP hD hS ls (lv_sub hl [] rfl)
  · rw [br_n _ hc0] at hf
    by_cases hc1 : r8 = 1
    · rw [br_p _ hc1] at hf
      refine lv_tableIn (tgt := 56) hx hb d_Te_writeAlone_7 (by rw [hc1]; decide) (by rw [hc1]; decide) (by rw [hc1]; rfl) (by decide) ?_
      refine lv_iconst (v := 0) hx hb d_Te_writeAlone_56 (by decide) ?_
      refine lv_istore (lv' := [(4, .int 0), (3, .int v1.toInt32), (0, .ref (ad v0)), (1, .long v1)]) hx hb d_Te_writeAlone_57 hl (by decide) (by first | rfl | simp [List.filter, cat_rf]) (fun ls hl => ?_)
      exact hG _ _ _ _ _ hf H locs hP hD hS ls (lv_sub hl [2, 1, 0] rfl)
    · rw [br_n _ hc1] at hf
      by_cases hc2 : r8 = 2
      · rw [br_p _ hc2] at hf
        refine lv_tableIn (tgt := 95) hx hb d_Te_writeAlone_7 (by rw [hc2]; decide) (by rw [hc2]; decide) (by rw [hc2]; rfl) (by decide) ?_
        refine lv_aload_n hx hb d_Te_writeAlone_95 rfl (lv_at hl 1 rfl) ?_
        refine lv_bipush (v := 35) hx hb d_Te_writeAlone_96 (by decide) ?_
        obtain ⟨hO9, hf⟩ := ck_some hf
        obtain ⟨u10, r10, hc10, hf⟩ := bx_some hf
        refine xV0 (i := v0) (As := [.int 35]) (rest := []) C0 hP hD hS ck_Te hO9 (c_Te_write N hE hc10) k_Te_write (wd_of 1349 (by decide +kernel) rfl) hi_Te_write hs_Te_write hini_Te rfl rfl hd_Te_write rfl rm_Te_writeAlone_Te_write hl.1 (Nat.le_of_ble_eq_true rfl) d_Te_writeAlone_98 rfl ⟨Nat.zero_le _, Nat.zero_le _⟩ (fun H locs hP hD hS => ?_)
        refine lv_aload_n hx hb d_Te_writeAlone_101 rfl (lv_at hl 1 rfl) ?_
        refine lv_iload_n hx hb d_Te_writeAlone_102 rfl (lv_at hl 0 rfl) ?_
        obtain ⟨hO9, hf⟩ := ck_some hf
        obtain ⟨u11, r11, hc11, hf⟩ := bx_some hf
        refine xV0 (i := v0) (As := [.int v1.toInt32]) (rest := []) C0 hP hD hS ck_Te hO9 (c_Te_writeNumber N hE hc11) k_Te_writeNumber (wd_of 1378 (by decide +kernel) rfl) hi_Te_writeNumber hs_Te_writeNumber hini_Te rfl rfl hd_Te_writeNumber rfl rm_Te_writeAlone_Te_writeNumber hl.1 (Nat.le_of_ble_eq_true rfl) d_Te_writeAlone_103 rfl ⟨Nat.zero_le _, Nat.zero_le _⟩ (fun H locs hP hD hS => ?_)
        refine lv_goto (tgt := 170) hx hb d_Te_writeAlone_106 (by decide) ?_
        exact wb_Te_writeAlone_170 C0 hE N G hG _ _ hf H locs hP hD hS ls (lv_sub hl [] rfl)
      · rw [br_n _ hc2] at hf
        by_cases hc3 : r8 = 3
        · rw [br_p _ hc3] at hf
          refine lv_tableIn (tgt := 129) hx hb d_Te_writeAlone_7 (by rw [hc3]; decide) (by rw [hc3]; decide) (by rw [hc3]; rfl) (by decide) ?_
          refine lv_aload_n hx hb d_Te_writeAlone_129 rfl (lv_at hl 1 rfl) ?_
          refine lv_bipush (v := 102) hx hb d_Te_writeAlone_130 (by decide) ?_
          obtain ⟨hO9, hf⟩ := ck_some hf
          obtain ⟨u12, r12, hc12, hf⟩ := bx_some hf
          refine xV0 (i := v0) (As := [.int 102]) (rest := []) C0 hP hD hS ck_Te hO9 (c_Te_write N hE hc12) k_Te_write (wd_of 1349 (by decide +kernel) rfl) hi_Te_write hs_Te_write hini_Te rfl rfl hd_Te_write rfl rm_Te_writeAlone_Te_write hl.1 (Nat.le_of_ble_eq_true rfl) d_Te_writeAlone_132 rfl ⟨Nat.zero_le _, Nat.zero_le _⟩ (fun H locs hP hD hS => ?_)
          refine lv_aload_n hx hb d_Te_writeAlone_135 rfl (lv_at hl 1 rfl) ?_
          refine lv_bipush (v := 117) hx hb d_Te_writeAlone_136 (by decide) ?_
          obtain ⟨hO9, hf⟩ := ck_some hf
          obtain ⟨u13, r13, hc13, hf⟩ := bx_some hf
          refine xV0 (i := v0) (As := [.int 117]) (rest := []) C0 hP hD hS ck_Te hO9 (c_Te_write N hE hc13) k_Te_write (wd_of 1349 (by decide +kernel) rfl) hi_Te_write hs_Te_write hini_Te rfl rfl hd_Te_write rfl rm_Te_writeAlone_Te_write hl.1 (Nat.le_of_ble_eq_true rfl) d_Te_writeAlone_138 rfl ⟨Nat.zero_le _, Nat.zero_le _⟩ (fun H locs hP hD hS => ?_)
          refine lv_aload_n hx hb d_Te_writeAlone_141 rfl (lv_at hl 1 rfl) ?_
          refine lv_bipush (v := 110) hx hb d_Te_writeAlone_142 (by decide) ?_
          obtain ⟨hO9, hf⟩ := ck_some hf
          obtain ⟨u14, r14, hc14, hf⟩ := bx_some hf
          refine xV0 (i := v0) (As := [.int 110]) (rest := []) C0 hP hD hS ck_Te hO9 (c_Te_write N hE hc14) k_Te_write (wd_of 1349 (by decide +kernel) rfl) hi_Te_write hs_Te_write hini_Te rfl rfl hd_Te_write rfl rm_Te_writeAlone_Te_write hl.1 (Nat.le_of_ble_eq_true rfl) d_Te_writeAlone_144 rfl ⟨Nat.zero_le _, Nat.zero_le _⟩ (fun H locs hP hD hS => ?_)
          refine lv_goto (tgt := 170) hx hb d_Te_writeAlone_147 (by decide) ?_
          exact wb_Te_writeAlone_170 C0 hE N G hG _ _ hf H locs hP hD hS ls (lv_sub hl [] rfl)
        · rw [br_n _ hc3] at hf
          by_cases hc4 : r8 = 4
          · rw [br_p _ hc4] at hf
            refine lv_tableIn (tgt := 109) hx hb d_Te_writeAlone_7 (by rw [hc4]; decide) (by rw [hc4]; decide) (by rw [hc4]; rfl) (by decide) ?_
            refine lv_aload_n hx hb d_Te_writeAlone_109 rfl (lv_at hl 1 rfl) ?_
            refine lv_bipush (v := 60) hx hb d_Te_writeAlone_110 (by decide) ?_
            obtain ⟨hO9, hf⟩ := ck_some hf
            obtain ⟨u15, r15, hc15, hf⟩ := bx_some hf
            refine xV0 (i := v0) (As := [.int 60]) (rest := []) C0 hP hD hS ck_Te hO9 (c_Te_write N hE hc15) k_Te_write (wd_of 1349 (by decide +kernel) rfl) hi_Te_write hs_Te_write hini_Te rfl rfl hd_Te_write rfl rm_Te_writeAlone_Te_write hl.1 (Nat.le_of_ble_eq_true rfl) d_Te_writeAlone_112 rfl ⟨Nat.zero_le _, Nat.zero_le _⟩ (fun H locs hP hD hS => ?_)
            refine lv_aload_n hx hb d_Te_writeAlone_115 rfl (lv_at hl 1 rfl) ?_
            refine lv_iload_n hx hb d_Te_writeAlone_116 rfl (lv_at hl 0 rfl) ?_
            obtain ⟨hO9, hf⟩ := ck_some hf
            obtain ⟨u16, r16, hc16, hf⟩ := bx_some hf
            refine xV0 (i := v0) (As := [.int v1.toInt32]) (rest := []) C0 hP hD hS ck_Te hO9 (c_Te_writeNumber N hE hc16) k_Te_writeNumber (wd_of 1378 (by decide +kernel) rfl) hi_Te_writeNumber hs_Te_writeNumber hini_Te rfl rfl hd_Te_writeNumber rfl rm_Te_writeAlone_Te_writeNumber hl.1 (Nat.le_of_ble_eq_true rfl) d_Te_writeAlone_117 rfl ⟨Nat.zero_le _, Nat.zero_le _⟩ (fun H locs hP hD hS => ?_)
            refine lv_aload_n hx hb d_Te_writeAlone_120 rfl (lv_at hl 1 rfl) ?_
            refine lv_bipush (v := 62) hx hb d_Te_writeAlone_121 (by decide) ?_
            obtain ⟨hO9, hf⟩ := ck_some hf
            obtain ⟨u17, r17, hc17, hf⟩ := bx_some hf
            refine xV0 (i := v0) (As := [.int 62]) (rest := []) C0 hP hD hS ck_Te hO9 (c_Te_write N hE hc17) k_Te_write (wd_of 1349 (by decide +kernel) rfl) hi_Te_write hs_Te_write hini_Te rfl rfl hd_Te_write rfl rm_Te_writeAlone_Te_write hl.1 (Nat.le_of_ble_eq_true rfl) d_Te_writeAlone_123 rfl ⟨Nat.zero_le _, Nat.zero_le _⟩ (fun H locs hP hD hS => ?_)
            refine lv_goto (tgt := 170) hx hb d_Te_writeAlone_126 (by decide) ?_
            exact wb_Te_writeAlone_170 C0 hE N G hG _ _ hf H locs hP hD hS ls (lv_sub hl [] rfl)
          · rw [br_n _ hc4] at hf
            by_cases hc5 : r8 = 5
            · rw [br_p _ hc5] at hf
              refine lv_tableIn (tgt := 165) hx hb d_Te_writeAlone_7 (by rw [hc5]; decide) (by rw [hc5]; decide) (by rw [hc5]; rfl) (by decide) ?_
              refine lv_aload_n hx hb d_Te_writeAlone_165 rfl (lv_at hl 1 rfl) ?_
              refine lv_iload_n hx hb d_Te_writeAlone_166 rfl (lv_at hl 0 rfl) ?_
              obtain ⟨hO9, hf⟩ := ck_some hf
              obtain ⟨u18, r18, hc18, hf⟩ := bx_some hf
              refine xV0 (i := v0) (As := [.int v1.toInt32]) (rest := []) C0 hP hD hS ck_Te hO9 (c_Te_write N hE hc18) k_Te_write (wd_of 1349 (by decide +kernel) rfl) hi_Te_write hs_Te_write hini_Te rfl rfl hd_Te_write rfl rm_Te_writeAlone_Te_write hl.1 (Nat.le_of_ble_eq_true rfl) d_Te_writeAlone_167 rfl ⟨Nat.zero_le _, Nat.zero_le _⟩ (fun H locs hP hD hS => ?_)
              exact wb_Te_writeAlone_170 C0 hE N G hG _ _ hf H locs hP hD hS ls (lv_sub hl [] rfl)
            · rw [br_n _ hc5] at hf
              by_cases hc6 : r8 = 6
              · rw [br_p _ hc6] at hf
                refine lv_tableIn (tgt := 150) hx hb d_Te_writeAlone_7 (by rw [hc6]; decide) (by rw [hc6]; decide) (by rw [hc6]; rfl) (by decide) ?_
                refine lv_aload_n hx hb d_Te_writeAlone_150 rfl (lv_at hl 1 rfl) ?_
                refine lv_bipush (v := 91) hx hb d_Te_writeAlone_151 (by decide) ?_
                obtain ⟨hO9, hf⟩ := ck_some hf
                obtain ⟨u19, r19, hc19, hf⟩ := bx_some hf
                refine xV0 (i := v0) (As := [.int 91]) (rest := []) C0 hP hD hS ck_Te hO9 (c_Te_write N hE hc19) k_Te_write (wd_of 1349 (by decide +kernel) rfl) hi_Te_write hs_Te_write hini_Te rfl rfl hd_Te_write rfl rm_Te_writeAlone_Te_write hl.1 (Nat.le_of_ble_eq_true rfl) d_Te_writeAlone_153 rfl ⟨Nat.zero_le _, Nat.zero_le _⟩ (fun H locs hP hD hS => ?_)
                refine lv_aload_n hx hb d_Te_writeAlone_156 rfl (lv_at hl 1 rfl) ?_
                refine lv_bipush (v := 93) hx hb d_Te_writeAlone_157 (by decide) ?_
                obtain ⟨hO9, hf⟩ := ck_some hf
                obtain ⟨u20, r20, hc20, hf⟩ := bx_some hf
                refine xV0 (i := v0) (As := [.int 93]) (rest := []) C0 hP hD hS ck_Te hO9 (c_Te_write N hE hc20) k_Te_write (wd_of 1349 (by decide +kernel) rfl) hi_Te_write hs_Te_write hini_Te rfl rfl hd_Te_write rfl rm_Te_writeAlone_Te_write hl.1 (Nat.le_of_ble_eq_true rfl) d_Te_writeAlone_159 rfl ⟨Nat.zero_le _, Nat.zero_le _⟩ (fun H locs hP hD hS => ?_)
                refine lv_goto (tgt := 170) hx hb d_Te_writeAlone_162 (by decide) ?_
                exact wb_Te_writeAlone_170 C0 hE N G hG _ _ hf H locs hP hD hS ls (lv_sub hl [] rfl)
              · rw [br_n _ hc6] at hf
                refine lv_tableOut (tgt := 165) hx hb d_Te_writeAlone_7 (by have z0 := tiN hc0; have z1 := tiN hc1; have z2 := tiN hc2; have z3 := tiN hc3; have z4 := tiN hc4; have z5 := tiN hc5; have z6 := tiN hc6; rw [show (0 : Int32).toInt = 0 from by decide] at z0; rw [show (1 : Int32).toInt = 1 from by decide] at z1; rw [show (2 : Int32).toInt = 2 from by decide] at z2; rw [show (3 : Int32).toInt = 3 from by decide] at z3; rw [show (4 : Int32).toInt = 4 from by decide] at z4; rw [show (5 : Int32).toInt = 5 from by decide] at z5; rw [show (6 : Int32).toInt = 6 from by decide] at z6; omega) (by decide) ?_
                refine lv_aload_n hx hb d_Te_writeAlone_165 rfl (lv_at hl 1 rfl) ?_
                refine lv_iload_n hx hb d_Te_writeAlone_166 rfl (lv_at hl 0 rfl) ?_
                obtain ⟨hO9, hf⟩ := ck_some hf
                obtain ⟨u21, r21, hc21, hf⟩ := bx_some hf
                refine xV0 (i := v0) (As := [.int v1.toInt32]) (rest := []) C0 hP hD hS ck_Te hO9 (c_Te_write N hE hc21) k_Te_write (wd_of 1349 (by decide +kernel) rfl) hi_Te_write hs_Te_write hini_Te rfl rfl hd_Te_write rfl rm_Te_writeAlone_Te_write hl.1 (Nat.le_of_ble_eq_true rfl) d_Te_writeAlone_167 rfl ⟨Nat.zero_le _, Nat.zero_le _⟩ (fun H locs hP hD hS => ?_)
                exact wb_Te_writeAlone_170 C0 hE N G hG _ _ hf H locs hP hD hS ls (lv_sub hl [] rfl)
def gg_Te_writeAlone (N : Nat) : Nat → ((CS → Nat → Int32 → Int32 → Option (CS × Unit)))
  | 0 => fun _ _ _ _ => none
  | n + 1 => fb_Te_writeAlone_59 N (gg_Te_writeAlone N n)
theorem wg_Te_writeAlone {p : Program} {l : Launch} {e : Env} {s : State} {m : MethodId} {args : Array Value} {below : List Frame} {meth : Method} {c : Code} {s0 : State} {b0 : Nat} {D : va_G} {cB cI cJ cZ cS cP : ClassId} {A : Nat → Prop} {sk sv : Nat → Nat} {ad : Nat → Nat} (C0 : XCx p s s0 b0 m args meth c R_Te b_Te_writeAlone 5 none D cB cI cJ cZ cS cP A) (hE : ENV s0 b0 sk sv) (N : Nat) : ∀ n : Nat, (∀ (u : CS) (v0 : Nat) (v3 : Int32) (v4 : Int32) (x : CS × Unit), gg_Te_writeAlone N n u v0 v3 v4 = some x → ∀ (H : Heap) (locs : List Loc), va_P D cls (wC cB cI cJ cZ cS cP ad u) H → va_D A (wC cB cI cJ cZ cS cP ad u) → va_S A s.heap H locs → ∀ (ls : Array Slot), lv_has ls 5 [(0, .ref (ad v0)), (3, .int v3), (4, .int v4)] → W p l e rm_Te_writeAlone s m args below meth c H locs 0 0 (MQ below (xQ0 D cB cI cJ cZ cS cP A ad x.1 none) args s 0 0 A) (F0 m 59 ls []))
  | 0 => (fun u v0 v3 v4 x hf => by cases hf)
  | n + 1 => wb_Te_writeAlone_59 C0 hE N (gg_Te_writeAlone N n) (wg_Te_writeAlone C0 hE N n)
def fm_Te_writeAlone (N : Nat) (u : CS) (v0 : Nat) (v1 : Int64) : Option (CS × Unit) := fb_Te_writeAlone_0 N (gg_Te_writeAlone N N) u v0 v1
set_option maxRecDepth 100000 in
set_option maxHeartbeats 4000000 in
theorem c_Te_writeAlone (N : Nat) {l : Launch} {s0 : State} {b0 : Nat} {D : va_G} {cB cI cJ cZ cS cP : ClassId} {sk sv : Nat → Nat} {ad : Nat → Nat} {u : CS} {sz : Nat} {v0 : Nat} {v1 : Int64} {x : CS × Unit} (hE : ENV s0 b0 sk sv) (hf : fm_Te_writeAlone N u v0 v1 = some x) : Met l y_Te_writeAlone (wd_ws y_Te_writeAlone b_Te_writeAlone 5 none) rm_Te_writeAlone (xPc s0 b0 D cB cI cJ cZ cS cP ad u sz [.ref (ad v0), .long v1]) (xQ0 D cB cI cJ cZ cS cP (xA cB cI cJ cZ cS cP ad u sz) ad x.1 none) 0 0 (xA cB cI cJ cZ cS cP ad u sz) :=
  xMet (by decide) rfl (Nat.le_of_ble_eq_true rfl) (fun p e s m below meth c ls hsz hnm C0 hP hD hS hl =>
    wb_Te_writeAlone_0 C0 hE N (gg_Te_writeAlone N N) (wg_Te_writeAlone C0 hE N N) u _ _ x hf s.heap [] hP hD hS ls (lv_sub hl [0, 1] rfl))
abbrev b_Te_text : ByteArray := prog_8_method_10_code
def y_Te_text : MethodName := ⟨R_Te, "text", "([JJ[BI)I"⟩
def w_Te_text : List Cond := wd_ws y_Te_text b_Te_text 11 (some .int)
set_option maxRecDepth 100000 in
theorem k_Te_text : Cond.code y_Te_text b_Te_text 11 (some .int) ∈ wd_tbl := wd_of 1344 rfl rfl
theorem d_Te_text_0 : decode b_Te_text 0 = .ok (.aload_n 0, 1) := by decide +kernel
theorem d_Te_text_1 : decode b_Te_text 1 = .ok (.aload 4, 2) := by decide +kernel
theorem d_Te_text_3 : decode b_Te_text 3 = .ok (.putfield 55, 3) := by decide +kernel
theorem d_Te_text_6 : decode b_Te_text 6 = .ok (.aload_n 0, 1) := by decide +kernel
theorem d_Te_text_7 : decode b_Te_text 7 = .ok (.iload 5, 2) := by decide +kernel
theorem d_Te_text_9 : decode b_Te_text 9 = .ok (.putfield 59, 3) := by decide +kernel
theorem d_Te_text_12 : decode b_Te_text 12 = .ok (.aload_n 0, 1) := by decide +kernel
theorem d_Te_text_13 : decode b_Te_text 13 = .ok (.iconst 0, 1) := by decide +kernel
theorem d_Te_text_14 : decode b_Te_text 14 = .ok (.putfield 63, 3) := by decide +kernel
theorem d_Te_text_17 : decode b_Te_text 17 = .ok (.iconst 1, 1) := by decide +kernel
theorem d_Te_text_18 : decode b_Te_text 18 = .ok (.istore 6, 2) := by decide +kernel
theorem d_Te_text_20 : decode b_Te_text 20 = .ok (.aload_n 0, 1) := by decide +kernel
theorem d_Te_text_21 : decode b_Te_text 21 = .ok (.getfield 15, 3) := by decide +kernel
theorem d_Te_text_24 : decode b_Te_text 24 = .ok (.iconst 0, 1) := by decide +kernel
theorem d_Te_text_25 : decode b_Te_text 25 = .ok (.lload_n 2, 1) := by decide +kernel
theorem d_Te_text_26 : decode b_Te_text 26 = .ok (.lastore, 1) := by decide +kernel
theorem d_Te_text_27 : decode b_Te_text 27 = .ok (.iconst 0, 1) := by decide +kernel
theorem d_Te_text_28 : decode b_Te_text 28 = .ok (.istore 7, 2) := by decide +kernel
theorem d_Te_text_30 : decode b_Te_text 30 = .ok (.iload 7, 2) := by decide +kernel
theorem d_Te_text_32 : decode b_Te_text 32 = .ok (.ldc 27, 2) := by decide +kernel
theorem d_Te_text_34 : decode b_Te_text 34 = .ok (.if_icmp .ge 140, 3) := by decide +kernel
theorem d_Te_text_37 : decode b_Te_text 37 = .ok (.iload 6, 2) := by decide +kernel
theorem d_Te_text_39 : decode b_Te_text 39 = .ok (.ifCond .le 135, 3) := by decide +kernel
theorem d_Te_text_42 : decode b_Te_text 42 = .ok (.aload_n 0, 1) := by decide +kernel
theorem d_Te_text_43 : decode b_Te_text 43 = .ok (.getfield 63, 3) := by decide +kernel
theorem d_Te_text_46 : decode b_Te_text 46 = .ok (.bipush 100, 2) := by decide +kernel
theorem d_Te_text_48 : decode b_Te_text 48 = .ok (.if_icmp .ge 126, 3) := by decide +kernel
theorem d_Te_text_51 : decode b_Te_text 51 = .ok (.iinc 6 (-1), 3) := by decide +kernel
theorem d_Te_text_54 : decode b_Te_text 54 = .ok (.aload_n 0, 1) := by decide +kernel
theorem d_Te_text_55 : decode b_Te_text 55 = .ok (.getfield 15, 3) := by decide +kernel
theorem d_Te_text_58 : decode b_Te_text 58 = .ok (.iload 6, 2) := by decide +kernel
theorem d_Te_text_60 : decode b_Te_text 60 = .ok (.laload, 1) := by decide +kernel
theorem d_Te_text_61 : decode b_Te_text 61 = .ok (.lstore 8, 2) := by decide +kernel
theorem d_Te_text_63 : decode b_Te_text 63 = .ok (.lload 8, 2) := by decide +kernel
theorem d_Te_text_65 : decode b_Te_text 65 = .ok (.l2i, 1) := by decide +kernel
theorem d_Te_text_66 : decode b_Te_text 66 = .ok (.istore 10, 2) := by decide +kernel
theorem d_Te_text_68 : decode b_Te_text 68 = .ok (.lload 8, 2) := by decide +kernel
theorem d_Te_text_70 : decode b_Te_text 70 = .ok (.invokestatic 40, 3) := by decide +kernel
theorem d_Te_text_73 : decode b_Te_text 73 = .ok (.lookupswitch 89 #[(5, 35), (7, 55), (11, 75)], 35) := by decide +kernel
theorem d_Te_text_108 : decode b_Te_text 108 = .ok (.aload_n 0, 1) := by decide +kernel
theorem d_Te_text_109 : decode b_Te_text 109 = .ok (.bipush 123, 2) := by decide +kernel
theorem d_Te_text_111 : decode b_Te_text 111 = .ok (.invokevirtual 66, 3) := by decide +kernel
theorem d_Te_text_114 : decode b_Te_text 114 = .ok (.aload_n 0, 1) := by decide +kernel
theorem d_Te_text_115 : decode b_Te_text 115 = .ok (.aload_n 1, 1) := by decide +kernel
theorem d_Te_text_116 : decode b_Te_text 116 = .ok (.iload 10, 2) := by decide +kernel
theorem d_Te_text_118 : decode b_Te_text 118 = .ok (.iload 6, 2) := by decide +kernel
theorem d_Te_text_120 : decode b_Te_text 120 = .ok (.invokevirtual 70, 3) := by decide +kernel
theorem d_Te_text_123 : decode b_Te_text 123 = .ok (.istore 6, 2) := by decide +kernel
theorem d_Te_text_125 : decode b_Te_text 125 = .ok (.goto 43, 3) := by decide +kernel
theorem d_Te_text_128 : decode b_Te_text 128 = .ok (.aload_n 0, 1) := by decide +kernel
theorem d_Te_text_129 : decode b_Te_text 129 = .ok (.bipush 91, 2) := by decide +kernel
theorem d_Te_text_131 : decode b_Te_text 131 = .ok (.invokevirtual 66, 3) := by decide +kernel
theorem d_Te_text_134 : decode b_Te_text 134 = .ok (.aload_n 0, 1) := by decide +kernel
theorem d_Te_text_135 : decode b_Te_text 135 = .ok (.aload_n 1, 1) := by decide +kernel
theorem d_Te_text_136 : decode b_Te_text 136 = .ok (.iload 10, 2) := by decide +kernel
theorem d_Te_text_138 : decode b_Te_text 138 = .ok (.iload 6, 2) := by decide +kernel
theorem d_Te_text_140 : decode b_Te_text 140 = .ok (.invokevirtual 74, 3) := by decide +kernel
theorem d_Te_text_143 : decode b_Te_text 143 = .ok (.istore 6, 2) := by decide +kernel
theorem d_Te_text_145 : decode b_Te_text 145 = .ok (.goto 23, 3) := by decide +kernel
theorem d_Te_text_148 : decode b_Te_text 148 = .ok (.aload_n 0, 1) := by decide +kernel
theorem d_Te_text_149 : decode b_Te_text 149 = .ok (.aload_n 1, 1) := by decide +kernel
theorem d_Te_text_150 : decode b_Te_text 150 = .ok (.iload 6, 2) := by decide +kernel
theorem d_Te_text_152 : decode b_Te_text 152 = .ok (.iconst 1, 1) := by decide +kernel
theorem d_Te_text_153 : decode b_Te_text 153 = .ok (.isub, 1) := by decide +kernel
theorem d_Te_text_154 : decode b_Te_text 154 = .ok (.invokevirtual 77, 3) := by decide +kernel
theorem d_Te_text_157 : decode b_Te_text 157 = .ok (.istore 6, 2) := by decide +kernel
theorem d_Te_text_159 : decode b_Te_text 159 = .ok (.goto 9, 3) := by decide +kernel
theorem d_Te_text_162 : decode b_Te_text 162 = .ok (.aload_n 0, 1) := by decide +kernel
theorem d_Te_text_163 : decode b_Te_text 163 = .ok (.lload 8, 2) := by decide +kernel
theorem d_Te_text_165 : decode b_Te_text 165 = .ok (.invokevirtual 81, 3) := by decide +kernel
theorem d_Te_text_168 : decode b_Te_text 168 = .ok (.iinc 7 1, 3) := by decide +kernel
theorem d_Te_text_171 : decode b_Te_text 171 = .ok (.goto (-141), 3) := by decide +kernel
theorem d_Te_text_174 : decode b_Te_text 174 = .ok (.aload_n 0, 1) := by decide +kernel
theorem d_Te_text_175 : decode b_Te_text 175 = .ok (.getfield 63, 3) := by decide +kernel
theorem d_Te_text_178 : decode b_Te_text 178 = .ok (.ireturn, 1) := by decide +kernel
set_option maxRecDepth 100000 in
theorem hi_Te_text : Cond.instanceMethod y_Te_text ∈ wd_tbl := wd_of 1342 (by decide +kernel) rfl
set_option maxRecDepth 100000 in
theorem hs_Te_text : Cond.selects R_Te y_Te_text y_Te_text ∈ wd_tbl := wd_of 1343 (by decide +kernel) rfl
theorem hd_Te_text : y_Te_text.cls = R_Te ∧ y_Te_text.cls ≠ "java/lang/invoke/MethodHandle" ∧ y_Te_text.cls ≠ "java/lang/invoke/VarHandle" ∧ (parseMethodDescriptor y_Te_text.desc).map (fun d => d.parameters.length) = some 4 := by decide +kernel
def rm_Te_text : Room := { frames := 3, cells := 0, slots := 0, locals := 72 }
theorem rm_Te_text_Te_tag : (rm_Te_tag).frames + 1 ≤ rm_Te_text.frames ∧ 8 + (2 + 11) + (rm_Te_tag).locals ≤ rm_Te_text.locals := by
  show 0 + 1 ≤ 3 ∧ 8 + (2 + 11) + 0 ≤ 72
  decide
theorem rm_Te_text_Te_write : (rm_Te_write).frames + 1 ≤ rm_Te_text.frames ∧ 8 + (2 + 11) + (rm_Te_write).locals ≤ rm_Te_text.locals := by
  show 0 + 1 ≤ 3 ∧ 8 + (2 + 11) + 0 ≤ 72
  decide
theorem rm_Te_text_Te_toWriteTuple : (rm_Te_toWriteTuple).frames + 1 ≤ rm_Te_text.frames ∧ 8 + (6 + 11) + (rm_Te_toWriteTuple).locals ≤ rm_Te_text.locals := by
  show 1 + 1 ≤ 3 ∧ 8 + (6 + 11) + 23 ≤ 72
  decide
theorem rm_Te_text_Te_toWritePair : (rm_Te_toWritePair).frames + 1 ≤ rm_Te_text.frames ∧ 8 + (5 + 11) + (rm_Te_toWritePair).locals ≤ rm_Te_text.locals := by
  show 1 + 1 ≤ 3 ∧ 8 + (5 + 11) + 23 ≤ 72
  decide
theorem rm_Te_text_Te_toWriteRest : (rm_Te_toWriteRest).frames + 1 ≤ rm_Te_text.frames ∧ 8 + (6 + 11) + (rm_Te_toWriteRest).locals ≤ rm_Te_text.locals := by
  show 2 + 1 ≤ 3 ∧ 8 + (6 + 11) + 47 ≤ 72
  decide
theorem rm_Te_text_Te_writeAlone : (rm_Te_writeAlone).frames + 1 ≤ rm_Te_text.frames ∧ 8 + (5 + 11) + (rm_Te_writeAlone).locals ≤ rm_Te_text.locals := by
  show 2 + 1 ≤ 3 ∧ 8 + (5 + 11) + 46 ≤ 72
  decide
def fb_Te_text_174 (N : Nat) (G : (CS → Nat → Option Nat → Int32 → Int32 → Option (CS × Int32))) (u : CS) (v0 : Nat) : Option (CS × Int32) := bo (gI u v0 8 6) (fun r1 => some (u, r1))
set_option maxRecDepth 100000 in
set_option maxHeartbeats 4000000 in
theorem wb_Te_text_174 {p : Program} {l : Launch} {e : Env} {s : State} {m : MethodId} {args : Array Value} {below : List Frame} {meth : Method} {c : Code} {s0 : State} {b0 : Nat} {D : va_G} {cB cI cJ cZ cS cP : ClassId} {A : Nat → Prop} {sk sv : Nat → Nat} {ad : Nat → Nat} (C0 : XCx p s s0 b0 m args meth c R_Te b_Te_text 11 (some .int) D cB cI cJ cZ cS cP A) (hE : ENV s0 b0 sk sv) (N : Nat) (G : (CS → Nat → Option Nat → Int32 → Int32 → Option (CS × Int32))) (hG : (∀ (u : CS) (v0 : Nat) (v1 : Option Nat) (v6 : Int32) (v7 : Int32) (x : CS × Int32), G u v0 v1 v6 v7 = some x → ∀ (H : Heap) (locs : List Loc), va_P D cls (wC cB cI cJ cZ cS cP ad u) H → va_D A (wC cB cI cJ cZ cS cP ad u) → va_S A s.heap H locs → ∀ (ls : Array Slot), lv_has ls 11 [(0, .ref (ad v0)), (1, va_rf (Option.map ad v1)), (6, .int v6), (7, .int v7)] → W p l e rm_Te_text s m args below meth c H locs 0 0 (MQ below (xQ0 D cB cI cJ cZ cS cP A ad x.1 (some (.inl x.2))) args s 0 0 A) (F0 m 30 ls []))) : ∀ (u : CS) (v0 : Nat) (x : CS × Int32), fb_Te_text_174 N G u v0 = some x → ∀ (H : Heap) (locs : List Loc), va_P D cls (wC cB cI cJ cZ cS cP ad u) H → va_D A (wC cB cI cJ cZ cS cP ad u) → va_S A s.heap H locs → ∀ (ls : Array Slot), lv_has ls 11 [(0, .ref (ad v0))] → W p l e rm_Te_text s m args below meth c H locs 0 0 (MQ below (xQ0 D cB cI cJ cZ cS cP A ad x.1 (some (.inl x.2))) args s 0 0 A) (F0 m 174 ls []) := by
  intro u v0 x hf H locs hP hD hS ls hl
  obtain ⟨hx, hb, hr, hml, ht, hown, hK, hA, hlocks, hA0, hO, hbs⟩ := id C0
  unfold fb_Te_text_174 at hf
  refine lv_aload_n hx hb d_Te_text_174 rfl (lv_at hl 0 rfl) ?_
  obtain ⟨r1, g1, hf⟩ := bo_some hf
  refine xg_I (i := v0) (k := 6) hx hb ht hown ck_Te hK hP (by decide) fk_Te_63 g1 d_Te_text_175 ?_
  exact xr0_i C0 hP hD hS hf d_Te_text_178
def fb_Te_text_168 (N : Nat) (G : (CS → Nat → Option Nat → Int32 → Int32 → Option (CS × Int32))) (u : CS) (v0 : Nat) (v1 : Option Nat) (v6 : Int32) (v7 : Int32) : Option (CS × Int32) := G u (v0) (v1) (v6) ((v7 + 1))
set_option maxRecDepth 100000 in
set_option maxHeartbeats 4000000 in
theorem wb_Te_text_168 {p : Program} {l : Launch} {e : Env} {s : State} {m : MethodId} {args : Array Value} {below : List Frame} {meth : Method} {c : Code} {s0 : State} {b0 : Nat} {D : va_G} {cB cI cJ cZ cS cP : ClassId} {A : Nat → Prop} {sk sv : Nat → Nat} {ad : Nat → Nat} (C0 : XCx p s s0 b0 m args meth c R_Te b_Te_text 11 (some .int) D cB cI cJ cZ cS cP A) (hE : ENV s0 b0 sk sv) (N : Nat) (G : (CS → Nat → Option Nat → Int32 → Int32 → Option (CS × Int32))) (hG : (∀ (u : CS) (v0 : Nat) (v1 : Option Nat) (v6 : Int32) (v7 : Int32) (x : CS × Int32), G u v0 v1 v6 v7 = some x → ∀ (H : Heap) (locs : List Loc), va_P D cls (wC cB cI cJ cZ cS cP ad u) H → va_D A (wC cB cI cJ cZ cS cP ad u) → va_S A s.heap H locs → ∀ (ls : Array Slot), lv_has ls 11 [(0, .ref (ad v0)), (1, va_rf (Option.map ad v1)), (6, .int v6), (7, .int v7)] → W p l e rm_Te_text s m args below meth c H locs 0 0 (MQ below (xQ0 D cB cI cJ cZ cS cP A ad x.1 (some (.inl x.2))) args s 0 0 A) (F0 m 30 ls []))) : ∀ (u : CS) (v0 : Nat) (v1 : Option Nat) (v6 : Int32) (v7 : Int32) (x : CS × Int32), fb_Te_text_168 N G u v0 v1 v6 v7 = some x → ∀ (H : Heap) (locs : List Loc), va_P D cls (wC cB cI cJ cZ cS cP ad u) H → va_D A (wC cB cI cJ cZ cS cP ad u) → va_S A s.heap H locs → ∀ (ls : Array Slot), lv_has ls 11 [(0, .ref (ad v0)), (1, va_rf (Option.map ad v1)), (6, .int v6), (7, .int v7)] → W p l e rm_Te_text s m args below meth c H locs 0 0 (MQ below (xQ0 D cB cI cJ cZ cS cP A ad x.1 (some (.inl x.2))) args s 0 0 A) (F0 m 168 ls []) := by
  intro u v0 v1 v6 v7 x hf H locs hP hD hS ls hl
  obtain ⟨hx, hb, hr, hml, ht, hown, hK, hA, hlocks, hA0, hO, hbs⟩ := id C0
  unfold fb_Te_text_168 at hf
  refine lv_iinc (v := (v7 + 1)) (lv' := [(7, .int (v7 + 1)), (0, .ref (ad v0)), (1, va_rf (Option.map ad v1)), (6, .int v6)]) hx hb d_Te_text_168 hl (k := 3) rfl rfl (by decide) (by first | rfl | simp [List.filter, cat_rf]) (fun ls hl => ?_)
  refine lv_goto (tgt := 30) hx hb d_Te_text_171 (by decide) ?_
  exact hG _ _ _ _ _ _ hf H locs hP hD hS ls (lv_sub hl [1, 2, 3, 0] rfl)
def fb_Te_text_30 (N : Nat) (G : (CS → Nat → Option Nat → Int32 → Int32 → Option (CS × Int32))) (u : CS) (v0 : Nat) (v1 : Option Nat) (v6 : Int32) (v7 : Int32) : Option (CS × Int32) := br (decide (1000000000 ≤ v7)) (fb_Te_text_174 N G u (v0)) (br (decide (v6 ≤ 0)) (fb_Te_text_174 N G u (v0)) (bo (gI u v0 8 6) (fun r2 => br (decide (100 ≤ r2)) (fb_Te_text_174 N G u (v0)) (bo (gR u v0 8 1) (fun r3 => bo r3 (fun j4 => bo (aJ u j4 (v6 + (-1))) (fun r5 => bx (fm_Te_tag N u r5) (fun u6 r6 => br (decide (r6 = 5)) (ck (isO u6 v0 8) (bx (fm_Te_write N u6 v0 123) (fun u7 r7 => ck (isO u7 v0 8) (bx (fm_Te_toWriteTuple N u7 v0 v1 (r5.toInt32) (v6 + (-1))) (fun u8 r8 => fb_Te_text_168 N G u8 (v0) (v1) (r8) (v7)))))) (br (decide (r6 = 7)) (ck (isO u6 v0 8) (bx (fm_Te_write N u6 v0 91) (fun u9 r9 => ck (isO u9 v0 8) (bx (fm_Te_toWritePair N u9 v0 v1 (r5.toInt32) (v6 + (-1))) (fun u10 r10 => fb_Te_text_168 N G u10 (v0) (v1) (r10) (v7)))))) (br (decide (r6 = 11)) (ck (isO u6 v0 8) (bx (fm_Te_toWriteRest N u6 v0 v1 ((v6 + (-1)) - 1)) (fun u11 r11 => fb_Te_text_168 N G u11 (v0) (v1) (r11) (v7)))) (ck (isO u6 v0 8) (bx (fm_Te_writeAlone N u6 v0 r5) (fun u12 r12 => fb_Te_text_168 N G u12 (v0) (v1) ((v6 + (-1))) (v7))))))))))))))
set_option maxRecDepth 100000 in
set_option maxHeartbeats 4000000 in
theorem wb_Te_text_30 {p : Program} {l : Launch} {e : Env} {s : State} {m : MethodId} {args : Array Value} {below : List Frame} {meth : Method} {c : Code} {s0 : State} {b0 : Nat} {D : va_G} {cB cI cJ cZ cS cP : ClassId} {A : Nat → Prop} {sk sv : Nat → Nat} {ad : Nat → Nat} (C0 : XCx p s s0 b0 m args meth c R_Te b_Te_text 11 (some .int) D cB cI cJ cZ cS cP A) (hE : ENV s0 b0 sk sv) (N : Nat) (G : (CS → Nat → Option Nat → Int32 → Int32 → Option (CS × Int32))) (hG : (∀ (u : CS) (v0 : Nat) (v1 : Option Nat) (v6 : Int32) (v7 : Int32) (x : CS × Int32), G u v0 v1 v6 v7 = some x → ∀ (H : Heap) (locs : List Loc), va_P D cls (wC cB cI cJ cZ cS cP ad u) H → va_D A (wC cB cI cJ cZ cS cP ad u) → va_S A s.heap H locs → ∀ (ls : Array Slot), lv_has ls 11 [(0, .ref (ad v0)), (1, va_rf (Option.map ad v1)), (6, .int v6), (7, .int v7)] → W p l e rm_Te_text s m args below meth c H locs 0 0 (MQ below (xQ0 D cB cI cJ cZ cS cP A ad x.1 (some (.inl x.2))) args s 0 0 A) (F0 m 30 ls []))) : ∀ (u : CS) (v0 : Nat) (v1 : Option Nat) (v6 : Int32) (v7 : Int32) (x : CS × Int32), fb_Te_text_30 N G u v0 v1 v6 v7 = some x → ∀ (H : Heap) (locs : List Loc), va_P D cls (wC cB cI cJ cZ cS cP ad u) H → va_D A (wC cB cI cJ cZ cS cP ad u) → va_S A s.heap H locs → ∀ (ls : Array Slot), lv_has ls 11 [(0, .ref (ad v0)), (1, va_rf (Option.map ad v1)), (6, .int v6), (7, .int v7)] → W p l e rm_Te_text s m args below meth c H locs 0 0 (MQ below (xQ0 D cB cI cJ cZ cS cP A ad x.1 (some (.inl x.2))) args s 0 0 A) (F0 m 30 ls []) := by
  intro u v0 v1 v6 v7 x hf H locs hP hD hS ls hl
  obtain ⟨hx, hb, hr, hml, ht, hown, hK, hA, hlocks, hA0, hO, hbs⟩ := id C0
  unfold fb_Te_text_30 at hf
  refine lv_iload hx hb d_Te_text_30 (lv_at hl 3 rfl) ?_
  refine lv_ldc (v := 1000000000) hx hb hown (ht _ (wd_of 1345 (by decide +kernel) rfl)) d_Te_text_32 ?_
  refine lv_icmp_ge (tgt := 174) hx hb d_Te_text_34 (by decide) (fun hc => ?_) (fun hc => ?_)
  · rw [br_p _ hc] at hf
    exact wb_Te_text_174 C0 hE N G hG _ _ _ hf H locs hP hD hS ls (lv_sub hl [0] rfl)
  · rw [br_n _ hc] at hf
    refine lv_iload hx hb d_Te_text_37 (lv_at hl 2 rfl) ?_
    refine lv_if_le (tgt := 174) hx hb d_Te_text_39 (by decide) (fun hc => ?_) (fun hc => ?_)
    · rw [br_p _ hc] at hf
      exact wb_Te_text_174 C0 hE N G hG _ _ _ hf H locs hP hD hS ls (lv_sub hl [0] rfl)
    · rw [br_n _ hc] at hf
      refine lv_aload_n hx hb d_Te_text_42 rfl (lv_at hl 0 rfl) ?_
      obtain ⟨r2, g2, hf⟩ := bo_some hf
      refine xg_I (i := v0) (k := 6) hx hb ht hown ck_Te hK hP (by decide) fk_Te_63 g2 d_Te_text_43 ?_
      refine lv_bipush (v := 100) hx hb d_Te_text_46 (by decide) ?_
      refine lv_icmp_ge (tgt := 174) hx hb d_Te_text_48 (by decide) (fun hc => ?_) (fun hc => ?_)
      · rw [br_p _ hc] at hf
        exact wb_Te_text_174 C0 hE N G hG _ _ _ hf H locs hP hD hS ls (lv_sub hl [0] rfl)
      · rw [br_n _ hc] at hf
        refine lv_iinc (v := (v6 + (-1))) (lv' := [(6, .int (v6 + (-1))), (0, .ref (ad v0)), (1, va_rf (Option.map ad v1)), (7, .int v7)]) hx hb d_Te_text_51 hl (k := 2) rfl rfl (by decide) (by first | rfl | simp [List.filter, cat_rf]) (fun ls hl => ?_)
        refine lv_aload_n hx hb d_Te_text_54 rfl (lv_at hl 1 rfl) ?_
        obtain ⟨r3, g3, hf⟩ := bo_some hf
        refine xg_R (i := v0) (k := 1) hx hb ht hown ck_Te hK hP (by decide) fk_Te_15 g3 d_Te_text_55 ?_
        refine lv_iload hx hb d_Te_text_58 (lv_at hl 0 rfl) ?_
        obtain ⟨j4, ej4, hf⟩ := bo_some hf
        rw [ej4]
        obtain ⟨r5, g5, hf⟩ := bo_some hf
        refine xl_J (i := j4) hx hb hK hP g5 d_Te_text_60 ?_
        refine lv_lstore (lv' := [(8, .long r5), (6, .int (v6 + (-1))), (0, .ref (ad v0)), (1, va_rf (Option.map ad v1)), (7, .int v7)]) hx hb d_Te_text_61 hl (by decide) (by first | rfl | simp [List.filter, cat_rf]) (fun ls hl => ?_)
        refine lv_lload hx hb d_Te_text_63 (lv_at hl 0 rfl) ?_
        refine lv_l2i hx hb d_Te_text_65 rfl ?_
        refine lv_istore (lv' := [(10, .int r5.toInt32), (8, .long r5), (6, .int (v6 + (-1))), (0, .ref (ad v0)), (1, va_rf (Option.map ad v1)), (7, .int v7)]) hx hb d_Te_text_66 hl (by decide) (by first | rfl | simp [List.filter, cat_rf]) (fun ls hl => ?_)
        refine lv_lload hx hb d_Te_text_68 (lv_at hl 1 rfl) ?_
        obtain ⟨u6, r6, hc6, hf⟩ := bx_some hf
        refine xS0 (As := [.long r5]) (rest := []) C0 hP hD hS (c_Te_tag N hc6) k_Te_tag (wd_of 1346 (by decide +kernel) rfl) ht_Te_tag hini_Te rfl rfl hd_Te_tag rfl rm_Te_text_Te_tag hl.1 (Nat.le_of_ble_eq_true rfl) d_Te_text_70 rfl ⟨Nat.zero_le _, Nat.zero_le _⟩ (fun H locs hP hD hS => ?_)
        refine W.eq (g2 := F0 m 73 ls [.int r6]) rfl ?_
        by_cases hc5 : r6 = 5
        · rw [br_p _ hc5] at hf
          refine lv_lookup (tgt := 108) hx hb d_Te_text_73 (by decide) (by rw [hc5] <;> rfl) (by decide) ?_
          refine lv_aload_n hx hb d_Te_text_108 rfl (lv_at hl 3 rfl) ?_
          refine lv_bipush (v := 123) hx hb d_Te_text_109 (by decide) ?_
          obtain ⟨hO9, hf⟩ := ck_some hf
          obtain ⟨u7, r7, hc7, hf⟩ := bx_some hf
          refine xV0 (i := v0) (As := [.int 123]) (rest := []) C0 hP hD hS ck_Te hO9 (c_Te_write N hE hc7) k_Te_write (wd_of 1349 (by decide +kernel) rfl) hi_Te_write hs_Te_write hini_Te rfl rfl hd_Te_write rfl rm_Te_text_Te_write hl.1 (Nat.le_of_ble_eq_true rfl) d_Te_text_111 rfl ⟨Nat.zero_le _, Nat.zero_le _⟩ (fun H locs hP hD hS => ?_)
          refine lv_aload_n hx hb d_Te_text_114 rfl (lv_at hl 3 rfl) ?_
          refine x_aload_n hx hb d_Te_text_115 rfl (lv_at hl 4 rfl) ?_
          refine lv_iload hx hb d_Te_text_116 (lv_at hl 0 rfl) ?_
          refine lv_iload hx hb d_Te_text_118 (lv_at hl 2 rfl) ?_
          obtain ⟨hO9, hf⟩ := ck_some hf
          obtain ⟨u8, r8, hc8, hf⟩ := bx_some hf
          refine xV0 (i := v0) (As := [va_rf (Option.map ad v1), .int r5.toInt32, .int (v6 + (-1))]) (rest := []) C0 hP hD hS ck_Te hO9 (c_Te_toWriteTuple N hc8) k_Te_toWriteTuple (wd_of 1353 (by decide +kernel) rfl) hi_Te_toWriteTuple hs_Te_toWriteTuple hini_Te rfl rfl hd_Te_toWriteTuple rfl rm_Te_text_Te_toWriteTuple hl.1 (Nat.le_of_ble_eq_true rfl) d_Te_text_120 rfl ⟨Nat.zero_le _, Nat.zero_le _⟩ (fun H locs hP hD hS => ?_)
          refine lv_istore (lv' := [(6, .int r8), (10, .int r5.toInt32), (8, .long r5), (0, .ref (ad v0)), (1, va_rf (Option.map ad v1)), (7, .int v7)]) hx hb d_Te_text_123 hl (by decide) (by first | rfl | simp [List.filter, cat_rf]) (fun ls hl => ?_)
          refine lv_goto (tgt := 168) hx hb d_Te_text_125 (by decide) ?_
          exact wb_Te_text_168 C0 hE N G hG _ _ _ _ _ _ hf H locs hP hD hS ls (lv_sub hl [3, 4, 0, 5] rfl)
        · rw [br_n _ hc5] at hf
          by_cases hc7 : r6 = 7
          · rw [br_p _ hc7] at hf
            refine lv_lookup (tgt := 128) hx hb d_Te_text_73 (by decide) (by rw [hc7] <;> rfl) (by decide) ?_
            refine lv_aload_n hx hb d_Te_text_128 rfl (lv_at hl 3 rfl) ?_
            refine lv_bipush (v := 91) hx hb d_Te_text_129 (by decide) ?_
            obtain ⟨hO9, hf⟩ := ck_some hf
            obtain ⟨u9, r9, hc9, hf⟩ := bx_some hf
            refine xV0 (i := v0) (As := [.int 91]) (rest := []) C0 hP hD hS ck_Te hO9 (c_Te_write N hE hc9) k_Te_write (wd_of 1349 (by decide +kernel) rfl) hi_Te_write hs_Te_write hini_Te rfl rfl hd_Te_write rfl rm_Te_text_Te_write hl.1 (Nat.le_of_ble_eq_true rfl) d_Te_text_131 rfl ⟨Nat.zero_le _, Nat.zero_le _⟩ (fun H locs hP hD hS => ?_)
            refine lv_aload_n hx hb d_Te_text_134 rfl (lv_at hl 3 rfl) ?_
            refine x_aload_n hx hb d_Te_text_135 rfl (lv_at hl 4 rfl) ?_
            refine lv_iload hx hb d_Te_text_136 (lv_at hl 0 rfl) ?_
            refine lv_iload hx hb d_Te_text_138 (lv_at hl 2 rfl) ?_
            obtain ⟨hO9, hf⟩ := ck_some hf
            obtain ⟨u10, r10, hc10, hf⟩ := bx_some hf
            refine xV0 (i := v0) (As := [va_rf (Option.map ad v1), .int r5.toInt32, .int (v6 + (-1))]) (rest := []) C0 hP hD hS ck_Te hO9 (c_Te_toWritePair N hc10) k_Te_toWritePair (wd_of 1365 (by decide +kernel) rfl) hi_Te_toWritePair hs_Te_toWritePair hini_Te rfl rfl hd_Te_toWritePair rfl rm_Te_text_Te_toWritePair hl.1 (Nat.le_of_ble_eq_true rfl) d_Te_text_140 rfl ⟨Nat.zero_le _, Nat.zero_le _⟩ (fun H locs hP hD hS => ?_)
            refine lv_istore (lv' := [(6, .int r10), (10, .int r5.toInt32), (8, .long r5), (0, .ref (ad v0)), (1, va_rf (Option.map ad v1)), (7, .int v7)]) hx hb d_Te_text_143 hl (by decide) (by first | rfl | simp [List.filter, cat_rf]) (fun ls hl => ?_)
            refine lv_goto (tgt := 168) hx hb d_Te_text_145 (by decide) ?_
            exact wb_Te_text_168 C0 hE N G hG _ _ _ _ _ _ hf H locs hP hD hS ls (lv_sub hl [3, 4, 0, 5] rfl)
          · rw [br_n _ hc7] at hf
            by_cases hc11 : r6 = 11
            · rw [br_p _ hc11] at hf
              refine lv_lookup (tgt := 148) hx hb d_Te_text_73 (by decide) (by rw [hc11] <;> rfl) (by decide) ?_
              refine lv_aload_n hx hb d_Te_text_148 rfl (lv_at hl 3 rfl) ?_
              refine x_aload_n hx hb d_Te_text_149 rfl (lv_at hl 4 rfl) ?_
              refine lv_iload hx hb d_Te_text_150 (lv_at hl 2 rfl) ?_
              refine lv_iconst (v := 1) hx hb d_Te_text_152 (by decide) ?_
              refine lv_isub hx hb d_Te_text_153 ?_
              obtain ⟨hO9, hf⟩ := ck_some hf
              obtain ⟨u11, r11, hc11, hf⟩ := bx_some hf
              refine xV0 (i := v0) (As := [va_rf (Option.map ad v1), .int ((v6 + (-1)) - 1)]) (rest := []) C0 hP hD hS ck_Te hO9 (c_Te_toWriteRest N hE hc11) k_Te_toWriteRest (wd_of 1369 (by decide +kernel) rfl) hi_Te_toWriteRest hs_Te_toWriteRest hini_Te rfl rfl hd_Te_toWriteRest rfl rm_Te_text_Te_toWriteRest hl.1 (Nat.le_of_ble_eq_true rfl) d_Te_text_154 rfl ⟨Nat.zero_le _, Nat.zero_le _⟩ (fun H locs hP hD hS => ?_)
              refine lv_istore (lv' := [(6, .int r11), (10, .int r5.toInt32), (8, .long r5), (0, .ref (ad v0)), (1, va_rf (Option.map ad v1)), (7, .int v7)]) hx hb d_Te_text_157 hl (by decide) (by first | rfl | simp [List.filter, cat_rf]) (fun ls hl => ?_)
              refine lv_goto (tgt := 168) hx hb d_Te_text_159 (by decide) ?_
              exact wb_Te_text_168 C0 hE N G hG _ _ _ _ _ _ hf H locs hP hD hS ls (lv_sub hl [3, 4, 0, 5] rfl)
            · rw [br_n _ hc11] at hf
              refine lv_lookup (off := 89) (tgt := 162) hx hb d_Te_text_73 (by decide) (by show Op.lookupswitch.offset [(5, 35), (7, 55), (11, 75)] _ _ = _; refine (lv_osw hc5 (by decide)).trans ?_; refine (lv_osw hc7 (by decide)).trans ?_; refine (lv_osw hc11 (by decide)).trans ?_; rfl) (by decide) ?_
              refine lv_aload_n hx hb d_Te_text_162 rfl (lv_at hl 3 rfl) ?_
              refine lv_lload hx hb d_Te_text_163 (lv_at hl 1 rfl) ?_
              obtain ⟨hO9, hf⟩ := ck_some hf
              obtain ⟨u12, r12, hc12, hf⟩ := bx_some hf
              refine xV0 (i := v0) (As := [.long r5]) (rest := []) C0 hP hD hS ck_Te hO9 (c_Te_writeAlone N hE hc12) k_Te_writeAlone (wd_of 1374 (by decide +kernel) rfl) hi_Te_writeAlone hs_Te_writeAlone hini_Te rfl rfl hd_Te_writeAlone rfl rm_Te_text_Te_writeAlone hl.1 (Nat.le_of_ble_eq_true rfl) d_Te_text_165 rfl ⟨Nat.zero_le _, Nat.zero_le _⟩ (fun H locs hP hD hS => ?_)
              exact wb_Te_text_168 C0 hE N G hG _ _ _ _ _ _ hf H locs hP hD hS ls (lv_sub hl [3, 4, 2, 5] rfl)
def fb_Te_text_0 (N : Nat) (G : (CS → Nat → Option Nat → Int32 → Int32 → Option (CS × Int32))) (u : CS) (v0 : Nat) (v1 : Option Nat) (v2 : Int64) (v4 : Option Nat) (v5 : Int32) : Option (CS × Int32) := bo (pF u v0 8 4 (.inr (.inr v4))) (fun w13 => bo (pF w13 v0 8 5 (.inl v5)) (fun w14 => bo (pF w14 v0 8 6 (.inl 0)) (fun w15 => bo (gR w15 v0 8 1) (fun r16 => bo r16 (fun j17 => bo (sJ w15 j17 (0 : Int32) v2) (fun w18 => G w18 (v0) (v1) (1) (0)))))))
set_option maxRecDepth 100000 in
set_option maxHeartbeats 4000000 in
theorem wb_Te_text_0 {p : Program} {l : Launch} {e : Env} {s : State} {m : MethodId} {args : Array Value} {below : List Frame} {meth : Method} {c : Code} {s0 : State} {b0 : Nat} {D : va_G} {cB cI cJ cZ cS cP : ClassId} {A : Nat → Prop} {sk sv : Nat → Nat} {ad : Nat → Nat} (C0 : XCx p s s0 b0 m args meth c R_Te b_Te_text 11 (some .int) D cB cI cJ cZ cS cP A) (hE : ENV s0 b0 sk sv) (N : Nat) (G : (CS → Nat → Option Nat → Int32 → Int32 → Option (CS × Int32))) (hG : (∀ (u : CS) (v0 : Nat) (v1 : Option Nat) (v6 : Int32) (v7 : Int32) (x : CS × Int32), G u v0 v1 v6 v7 = some x → ∀ (H : Heap) (locs : List Loc), va_P D cls (wC cB cI cJ cZ cS cP ad u) H → va_D A (wC cB cI cJ cZ cS cP ad u) → va_S A s.heap H locs → ∀ (ls : Array Slot), lv_has ls 11 [(0, .ref (ad v0)), (1, va_rf (Option.map ad v1)), (6, .int v6), (7, .int v7)] → W p l e rm_Te_text s m args below meth c H locs 0 0 (MQ below (xQ0 D cB cI cJ cZ cS cP A ad x.1 (some (.inl x.2))) args s 0 0 A) (F0 m 30 ls []))) : ∀ (u : CS) (v0 : Nat) (v1 : Option Nat) (v2 : Int64) (v4 : Option Nat) (v5 : Int32) (x : CS × Int32), fb_Te_text_0 N G u v0 v1 v2 v4 v5 = some x → ∀ (H : Heap) (locs : List Loc), va_P D cls (wC cB cI cJ cZ cS cP ad u) H → va_D A (wC cB cI cJ cZ cS cP ad u) → va_S A s.heap H locs → ∀ (ls : Array Slot), lv_has ls 11 [(0, .ref (ad v0)), (1, va_rf (Option.map ad v1)), (2, .long v2), (4, va_rf (Option.map ad v4)), (5, .int v5)] → W p l e rm_Te_text s m args below meth c H locs 0 0 (MQ below (xQ0 D cB cI cJ cZ cS cP A ad x.1 (some (.inl x.2))) args s 0 0 A) (F0 m 0 ls []) := by
  intro u v0 v1 v2 v4 v5 x hf H locs hP hD hS ls hl
  obtain ⟨hx, hb, hr, hml, ht, hown, hK, hA, hlocks, hA0, hO, hbs⟩ := id C0
  unfold fb_Te_text_0 at hf
  refine lv_aload_n hx hb d_Te_text_0 rfl (lv_at hl 0 rfl) ?_
  refine x_aload hx hb d_Te_text_1 (lv_at hl 3 rfl) ?_
  obtain ⟨w13, g13, hf⟩ := bo_some hf
  refine xp (i := v0) (k := 4) (v := (.inr (.inr v4))) hx hb ht hown ck_Te hK hP hD hS (by decide) fk_Te_55 rfl g13 (show narrow (.array .byte) (va_rf _) = va_rf _ from nr_arr _ _) (show fits (.array .byte) (va_rf _) = true from ft_arr _ _) d_Te_text_3 (fun H locs hP hD hS => ?_)
  refine lv_aload_n hx hb d_Te_text_6 rfl (lv_at hl 0 rfl) ?_
  refine lv_iload hx hb d_Te_text_7 (lv_at hl 4 rfl) ?_
  obtain ⟨w14, g14, hf⟩ := bo_some hf
  refine xp (i := v0) (k := 5) (v := (.inl v5)) hx hb ht hown ck_Te hK hP hD hS (by decide) fk_Te_59 rfl g14 rfl rfl d_Te_text_9 (fun H locs hP hD hS => ?_)
  refine lv_aload_n hx hb d_Te_text_12 rfl (lv_at hl 0 rfl) ?_
  refine lv_iconst (v := 0) hx hb d_Te_text_13 (by decide) ?_
  obtain ⟨w15, g15, hf⟩ := bo_some hf
  refine xp (i := v0) (k := 6) (v := (.inl 0)) hx hb ht hown ck_Te hK hP hD hS (by decide) fk_Te_63 rfl g15 rfl rfl d_Te_text_14 (fun H locs hP hD hS => ?_)
  refine lv_iconst (v := 1) hx hb d_Te_text_17 (by decide) ?_
  refine lv_istore (lv' := [(6, .int 1), (0, .ref (ad v0)), (1, va_rf (Option.map ad v1)), (2, .long v2), (4, va_rf (Option.map ad v4)), (5, .int v5)]) hx hb d_Te_text_18 hl (by decide) (by first | rfl | simp [List.filter, cat_rf]) (fun ls hl => ?_)
  refine lv_aload_n hx hb d_Te_text_20 rfl (lv_at hl 1 rfl) ?_
  obtain ⟨r16, g16, hf⟩ := bo_some hf
  refine xg_R (i := v0) (k := 1) hx hb ht hown ck_Te hK hP (by decide) fk_Te_15 g16 d_Te_text_21 ?_
  refine lv_iconst (v := 0) hx hb d_Te_text_24 (by decide) ?_
  refine lv_lload_n hx hb d_Te_text_25 rfl (lv_at hl 3 rfl) ?_
  obtain ⟨j17, ej17, hf⟩ := bo_some hf
  rw [ej17]
  obtain ⟨w18, g18, hf⟩ := bo_some hf
  refine xs_J (i := j17) hx hb hK hP hD hS g18 d_Te_text_26 (fun H locs hP hD hS => ?_)
  refine lv_iconst (v := 0) hx hb d_Te_text_27 (by decide) ?_
  refine lv_istore (lv' := [(7, .int 0), (6, .int 1), (0, .ref (ad v0)), (1, va_rf (Option.map ad v1)), (2, .long v2), (4, va_rf (Option.map ad v4)), (5, .int v5)]) hx hb d_Te_text_28 hl (by decide) (by first | rfl | simp [List.filter, cat_rf]) (fun ls hl => ?_)
  exact hG _ _ _ _ _ _ hf H locs hP hD hS ls (lv_sub hl [2, 3, 1, 0] rfl)
def gg_Te_text (N : Nat) : Nat → ((CS → Nat → Option Nat → Int32 → Int32 → Option (CS × Int32)))
  | 0 => fun _ _ _ _ _ => none
  | n + 1 => fb_Te_text_30 N (gg_Te_text N n)
theorem wg_Te_text {p : Program} {l : Launch} {e : Env} {s : State} {m : MethodId} {args : Array Value} {below : List Frame} {meth : Method} {c : Code} {s0 : State} {b0 : Nat} {D : va_G} {cB cI cJ cZ cS cP : ClassId} {A : Nat → Prop} {sk sv : Nat → Nat} {ad : Nat → Nat} (C0 : XCx p s s0 b0 m args meth c R_Te b_Te_text 11 (some .int) D cB cI cJ cZ cS cP A) (hE : ENV s0 b0 sk sv) (N : Nat) : ∀ n : Nat, (∀ (u : CS) (v0 : Nat) (v1 : Option Nat) (v6 : Int32) (v7 : Int32) (x : CS × Int32), gg_Te_text N n u v0 v1 v6 v7 = some x → ∀ (H : Heap) (locs : List Loc), va_P D cls (wC cB cI cJ cZ cS cP ad u) H → va_D A (wC cB cI cJ cZ cS cP ad u) → va_S A s.heap H locs → ∀ (ls : Array Slot), lv_has ls 11 [(0, .ref (ad v0)), (1, va_rf (Option.map ad v1)), (6, .int v6), (7, .int v7)] → W p l e rm_Te_text s m args below meth c H locs 0 0 (MQ below (xQ0 D cB cI cJ cZ cS cP A ad x.1 (some (.inl x.2))) args s 0 0 A) (F0 m 30 ls []))
  | 0 => (fun u v0 v1 v6 v7 x hf => by cases hf)
  | n + 1 => wb_Te_text_30 C0 hE N (gg_Te_text N n) (wg_Te_text C0 hE N n)
def fm_Te_text (N : Nat) (u : CS) (v0 : Nat) (v1 : Option Nat) (v2 : Int64) (v4 : Option Nat) (v5 : Int32) : Option (CS × Int32) := fb_Te_text_0 N (gg_Te_text N N) u v0 v1 v2 v4 v5
set_option maxRecDepth 100000 in
set_option maxHeartbeats 4000000 in
theorem c_Te_text (N : Nat) {l : Launch} {s0 : State} {b0 : Nat} {D : va_G} {cB cI cJ cZ cS cP : ClassId} {sk sv : Nat → Nat} {ad : Nat → Nat} {u : CS} {sz : Nat} {v0 : Nat} {v1 : Option Nat} {v2 : Int64} {v4 : Option Nat} {v5 : Int32} {x : CS × Int32} (hE : ENV s0 b0 sk sv) (hf : fm_Te_text N u v0 v1 v2 v4 v5 = some x) : Met l y_Te_text (wd_ws y_Te_text b_Te_text 11 (some .int)) rm_Te_text (xPc s0 b0 D cB cI cJ cZ cS cP ad u sz [.ref (ad v0), va_rf (Option.map ad v1), .long v2, va_rf (Option.map ad v4), .int v5]) (xQ0 D cB cI cJ cZ cS cP (xA cB cI cJ cZ cS cP ad u sz) ad x.1 (some (.inl x.2))) 0 0 (xA cB cI cJ cZ cS cP ad u sz) :=
  xMet (by decide) rfl (by cases v1 <;> cases v4 <;> exact Nat.le_of_ble_eq_true rfl) (fun p e s m below meth c ls hsz hnm C0 hP hD hS hl =>
    wb_Te_text_0 C0 hE N (gg_Te_text N N) (wg_Te_text C0 hE N N) u _ _ _ _ _ x hf s.heap [] hP hD hS ls (by rw [show lv_args 0 [.ref (ad v0), va_rf (Option.map ad v1), .long v2, va_rf (Option.map ad v4), .int v5] = [(0, .ref (ad v0)), (1, va_rf (Option.map ad v1)), (2, .long v2), (4, va_rf (Option.map ad v4)), (5, .int v5)] from by cases v1 <;> cases v4 <;> rfl] at hl; exact lv_sub hl [0, 1, 2, 3, 4] rfl))
