abbrev b_M_behind : ByteArray := prog_14_method_58_code
def y_M_behind : MethodName := ⟨R_M, "behind", "()I"⟩
def w_M_behind : List Cond := wd_ws y_M_behind b_M_behind 2 (some .int)
set_option maxRecDepth 100000 in
theorem k_M_behind : Cond.code y_M_behind b_M_behind 2 (some .int) ∈ wd_tbl := wd_of 2867 rfl rfl
theorem d_M_behind_0 : decode b_M_behind 0 = .ok (.aload_n 0, 1) := by decide +kernel
theorem d_M_behind_1 : decode b_M_behind 1 = .ok (.getfield 454, 3) := by decide +kernel
theorem d_M_behind_4 : decode b_M_behind 4 = .ok (.ifCond .eq 5, 3) := by decide +kernel
theorem d_M_behind_7 : decode b_M_behind 7 = .ok (.iconst (-1), 1) := by decide +kernel
theorem d_M_behind_8 : decode b_M_behind 8 = .ok (.ireturn, 1) := by decide +kernel
theorem d_M_behind_9 : decode b_M_behind 9 = .ok (.aload_n 0, 1) := by decide +kernel
theorem d_M_behind_10 : decode b_M_behind 10 = .ok (.invokevirtual 558, 3) := by decide +kernel
theorem d_M_behind_13 : decode b_M_behind 13 = .ok (.ifCond .ne 10, 3) := by decide +kernel
theorem d_M_behind_16 : decode b_M_behind 16 = .ok (.aload_n 0, 1) := by decide +kernel
theorem d_M_behind_17 : decode b_M_behind 17 = .ok (.iconst 2, 1) := by decide +kernel
theorem d_M_behind_18 : decode b_M_behind 18 = .ok (.invokevirtual 478, 3) := by decide +kernel
theorem d_M_behind_21 : decode b_M_behind 21 = .ok (.iconst (-1), 1) := by decide +kernel
theorem d_M_behind_22 : decode b_M_behind 22 = .ok (.ireturn, 1) := by decide +kernel
theorem d_M_behind_23 : decode b_M_behind 23 = .ok (.aload_n 0, 1) := by decide +kernel
theorem d_M_behind_24 : decode b_M_behind 24 = .ok (.invokevirtual 562, 3) := by decide +kernel
theorem d_M_behind_27 : decode b_M_behind 27 = .ok (.aload_n 0, 1) := by decide +kernel
theorem d_M_behind_28 : decode b_M_behind 28 = .ok (.invokevirtual 583, 3) := by decide +kernel
theorem d_M_behind_31 : decode b_M_behind 31 = .ok (.istore_n 1, 1) := by decide +kernel
theorem d_M_behind_32 : decode b_M_behind 32 = .ok (.aload_n 0, 1) := by decide +kernel
theorem d_M_behind_33 : decode b_M_behind 33 = .ok (.dup, 1) := by decide +kernel
theorem d_M_behind_34 : decode b_M_behind 34 = .ok (.getfield 484, 3) := by decide +kernel
theorem d_M_behind_37 : decode b_M_behind 37 = .ok (.iconst 1, 1) := by decide +kernel
theorem d_M_behind_38 : decode b_M_behind 38 = .ok (.isub, 1) := by decide +kernel
theorem d_M_behind_39 : decode b_M_behind 39 = .ok (.putfield 484, 3) := by decide +kernel
theorem d_M_behind_42 : decode b_M_behind 42 = .ok (.iload_n 1, 1) := by decide +kernel
theorem d_M_behind_43 : decode b_M_behind 43 = .ok (.ireturn, 1) := by decide +kernel
set_option maxRecDepth 100000 in
theorem hl_M_behind : Cond.methodLink R_M 601 y_M_behind ∈ wd_tbl := wd_of 2864 (by decide +kernel) rfl
set_option maxRecDepth 100000 in
theorem hi_M_behind : Cond.instanceMethod y_M_behind ∈ wd_tbl := wd_of 2866 (by decide +kernel) rfl
set_option maxRecDepth 100000 in
theorem hs_M_behind : Cond.selects R_M y_M_behind y_M_behind ∈ wd_tbl := wd_of 180 (by decide +kernel) rfl
theorem hd_M_behind : y_M_behind.cls = R_M ∧ y_M_behind.cls ≠ "java/lang/invoke/MethodHandle" ∧ y_M_behind.cls ≠ "java/lang/invoke/VarHandle" ∧ (parseMethodDescriptor y_M_behind.desc).map (fun d => d.parameters.length) = some 0 := by decide +kernel
abbrev b_M_matched : ByteArray := prog_14_method_59_code
def y_M_matched : MethodName := ⟨R_M, "matched", "(I)I"⟩
def w_M_matched : List Cond := wd_ws y_M_matched b_M_matched 7 (some .int)
set_option maxRecDepth 100000 in
theorem k_M_matched : Cond.code y_M_matched b_M_matched 7 (some .int) ∈ wd_tbl := wd_of 2859 rfl rfl
theorem d_M_matched_0 : decode b_M_matched 0 = .ok (.aload_n 0, 1) := by decide +kernel
theorem d_M_matched_1 : decode b_M_matched 1 = .ok (.getfield 457, 3) := by decide +kernel
theorem d_M_matched_4 : decode b_M_matched 4 = .ok (.istore_n 2, 1) := by decide +kernel
theorem d_M_matched_5 : decode b_M_matched 5 = .ok (.aload_n 0, 1) := by decide +kernel
theorem d_M_matched_6 : decode b_M_matched 6 = .ok (.invokevirtual 607, 3) := by decide +kernel
theorem d_M_matched_9 : decode b_M_matched 9 = .ok (.aload_n 0, 1) := by decide +kernel
theorem d_M_matched_10 : decode b_M_matched 10 = .ok (.iload_n 1, 1) := by decide +kernel
theorem d_M_matched_11 : decode b_M_matched 11 = .ok (.putfield 457, 3) := by decide +kernel
theorem d_M_matched_14 : decode b_M_matched 14 = .ok (.aload_n 0, 1) := by decide +kernel
theorem d_M_matched_15 : decode b_M_matched 15 = .ok (.dup, 1) := by decide +kernel
theorem d_M_matched_16 : decode b_M_matched 16 = .ok (.getfield 484, 3) := by decide +kernel
theorem d_M_matched_19 : decode b_M_matched 19 = .ok (.iconst 1, 1) := by decide +kernel
theorem d_M_matched_20 : decode b_M_matched 20 = .ok (.isub, 1) := by decide +kernel
theorem d_M_matched_21 : decode b_M_matched 21 = .ok (.putfield 484, 3) := by decide +kernel
theorem d_M_matched_24 : decode b_M_matched 24 = .ok (.aload_n 0, 1) := by decide +kernel
theorem d_M_matched_25 : decode b_M_matched 25 = .ok (.iconst 0, 1) := by decide +kernel
theorem d_M_matched_26 : decode b_M_matched 26 = .ok (.invokevirtual 535, 3) := by decide +kernel
theorem d_M_matched_29 : decode b_M_matched 29 = .ok (.istore_n 3, 1) := by decide +kernel
theorem d_M_matched_30 : decode b_M_matched 30 = .ok (.aload_n 0, 1) := by decide +kernel
theorem d_M_matched_31 : decode b_M_matched 31 = .ok (.dup, 1) := by decide +kernel
theorem d_M_matched_32 : decode b_M_matched 32 = .ok (.getfield 484, 3) := by decide +kernel
theorem d_M_matched_35 : decode b_M_matched 35 = .ok (.iconst 1, 1) := by decide +kernel
theorem d_M_matched_36 : decode b_M_matched 36 = .ok (.iadd, 1) := by decide +kernel
theorem d_M_matched_37 : decode b_M_matched 37 = .ok (.putfield 484, 3) := by decide +kernel
theorem d_M_matched_40 : decode b_M_matched 40 = .ok (.aload_n 0, 1) := by decide +kernel
theorem d_M_matched_41 : decode b_M_matched 41 = .ok (.getfield 454, 3) := by decide +kernel
theorem d_M_matched_44 : decode b_M_matched 44 = .ok (.ifCond .ne 11, 3) := by decide +kernel
theorem d_M_matched_47 : decode b_M_matched 47 = .ok (.aload_n 0, 1) := by decide +kernel
theorem d_M_matched_48 : decode b_M_matched 48 = .ok (.getfield 457, 3) := by decide +kernel
theorem d_M_matched_51 : decode b_M_matched 51 = .ok (.iload_n 2, 1) := by decide +kernel
theorem d_M_matched_52 : decode b_M_matched 52 = .ok (.if_icmp .eq 20, 3) := by decide +kernel
theorem d_M_matched_55 : decode b_M_matched 55 = .ok (.aload_n 0, 1) := by decide +kernel
theorem d_M_matched_56 : decode b_M_matched 56 = .ok (.iconst 0, 1) := by decide +kernel
theorem d_M_matched_57 : decode b_M_matched 57 = .ok (.putfield 454, 3) := by decide +kernel
theorem d_M_matched_60 : decode b_M_matched 60 = .ok (.aload_n 0, 1) := by decide +kernel
theorem d_M_matched_61 : decode b_M_matched 61 = .ok (.iload_n 2, 1) := by decide +kernel
theorem d_M_matched_62 : decode b_M_matched 62 = .ok (.putfield 457, 3) := by decide +kernel
theorem d_M_matched_65 : decode b_M_matched 65 = .ok (.aload_n 0, 1) := by decide +kernel
theorem d_M_matched_66 : decode b_M_matched 66 = .ok (.iconst 2, 1) := by decide +kernel
theorem d_M_matched_67 : decode b_M_matched 67 = .ok (.invokevirtual 478, 3) := by decide +kernel
theorem d_M_matched_70 : decode b_M_matched 70 = .ok (.iconst (-1), 1) := by decide +kernel
theorem d_M_matched_71 : decode b_M_matched 71 = .ok (.ireturn, 1) := by decide +kernel
theorem d_M_matched_72 : decode b_M_matched 72 = .ok (.iconst 0, 1) := by decide +kernel
theorem d_M_matched_73 : decode b_M_matched 73 = .ok (.istore 4, 2) := by decide +kernel
theorem d_M_matched_75 : decode b_M_matched 75 = .ok (.iload 4, 2) := by decide +kernel
theorem d_M_matched_77 : decode b_M_matched 77 = .ok (.aload_n 0, 1) := by decide +kernel
theorem d_M_matched_78 : decode b_M_matched 78 = .ok (.getfield 493, 3) := by decide +kernel
theorem d_M_matched_81 : decode b_M_matched 81 = .ok (.if_icmp .gt 23, 3) := by decide +kernel
theorem d_M_matched_84 : decode b_M_matched 84 = .ok (.aload_n 0, 1) := by decide +kernel
theorem d_M_matched_85 : decode b_M_matched 85 = .ok (.getfield 174, 3) := by decide +kernel
theorem d_M_matched_88 : decode b_M_matched 88 = .ok (.iload 4, 2) := by decide +kernel
theorem d_M_matched_90 : decode b_M_matched 90 = .ok (.aload_n 0, 1) := by decide +kernel
theorem d_M_matched_91 : decode b_M_matched 91 = .ok (.getfield 162, 3) := by decide +kernel
theorem d_M_matched_94 : decode b_M_matched 94 = .ok (.iload 4, 2) := by decide +kernel
theorem d_M_matched_96 : decode b_M_matched 96 = .ok (.iaload, 1) := by decide +kernel
theorem d_M_matched_97 : decode b_M_matched 97 = .ok (.iastore, 1) := by decide +kernel
theorem d_M_matched_98 : decode b_M_matched 98 = .ok (.iinc 4 1, 3) := by decide +kernel
theorem d_M_matched_101 : decode b_M_matched 101 = .ok (.goto (-26), 3) := by decide +kernel
theorem d_M_matched_104 : decode b_M_matched 104 = .ok (.aload_n 0, 1) := by decide +kernel
theorem d_M_matched_105 : decode b_M_matched 105 = .ok (.invokevirtual 607, 3) := by decide +kernel
theorem d_M_matched_108 : decode b_M_matched 108 = .ok (.iconst 0, 1) := by decide +kernel
theorem d_M_matched_109 : decode b_M_matched 109 = .ok (.istore 4, 2) := by decide +kernel
theorem d_M_matched_111 : decode b_M_matched 111 = .ok (.iload 4, 2) := by decide +kernel
theorem d_M_matched_113 : decode b_M_matched 113 = .ok (.aload_n 0, 1) := by decide +kernel
theorem d_M_matched_114 : decode b_M_matched 114 = .ok (.getfield 493, 3) := by decide +kernel
theorem d_M_matched_117 : decode b_M_matched 117 = .ok (.if_icmp .gt 23, 3) := by decide +kernel
theorem d_M_matched_120 : decode b_M_matched 120 = .ok (.aload_n 0, 1) := by decide +kernel
theorem d_M_matched_121 : decode b_M_matched 121 = .ok (.getfield 162, 3) := by decide +kernel
theorem d_M_matched_124 : decode b_M_matched 124 = .ok (.iload 4, 2) := by decide +kernel
theorem d_M_matched_126 : decode b_M_matched 126 = .ok (.aload_n 0, 1) := by decide +kernel
theorem d_M_matched_127 : decode b_M_matched 127 = .ok (.getfield 174, 3) := by decide +kernel
theorem d_M_matched_130 : decode b_M_matched 130 = .ok (.iload 4, 2) := by decide +kernel
theorem d_M_matched_132 : decode b_M_matched 132 = .ok (.iaload, 1) := by decide +kernel
theorem d_M_matched_133 : decode b_M_matched 133 = .ok (.iastore, 1) := by decide +kernel
theorem d_M_matched_134 : decode b_M_matched 134 = .ok (.iinc 4 1, 3) := by decide +kernel
theorem d_M_matched_137 : decode b_M_matched 137 = .ok (.goto (-26), 3) := by decide +kernel
theorem d_M_matched_140 : decode b_M_matched 140 = .ok (.aload_n 0, 1) := by decide +kernel
theorem d_M_matched_141 : decode b_M_matched 141 = .ok (.getfield 517, 3) := by decide +kernel
theorem d_M_matched_144 : decode b_M_matched 144 = .ok (.ifCond .eq 10, 3) := by decide +kernel
theorem d_M_matched_147 : decode b_M_matched 147 = .ok (.aload_n 0, 1) := by decide +kernel
theorem d_M_matched_148 : decode b_M_matched 148 = .ok (.bipush 7, 2) := by decide +kernel
theorem d_M_matched_150 : decode b_M_matched 150 = .ok (.iload_n 2, 1) := by decide +kernel
theorem d_M_matched_151 : decode b_M_matched 151 = .ok (.invokevirtual 526, 3) := by decide +kernel
theorem d_M_matched_154 : decode b_M_matched 154 = .ok (.aload_n 0, 1) := by decide +kernel
theorem d_M_matched_155 : decode b_M_matched 155 = .ok (.iload_n 2, 1) := by decide +kernel
theorem d_M_matched_156 : decode b_M_matched 156 = .ok (.iconst 1, 1) := by decide +kernel
theorem d_M_matched_157 : decode b_M_matched 157 = .ok (.iadd, 1) := by decide +kernel
theorem d_M_matched_158 : decode b_M_matched 158 = .ok (.putfield 457, 3) := by decide +kernel
theorem d_M_matched_161 : decode b_M_matched 161 = .ok (.aload_n 0, 1) := by decide +kernel
theorem d_M_matched_162 : decode b_M_matched 162 = .ok (.invokevirtual 601, 3) := by decide +kernel
theorem d_M_matched_165 : decode b_M_matched 165 = .ok (.istore 4, 2) := by decide +kernel
theorem d_M_matched_167 : decode b_M_matched 167 = .ok (.aload_n 0, 1) := by decide +kernel
theorem d_M_matched_168 : decode b_M_matched 168 = .ok (.getfield 454, 3) := by decide +kernel
theorem d_M_matched_171 : decode b_M_matched 171 = .ok (.ifCond .eq 5, 3) := by decide +kernel
theorem d_M_matched_174 : decode b_M_matched 174 = .ok (.iconst (-1), 1) := by decide +kernel
theorem d_M_matched_175 : decode b_M_matched 175 = .ok (.ireturn, 1) := by decide +kernel
theorem d_M_matched_176 : decode b_M_matched 176 = .ok (.aload_n 0, 1) := by decide +kernel
theorem d_M_matched_177 : decode b_M_matched 177 = .ok (.getfield 457, 3) := by decide +kernel
theorem d_M_matched_180 : decode b_M_matched 180 = .ok (.istore 5, 2) := by decide +kernel
theorem d_M_matched_182 : decode b_M_matched 182 = .ok (.aload_n 0, 1) := by decide +kernel
theorem d_M_matched_183 : decode b_M_matched 183 = .ok (.iload_n 1, 1) := by decide +kernel
theorem d_M_matched_184 : decode b_M_matched 184 = .ok (.putfield 457, 3) := by decide +kernel
theorem d_M_matched_187 : decode b_M_matched 187 = .ok (.aload_n 0, 1) := by decide +kernel
theorem d_M_matched_188 : decode b_M_matched 188 = .ok (.dup, 1) := by decide +kernel
theorem d_M_matched_189 : decode b_M_matched 189 = .ok (.getfield 484, 3) := by decide +kernel
theorem d_M_matched_192 : decode b_M_matched 192 = .ok (.iconst 1, 1) := by decide +kernel
theorem d_M_matched_193 : decode b_M_matched 193 = .ok (.isub, 1) := by decide +kernel
theorem d_M_matched_194 : decode b_M_matched 194 = .ok (.putfield 484, 3) := by decide +kernel
theorem d_M_matched_197 : decode b_M_matched 197 = .ok (.aload_n 0, 1) := by decide +kernel
theorem d_M_matched_198 : decode b_M_matched 198 = .ok (.iconst 0, 1) := by decide +kernel
theorem d_M_matched_199 : decode b_M_matched 199 = .ok (.invokevirtual 535, 3) := by decide +kernel
theorem d_M_matched_202 : decode b_M_matched 202 = .ok (.istore_n 3, 1) := by decide +kernel
theorem d_M_matched_203 : decode b_M_matched 203 = .ok (.aload_n 0, 1) := by decide +kernel
theorem d_M_matched_204 : decode b_M_matched 204 = .ok (.dup, 1) := by decide +kernel
theorem d_M_matched_205 : decode b_M_matched 205 = .ok (.getfield 484, 3) := by decide +kernel
theorem d_M_matched_208 : decode b_M_matched 208 = .ok (.iconst 1, 1) := by decide +kernel
theorem d_M_matched_209 : decode b_M_matched 209 = .ok (.iadd, 1) := by decide +kernel
theorem d_M_matched_210 : decode b_M_matched 210 = .ok (.putfield 484, 3) := by decide +kernel
theorem d_M_matched_213 : decode b_M_matched 213 = .ok (.aload_n 0, 1) := by decide +kernel
theorem d_M_matched_214 : decode b_M_matched 214 = .ok (.iload 5, 2) := by decide +kernel
theorem d_M_matched_216 : decode b_M_matched 216 = .ok (.putfield 457, 3) := by decide +kernel
theorem d_M_matched_219 : decode b_M_matched 219 = .ok (.aload_n 0, 1) := by decide +kernel
theorem d_M_matched_220 : decode b_M_matched 220 = .ok (.bipush 16, 2) := by decide +kernel
theorem d_M_matched_222 : decode b_M_matched 222 = .ok (.iload_n 2, 1) := by decide +kernel
theorem d_M_matched_223 : decode b_M_matched 223 = .ok (.invokevirtual 500, 3) := by decide +kernel
theorem d_M_matched_226 : decode b_M_matched 226 = .ok (.istore 6, 2) := by decide +kernel
theorem d_M_matched_228 : decode b_M_matched 228 = .ok (.aload_n 0, 1) := by decide +kernel
theorem d_M_matched_229 : decode b_M_matched 229 = .ok (.getfield 63, 3) := by decide +kernel
theorem d_M_matched_232 : decode b_M_matched 232 = .ok (.iload 6, 2) := by decide +kernel
theorem d_M_matched_234 : decode b_M_matched 234 = .ok (.iload_n 3, 1) := by decide +kernel
theorem d_M_matched_235 : decode b_M_matched 235 = .ok (.iastore, 1) := by decide +kernel
theorem d_M_matched_236 : decode b_M_matched 236 = .ok (.iload 6, 2) := by decide +kernel
theorem d_M_matched_238 : decode b_M_matched 238 = .ok (.ireturn, 1) := by decide +kernel
set_option maxRecDepth 100000 in
theorem hl_M_matched : Cond.methodLink R_M 598 y_M_matched ∈ wd_tbl := wd_of 2856 (by decide +kernel) rfl
set_option maxRecDepth 100000 in
theorem hi_M_matched : Cond.instanceMethod y_M_matched ∈ wd_tbl := wd_of 2858 (by decide +kernel) rfl
set_option maxRecDepth 100000 in
theorem hs_M_matched : Cond.selects R_M y_M_matched y_M_matched ∈ wd_tbl := wd_of 178 (by decide +kernel) rfl
theorem hd_M_matched : y_M_matched.cls = R_M ∧ y_M_matched.cls ≠ "java/lang/invoke/MethodHandle" ∧ y_M_matched.cls ≠ "java/lang/invoke/VarHandle" ∧ (parseMethodDescriptor y_M_matched.desc).map (fun d => d.parameters.length) = some 1 := by decide +kernel
abbrev b_M_parts0 : ByteArray := prog_14_method_68_code
def y_M_parts0 : MethodName := ⟨R_M, "parts", "(ZI)I"⟩
def w_M_parts0 : List Cond := wd_ws y_M_parts0 b_M_parts0 10 (some .int)
set_option maxRecDepth 100000 in
theorem k_M_parts0 : Cond.code y_M_parts0 b_M_parts0 10 (some .int) ∈ wd_tbl := wd_of 2847 rfl rfl
theorem d_M_parts0_0 : decode b_M_parts0 0 = .ok (.iconst (-1), 1) := by decide +kernel
theorem d_M_parts0_1 : decode b_M_parts0 1 = .ok (.istore_n 3, 1) := by decide +kernel
theorem d_M_parts0_2 : decode b_M_parts0 2 = .ok (.iconst (-1), 1) := by decide +kernel
theorem d_M_parts0_3 : decode b_M_parts0 3 = .ok (.istore 4, 2) := by decide +kernel
theorem d_M_parts0_5 : decode b_M_parts0 5 = .ok (.aload_n 0, 1) := by decide +kernel
theorem d_M_parts0_6 : decode b_M_parts0 6 = .ok (.getfield 454, 3) := by decide +kernel
theorem d_M_parts0_9 : decode b_M_parts0 9 = .ok (.ifCond .ne 7, 3) := by decide +kernel
theorem d_M_parts0_12 : decode b_M_parts0 12 = .ok (.iconst 1, 1) := by decide +kernel
theorem d_M_parts0_13 : decode b_M_parts0 13 = .ok (.goto 4, 3) := by decide +kernel
theorem d_M_parts0_16 : decode b_M_parts0 16 = .ok (.iconst 0, 1) := by decide +kernel
theorem d_M_parts0_17 : decode b_M_parts0 17 = .ok (.istore 5, 2) := by decide +kernel
theorem d_M_parts0_19 : decode b_M_parts0 19 = .ok (.iload 5, 2) := by decide +kernel
theorem d_M_parts0_21 : decode b_M_parts0 21 = .ok (.ifCond .eq 208, 3) := by decide +kernel
theorem d_M_parts0_24 : decode b_M_parts0 24 = .ok (.aload_n 0, 1) := by decide +kernel
theorem d_M_parts0_25 : decode b_M_parts0 25 = .ok (.getfield 505, 3) := by decide +kernel
theorem d_M_parts0_28 : decode b_M_parts0 28 = .ok (.istore 6, 2) := by decide +kernel
theorem d_M_parts0_30 : decode b_M_parts0 30 = .ok (.aload_n 0, 1) := by decide +kernel
theorem d_M_parts0_31 : decode b_M_parts0 31 = .ok (.dup, 1) := by decide +kernel
theorem d_M_parts0_32 : decode b_M_parts0 32 = .ok (.getfield 505, 3) := by decide +kernel
theorem d_M_parts0_35 : decode b_M_parts0 35 = .ok (.iconst 1, 1) := by decide +kernel
theorem d_M_parts0_36 : decode b_M_parts0 36 = .ok (.iadd, 1) := by decide +kernel
theorem d_M_parts0_37 : decode b_M_parts0 37 = .ok (.putfield 505, 3) := by decide +kernel
theorem d_M_parts0_40 : decode b_M_parts0 40 = .ok (.aload_n 0, 1) := by decide +kernel
theorem d_M_parts0_41 : decode b_M_parts0 41 = .ok (.getfield 116, 3) := by decide +kernel
theorem d_M_parts0_44 : decode b_M_parts0 44 = .ok (.iload 6, 2) := by decide +kernel
theorem d_M_parts0_46 : decode b_M_parts0 46 = .ok (.aload_n 0, 1) := by decide +kernel
theorem d_M_parts0_47 : decode b_M_parts0 47 = .ok (.getfield 457, 3) := by decide +kernel
theorem d_M_parts0_50 : decode b_M_parts0 50 = .ok (.iastore, 1) := by decide +kernel
theorem d_M_parts0_51 : decode b_M_parts0 51 = .ok (.aload_n 0, 1) := by decide +kernel
theorem d_M_parts0_52 : decode b_M_parts0 52 = .ok (.getfield 119, 3) := by decide +kernel
theorem d_M_parts0_55 : decode b_M_parts0 55 = .ok (.iload 6, 2) := by decide +kernel
theorem d_M_parts0_57 : decode b_M_parts0 57 = .ok (.iconst (-1), 1) := by decide +kernel
theorem d_M_parts0_58 : decode b_M_parts0 58 = .ok (.iastore, 1) := by decide +kernel
theorem d_M_parts0_59 : decode b_M_parts0 59 = .ok (.aload_n 0, 1) := by decide +kernel
theorem d_M_parts0_60 : decode b_M_parts0 60 = .ok (.getfield 107, 3) := by decide +kernel
theorem d_M_parts0_63 : decode b_M_parts0 63 = .ok (.iload 6, 2) := by decide +kernel
theorem d_M_parts0_65 : decode b_M_parts0 65 = .ok (.iload_n 1, 1) := by decide +kernel
theorem d_M_parts0_66 : decode b_M_parts0 66 = .ok (.ifCond .eq 7, 3) := by decide +kernel
theorem d_M_parts0_69 : decode b_M_parts0 69 = .ok (.iconst 0, 1) := by decide +kernel
theorem d_M_parts0_70 : decode b_M_parts0 70 = .ok (.goto 4, 3) := by decide +kernel
theorem d_M_parts0_73 : decode b_M_parts0 73 = .ok (.iconst 1, 1) := by decide +kernel
theorem d_M_parts0_74 : decode b_M_parts0 74 = .ok (.iastore, 1) := by decide +kernel
theorem d_M_parts0_75 : decode b_M_parts0 75 = .ok (.aload_n 0, 1) := by decide +kernel
theorem d_M_parts0_76 : decode b_M_parts0 76 = .ok (.getfield 153, 3) := by decide +kernel
theorem d_M_parts0_79 : decode b_M_parts0 79 = .ok (.aload_n 0, 1) := by decide +kernel
theorem d_M_parts0_80 : decode b_M_parts0 80 = .ok (.getfield 493, 3) := by decide +kernel
theorem d_M_parts0_83 : decode b_M_parts0 83 = .ok (.iaload, 1) := by decide +kernel
theorem d_M_parts0_84 : decode b_M_parts0 84 = .ok (.istore 7, 2) := by decide +kernel
theorem d_M_parts0_86 : decode b_M_parts0 86 = .ok (.aload_n 0, 1) := by decide +kernel
theorem d_M_parts0_87 : decode b_M_parts0 87 = .ok (.getfield 104, 3) := by decide +kernel
theorem d_M_parts0_90 : decode b_M_parts0 90 = .ok (.iload 6, 2) := by decide +kernel
theorem d_M_parts0_92 : decode b_M_parts0 92 = .ok (.iload_n 1, 1) := by decide +kernel
theorem d_M_parts0_93 : decode b_M_parts0 93 = .ok (.ifCond .eq 7, 3) := by decide +kernel
theorem d_M_parts0_96 : decode b_M_parts0 96 = .ok (.iconst (-1), 1) := by decide +kernel
theorem d_M_parts0_97 : decode b_M_parts0 97 = .ok (.goto 8, 3) := by decide +kernel
theorem d_M_parts0_100 : decode b_M_parts0 100 = .ok (.aload_n 0, 1) := by decide +kernel
theorem d_M_parts0_101 : decode b_M_parts0 101 = .ok (.iconst 0, 1) := by decide +kernel
theorem d_M_parts0_102 : decode b_M_parts0 102 = .ok (.invokevirtual 535, 3) := by decide +kernel
theorem d_M_parts0_105 : decode b_M_parts0 105 = .ok (.iastore, 1) := by decide +kernel
theorem d_M_parts0_106 : decode b_M_parts0 106 = .ok (.aload_n 0, 1) := by decide +kernel
theorem d_M_parts0_107 : decode b_M_parts0 107 = .ok (.getfield 110, 3) := by decide +kernel
theorem d_M_parts0_110 : decode b_M_parts0 110 = .ok (.iload 6, 2) := by decide +kernel
theorem d_M_parts0_112 : decode b_M_parts0 112 = .ok (.iload_n 1, 1) := by decide +kernel
theorem d_M_parts0_113 : decode b_M_parts0 113 = .ok (.ifCond .eq 10, 3) := by decide +kernel
theorem d_M_parts0_116 : decode b_M_parts0 116 = .ok (.aload_n 0, 1) := by decide +kernel
theorem d_M_parts0_117 : decode b_M_parts0 117 = .ok (.invokevirtual 552, 3) := by decide +kernel
theorem d_M_parts0_120 : decode b_M_parts0 120 = .ok (.goto 7, 3) := by decide +kernel
theorem d_M_parts0_123 : decode b_M_parts0 123 = .ok (.aload_n 0, 1) := by decide +kernel
theorem d_M_parts0_124 : decode b_M_parts0 124 = .ok (.invokevirtual 539, 3) := by decide +kernel
theorem d_M_parts0_127 : decode b_M_parts0 127 = .ok (.iastore, 1) := by decide +kernel
theorem d_M_parts0_128 : decode b_M_parts0 128 = .ok (.aload_n 0, 1) := by decide +kernel
theorem d_M_parts0_129 : decode b_M_parts0 129 = .ok (.bipush 10, 2) := by decide +kernel
theorem d_M_parts0_131 : decode b_M_parts0 131 = .ok (.invokevirtual 529, 3) := by decide +kernel
theorem d_M_parts0_134 : decode b_M_parts0 134 = .ok (.aload_n 0, 1) := by decide +kernel
theorem d_M_parts0_135 : decode b_M_parts0 135 = .ok (.getfield 113, 3) := by decide +kernel
theorem d_M_parts0_138 : decode b_M_parts0 138 = .ok (.iload 6, 2) := by decide +kernel
theorem d_M_parts0_140 : decode b_M_parts0 140 = .ok (.aload_n 0, 1) := by decide +kernel
theorem d_M_parts0_141 : decode b_M_parts0 141 = .ok (.getfield 448, 3) := by decide +kernel
theorem d_M_parts0_144 : decode b_M_parts0 144 = .ok (.iastore, 1) := by decide +kernel
theorem d_M_parts0_145 : decode b_M_parts0 145 = .ok (.aload_n 0, 1) := by decide +kernel
theorem d_M_parts0_146 : decode b_M_parts0 146 = .ok (.invokevirtual 543, 3) := by decide +kernel
theorem d_M_parts0_149 : decode b_M_parts0 149 = .ok (.istore 8, 2) := by decide +kernel
theorem d_M_parts0_151 : decode b_M_parts0 151 = .ok (.aload_n 0, 1) := by decide +kernel
theorem d_M_parts0_152 : decode b_M_parts0 152 = .ok (.iload_n 2, 1) := by decide +kernel
theorem d_M_parts0_153 : decode b_M_parts0 153 = .ok (.iload 8, 2) := by decide +kernel
theorem d_M_parts0_155 : decode b_M_parts0 155 = .ok (.invokevirtual 549, 3) := by decide +kernel
theorem d_M_parts0_158 : decode b_M_parts0 158 = .ok (.aload_n 0, 1) := by decide +kernel
theorem d_M_parts0_159 : decode b_M_parts0 159 = .ok (.iload 7, 2) := by decide +kernel
theorem d_M_parts0_161 : decode b_M_parts0 161 = .ok (.invokevirtual 580, 3) := by decide +kernel
theorem d_M_parts0_164 : decode b_M_parts0 164 = .ok (.aload_n 0, 1) := by decide +kernel
theorem d_M_parts0_165 : decode b_M_parts0 165 = .ok (.bipush 26, 2) := by decide +kernel
theorem d_M_parts0_167 : decode b_M_parts0 167 = .ok (.aload_n 0, 1) := by decide +kernel
theorem d_M_parts0_168 : decode b_M_parts0 168 = .ok (.getfield 457, 3) := by decide +kernel
theorem d_M_parts0_171 : decode b_M_parts0 171 = .ok (.invokevirtual 500, 3) := by decide +kernel
theorem d_M_parts0_174 : decode b_M_parts0 174 = .ok (.istore 9, 2) := by decide +kernel
theorem d_M_parts0_176 : decode b_M_parts0 176 = .ok (.aload_n 0, 1) := by decide +kernel
theorem d_M_parts0_177 : decode b_M_parts0 177 = .ok (.getfield 63, 3) := by decide +kernel
theorem d_M_parts0_180 : decode b_M_parts0 180 = .ok (.iload 9, 2) := by decide +kernel
theorem d_M_parts0_182 : decode b_M_parts0 182 = .ok (.bipush (-2), 2) := by decide +kernel
theorem d_M_parts0_184 : decode b_M_parts0 184 = .ok (.iastore, 1) := by decide +kernel
theorem d_M_parts0_185 : decode b_M_parts0 185 = .ok (.aload_n 0, 1) := by decide +kernel
theorem d_M_parts0_186 : decode b_M_parts0 186 = .ok (.getfield 66, 3) := by decide +kernel
theorem d_M_parts0_189 : decode b_M_parts0 189 = .ok (.iload 9, 2) := by decide +kernel
theorem d_M_parts0_191 : decode b_M_parts0 191 = .ok (.iload_n 2, 1) := by decide +kernel
theorem d_M_parts0_192 : decode b_M_parts0 192 = .ok (.iastore, 1) := by decide +kernel
theorem d_M_parts0_193 : decode b_M_parts0 193 = .ok (.iload 4, 2) := by decide +kernel
theorem d_M_parts0_195 : decode b_M_parts0 195 = .ok (.iconst (-1), 1) := by decide +kernel
theorem d_M_parts0_196 : decode b_M_parts0 196 = .ok (.if_icmp .ne 9, 3) := by decide +kernel
theorem d_M_parts0_199 : decode b_M_parts0 199 = .ok (.iload 6, 2) := by decide +kernel
theorem d_M_parts0_201 : decode b_M_parts0 201 = .ok (.istore_n 3, 1) := by decide +kernel
theorem d_M_parts0_202 : decode b_M_parts0 202 = .ok (.goto 12, 3) := by decide +kernel
theorem d_M_parts0_205 : decode b_M_parts0 205 = .ok (.aload_n 0, 1) := by decide +kernel
theorem d_M_parts0_206 : decode b_M_parts0 206 = .ok (.getfield 119, 3) := by decide +kernel
theorem d_M_parts0_209 : decode b_M_parts0 209 = .ok (.iload 4, 2) := by decide +kernel
theorem d_M_parts0_211 : decode b_M_parts0 211 = .ok (.iload 6, 2) := by decide +kernel
theorem d_M_parts0_213 : decode b_M_parts0 213 = .ok (.iastore, 1) := by decide +kernel
theorem d_M_parts0_214 : decode b_M_parts0 214 = .ok (.iload 6, 2) := by decide +kernel
theorem d_M_parts0_216 : decode b_M_parts0 216 = .ok (.istore 4, 2) := by decide +kernel
theorem d_M_parts0_218 : decode b_M_parts0 218 = .ok (.aload_n 0, 1) := by decide +kernel
theorem d_M_parts0_219 : decode b_M_parts0 219 = .ok (.bipush 7, 2) := by decide +kernel
theorem d_M_parts0_221 : decode b_M_parts0 221 = .ok (.invokevirtual 475, 3) := by decide +kernel
theorem d_M_parts0_224 : decode b_M_parts0 224 = .ok (.istore 5, 2) := by decide +kernel
theorem d_M_parts0_226 : decode b_M_parts0 226 = .ok (.goto (-207), 3) := by decide +kernel
theorem d_M_parts0_229 : decode b_M_parts0 229 = .ok (.iload_n 3, 1) := by decide +kernel
theorem d_M_parts0_230 : decode b_M_parts0 230 = .ok (.ireturn, 1) := by decide +kernel
set_option maxRecDepth 100000 in
theorem hl_M_parts0 : Cond.methodLink R_M 647 y_M_parts0 ∈ wd_tbl := wd_of 2844 (by decide +kernel) rfl
set_option maxRecDepth 100000 in
theorem hi_M_parts0 : Cond.instanceMethod y_M_parts0 ∈ wd_tbl := wd_of 2846 (by decide +kernel) rfl
set_option maxRecDepth 100000 in
theorem hs_M_parts0 : Cond.selects R_M y_M_parts0 y_M_parts0 ∈ wd_tbl := wd_of 175 (by decide +kernel) rfl
theorem hd_M_parts0 : y_M_parts0.cls = R_M ∧ y_M_parts0.cls ≠ "java/lang/invoke/MethodHandle" ∧ y_M_parts0.cls ≠ "java/lang/invoke/VarHandle" ∧ (parseMethodDescriptor y_M_parts0.desc).map (fun d => d.parameters.length) = some 2 := by decide +kernel
abbrev b_M_receive : ByteArray := prog_14_method_70_code
def y_M_receive : MethodName := ⟨R_M, "receive", "(II)I"⟩
def w_M_receive : List Cond := wd_ws y_M_receive b_M_receive 9 (some .int)
set_option maxRecDepth 100000 in
theorem k_M_receive : Cond.code y_M_receive b_M_receive 9 (some .int) ∈ wd_tbl := wd_of 2843 rfl rfl
theorem d_M_receive_0 : decode b_M_receive 0 = .ok (.aload_n 0, 1) := by decide +kernel
theorem d_M_receive_1 : decode b_M_receive 1 = .ok (.bipush 26, 2) := by decide +kernel
theorem d_M_receive_3 : decode b_M_receive 3 = .ok (.iload_n 1, 1) := by decide +kernel
theorem d_M_receive_4 : decode b_M_receive 4 = .ok (.invokevirtual 500, 3) := by decide +kernel
theorem d_M_receive_7 : decode b_M_receive 7 = .ok (.istore_n 3, 1) := by decide +kernel
theorem d_M_receive_8 : decode b_M_receive 8 = .ok (.aload_n 0, 1) := by decide +kernel
theorem d_M_receive_9 : decode b_M_receive 9 = .ok (.bipush 27, 2) := by decide +kernel
theorem d_M_receive_11 : decode b_M_receive 11 = .ok (.iload_n 1, 1) := by decide +kernel
theorem d_M_receive_12 : decode b_M_receive 12 = .ok (.invokevirtual 500, 3) := by decide +kernel
theorem d_M_receive_15 : decode b_M_receive 15 = .ok (.istore 4, 2) := by decide +kernel
theorem d_M_receive_17 : decode b_M_receive 17 = .ok (.aload_n 0, 1) := by decide +kernel
theorem d_M_receive_18 : decode b_M_receive 18 = .ok (.getfield 69, 3) := by decide +kernel
theorem d_M_receive_21 : decode b_M_receive 21 = .ok (.iload 4, 2) := by decide +kernel
theorem d_M_receive_23 : decode b_M_receive 23 = .ok (.iload_n 2, 1) := by decide +kernel
theorem d_M_receive_24 : decode b_M_receive 24 = .ok (.iastore, 1) := by decide +kernel
theorem d_M_receive_25 : decode b_M_receive 25 = .ok (.aload_n 0, 1) := by decide +kernel
theorem d_M_receive_26 : decode b_M_receive 26 = .ok (.getfield 82, 3) := by decide +kernel
theorem d_M_receive_29 : decode b_M_receive 29 = .ok (.iload 4, 2) := by decide +kernel
theorem d_M_receive_31 : decode b_M_receive 31 = .ok (.iconst (-1), 1) := by decide +kernel
theorem d_M_receive_32 : decode b_M_receive 32 = .ok (.iastore, 1) := by decide +kernel
theorem d_M_receive_33 : decode b_M_receive 33 = .ok (.iconst (-1), 1) := by decide +kernel
theorem d_M_receive_34 : decode b_M_receive 34 = .ok (.istore 5, 2) := by decide +kernel
theorem d_M_receive_36 : decode b_M_receive 36 = .ok (.aload_n 0, 1) := by decide +kernel
theorem d_M_receive_37 : decode b_M_receive 37 = .ok (.iconst 0, 1) := by decide +kernel
theorem d_M_receive_38 : decode b_M_receive 38 = .ok (.invokevirtual 472, 3) := by decide +kernel
theorem d_M_receive_41 : decode b_M_receive 41 = .ok (.ifCond .ne 26, 3) := by decide +kernel
theorem d_M_receive_44 : decode b_M_receive 44 = .ok (.aload_n 0, 1) := by decide +kernel
theorem d_M_receive_45 : decode b_M_receive 45 = .ok (.bipush 6, 2) := by decide +kernel
theorem d_M_receive_47 : decode b_M_receive 47 = .ok (.invokevirtual 472, 3) := by decide +kernel
theorem d_M_receive_50 : decode b_M_receive 50 = .ok (.ifCond .ne 17, 3) := by decide +kernel
theorem d_M_receive_53 : decode b_M_receive 53 = .ok (.aload_n 0, 1) := by decide +kernel
theorem d_M_receive_54 : decode b_M_receive 54 = .ok (.getfield 63, 3) := by decide +kernel
theorem d_M_receive_57 : decode b_M_receive 57 = .ok (.iload 4, 2) := by decide +kernel
theorem d_M_receive_59 : decode b_M_receive 59 = .ok (.aload_n 0, 1) := by decide +kernel
theorem d_M_receive_60 : decode b_M_receive 60 = .ok (.iconst 0, 1) := by decide +kernel
theorem d_M_receive_61 : decode b_M_receive 61 = .ok (.iload 4, 2) := by decide +kernel
theorem d_M_receive_63 : decode b_M_receive 63 = .ok (.invokevirtual 647, 3) := by decide +kernel
theorem d_M_receive_66 : decode b_M_receive 66 = .ok (.iastore, 1) := by decide +kernel
theorem d_M_receive_67 : decode b_M_receive 67 = .ok (.aload_n 0, 1) := by decide +kernel
theorem d_M_receive_68 : decode b_M_receive 68 = .ok (.getfield 454, 3) := by decide +kernel
theorem d_M_receive_71 : decode b_M_receive 71 = .ok (.ifCond .ne 27, 3) := by decide +kernel
theorem d_M_receive_74 : decode b_M_receive 74 = .ok (.aload_n 0, 1) := by decide +kernel
theorem d_M_receive_75 : decode b_M_receive 75 = .ok (.getfield 63, 3) := by decide +kernel
theorem d_M_receive_78 : decode b_M_receive 78 = .ok (.iload 4, 2) := by decide +kernel
theorem d_M_receive_80 : decode b_M_receive 80 = .ok (.iaload, 1) := by decide +kernel
theorem d_M_receive_81 : decode b_M_receive 81 = .ok (.iconst (-1), 1) := by decide +kernel
theorem d_M_receive_82 : decode b_M_receive 82 = .ok (.if_icmp .ne 16, 3) := by decide +kernel
theorem d_M_receive_85 : decode b_M_receive 85 = .ok (.aload_n 0, 1) := by decide +kernel
theorem d_M_receive_86 : decode b_M_receive 86 = .ok (.iconst 0, 1) := by decide +kernel
theorem d_M_receive_87 : decode b_M_receive 87 = .ok (.invokevirtual 472, 3) := by decide +kernel
theorem d_M_receive_90 : decode b_M_receive 90 = .ok (.ifCond .ne 8, 3) := by decide +kernel
theorem d_M_receive_93 : decode b_M_receive 93 = .ok (.aload_n 0, 1) := by decide +kernel
theorem d_M_receive_94 : decode b_M_receive 94 = .ok (.iconst 2, 1) := by decide +kernel
theorem d_M_receive_95 : decode b_M_receive 95 = .ok (.invokevirtual 478, 3) := by decide +kernel
theorem d_M_receive_98 : decode b_M_receive 98 = .ok (.aload_n 0, 1) := by decide +kernel
theorem d_M_receive_99 : decode b_M_receive 99 = .ok (.iconst 0, 1) := by decide +kernel
theorem d_M_receive_100 : decode b_M_receive 100 = .ok (.invokevirtual 481, 3) := by decide +kernel
theorem d_M_receive_103 : decode b_M_receive 103 = .ok (.ifCond .eq 120, 3) := by decide +kernel
theorem d_M_receive_106 : decode b_M_receive 106 = .ok (.aload_n 0, 1) := by decide +kernel
theorem d_M_receive_107 : decode b_M_receive 107 = .ok (.getfield 63, 3) := by decide +kernel
theorem d_M_receive_110 : decode b_M_receive 110 = .ok (.iload_n 3, 1) := by decide +kernel
theorem d_M_receive_111 : decode b_M_receive 111 = .ok (.aload_n 0, 1) := by decide +kernel
theorem d_M_receive_112 : decode b_M_receive 112 = .ok (.getfield 448, 3) := by decide +kernel
theorem d_M_receive_115 : decode b_M_receive 115 = .ok (.iastore, 1) := by decide +kernel
theorem d_M_receive_116 : decode b_M_receive 116 = .ok (.aload_n 0, 1) := by decide +kernel
theorem d_M_receive_117 : decode b_M_receive 117 = .ok (.invokevirtual 555, 3) := by decide +kernel
theorem d_M_receive_120 : decode b_M_receive 120 = .ok (.istore 6, 2) := by decide +kernel
theorem d_M_receive_122 : decode b_M_receive 122 = .ok (.aload_n 0, 1) := by decide +kernel
theorem d_M_receive_123 : decode b_M_receive 123 = .ok (.bipush 28, 2) := by decide +kernel
theorem d_M_receive_125 : decode b_M_receive 125 = .ok (.aload_n 0, 1) := by decide +kernel
theorem d_M_receive_126 : decode b_M_receive 126 = .ok (.getfield 457, 3) := by decide +kernel
theorem d_M_receive_129 : decode b_M_receive 129 = .ok (.invokevirtual 500, 3) := by decide +kernel
theorem d_M_receive_132 : decode b_M_receive 132 = .ok (.istore 7, 2) := by decide +kernel
theorem d_M_receive_134 : decode b_M_receive 134 = .ok (.aload_n 0, 1) := by decide +kernel
theorem d_M_receive_135 : decode b_M_receive 135 = .ok (.getfield 63, 3) := by decide +kernel
theorem d_M_receive_138 : decode b_M_receive 138 = .ok (.iload 7, 2) := by decide +kernel
theorem d_M_receive_140 : decode b_M_receive 140 = .ok (.iload 4, 2) := by decide +kernel
theorem d_M_receive_142 : decode b_M_receive 142 = .ok (.iastore, 1) := by decide +kernel
theorem d_M_receive_143 : decode b_M_receive 143 = .ok (.aload_n 0, 1) := by decide +kernel
theorem d_M_receive_144 : decode b_M_receive 144 = .ok (.getfield 69, 3) := by decide +kernel
theorem d_M_receive_147 : decode b_M_receive 147 = .ok (.iload 7, 2) := by decide +kernel
theorem d_M_receive_149 : decode b_M_receive 149 = .ok (.iload_n 2, 1) := by decide +kernel
theorem d_M_receive_150 : decode b_M_receive 150 = .ok (.iastore, 1) := by decide +kernel
theorem d_M_receive_151 : decode b_M_receive 151 = .ok (.aload_n 0, 1) := by decide +kernel
theorem d_M_receive_152 : decode b_M_receive 152 = .ok (.getfield 153, 3) := by decide +kernel
theorem d_M_receive_155 : decode b_M_receive 155 = .ok (.aload_n 0, 1) := by decide +kernel
theorem d_M_receive_156 : decode b_M_receive 156 = .ok (.getfield 493, 3) := by decide +kernel
theorem d_M_receive_159 : decode b_M_receive 159 = .ok (.iload_n 2, 1) := by decide +kernel
theorem d_M_receive_160 : decode b_M_receive 160 = .ok (.iastore, 1) := by decide +kernel
theorem d_M_receive_161 : decode b_M_receive 161 = .ok (.aload_n 0, 1) := by decide +kernel
theorem d_M_receive_162 : decode b_M_receive 162 = .ok (.getfield 82, 3) := by decide +kernel
theorem d_M_receive_165 : decode b_M_receive 165 = .ok (.iload 4, 2) := by decide +kernel
theorem d_M_receive_167 : decode b_M_receive 167 = .ok (.iload 7, 2) := by decide +kernel
theorem d_M_receive_169 : decode b_M_receive 169 = .ok (.iastore, 1) := by decide +kernel
theorem d_M_receive_170 : decode b_M_receive 170 = .ok (.aload_n 0, 1) := by decide +kernel
theorem d_M_receive_171 : decode b_M_receive 171 = .ok (.bipush 10, 2) := by decide +kernel
theorem d_M_receive_173 : decode b_M_receive 173 = .ok (.invokevirtual 529, 3) := by decide +kernel
theorem d_M_receive_176 : decode b_M_receive 176 = .ok (.aload_n 0, 1) := by decide +kernel
theorem d_M_receive_177 : decode b_M_receive 177 = .ok (.getfield 66, 3) := by decide +kernel
theorem d_M_receive_180 : decode b_M_receive 180 = .ok (.iload 7, 2) := by decide +kernel
theorem d_M_receive_182 : decode b_M_receive 182 = .ok (.aload_n 0, 1) := by decide +kernel
theorem d_M_receive_183 : decode b_M_receive 183 = .ok (.getfield 448, 3) := by decide +kernel
theorem d_M_receive_186 : decode b_M_receive 186 = .ok (.iastore, 1) := by decide +kernel
theorem d_M_receive_187 : decode b_M_receive 187 = .ok (.aload_n 0, 1) := by decide +kernel
theorem d_M_receive_188 : decode b_M_receive 188 = .ok (.getfield 72, 3) := by decide +kernel
theorem d_M_receive_191 : decode b_M_receive 191 = .ok (.iload 7, 2) := by decide +kernel
theorem d_M_receive_193 : decode b_M_receive 193 = .ok (.iconst (-1), 1) := by decide +kernel
theorem d_M_receive_194 : decode b_M_receive 194 = .ok (.iastore, 1) := by decide +kernel
theorem d_M_receive_195 : decode b_M_receive 195 = .ok (.aload_n 0, 1) := by decide +kernel
theorem d_M_receive_196 : decode b_M_receive 196 = .ok (.invokevirtual 543, 3) := by decide +kernel
theorem d_M_receive_199 : decode b_M_receive 199 = .ok (.istore 8, 2) := by decide +kernel
theorem d_M_receive_201 : decode b_M_receive 201 = .ok (.aload_n 0, 1) := by decide +kernel
theorem d_M_receive_202 : decode b_M_receive 202 = .ok (.iload 4, 2) := by decide +kernel
theorem d_M_receive_204 : decode b_M_receive 204 = .ok (.iload 8, 2) := by decide +kernel
theorem d_M_receive_206 : decode b_M_receive 206 = .ok (.invokevirtual 549, 3) := by decide +kernel
theorem d_M_receive_209 : decode b_M_receive 209 = .ok (.aload_n 0, 1) := by decide +kernel
theorem d_M_receive_210 : decode b_M_receive 210 = .ok (.iload_n 2, 1) := by decide +kernel
theorem d_M_receive_211 : decode b_M_receive 211 = .ok (.invokevirtual 580, 3) := by decide +kernel
theorem d_M_receive_214 : decode b_M_receive 214 = .ok (.aload_n 0, 1) := by decide +kernel
theorem d_M_receive_215 : decode b_M_receive 215 = .ok (.bipush 6, 2) := by decide +kernel
theorem d_M_receive_217 : decode b_M_receive 217 = .ok (.invokevirtual 641, 3) := by decide +kernel
theorem d_M_receive_220 : decode b_M_receive 220 = .ok (.goto 17, 3) := by decide +kernel
theorem d_M_receive_223 : decode b_M_receive 223 = .ok (.aload_n 0, 1) := by decide +kernel
theorem d_M_receive_224 : decode b_M_receive 224 = .ok (.bipush 6, 2) := by decide +kernel
theorem d_M_receive_226 : decode b_M_receive 226 = .ok (.invokevirtual 641, 3) := by decide +kernel
theorem d_M_receive_229 : decode b_M_receive 229 = .ok (.aload_n 0, 1) := by decide +kernel
theorem d_M_receive_230 : decode b_M_receive 230 = .ok (.getfield 63, 3) := by decide +kernel
theorem d_M_receive_233 : decode b_M_receive 233 = .ok (.iload_n 3, 1) := by decide +kernel
theorem d_M_receive_234 : decode b_M_receive 234 = .ok (.iload 4, 2) := by decide +kernel
theorem d_M_receive_236 : decode b_M_receive 236 = .ok (.iastore, 1) := by decide +kernel
theorem d_M_receive_237 : decode b_M_receive 237 = .ok (.aload_n 0, 1) := by decide +kernel
theorem d_M_receive_238 : decode b_M_receive 238 = .ok (.getfield 66, 3) := by decide +kernel
theorem d_M_receive_241 : decode b_M_receive 241 = .ok (.iload 4, 2) := by decide +kernel
theorem d_M_receive_243 : decode b_M_receive 243 = .ok (.aload_n 0, 1) := by decide +kernel
theorem d_M_receive_244 : decode b_M_receive 244 = .ok (.getfield 448, 3) := by decide +kernel
theorem d_M_receive_247 : decode b_M_receive 247 = .ok (.iastore, 1) := by decide +kernel
theorem d_M_receive_248 : decode b_M_receive 248 = .ok (.aload_n 0, 1) := by decide +kernel
theorem d_M_receive_249 : decode b_M_receive 249 = .ok (.bipush 30, 2) := by decide +kernel
theorem d_M_receive_251 : decode b_M_receive 251 = .ok (.aload_n 0, 1) := by decide +kernel
theorem d_M_receive_252 : decode b_M_receive 252 = .ok (.getfield 457, 3) := by decide +kernel
theorem d_M_receive_255 : decode b_M_receive 255 = .ok (.invokevirtual 500, 3) := by decide +kernel
theorem d_M_receive_258 : decode b_M_receive 258 = .ok (.istore 5, 2) := by decide +kernel
theorem d_M_receive_260 : decode b_M_receive 260 = .ok (.aload_n 0, 1) := by decide +kernel
theorem d_M_receive_261 : decode b_M_receive 261 = .ok (.getfield 72, 3) := by decide +kernel
theorem d_M_receive_264 : decode b_M_receive 264 = .ok (.iload 5, 2) := by decide +kernel
theorem d_M_receive_266 : decode b_M_receive 266 = .ok (.aload_n 0, 1) := by decide +kernel
theorem d_M_receive_267 : decode b_M_receive 267 = .ok (.getfield 72, 3) := by decide +kernel
theorem d_M_receive_270 : decode b_M_receive 270 = .ok (.iload 4, 2) := by decide +kernel
theorem d_M_receive_272 : decode b_M_receive 272 = .ok (.iaload, 1) := by decide +kernel
theorem d_M_receive_273 : decode b_M_receive 273 = .ok (.iastore, 1) := by decide +kernel
theorem d_M_receive_274 : decode b_M_receive 274 = .ok (.iload 5, 2) := by decide +kernel
theorem d_M_receive_276 : decode b_M_receive 276 = .ok (.ireturn, 1) := by decide +kernel
set_option maxRecDepth 100000 in
theorem hl_M_receive : Cond.methodLink R_M 644 y_M_receive ∈ wd_tbl := wd_of 2840 (by decide +kernel) rfl
set_option maxRecDepth 100000 in
theorem hi_M_receive : Cond.instanceMethod y_M_receive ∈ wd_tbl := wd_of 2842 (by decide +kernel) rfl
set_option maxRecDepth 100000 in
theorem hs_M_receive : Cond.selects R_M y_M_receive y_M_receive ∈ wd_tbl := wd_of 174 (by decide +kernel) rfl
theorem hd_M_receive : y_M_receive.cls = R_M ∧ y_M_receive.cls ≠ "java/lang/invoke/MethodHandle" ∧ y_M_receive.cls ≠ "java/lang/invoke/VarHandle" ∧ (parseMethodDescriptor y_M_receive.desc).map (fun d => d.parameters.length) = some 2 := by decide +kernel
abbrev b_M_body : ByteArray := prog_14_method_48_code
def y_M_body : MethodName := ⟨R_M, "body", "()I"⟩
def w_M_body : List Cond := wd_ws y_M_body b_M_body 3 (some .int)
set_option maxRecDepth 100000 in
theorem k_M_body : Cond.code y_M_body b_M_body 3 (some .int) ∈ wd_tbl := wd_of 2835 rfl rfl
theorem d_M_body_0 : decode b_M_body 0 = .ok (.aload_n 0, 1) := by decide +kernel
theorem d_M_body_1 : decode b_M_body 1 = .ok (.getfield 454, 3) := by decide +kernel
theorem d_M_body_4 : decode b_M_body 4 = .ok (.ifCond .eq 5, 3) := by decide +kernel
theorem d_M_body_7 : decode b_M_body 7 = .ok (.iconst (-1), 1) := by decide +kernel
theorem d_M_body_8 : decode b_M_body 8 = .ok (.ireturn, 1) := by decide +kernel
theorem d_M_body_9 : decode b_M_body 9 = .ok (.aload_n 0, 1) := by decide +kernel
theorem d_M_body_10 : decode b_M_body 10 = .ok (.invokevirtual 558, 3) := by decide +kernel
theorem d_M_body_13 : decode b_M_body 13 = .ok (.ifCond .ne 18, 3) := by decide +kernel
theorem d_M_body_16 : decode b_M_body 16 = .ok (.aload_n 0, 1) := by decide +kernel
theorem d_M_body_17 : decode b_M_body 17 = .ok (.iconst 4, 1) := by decide +kernel
theorem d_M_body_18 : decode b_M_body 18 = .ok (.invokevirtual 472, 3) := by decide +kernel
theorem d_M_body_21 : decode b_M_body 21 = .ok (.ifCond .ne 10, 3) := by decide +kernel
theorem d_M_body_24 : decode b_M_body 24 = .ok (.aload_n 0, 1) := by decide +kernel
theorem d_M_body_25 : decode b_M_body 25 = .ok (.iconst 2, 1) := by decide +kernel
theorem d_M_body_26 : decode b_M_body 26 = .ok (.invokevirtual 478, 3) := by decide +kernel
theorem d_M_body_29 : decode b_M_body 29 = .ok (.iconst (-1), 1) := by decide +kernel
theorem d_M_body_30 : decode b_M_body 30 = .ok (.ireturn, 1) := by decide +kernel
theorem d_M_body_31 : decode b_M_body 31 = .ok (.aload_n 0, 1) := by decide +kernel
theorem d_M_body_32 : decode b_M_body 32 = .ok (.invokevirtual 562, 3) := by decide +kernel
theorem d_M_body_35 : decode b_M_body 35 = .ok (.aload_n 0, 1) := by decide +kernel
theorem d_M_body_36 : decode b_M_body 36 = .ok (.invokevirtual 555, 3) := by decide +kernel
theorem d_M_body_39 : decode b_M_body 39 = .ok (.istore_n 1, 1) := by decide +kernel
theorem d_M_body_40 : decode b_M_body 40 = .ok (.aload_n 0, 1) := by decide +kernel
theorem d_M_body_41 : decode b_M_body 41 = .ok (.bipush 6, 2) := by decide +kernel
theorem d_M_body_43 : decode b_M_body 43 = .ok (.invokevirtual 475, 3) := by decide +kernel
theorem d_M_body_46 : decode b_M_body 46 = .ok (.ifCond .eq 22, 3) := by decide +kernel
theorem d_M_body_49 : decode b_M_body 49 = .ok (.aload_n 0, 1) := by decide +kernel
theorem d_M_body_50 : decode b_M_body 50 = .ok (.bipush 17, 2) := by decide +kernel
theorem d_M_body_52 : decode b_M_body 52 = .ok (.aload_n 0, 1) := by decide +kernel
theorem d_M_body_53 : decode b_M_body 53 = .ok (.getfield 457, 3) := by decide +kernel
theorem d_M_body_56 : decode b_M_body 56 = .ok (.invokevirtual 500, 3) := by decide +kernel
theorem d_M_body_59 : decode b_M_body 59 = .ok (.istore_n 2, 1) := by decide +kernel
theorem d_M_body_60 : decode b_M_body 60 = .ok (.aload_n 0, 1) := by decide +kernel
theorem d_M_body_61 : decode b_M_body 61 = .ok (.invokevirtual 555, 3) := by decide +kernel
theorem d_M_body_64 : decode b_M_body 64 = .ok (.istore_n 1, 1) := by decide +kernel
theorem d_M_body_65 : decode b_M_body 65 = .ok (.goto (-25), 3) := by decide +kernel
theorem d_M_body_68 : decode b_M_body 68 = .ok (.aload_n 0, 1) := by decide +kernel
theorem d_M_body_69 : decode b_M_body 69 = .ok (.dup, 1) := by decide +kernel
theorem d_M_body_70 : decode b_M_body 70 = .ok (.getfield 484, 3) := by decide +kernel
theorem d_M_body_73 : decode b_M_body 73 = .ok (.iconst 1, 1) := by decide +kernel
theorem d_M_body_74 : decode b_M_body 74 = .ok (.isub, 1) := by decide +kernel
theorem d_M_body_75 : decode b_M_body 75 = .ok (.putfield 484, 3) := by decide +kernel
theorem d_M_body_78 : decode b_M_body 78 = .ok (.iload_n 1, 1) := by decide +kernel
theorem d_M_body_79 : decode b_M_body 79 = .ok (.ireturn, 1) := by decide +kernel
set_option maxRecDepth 100000 in
theorem hl_M_body : Cond.methodLink R_M 543 y_M_body ∈ wd_tbl := wd_of 2832 (by decide +kernel) rfl
set_option maxRecDepth 100000 in
theorem hi_M_body : Cond.instanceMethod y_M_body ∈ wd_tbl := wd_of 2834 (by decide +kernel) rfl
set_option maxRecDepth 100000 in
theorem hs_M_body : Cond.selects R_M y_M_body y_M_body ∈ wd_tbl := wd_of 172 (by decide +kernel) rfl
theorem hd_M_body : y_M_body.cls = R_M ∧ y_M_body.cls ≠ "java/lang/invoke/MethodHandle" ∧ y_M_body.cls ≠ "java/lang/invoke/VarHandle" ∧ (parseMethodDescriptor y_M_body.desc).map (fun d => d.parameters.length) = some 0 := by decide +kernel
abbrev b_M_block : ByteArray := prog_14_method_69_code
def y_M_block : MethodName := ⟨R_M, "block", "(I)I"⟩
def w_M_block : List Cond := wd_ws y_M_block b_M_block 8 (some .int)
set_option maxRecDepth 100000 in
theorem k_M_block : Cond.code y_M_block b_M_block 8 (some .int) ∈ wd_tbl := wd_of 2831 rfl rfl
theorem d_M_block_0 : decode b_M_block 0 = .ok (.aload_n 0, 1) := by decide +kernel
theorem d_M_block_1 : decode b_M_block 1 = .ok (.getfield 153, 3) := by decide +kernel
theorem d_M_block_4 : decode b_M_block 4 = .ok (.aload_n 0, 1) := by decide +kernel
theorem d_M_block_5 : decode b_M_block 5 = .ok (.getfield 493, 3) := by decide +kernel
theorem d_M_block_8 : decode b_M_block 8 = .ok (.iaload, 1) := by decide +kernel
theorem d_M_block_9 : decode b_M_block 9 = .ok (.istore_n 2, 1) := by decide +kernel
theorem d_M_block_10 : decode b_M_block 10 = .ok (.aload_n 0, 1) := by decide +kernel
theorem d_M_block_11 : decode b_M_block 11 = .ok (.getfield 25, 3) := by decide +kernel
theorem d_M_block_14 : decode b_M_block 14 = .ok (.aload_n 0, 1) := by decide +kernel
theorem d_M_block_15 : decode b_M_block 15 = .ok (.getfield 457, 3) := by decide +kernel
theorem d_M_block_18 : decode b_M_block 18 = .ok (.iaload, 1) := by decide +kernel
theorem d_M_block_19 : decode b_M_block 19 = .ok (.istore_n 3, 1) := by decide +kernel
theorem d_M_block_20 : decode b_M_block 20 = .ok (.iload_n 3, 1) := by decide +kernel
theorem d_M_block_21 : decode b_M_block 21 = .ok (.iconst 2, 1) := by decide +kernel
theorem d_M_block_22 : decode b_M_block 22 = .ok (.if_icmp .eq 27, 3) := by decide +kernel
theorem d_M_block_25 : decode b_M_block 25 = .ok (.iload_n 3, 1) := by decide +kernel
theorem d_M_block_26 : decode b_M_block 26 = .ok (.iconst 3, 1) := by decide +kernel
theorem d_M_block_27 : decode b_M_block 27 = .ok (.if_icmp .eq 22, 3) := by decide +kernel
theorem d_M_block_30 : decode b_M_block 30 = .ok (.iload_n 3, 1) := by decide +kernel
theorem d_M_block_31 : decode b_M_block 31 = .ok (.bipush 8, 2) := by decide +kernel
theorem d_M_block_33 : decode b_M_block 33 = .ok (.if_icmp .eq 16, 3) := by decide +kernel
theorem d_M_block_36 : decode b_M_block 36 = .ok (.iload_n 3, 1) := by decide +kernel
theorem d_M_block_37 : decode b_M_block 37 = .ok (.bipush 12, 2) := by decide +kernel
theorem d_M_block_39 : decode b_M_block 39 = .ok (.if_icmp .eq 10, 3) := by decide +kernel
theorem d_M_block_42 : decode b_M_block 42 = .ok (.aload_n 0, 1) := by decide +kernel
theorem d_M_block_43 : decode b_M_block 43 = .ok (.iconst 2, 1) := by decide +kernel
theorem d_M_block_44 : decode b_M_block 44 = .ok (.invokevirtual 478, 3) := by decide +kernel
theorem d_M_block_47 : decode b_M_block 47 = .ok (.iconst (-1), 1) := by decide +kernel
theorem d_M_block_48 : decode b_M_block 48 = .ok (.ireturn, 1) := by decide +kernel
theorem d_M_block_49 : decode b_M_block 49 = .ok (.aload_n 0, 1) := by decide +kernel
theorem d_M_block_50 : decode b_M_block 50 = .ok (.dup, 1) := by decide +kernel
theorem d_M_block_51 : decode b_M_block 51 = .ok (.getfield 457, 3) := by decide +kernel
theorem d_M_block_54 : decode b_M_block 54 = .ok (.iconst 1, 1) := by decide +kernel
theorem d_M_block_55 : decode b_M_block 55 = .ok (.iadd, 1) := by decide +kernel
theorem d_M_block_56 : decode b_M_block 56 = .ok (.putfield 457, 3) := by decide +kernel
theorem d_M_block_59 : decode b_M_block 59 = .ok (.iload_n 3, 1) := by decide +kernel
theorem d_M_block_60 : decode b_M_block 60 = .ok (.iconst 2, 1) := by decide +kernel
theorem d_M_block_61 : decode b_M_block 61 = .ok (.if_icmp .ne 43, 3) := by decide +kernel
theorem d_M_block_64 : decode b_M_block 64 = .ok (.aload_n 0, 1) := by decide +kernel
theorem d_M_block_65 : decode b_M_block 65 = .ok (.invokevirtual 543, 3) := by decide +kernel
theorem d_M_block_68 : decode b_M_block 68 = .ok (.istore 4, 2) := by decide +kernel
theorem d_M_block_70 : decode b_M_block 70 = .ok (.aload_n 0, 1) := by decide +kernel
theorem d_M_block_71 : decode b_M_block 71 = .ok (.bipush 6, 2) := by decide +kernel
theorem d_M_block_73 : decode b_M_block 73 = .ok (.invokevirtual 641, 3) := by decide +kernel
theorem d_M_block_76 : decode b_M_block 76 = .ok (.aload_n 0, 1) := by decide +kernel
theorem d_M_block_77 : decode b_M_block 77 = .ok (.iload_n 2, 1) := by decide +kernel
theorem d_M_block_78 : decode b_M_block 78 = .ok (.invokevirtual 580, 3) := by decide +kernel
theorem d_M_block_81 : decode b_M_block 81 = .ok (.aload_n 0, 1) := by decide +kernel
theorem d_M_block_82 : decode b_M_block 82 = .ok (.bipush 30, 2) := by decide +kernel
theorem d_M_block_84 : decode b_M_block 84 = .ok (.aload_n 0, 1) := by decide +kernel
theorem d_M_block_85 : decode b_M_block 85 = .ok (.getfield 457, 3) := by decide +kernel
theorem d_M_block_88 : decode b_M_block 88 = .ok (.invokevirtual 500, 3) := by decide +kernel
theorem d_M_block_91 : decode b_M_block 91 = .ok (.istore 5, 2) := by decide +kernel
theorem d_M_block_93 : decode b_M_block 93 = .ok (.aload_n 0, 1) := by decide +kernel
theorem d_M_block_94 : decode b_M_block 94 = .ok (.iload 5, 2) := by decide +kernel
theorem d_M_block_96 : decode b_M_block 96 = .ok (.iload 4, 2) := by decide +kernel
theorem d_M_block_98 : decode b_M_block 98 = .ok (.invokevirtual 549, 3) := by decide +kernel
theorem d_M_block_101 : decode b_M_block 101 = .ok (.iload 5, 2) := by decide +kernel
theorem d_M_block_103 : decode b_M_block 103 = .ok (.ireturn, 1) := by decide +kernel
theorem d_M_block_104 : decode b_M_block 104 = .ok (.iload_n 3, 1) := by decide +kernel
theorem d_M_block_105 : decode b_M_block 105 = .ok (.iconst 3, 1) := by decide +kernel
theorem d_M_block_106 : decode b_M_block 106 = .ok (.if_icmp .ne 25, 3) := by decide +kernel
theorem d_M_block_109 : decode b_M_block 109 = .ok (.aload_n 0, 1) := by decide +kernel
theorem d_M_block_110 : decode b_M_block 110 = .ok (.invokevirtual 555, 3) := by decide +kernel
theorem d_M_block_113 : decode b_M_block 113 = .ok (.istore 4, 2) := by decide +kernel
theorem d_M_block_115 : decode b_M_block 115 = .ok (.aload_n 0, 1) := by decide +kernel
theorem d_M_block_116 : decode b_M_block 116 = .ok (.bipush 10, 2) := by decide +kernel
theorem d_M_block_118 : decode b_M_block 118 = .ok (.invokevirtual 641, 3) := by decide +kernel
theorem d_M_block_121 : decode b_M_block 121 = .ok (.aload_n 0, 1) := by decide +kernel
theorem d_M_block_122 : decode b_M_block 122 = .ok (.getfield 153, 3) := by decide +kernel
theorem d_M_block_125 : decode b_M_block 125 = .ok (.aload_n 0, 1) := by decide +kernel
theorem d_M_block_126 : decode b_M_block 126 = .ok (.getfield 493, 3) := by decide +kernel
theorem d_M_block_129 : decode b_M_block 129 = .ok (.iaload, 1) := by decide +kernel
theorem d_M_block_130 : decode b_M_block 130 = .ok (.istore_n 2, 1) := by decide +kernel
theorem d_M_block_131 : decode b_M_block 131 = .ok (.iconst (-1), 1) := by decide +kernel
theorem d_M_block_132 : decode b_M_block 132 = .ok (.istore 4, 2) := by decide +kernel
theorem d_M_block_134 : decode b_M_block 134 = .ok (.iload_n 3, 1) := by decide +kernel
theorem d_M_block_135 : decode b_M_block 135 = .ok (.bipush 12, 2) := by decide +kernel
theorem d_M_block_137 : decode b_M_block 137 = .ok (.if_icmp .ne 10, 3) := by decide +kernel
theorem d_M_block_140 : decode b_M_block 140 = .ok (.aload_n 0, 1) := by decide +kernel
theorem d_M_block_141 : decode b_M_block 141 = .ok (.iload_n 1, 1) := by decide +kernel
theorem d_M_block_142 : decode b_M_block 142 = .ok (.iload_n 2, 1) := by decide +kernel
theorem d_M_block_143 : decode b_M_block 143 = .ok (.invokevirtual 644, 3) := by decide +kernel
theorem d_M_block_146 : decode b_M_block 146 = .ok (.ireturn, 1) := by decide +kernel
theorem d_M_block_147 : decode b_M_block 147 = .ok (.aload_n 0, 1) := by decide +kernel
theorem d_M_block_148 : decode b_M_block 148 = .ok (.iload_n 3, 1) := by decide +kernel
theorem d_M_block_149 : decode b_M_block 149 = .ok (.iconst 3, 1) := by decide +kernel
theorem d_M_block_150 : decode b_M_block 150 = .ok (.if_icmp .ne 8, 3) := by decide +kernel
theorem d_M_block_153 : decode b_M_block 153 = .ok (.bipush 21, 2) := by decide +kernel
theorem d_M_block_155 : decode b_M_block 155 = .ok (.goto 5, 3) := by decide +kernel
theorem d_M_block_158 : decode b_M_block 158 = .ok (.bipush 31, 2) := by decide +kernel
theorem d_M_block_160 : decode b_M_block 160 = .ok (.iload_n 1, 1) := by decide +kernel
theorem d_M_block_161 : decode b_M_block 161 = .ok (.invokevirtual 500, 3) := by decide +kernel
theorem d_M_block_164 : decode b_M_block 164 = .ok (.istore 5, 2) := by decide +kernel
theorem d_M_block_166 : decode b_M_block 166 = .ok (.aload_n 0, 1) := by decide +kernel
theorem d_M_block_167 : decode b_M_block 167 = .ok (.getfield 69, 3) := by decide +kernel
theorem d_M_block_170 : decode b_M_block 170 = .ok (.iload 5, 2) := by decide +kernel
theorem d_M_block_172 : decode b_M_block 172 = .ok (.iload_n 2, 1) := by decide +kernel
theorem d_M_block_173 : decode b_M_block 173 = .ok (.iastore, 1) := by decide +kernel
theorem d_M_block_174 : decode b_M_block 174 = .ok (.aload_n 0, 1) := by decide +kernel
theorem d_M_block_175 : decode b_M_block 175 = .ok (.iload_n 3, 1) := by decide +kernel
theorem d_M_block_176 : decode b_M_block 176 = .ok (.bipush 8, 2) := by decide +kernel
theorem d_M_block_178 : decode b_M_block 178 = .ok (.if_icmp .ne 7, 3) := by decide +kernel
theorem d_M_block_181 : decode b_M_block 181 = .ok (.iconst 1, 1) := by decide +kernel
theorem d_M_block_182 : decode b_M_block 182 = .ok (.goto 4, 3) := by decide +kernel
theorem d_M_block_185 : decode b_M_block 185 = .ok (.iconst 0, 1) := by decide +kernel
theorem d_M_block_186 : decode b_M_block 186 = .ok (.iload 5, 2) := by decide +kernel
theorem d_M_block_188 : decode b_M_block 188 = .ok (.invokevirtual 647, 3) := by decide +kernel
theorem d_M_block_191 : decode b_M_block 191 = .ok (.istore 6, 2) := by decide +kernel
theorem d_M_block_193 : decode b_M_block 193 = .ok (.aload_n 0, 1) := by decide +kernel
theorem d_M_block_194 : decode b_M_block 194 = .ok (.bipush 6, 2) := by decide +kernel
theorem d_M_block_196 : decode b_M_block 196 = .ok (.invokevirtual 641, 3) := by decide +kernel
theorem d_M_block_199 : decode b_M_block 199 = .ok (.aload_n 0, 1) := by decide +kernel
theorem d_M_block_200 : decode b_M_block 200 = .ok (.getfield 63, 3) := by decide +kernel
theorem d_M_block_203 : decode b_M_block 203 = .ok (.iload 5, 2) := by decide +kernel
theorem d_M_block_205 : decode b_M_block 205 = .ok (.iload 6, 2) := by decide +kernel
theorem d_M_block_207 : decode b_M_block 207 = .ok (.iastore, 1) := by decide +kernel
theorem d_M_block_208 : decode b_M_block 208 = .ok (.aload_n 0, 1) := by decide +kernel
theorem d_M_block_209 : decode b_M_block 209 = .ok (.getfield 66, 3) := by decide +kernel
theorem d_M_block_212 : decode b_M_block 212 = .ok (.iload 5, 2) := by decide +kernel
theorem d_M_block_214 : decode b_M_block 214 = .ok (.aload_n 0, 1) := by decide +kernel
theorem d_M_block_215 : decode b_M_block 215 = .ok (.getfield 448, 3) := by decide +kernel
theorem d_M_block_218 : decode b_M_block 218 = .ok (.iastore, 1) := by decide +kernel
theorem d_M_block_219 : decode b_M_block 219 = .ok (.aload_n 0, 1) := by decide +kernel
theorem d_M_block_220 : decode b_M_block 220 = .ok (.bipush 30, 2) := by decide +kernel
theorem d_M_block_222 : decode b_M_block 222 = .ok (.aload_n 0, 1) := by decide +kernel
theorem d_M_block_223 : decode b_M_block 223 = .ok (.getfield 457, 3) := by decide +kernel
theorem d_M_block_226 : decode b_M_block 226 = .ok (.invokevirtual 500, 3) := by decide +kernel
theorem d_M_block_229 : decode b_M_block 229 = .ok (.istore 7, 2) := by decide +kernel
theorem d_M_block_231 : decode b_M_block 231 = .ok (.aload_n 0, 1) := by decide +kernel
theorem d_M_block_232 : decode b_M_block 232 = .ok (.getfield 72, 3) := by decide +kernel
theorem d_M_block_235 : decode b_M_block 235 = .ok (.iload 7, 2) := by decide +kernel
theorem d_M_block_237 : decode b_M_block 237 = .ok (.aload_n 0, 1) := by decide +kernel
theorem d_M_block_238 : decode b_M_block 238 = .ok (.getfield 72, 3) := by decide +kernel
theorem d_M_block_241 : decode b_M_block 241 = .ok (.iload 5, 2) := by decide +kernel
theorem d_M_block_243 : decode b_M_block 243 = .ok (.iaload, 1) := by decide +kernel
theorem d_M_block_244 : decode b_M_block 244 = .ok (.iastore, 1) := by decide +kernel
theorem d_M_block_245 : decode b_M_block 245 = .ok (.iload 7, 2) := by decide +kernel
theorem d_M_block_247 : decode b_M_block 247 = .ok (.ireturn, 1) := by decide +kernel
set_option maxRecDepth 100000 in
theorem hl_M_block : Cond.methodLink R_M 638 y_M_block ∈ wd_tbl := wd_of 2828 (by decide +kernel) rfl
set_option maxRecDepth 100000 in
theorem hi_M_block : Cond.instanceMethod y_M_block ∈ wd_tbl := wd_of 2830 (by decide +kernel) rfl
set_option maxRecDepth 100000 in
theorem hs_M_block : Cond.selects R_M y_M_block y_M_block ∈ wd_tbl := wd_of 171 (by decide +kernel) rfl
theorem hd_M_block : y_M_block.cls = R_M ∧ y_M_block.cls ≠ "java/lang/invoke/MethodHandle" ∧ y_M_block.cls ≠ "java/lang/invoke/VarHandle" ∧ (parseMethodDescriptor y_M_block.desc).map (fun d => d.parameters.length) = some 1 := by decide +kernel
abbrev b_M_fun : ByteArray := prog_14_method_67_code
def y_M_fun : MethodName := ⟨R_M, "fun", "(I)I"⟩
def w_M_fun : List Cond := wd_ws y_M_fun b_M_fun 6 (some .int)
set_option maxRecDepth 100000 in
theorem k_M_fun : Cond.code y_M_fun b_M_fun 6 (some .int) ∈ wd_tbl := wd_of 2823 rfl rfl
theorem d_M_fun_0 : decode b_M_fun 0 = .ok (.aload_n 0, 1) := by decide +kernel
theorem d_M_fun_1 : decode b_M_fun 1 = .ok (.dup, 1) := by decide +kernel
theorem d_M_fun_2 : decode b_M_fun 2 = .ok (.getfield 457, 3) := by decide +kernel
theorem d_M_fun_5 : decode b_M_fun 5 = .ok (.iconst 1, 1) := by decide +kernel
theorem d_M_fun_6 : decode b_M_fun 6 = .ok (.iadd, 1) := by decide +kernel
theorem d_M_fun_7 : decode b_M_fun 7 = .ok (.putfield 457, 3) := by decide +kernel
theorem d_M_fun_10 : decode b_M_fun 10 = .ok (.aload_n 0, 1) := by decide +kernel
theorem d_M_fun_11 : decode b_M_fun 11 = .ok (.getfield 22, 3) := by decide +kernel
theorem d_M_fun_14 : decode b_M_fun 14 = .ok (.aload_n 0, 1) := by decide +kernel
theorem d_M_fun_15 : decode b_M_fun 15 = .ok (.getfield 457, 3) := by decide +kernel
theorem d_M_fun_18 : decode b_M_fun 18 = .ok (.baload, 1) := by decide +kernel
theorem d_M_fun_19 : decode b_M_fun 19 = .ok (.iconst 1, 1) := by decide +kernel
theorem d_M_fun_20 : decode b_M_fun 20 = .ok (.if_icmp .ne 96, 3) := by decide +kernel
theorem d_M_fun_23 : decode b_M_fun 23 = .ok (.aload_n 0, 1) := by decide +kernel
theorem d_M_fun_24 : decode b_M_fun 24 = .ok (.getfield 457, 3) := by decide +kernel
theorem d_M_fun_27 : decode b_M_fun 27 = .ok (.istore_n 2, 1) := by decide +kernel
theorem d_M_fun_28 : decode b_M_fun 28 = .ok (.aload_n 0, 1) := by decide +kernel
theorem d_M_fun_29 : decode b_M_fun 29 = .ok (.dup, 1) := by decide +kernel
theorem d_M_fun_30 : decode b_M_fun 30 = .ok (.getfield 457, 3) := by decide +kernel
theorem d_M_fun_33 : decode b_M_fun 33 = .ok (.iconst 1, 1) := by decide +kernel
theorem d_M_fun_34 : decode b_M_fun 34 = .ok (.iadd, 1) := by decide +kernel
theorem d_M_fun_35 : decode b_M_fun 35 = .ok (.putfield 457, 3) := by decide +kernel
theorem d_M_fun_38 : decode b_M_fun 38 = .ok (.aload_n 0, 1) := by decide +kernel
theorem d_M_fun_39 : decode b_M_fun 39 = .ok (.bipush 24, 2) := by decide +kernel
theorem d_M_fun_41 : decode b_M_fun 41 = .ok (.invokevirtual 529, 3) := by decide +kernel
theorem d_M_fun_44 : decode b_M_fun 44 = .ok (.aload_n 0, 1) := by decide +kernel
theorem d_M_fun_45 : decode b_M_fun 45 = .ok (.getfield 454, 3) := by decide +kernel
theorem d_M_fun_48 : decode b_M_fun 48 = .ok (.ifCond .ne 21, 3) := by decide +kernel
theorem d_M_fun_51 : decode b_M_fun 51 = .ok (.aload_n 0, 1) := by decide +kernel
theorem d_M_fun_52 : decode b_M_fun 52 = .ok (.getfield 22, 3) := by decide +kernel
theorem d_M_fun_55 : decode b_M_fun 55 = .ok (.aload_n 0, 1) := by decide +kernel
theorem d_M_fun_56 : decode b_M_fun 56 = .ok (.getfield 457, 3) := by decide +kernel
theorem d_M_fun_59 : decode b_M_fun 59 = .ok (.baload, 1) := by decide +kernel
theorem d_M_fun_60 : decode b_M_fun 60 = .ok (.iconst 4, 1) := by decide +kernel
theorem d_M_fun_61 : decode b_M_fun 61 = .ok (.if_icmp .eq 8, 3) := by decide +kernel
theorem d_M_fun_64 : decode b_M_fun 64 = .ok (.aload_n 0, 1) := by decide +kernel
theorem d_M_fun_65 : decode b_M_fun 65 = .ok (.iconst 2, 1) := by decide +kernel
theorem d_M_fun_66 : decode b_M_fun 66 = .ok (.invokevirtual 478, 3) := by decide +kernel
theorem d_M_fun_69 : decode b_M_fun 69 = .ok (.aload_n 0, 1) := by decide +kernel
theorem d_M_fun_70 : decode b_M_fun 70 = .ok (.bipush 15, 2) := by decide +kernel
theorem d_M_fun_72 : decode b_M_fun 72 = .ok (.iload_n 2, 1) := by decide +kernel
theorem d_M_fun_73 : decode b_M_fun 73 = .ok (.invokevirtual 500, 3) := by decide +kernel
theorem d_M_fun_76 : decode b_M_fun 76 = .ok (.istore_n 3, 1) := by decide +kernel
theorem d_M_fun_77 : decode b_M_fun 77 = .ok (.aload_n 0, 1) := by decide +kernel
theorem d_M_fun_78 : decode b_M_fun 78 = .ok (.getfield 63, 3) := by decide +kernel
theorem d_M_fun_81 : decode b_M_fun 81 = .ok (.iload_n 3, 1) := by decide +kernel
theorem d_M_fun_82 : decode b_M_fun 82 = .ok (.aload_n 0, 1) := by decide +kernel
theorem d_M_fun_83 : decode b_M_fun 83 = .ok (.getfield 25, 3) := by decide +kernel
theorem d_M_fun_86 : decode b_M_fun 86 = .ok (.iload_n 2, 1) := by decide +kernel
theorem d_M_fun_87 : decode b_M_fun 87 = .ok (.iaload, 1) := by decide +kernel
theorem d_M_fun_88 : decode b_M_fun 88 = .ok (.iastore, 1) := by decide +kernel
theorem d_M_fun_89 : decode b_M_fun 89 = .ok (.aload_n 0, 1) := by decide +kernel
theorem d_M_fun_90 : decode b_M_fun 90 = .ok (.getfield 66, 3) := by decide +kernel
theorem d_M_fun_93 : decode b_M_fun 93 = .ok (.iload_n 3, 1) := by decide +kernel
theorem d_M_fun_94 : decode b_M_fun 94 = .ok (.aload_n 0, 1) := by decide +kernel
theorem d_M_fun_95 : decode b_M_fun 95 = .ok (.getfield 25, 3) := by decide +kernel
theorem d_M_fun_98 : decode b_M_fun 98 = .ok (.aload_n 0, 1) := by decide +kernel
theorem d_M_fun_99 : decode b_M_fun 99 = .ok (.getfield 457, 3) := by decide +kernel
theorem d_M_fun_102 : decode b_M_fun 102 = .ok (.iaload, 1) := by decide +kernel
theorem d_M_fun_103 : decode b_M_fun 103 = .ok (.iastore, 1) := by decide +kernel
theorem d_M_fun_104 : decode b_M_fun 104 = .ok (.aload_n 0, 1) := by decide +kernel
theorem d_M_fun_105 : decode b_M_fun 105 = .ok (.dup, 1) := by decide +kernel
theorem d_M_fun_106 : decode b_M_fun 106 = .ok (.getfield 457, 3) := by decide +kernel
theorem d_M_fun_109 : decode b_M_fun 109 = .ok (.iconst 1, 1) := by decide +kernel
theorem d_M_fun_110 : decode b_M_fun 110 = .ok (.iadd, 1) := by decide +kernel
theorem d_M_fun_111 : decode b_M_fun 111 = .ok (.putfield 457, 3) := by decide +kernel
theorem d_M_fun_114 : decode b_M_fun 114 = .ok (.iload_n 3, 1) := by decide +kernel
theorem d_M_fun_115 : decode b_M_fun 115 = .ok (.ireturn, 1) := by decide +kernel
theorem d_M_fun_116 : decode b_M_fun 116 = .ok (.aload_n 0, 1) := by decide +kernel
theorem d_M_fun_117 : decode b_M_fun 117 = .ok (.getfield 511, 3) := by decide +kernel
theorem d_M_fun_120 : decode b_M_fun 120 = .ok (.istore_n 2, 1) := by decide +kernel
theorem d_M_fun_121 : decode b_M_fun 121 = .ok (.aload_n 0, 1) := by decide +kernel
theorem d_M_fun_122 : decode b_M_fun 122 = .ok (.dup, 1) := by decide +kernel
theorem d_M_fun_123 : decode b_M_fun 123 = .ok (.getfield 511, 3) := by decide +kernel
theorem d_M_fun_126 : decode b_M_fun 126 = .ok (.iconst 1, 1) := by decide +kernel
theorem d_M_fun_127 : decode b_M_fun 127 = .ok (.iadd, 1) := by decide +kernel
theorem d_M_fun_128 : decode b_M_fun 128 = .ok (.putfield 511, 3) := by decide +kernel
theorem d_M_fun_131 : decode b_M_fun 131 = .ok (.aload_n 0, 1) := by decide +kernel
theorem d_M_fun_132 : decode b_M_fun 132 = .ok (.bipush 26, 2) := by decide +kernel
theorem d_M_fun_134 : decode b_M_fun 134 = .ok (.iload_n 1, 1) := by decide +kernel
theorem d_M_fun_135 : decode b_M_fun 135 = .ok (.invokevirtual 500, 3) := by decide +kernel
theorem d_M_fun_138 : decode b_M_fun 138 = .ok (.istore_n 3, 1) := by decide +kernel
theorem d_M_fun_139 : decode b_M_fun 139 = .ok (.aload_n 0, 1) := by decide +kernel
theorem d_M_fun_140 : decode b_M_fun 140 = .ok (.dup, 1) := by decide +kernel
theorem d_M_fun_141 : decode b_M_fun 141 = .ok (.getfield 493, 3) := by decide +kernel
theorem d_M_fun_144 : decode b_M_fun 144 = .ok (.iconst 1, 1) := by decide +kernel
theorem d_M_fun_145 : decode b_M_fun 145 = .ok (.iadd, 1) := by decide +kernel
theorem d_M_fun_146 : decode b_M_fun 146 = .ok (.putfield 493, 3) := by decide +kernel
theorem d_M_fun_149 : decode b_M_fun 149 = .ok (.aload_n 0, 1) := by decide +kernel
theorem d_M_fun_150 : decode b_M_fun 150 = .ok (.getfield 153, 3) := by decide +kernel
theorem d_M_fun_153 : decode b_M_fun 153 = .ok (.aload_n 0, 1) := by decide +kernel
theorem d_M_fun_154 : decode b_M_fun 154 = .ok (.getfield 493, 3) := by decide +kernel
theorem d_M_fun_157 : decode b_M_fun 157 = .ok (.iconst 0, 1) := by decide +kernel
theorem d_M_fun_158 : decode b_M_fun 158 = .ok (.iastore, 1) := by decide +kernel
theorem d_M_fun_159 : decode b_M_fun 159 = .ok (.aload_n 0, 1) := by decide +kernel
theorem d_M_fun_160 : decode b_M_fun 160 = .ok (.getfield 162, 3) := by decide +kernel
theorem d_M_fun_163 : decode b_M_fun 163 = .ok (.aload_n 0, 1) := by decide +kernel
theorem d_M_fun_164 : decode b_M_fun 164 = .ok (.getfield 493, 3) := by decide +kernel
theorem d_M_fun_167 : decode b_M_fun 167 = .ok (.iconst 0, 1) := by decide +kernel
theorem d_M_fun_168 : decode b_M_fun 168 = .ok (.iastore, 1) := by decide +kernel
theorem d_M_fun_169 : decode b_M_fun 169 = .ok (.aload_n 0, 1) := by decide +kernel
theorem d_M_fun_170 : decode b_M_fun 170 = .ok (.getfield 165, 3) := by decide +kernel
theorem d_M_fun_173 : decode b_M_fun 173 = .ok (.aload_n 0, 1) := by decide +kernel
theorem d_M_fun_174 : decode b_M_fun 174 = .ok (.getfield 493, 3) := by decide +kernel
theorem d_M_fun_177 : decode b_M_fun 177 = .ok (.iconst 0, 1) := by decide +kernel
theorem d_M_fun_178 : decode b_M_fun 178 = .ok (.iastore, 1) := by decide +kernel
theorem d_M_fun_179 : decode b_M_fun 179 = .ok (.aload_n 0, 1) := by decide +kernel
theorem d_M_fun_180 : decode b_M_fun 180 = .ok (.iload_n 1, 1) := by decide +kernel
theorem d_M_fun_181 : decode b_M_fun 181 = .ok (.invokevirtual 523, 3) := by decide +kernel
theorem d_M_fun_184 : decode b_M_fun 184 = .ok (.istore 4, 2) := by decide +kernel
theorem d_M_fun_186 : decode b_M_fun 186 = .ok (.aload_n 0, 1) := by decide +kernel
theorem d_M_fun_187 : decode b_M_fun 187 = .ok (.bipush 6, 2) := by decide +kernel
theorem d_M_fun_189 : decode b_M_fun 189 = .ok (.invokevirtual 641, 3) := by decide +kernel
theorem d_M_fun_192 : decode b_M_fun 192 = .ok (.aload_n 0, 1) := by decide +kernel
theorem d_M_fun_193 : decode b_M_fun 193 = .ok (.getfield 165, 3) := by decide +kernel
theorem d_M_fun_196 : decode b_M_fun 196 = .ok (.aload_n 0, 1) := by decide +kernel
theorem d_M_fun_197 : decode b_M_fun 197 = .ok (.getfield 493, 3) := by decide +kernel
theorem d_M_fun_200 : decode b_M_fun 200 = .ok (.iaload, 1) := by decide +kernel
theorem d_M_fun_201 : decode b_M_fun 201 = .ok (.aload_n 0, 1) := by decide +kernel
theorem d_M_fun_202 : decode b_M_fun 202 = .ok (.getfield 162, 3) := by decide +kernel
theorem d_M_fun_205 : decode b_M_fun 205 = .ok (.aload_n 0, 1) := by decide +kernel
theorem d_M_fun_206 : decode b_M_fun 206 = .ok (.getfield 493, 3) := by decide +kernel
theorem d_M_fun_209 : decode b_M_fun 209 = .ok (.iaload, 1) := by decide +kernel
theorem d_M_fun_210 : decode b_M_fun 210 = .ok (.iadd, 1) := by decide +kernel
theorem d_M_fun_211 : decode b_M_fun 211 = .ok (.bipush 40, 2) := by decide +kernel
theorem d_M_fun_213 : decode b_M_fun 213 = .ok (.if_icmp .le 8, 3) := by decide +kernel
theorem d_M_fun_216 : decode b_M_fun 216 = .ok (.aload_n 0, 1) := by decide +kernel
theorem d_M_fun_217 : decode b_M_fun 217 = .ok (.iconst 1, 1) := by decide +kernel
theorem d_M_fun_218 : decode b_M_fun 218 = .ok (.putfield 496, 3) := by decide +kernel
theorem d_M_fun_221 : decode b_M_fun 221 = .ok (.aload_n 0, 1) := by decide +kernel
theorem d_M_fun_222 : decode b_M_fun 222 = .ok (.getfield 137, 3) := by decide +kernel
theorem d_M_fun_225 : decode b_M_fun 225 = .ok (.iload_n 2, 1) := by decide +kernel
theorem d_M_fun_226 : decode b_M_fun 226 = .ok (.iload 4, 2) := by decide +kernel
theorem d_M_fun_228 : decode b_M_fun 228 = .ok (.iastore, 1) := by decide +kernel
theorem d_M_fun_229 : decode b_M_fun 229 = .ok (.aload_n 0, 1) := by decide +kernel
theorem d_M_fun_230 : decode b_M_fun 230 = .ok (.getfield 140, 3) := by decide +kernel
theorem d_M_fun_233 : decode b_M_fun 233 = .ok (.iload_n 2, 1) := by decide +kernel
theorem d_M_fun_234 : decode b_M_fun 234 = .ok (.aload_n 0, 1) := by decide +kernel
theorem d_M_fun_235 : decode b_M_fun 235 = .ok (.getfield 162, 3) := by decide +kernel
theorem d_M_fun_238 : decode b_M_fun 238 = .ok (.aload_n 0, 1) := by decide +kernel
theorem d_M_fun_239 : decode b_M_fun 239 = .ok (.getfield 493, 3) := by decide +kernel
theorem d_M_fun_242 : decode b_M_fun 242 = .ok (.iaload, 1) := by decide +kernel
theorem d_M_fun_243 : decode b_M_fun 243 = .ok (.iastore, 1) := by decide +kernel
theorem d_M_fun_244 : decode b_M_fun 244 = .ok (.aload_n 0, 1) := by decide +kernel
theorem d_M_fun_245 : decode b_M_fun 245 = .ok (.getfield 143, 3) := by decide +kernel
theorem d_M_fun_248 : decode b_M_fun 248 = .ok (.iload_n 2, 1) := by decide +kernel
theorem d_M_fun_249 : decode b_M_fun 249 = .ok (.aload_n 0, 1) := by decide +kernel
theorem d_M_fun_250 : decode b_M_fun 250 = .ok (.getfield 514, 3) := by decide +kernel
theorem d_M_fun_253 : decode b_M_fun 253 = .ok (.iastore, 1) := by decide +kernel
theorem d_M_fun_254 : decode b_M_fun 254 = .ok (.iconst 0, 1) := by decide +kernel
theorem d_M_fun_255 : decode b_M_fun 255 = .ok (.istore 5, 2) := by decide +kernel
theorem d_M_fun_257 : decode b_M_fun 257 = .ok (.iload 5, 2) := by decide +kernel
theorem d_M_fun_259 : decode b_M_fun 259 = .ok (.aload_n 0, 1) := by decide +kernel
theorem d_M_fun_260 : decode b_M_fun 260 = .ok (.getfield 162, 3) := by decide +kernel
theorem d_M_fun_263 : decode b_M_fun 263 = .ok (.aload_n 0, 1) := by decide +kernel
theorem d_M_fun_264 : decode b_M_fun 264 = .ok (.getfield 493, 3) := by decide +kernel
theorem d_M_fun_267 : decode b_M_fun 267 = .ok (.iaload, 1) := by decide +kernel
theorem d_M_fun_268 : decode b_M_fun 268 = .ok (.if_icmp .ge 44, 3) := by decide +kernel
theorem d_M_fun_271 : decode b_M_fun 271 = .ok (.aload_n 0, 1) := by decide +kernel
theorem d_M_fun_272 : decode b_M_fun 272 = .ok (.getfield 146, 3) := by decide +kernel
theorem d_M_fun_275 : decode b_M_fun 275 = .ok (.aload_n 0, 1) := by decide +kernel
theorem d_M_fun_276 : decode b_M_fun 276 = .ok (.getfield 514, 3) := by decide +kernel
theorem d_M_fun_279 : decode b_M_fun 279 = .ok (.aload_n 0, 1) := by decide +kernel
theorem d_M_fun_280 : decode b_M_fun 280 = .ok (.getfield 159, 3) := by decide +kernel
theorem d_M_fun_283 : decode b_M_fun 283 = .ok (.sipush 1400, 3) := by decide +kernel
theorem d_M_fun_286 : decode b_M_fun 286 = .ok (.aload_n 0, 1) := by decide +kernel
theorem d_M_fun_287 : decode b_M_fun 287 = .ok (.getfield 493, 3) := by decide +kernel
theorem d_M_fun_290 : decode b_M_fun 290 = .ok (.imul, 1) := by decide +kernel
theorem d_M_fun_291 : decode b_M_fun 291 = .ok (.iload 5, 2) := by decide +kernel
theorem d_M_fun_293 : decode b_M_fun 293 = .ok (.iadd, 1) := by decide +kernel
theorem d_M_fun_294 : decode b_M_fun 294 = .ok (.iaload, 1) := by decide +kernel
theorem d_M_fun_295 : decode b_M_fun 295 = .ok (.iastore, 1) := by decide +kernel
theorem d_M_fun_296 : decode b_M_fun 296 = .ok (.aload_n 0, 1) := by decide +kernel
theorem d_M_fun_297 : decode b_M_fun 297 = .ok (.dup, 1) := by decide +kernel
theorem d_M_fun_298 : decode b_M_fun 298 = .ok (.getfield 514, 3) := by decide +kernel
theorem d_M_fun_301 : decode b_M_fun 301 = .ok (.iconst 1, 1) := by decide +kernel
theorem d_M_fun_302 : decode b_M_fun 302 = .ok (.iadd, 1) := by decide +kernel
theorem d_M_fun_303 : decode b_M_fun 303 = .ok (.putfield 514, 3) := by decide +kernel
theorem d_M_fun_306 : decode b_M_fun 306 = .ok (.iinc 5 1, 3) := by decide +kernel
theorem d_M_fun_309 : decode b_M_fun 309 = .ok (.goto (-52), 3) := by decide +kernel
theorem d_M_fun_312 : decode b_M_fun 312 = .ok (.aload_n 0, 1) := by decide +kernel
theorem d_M_fun_313 : decode b_M_fun 313 = .ok (.dup, 1) := by decide +kernel
theorem d_M_fun_314 : decode b_M_fun 314 = .ok (.getfield 493, 3) := by decide +kernel
theorem d_M_fun_317 : decode b_M_fun 317 = .ok (.iconst 1, 1) := by decide +kernel
theorem d_M_fun_318 : decode b_M_fun 318 = .ok (.isub, 1) := by decide +kernel
theorem d_M_fun_319 : decode b_M_fun 319 = .ok (.putfield 493, 3) := by decide +kernel
theorem d_M_fun_322 : decode b_M_fun 322 = .ok (.aload_n 0, 1) := by decide +kernel
theorem d_M_fun_323 : decode b_M_fun 323 = .ok (.getfield 63, 3) := by decide +kernel
theorem d_M_fun_326 : decode b_M_fun 326 = .ok (.iload_n 3, 1) := by decide +kernel
theorem d_M_fun_327 : decode b_M_fun 327 = .ok (.aload_n 0, 1) := by decide +kernel
theorem d_M_fun_328 : decode b_M_fun 328 = .ok (.getfield 448, 3) := by decide +kernel
theorem d_M_fun_331 : decode b_M_fun 331 = .ok (.iastore, 1) := by decide +kernel
theorem d_M_fun_332 : decode b_M_fun 332 = .ok (.aload_n 0, 1) := by decide +kernel
theorem d_M_fun_333 : decode b_M_fun 333 = .ok (.bipush 14, 2) := by decide +kernel
theorem d_M_fun_335 : decode b_M_fun 335 = .ok (.iload_n 1, 1) := by decide +kernel
theorem d_M_fun_336 : decode b_M_fun 336 = .ok (.invokevirtual 500, 3) := by decide +kernel
theorem d_M_fun_339 : decode b_M_fun 339 = .ok (.istore 5, 2) := by decide +kernel
theorem d_M_fun_341 : decode b_M_fun 341 = .ok (.aload_n 0, 1) := by decide +kernel
theorem d_M_fun_342 : decode b_M_fun 342 = .ok (.getfield 63, 3) := by decide +kernel
theorem d_M_fun_345 : decode b_M_fun 345 = .ok (.iload 5, 2) := by decide +kernel
theorem d_M_fun_347 : decode b_M_fun 347 = .ok (.iload_n 2, 1) := by decide +kernel
theorem d_M_fun_348 : decode b_M_fun 348 = .ok (.iastore, 1) := by decide +kernel
theorem d_M_fun_349 : decode b_M_fun 349 = .ok (.iload 5, 2) := by decide +kernel
theorem d_M_fun_351 : decode b_M_fun 351 = .ok (.ireturn, 1) := by decide +kernel
set_option maxRecDepth 100000 in
theorem hl_M_fun : Cond.methodLink R_M 635 y_M_fun ∈ wd_tbl := wd_of 2820 (by decide +kernel) rfl
set_option maxRecDepth 100000 in
theorem hi_M_fun : Cond.instanceMethod y_M_fun ∈ wd_tbl := wd_of 2822 (by decide +kernel) rfl
set_option maxRecDepth 100000 in
theorem hs_M_fun : Cond.selects R_M y_M_fun y_M_fun ∈ wd_tbl := wd_of 169 (by decide +kernel) rfl
theorem hd_M_fun : y_M_fun.cls = R_M ∧ y_M_fun.cls ≠ "java/lang/invoke/MethodHandle" ∧ y_M_fun.cls ≠ "java/lang/invoke/VarHandle" ∧ (parseMethodDescriptor y_M_fun.desc).map (fun d => d.parameters.length) = some 1 := by decide +kernel
abbrev b_M_row : ByteArray := prog_14_method_66_code
def y_M_row : MethodName := ⟨R_M, "row", "(I)I"⟩
def w_M_row : List Cond := wd_ws y_M_row b_M_row 8 (some .int)
set_option maxRecDepth 100000 in
theorem k_M_row : Cond.code y_M_row b_M_row 8 (some .int) ∈ wd_tbl := wd_of 2819 rfl rfl
theorem d_M_row_0 : decode b_M_row 0 = .ok (.aload_n 0, 1) := by decide +kernel
theorem d_M_row_1 : decode b_M_row 1 = .ok (.iconst 2, 1) := by decide +kernel
theorem d_M_row_2 : decode b_M_row 2 = .ok (.invokevirtual 469, 3) := by decide +kernel
theorem d_M_row_5 : decode b_M_row 5 = .ok (.istore_n 2, 1) := by decide +kernel
theorem d_M_row_6 : decode b_M_row 6 = .ok (.iload_n 2, 1) := by decide +kernel
theorem d_M_row_7 : decode b_M_row 7 = .ok (.ifCond .eq 7, 3) := by decide +kernel
theorem d_M_row_10 : decode b_M_row 10 = .ok (.iconst 3, 1) := by decide +kernel
theorem d_M_row_11 : decode b_M_row 11 = .ok (.goto 4, 3) := by decide +kernel
theorem d_M_row_14 : decode b_M_row 14 = .ok (.iconst 5, 1) := by decide +kernel
theorem d_M_row_15 : decode b_M_row 15 = .ok (.istore_n 3, 1) := by decide +kernel
theorem d_M_row_16 : decode b_M_row 16 = .ok (.aload_n 0, 1) := by decide +kernel
theorem d_M_row_17 : decode b_M_row 17 = .ok (.dup, 1) := by decide +kernel
theorem d_M_row_18 : decode b_M_row 18 = .ok (.getfield 457, 3) := by decide +kernel
theorem d_M_row_21 : decode b_M_row 21 = .ok (.iconst 1, 1) := by decide +kernel
theorem d_M_row_22 : decode b_M_row 22 = .ok (.iadd, 1) := by decide +kernel
theorem d_M_row_23 : decode b_M_row 23 = .ok (.putfield 457, 3) := by decide +kernel
theorem d_M_row_26 : decode b_M_row 26 = .ok (.iconst 0, 1) := by decide +kernel
theorem d_M_row_27 : decode b_M_row 27 = .ok (.istore 4, 2) := by decide +kernel
theorem d_M_row_29 : decode b_M_row 29 = .ok (.iconst 0, 1) := by decide +kernel
theorem d_M_row_30 : decode b_M_row 30 = .ok (.istore 5, 2) := by decide +kernel
theorem d_M_row_32 : decode b_M_row 32 = .ok (.aload_n 0, 1) := by decide +kernel
theorem d_M_row_33 : decode b_M_row 33 = .ok (.getfield 454, 3) := by decide +kernel
theorem d_M_row_36 : decode b_M_row 36 = .ok (.ifCond .ne 89, 3) := by decide +kernel
theorem d_M_row_39 : decode b_M_row 39 = .ok (.aload_n 0, 1) := by decide +kernel
theorem d_M_row_40 : decode b_M_row 40 = .ok (.iload_n 3, 1) := by decide +kernel
theorem d_M_row_41 : decode b_M_row 41 = .ok (.invokevirtual 469, 3) := by decide +kernel
theorem d_M_row_44 : decode b_M_row 44 = .ok (.ifCond .ne 81, 3) := by decide +kernel
theorem d_M_row_47 : decode b_M_row 47 = .ok (.iconst 1, 1) := by decide +kernel
theorem d_M_row_48 : decode b_M_row 48 = .ok (.istore 6, 2) := by decide +kernel
theorem d_M_row_50 : decode b_M_row 50 = .ok (.iload 6, 2) := by decide +kernel
theorem d_M_row_52 : decode b_M_row 52 = .ok (.ifCond .eq 51, 3) := by decide +kernel
theorem d_M_row_55 : decode b_M_row 55 = .ok (.aload_n 0, 1) := by decide +kernel
theorem d_M_row_56 : decode b_M_row 56 = .ok (.getfield 454, 3) := by decide +kernel
theorem d_M_row_59 : decode b_M_row 59 = .ok (.ifCond .ne 44, 3) := by decide +kernel
theorem d_M_row_62 : decode b_M_row 62 = .ok (.aload_n 0, 1) := by decide +kernel
theorem d_M_row_63 : decode b_M_row 63 = .ok (.invokevirtual 555, 3) := by decide +kernel
theorem d_M_row_66 : decode b_M_row 66 = .ok (.istore 7, 2) := by decide +kernel
theorem d_M_row_68 : decode b_M_row 68 = .ok (.iinc 4 1, 3) := by decide +kernel
theorem d_M_row_71 : decode b_M_row 71 = .ok (.iload 4, 2) := by decide +kernel
theorem d_M_row_73 : decode b_M_row 73 = .ok (.bipush 8, 2) := by decide +kernel
theorem d_M_row_75 : decode b_M_row 75 = .ok (.if_icmp .ne 17, 3) := by decide +kernel
theorem d_M_row_78 : decode b_M_row 78 = .ok (.aload_n 0, 1) := by decide +kernel
theorem d_M_row_79 : decode b_M_row 79 = .ok (.bipush 6, 2) := by decide +kernel
theorem d_M_row_81 : decode b_M_row 81 = .ok (.invokevirtual 469, 3) := by decide +kernel
theorem d_M_row_84 : decode b_M_row 84 = .ok (.ifCond .eq 8, 3) := by decide +kernel
theorem d_M_row_87 : decode b_M_row 87 = .ok (.aload_n 0, 1) := by decide +kernel
theorem d_M_row_88 : decode b_M_row 88 = .ok (.iconst 2, 1) := by decide +kernel
theorem d_M_row_89 : decode b_M_row 89 = .ok (.invokevirtual 478, 3) := by decide +kernel
theorem d_M_row_92 : decode b_M_row 92 = .ok (.aload_n 0, 1) := by decide +kernel
theorem d_M_row_93 : decode b_M_row 93 = .ok (.bipush 6, 2) := by decide +kernel
theorem d_M_row_95 : decode b_M_row 95 = .ok (.invokevirtual 475, 3) := by decide +kernel
theorem d_M_row_98 : decode b_M_row 98 = .ok (.istore 6, 2) := by decide +kernel
theorem d_M_row_100 : decode b_M_row 100 = .ok (.goto (-50), 3) := by decide +kernel
theorem d_M_row_103 : decode b_M_row 103 = .ok (.iload_n 2, 1) := by decide +kernel
theorem d_M_row_104 : decode b_M_row 104 = .ok (.ifCond .ne 21, 3) := by decide +kernel
theorem d_M_row_107 : decode b_M_row 107 = .ok (.aload_n 0, 1) := by decide +kernel
theorem d_M_row_108 : decode b_M_row 108 = .ok (.bipush 9, 2) := by decide +kernel
theorem d_M_row_110 : decode b_M_row 110 = .ok (.invokevirtual 475, 3) := by decide +kernel
theorem d_M_row_113 : decode b_M_row 113 = .ok (.ifCond .eq 12, 3) := by decide +kernel
theorem d_M_row_116 : decode b_M_row 116 = .ok (.aload_n 0, 1) := by decide +kernel
theorem d_M_row_117 : decode b_M_row 117 = .ok (.invokevirtual 555, 3) := by decide +kernel
theorem d_M_row_120 : decode b_M_row 120 = .ok (.istore 7, 2) := by decide +kernel
theorem d_M_row_122 : decode b_M_row 122 = .ok (.iconst 1, 1) := by decide +kernel
theorem d_M_row_123 : decode b_M_row 123 = .ok (.istore 5, 2) := by decide +kernel
theorem d_M_row_125 : decode b_M_row 125 = .ok (.aload_n 0, 1) := by decide +kernel
theorem d_M_row_126 : decode b_M_row 126 = .ok (.iload_n 3, 1) := by decide +kernel
theorem d_M_row_127 : decode b_M_row 127 = .ok (.invokevirtual 529, 3) := by decide +kernel
theorem d_M_row_130 : decode b_M_row 130 = .ok (.aload_n 0, 1) := by decide +kernel
theorem d_M_row_131 : decode b_M_row 131 = .ok (.iload_n 2, 1) := by decide +kernel
theorem d_M_row_132 : decode b_M_row 132 = .ok (.ifCond .eq 7, 3) := by decide +kernel
theorem d_M_row_135 : decode b_M_row 135 = .ok (.iconst 4, 1) := by decide +kernel
theorem d_M_row_136 : decode b_M_row 136 = .ok (.goto 4, 3) := by decide +kernel
theorem d_M_row_139 : decode b_M_row 139 = .ok (.iconst 5, 1) := by decide +kernel
theorem d_M_row_140 : decode b_M_row 140 = .ok (.iload_n 1, 1) := by decide +kernel
theorem d_M_row_141 : decode b_M_row 141 = .ok (.invokevirtual 500, 3) := by decide +kernel
theorem d_M_row_144 : decode b_M_row 144 = .ok (.istore 6, 2) := by decide +kernel
theorem d_M_row_146 : decode b_M_row 146 = .ok (.aload_n 0, 1) := by decide +kernel
theorem d_M_row_147 : decode b_M_row 147 = .ok (.getfield 63, 3) := by decide +kernel
theorem d_M_row_150 : decode b_M_row 150 = .ok (.iload 6, 2) := by decide +kernel
theorem d_M_row_152 : decode b_M_row 152 = .ok (.iload 4, 2) := by decide +kernel
theorem d_M_row_154 : decode b_M_row 154 = .ok (.iastore, 1) := by decide +kernel
theorem d_M_row_155 : decode b_M_row 155 = .ok (.aload_n 0, 1) := by decide +kernel
theorem d_M_row_156 : decode b_M_row 156 = .ok (.getfield 66, 3) := by decide +kernel
theorem d_M_row_159 : decode b_M_row 159 = .ok (.iload 6, 2) := by decide +kernel
theorem d_M_row_161 : decode b_M_row 161 = .ok (.iload 5, 2) := by decide +kernel
theorem d_M_row_163 : decode b_M_row 163 = .ok (.iastore, 1) := by decide +kernel
theorem d_M_row_164 : decode b_M_row 164 = .ok (.iload 6, 2) := by decide +kernel
theorem d_M_row_166 : decode b_M_row 166 = .ok (.ireturn, 1) := by decide +kernel
set_option maxRecDepth 100000 in
theorem hl_M_row : Cond.methodLink R_M 632 y_M_row ∈ wd_tbl := wd_of 2816 (by decide +kernel) rfl
set_option maxRecDepth 100000 in
theorem hi_M_row : Cond.instanceMethod y_M_row ∈ wd_tbl := wd_of 2818 (by decide +kernel) rfl
set_option maxRecDepth 100000 in
theorem hs_M_row : Cond.selects R_M y_M_row y_M_row ∈ wd_tbl := wd_of 168 (by decide +kernel) rfl
theorem hd_M_row : y_M_row.cls = R_M ∧ y_M_row.cls ≠ "java/lang/invoke/MethodHandle" ∧ y_M_row.cls ≠ "java/lang/invoke/VarHandle" ∧ (parseMethodDescriptor y_M_row.desc).map (fun d => d.parameters.length) = some 1 := by decide +kernel
abbrev b_M_alone : ByteArray := prog_14_method_65_code
def y_M_alone : MethodName := ⟨R_M, "alone", "(I)I"⟩
def w_M_alone : List Cond := wd_ws y_M_alone b_M_alone 4 (some .int)
set_option maxRecDepth 100000 in
theorem k_M_alone : Cond.code y_M_alone b_M_alone 4 (some .int) ∈ wd_tbl := wd_of 2815 rfl rfl
theorem d_M_alone_0 : decode b_M_alone 0 = .ok (.iconst (-1), 1) := by decide +kernel
theorem d_M_alone_1 : decode b_M_alone 1 = .ok (.istore_n 2, 1) := by decide +kernel
theorem d_M_alone_2 : decode b_M_alone 2 = .ok (.aload_n 0, 1) := by decide +kernel
theorem d_M_alone_3 : decode b_M_alone 3 = .ok (.getfield 22, 3) := by decide +kernel
theorem d_M_alone_6 : decode b_M_alone 6 = .ok (.aload_n 0, 1) := by decide +kernel
theorem d_M_alone_7 : decode b_M_alone 7 = .ok (.getfield 457, 3) := by decide +kernel
theorem d_M_alone_10 : decode b_M_alone 10 = .ok (.baload, 1) := by decide +kernel
theorem d_M_alone_11 : decode b_M_alone 11 = .ok (.iconst 4, 1) := by decide +kernel
theorem d_M_alone_12 : decode b_M_alone 12 = .ok (.if_icmp .eq 16, 3) := by decide +kernel
theorem d_M_alone_15 : decode b_M_alone 15 = .ok (.aload_n 0, 1) := by decide +kernel
theorem d_M_alone_16 : decode b_M_alone 16 = .ok (.getfield 22, 3) := by decide +kernel
theorem d_M_alone_19 : decode b_M_alone 19 = .ok (.aload_n 0, 1) := by decide +kernel
theorem d_M_alone_20 : decode b_M_alone 20 = .ok (.getfield 457, 3) := by decide +kernel
theorem d_M_alone_23 : decode b_M_alone 23 = .ok (.baload, 1) := by decide +kernel
theorem d_M_alone_24 : decode b_M_alone 24 = .ok (.iconst 1, 1) := by decide +kernel
theorem d_M_alone_25 : decode b_M_alone 25 = .ok (.if_icmp .ne 62, 3) := by decide +kernel
theorem d_M_alone_28 : decode b_M_alone 28 = .ok (.aload_n 0, 1) := by decide +kernel
theorem d_M_alone_29 : decode b_M_alone 29 = .ok (.iconst 1, 1) := by decide +kernel
theorem d_M_alone_30 : decode b_M_alone 30 = .ok (.iload_n 1, 1) := by decide +kernel
theorem d_M_alone_31 : decode b_M_alone 31 = .ok (.invokevirtual 500, 3) := by decide +kernel
theorem d_M_alone_34 : decode b_M_alone 34 = .ok (.istore_n 2, 1) := by decide +kernel
theorem d_M_alone_35 : decode b_M_alone 35 = .ok (.aload_n 0, 1) := by decide +kernel
theorem d_M_alone_36 : decode b_M_alone 36 = .ok (.getfield 63, 3) := by decide +kernel
theorem d_M_alone_39 : decode b_M_alone 39 = .ok (.iload_n 2, 1) := by decide +kernel
theorem d_M_alone_40 : decode b_M_alone 40 = .ok (.aload_n 0, 1) := by decide +kernel
theorem d_M_alone_41 : decode b_M_alone 41 = .ok (.getfield 22, 3) := by decide +kernel
theorem d_M_alone_44 : decode b_M_alone 44 = .ok (.aload_n 0, 1) := by decide +kernel
theorem d_M_alone_45 : decode b_M_alone 45 = .ok (.getfield 457, 3) := by decide +kernel
theorem d_M_alone_48 : decode b_M_alone 48 = .ok (.baload, 1) := by decide +kernel
theorem d_M_alone_49 : decode b_M_alone 49 = .ok (.iconst 4, 1) := by decide +kernel
theorem d_M_alone_50 : decode b_M_alone 50 = .ok (.if_icmp .ne 7, 3) := by decide +kernel
theorem d_M_alone_53 : decode b_M_alone 53 = .ok (.iconst 0, 1) := by decide +kernel
theorem d_M_alone_54 : decode b_M_alone 54 = .ok (.goto 4, 3) := by decide +kernel
theorem d_M_alone_57 : decode b_M_alone 57 = .ok (.iconst 1, 1) := by decide +kernel
theorem d_M_alone_58 : decode b_M_alone 58 = .ok (.iastore, 1) := by decide +kernel
theorem d_M_alone_59 : decode b_M_alone 59 = .ok (.aload_n 0, 1) := by decide +kernel
theorem d_M_alone_60 : decode b_M_alone 60 = .ok (.getfield 66, 3) := by decide +kernel
theorem d_M_alone_63 : decode b_M_alone 63 = .ok (.iload_n 2, 1) := by decide +kernel
theorem d_M_alone_64 : decode b_M_alone 64 = .ok (.aload_n 0, 1) := by decide +kernel
theorem d_M_alone_65 : decode b_M_alone 65 = .ok (.getfield 25, 3) := by decide +kernel
theorem d_M_alone_68 : decode b_M_alone 68 = .ok (.aload_n 0, 1) := by decide +kernel
theorem d_M_alone_69 : decode b_M_alone 69 = .ok (.getfield 457, 3) := by decide +kernel
theorem d_M_alone_72 : decode b_M_alone 72 = .ok (.iaload, 1) := by decide +kernel
theorem d_M_alone_73 : decode b_M_alone 73 = .ok (.iastore, 1) := by decide +kernel
theorem d_M_alone_74 : decode b_M_alone 74 = .ok (.aload_n 0, 1) := by decide +kernel
theorem d_M_alone_75 : decode b_M_alone 75 = .ok (.dup, 1) := by decide +kernel
theorem d_M_alone_76 : decode b_M_alone 76 = .ok (.getfield 457, 3) := by decide +kernel
theorem d_M_alone_79 : decode b_M_alone 79 = .ok (.iconst 1, 1) := by decide +kernel
theorem d_M_alone_80 : decode b_M_alone 80 = .ok (.iadd, 1) := by decide +kernel
theorem d_M_alone_81 : decode b_M_alone 81 = .ok (.putfield 457, 3) := by decide +kernel
theorem d_M_alone_84 : decode b_M_alone 84 = .ok (.goto 277, 3) := by decide +kernel
theorem d_M_alone_87 : decode b_M_alone 87 = .ok (.aload_n 0, 1) := by decide +kernel
theorem d_M_alone_88 : decode b_M_alone 88 = .ok (.getfield 22, 3) := by decide +kernel
theorem d_M_alone_91 : decode b_M_alone 91 = .ok (.aload_n 0, 1) := by decide +kernel
theorem d_M_alone_92 : decode b_M_alone 92 = .ok (.getfield 457, 3) := by decide +kernel
theorem d_M_alone_95 : decode b_M_alone 95 = .ok (.baload, 1) := by decide +kernel
theorem d_M_alone_96 : decode b_M_alone 96 = .ok (.iconst 5, 1) := by decide +kernel
theorem d_M_alone_97 : decode b_M_alone 97 = .ok (.if_icmp .ne 52, 3) := by decide +kernel
theorem d_M_alone_100 : decode b_M_alone 100 = .ok (.aload_n 0, 1) := by decide +kernel
theorem d_M_alone_101 : decode b_M_alone 101 = .ok (.getfield 517, 3) := by decide +kernel
theorem d_M_alone_104 : decode b_M_alone 104 = .ok (.ifCond .eq 10, 3) := by decide +kernel
theorem d_M_alone_107 : decode b_M_alone 107 = .ok (.aload_n 0, 1) := by decide +kernel
theorem d_M_alone_108 : decode b_M_alone 108 = .ok (.bipush 7, 2) := by decide +kernel
theorem d_M_alone_110 : decode b_M_alone 110 = .ok (.iload_n 1, 1) := by decide +kernel
theorem d_M_alone_111 : decode b_M_alone 111 = .ok (.invokevirtual 526, 3) := by decide +kernel
theorem d_M_alone_114 : decode b_M_alone 114 = .ok (.aload_n 0, 1) := by decide +kernel
theorem d_M_alone_115 : decode b_M_alone 115 = .ok (.iconst 2, 1) := by decide +kernel
theorem d_M_alone_116 : decode b_M_alone 116 = .ok (.iload_n 1, 1) := by decide +kernel
theorem d_M_alone_117 : decode b_M_alone 117 = .ok (.invokevirtual 500, 3) := by decide +kernel
theorem d_M_alone_120 : decode b_M_alone 120 = .ok (.istore_n 2, 1) := by decide +kernel
theorem d_M_alone_121 : decode b_M_alone 121 = .ok (.aload_n 0, 1) := by decide +kernel
theorem d_M_alone_122 : decode b_M_alone 122 = .ok (.getfield 63, 3) := by decide +kernel
theorem d_M_alone_125 : decode b_M_alone 125 = .ok (.iload_n 2, 1) := by decide +kernel
theorem d_M_alone_126 : decode b_M_alone 126 = .ok (.aload_n 0, 1) := by decide +kernel
theorem d_M_alone_127 : decode b_M_alone 127 = .ok (.getfield 25, 3) := by decide +kernel
theorem d_M_alone_130 : decode b_M_alone 130 = .ok (.aload_n 0, 1) := by decide +kernel
theorem d_M_alone_131 : decode b_M_alone 131 = .ok (.getfield 457, 3) := by decide +kernel
theorem d_M_alone_134 : decode b_M_alone 134 = .ok (.iaload, 1) := by decide +kernel
theorem d_M_alone_135 : decode b_M_alone 135 = .ok (.iastore, 1) := by decide +kernel
theorem d_M_alone_136 : decode b_M_alone 136 = .ok (.aload_n 0, 1) := by decide +kernel
theorem d_M_alone_137 : decode b_M_alone 137 = .ok (.dup, 1) := by decide +kernel
theorem d_M_alone_138 : decode b_M_alone 138 = .ok (.getfield 457, 3) := by decide +kernel
theorem d_M_alone_141 : decode b_M_alone 141 = .ok (.iconst 1, 1) := by decide +kernel
theorem d_M_alone_142 : decode b_M_alone 142 = .ok (.iadd, 1) := by decide +kernel
theorem d_M_alone_143 : decode b_M_alone 143 = .ok (.putfield 457, 3) := by decide +kernel
theorem d_M_alone_146 : decode b_M_alone 146 = .ok (.goto 215, 3) := by decide +kernel
theorem d_M_alone_149 : decode b_M_alone 149 = .ok (.aload_n 0, 1) := by decide +kernel
theorem d_M_alone_150 : decode b_M_alone 150 = .ok (.getfield 22, 3) := by decide +kernel
theorem d_M_alone_153 : decode b_M_alone 153 = .ok (.aload_n 0, 1) := by decide +kernel
theorem d_M_alone_154 : decode b_M_alone 154 = .ok (.getfield 457, 3) := by decide +kernel
theorem d_M_alone_157 : decode b_M_alone 157 = .ok (.baload, 1) := by decide +kernel
theorem d_M_alone_158 : decode b_M_alone 158 = .ok (.iconst 2, 1) := by decide +kernel
theorem d_M_alone_159 : decode b_M_alone 159 = .ok (.if_icmp .ne 74, 3) := by decide +kernel
theorem d_M_alone_162 : decode b_M_alone 162 = .ok (.aload_n 0, 1) := by decide +kernel
theorem d_M_alone_163 : decode b_M_alone 163 = .ok (.iconst 3, 1) := by decide +kernel
theorem d_M_alone_164 : decode b_M_alone 164 = .ok (.iload_n 1, 1) := by decide +kernel
theorem d_M_alone_165 : decode b_M_alone 165 = .ok (.invokevirtual 500, 3) := by decide +kernel
theorem d_M_alone_168 : decode b_M_alone 168 = .ok (.istore_n 2, 1) := by decide +kernel
theorem d_M_alone_169 : decode b_M_alone 169 = .ok (.aload_n 0, 1) := by decide +kernel
theorem d_M_alone_170 : decode b_M_alone 170 = .ok (.aload_n 0, 1) := by decide +kernel
theorem d_M_alone_171 : decode b_M_alone 171 = .ok (.getfield 457, 3) := by decide +kernel
theorem d_M_alone_174 : decode b_M_alone 174 = .ok (.invokevirtual 574, 3) := by decide +kernel
theorem d_M_alone_177 : decode b_M_alone 177 = .ok (.ifCond .eq 7, 3) := by decide +kernel
theorem d_M_alone_180 : decode b_M_alone 180 = .ok (.iconst (-1), 1) := by decide +kernel
theorem d_M_alone_181 : decode b_M_alone 181 = .ok (.goto 20, 3) := by decide +kernel
theorem d_M_alone_184 : decode b_M_alone 184 = .ok (.aload_n 0, 1) := by decide +kernel
theorem d_M_alone_185 : decode b_M_alone 185 = .ok (.aload_n 0, 1) := by decide +kernel
theorem d_M_alone_186 : decode b_M_alone 186 = .ok (.getfield 493, 3) := by decide +kernel
theorem d_M_alone_189 : decode b_M_alone 189 = .ok (.aload_n 0, 1) := by decide +kernel
theorem d_M_alone_190 : decode b_M_alone 190 = .ok (.getfield 25, 3) := by decide +kernel
theorem d_M_alone_193 : decode b_M_alone 193 = .ok (.aload_n 0, 1) := by decide +kernel
theorem d_M_alone_194 : decode b_M_alone 194 = .ok (.getfield 457, 3) := by decide +kernel
theorem d_M_alone_197 : decode b_M_alone 197 = .ok (.iaload, 1) := by decide +kernel
theorem d_M_alone_198 : decode b_M_alone 198 = .ok (.invokevirtual 490, 3) := by decide +kernel
theorem d_M_alone_201 : decode b_M_alone 201 = .ok (.istore_n 3, 1) := by decide +kernel
theorem d_M_alone_202 : decode b_M_alone 202 = .ok (.iload_n 3, 1) := by decide +kernel
theorem d_M_alone_203 : decode b_M_alone 203 = .ok (.iconst (-1), 1) := by decide +kernel
theorem d_M_alone_204 : decode b_M_alone 204 = .ok (.if_icmp .ne 9, 3) := by decide +kernel
theorem d_M_alone_207 : decode b_M_alone 207 = .ok (.aload_n 0, 1) := by decide +kernel
theorem d_M_alone_208 : decode b_M_alone 208 = .ok (.iconst 5, 1) := by decide +kernel
theorem d_M_alone_209 : decode b_M_alone 209 = .ok (.iload_n 1, 1) := by decide +kernel
theorem d_M_alone_210 : decode b_M_alone 210 = .ok (.invokevirtual 526, 3) := by decide +kernel
theorem d_M_alone_213 : decode b_M_alone 213 = .ok (.aload_n 0, 1) := by decide +kernel
theorem d_M_alone_214 : decode b_M_alone 214 = .ok (.getfield 63, 3) := by decide +kernel
theorem d_M_alone_217 : decode b_M_alone 217 = .ok (.iload_n 2, 1) := by decide +kernel
theorem d_M_alone_218 : decode b_M_alone 218 = .ok (.iload_n 3, 1) := by decide +kernel
theorem d_M_alone_219 : decode b_M_alone 219 = .ok (.iastore, 1) := by decide +kernel
theorem d_M_alone_220 : decode b_M_alone 220 = .ok (.aload_n 0, 1) := by decide +kernel
theorem d_M_alone_221 : decode b_M_alone 221 = .ok (.dup, 1) := by decide +kernel
theorem d_M_alone_222 : decode b_M_alone 222 = .ok (.getfield 457, 3) := by decide +kernel
theorem d_M_alone_225 : decode b_M_alone 225 = .ok (.iconst 1, 1) := by decide +kernel
theorem d_M_alone_226 : decode b_M_alone 226 = .ok (.iadd, 1) := by decide +kernel
theorem d_M_alone_227 : decode b_M_alone 227 = .ok (.putfield 457, 3) := by decide +kernel
theorem d_M_alone_230 : decode b_M_alone 230 = .ok (.goto 131, 3) := by decide +kernel
theorem d_M_alone_233 : decode b_M_alone 233 = .ok (.aload_n 0, 1) := by decide +kernel
theorem d_M_alone_234 : decode b_M_alone 234 = .ok (.iconst 0, 1) := by decide +kernel
theorem d_M_alone_235 : decode b_M_alone 235 = .ok (.invokevirtual 475, 3) := by decide +kernel
theorem d_M_alone_238 : decode b_M_alone 238 = .ok (.ifCond .eq 16, 3) := by decide +kernel
theorem d_M_alone_241 : decode b_M_alone 241 = .ok (.aload_n 0, 1) := by decide +kernel
theorem d_M_alone_242 : decode b_M_alone 242 = .ok (.invokevirtual 555, 3) := by decide +kernel
theorem d_M_alone_245 : decode b_M_alone 245 = .ok (.istore_n 2, 1) := by decide +kernel
theorem d_M_alone_246 : decode b_M_alone 246 = .ok (.aload_n 0, 1) := by decide +kernel
theorem d_M_alone_247 : decode b_M_alone 247 = .ok (.iconst 1, 1) := by decide +kernel
theorem d_M_alone_248 : decode b_M_alone 248 = .ok (.invokevirtual 529, 3) := by decide +kernel
theorem d_M_alone_251 : decode b_M_alone 251 = .ok (.goto 110, 3) := by decide +kernel
theorem d_M_alone_254 : decode b_M_alone 254 = .ok (.aload_n 0, 1) := by decide +kernel
theorem d_M_alone_255 : decode b_M_alone 255 = .ok (.iconst 2, 1) := by decide +kernel
theorem d_M_alone_256 : decode b_M_alone 256 = .ok (.invokevirtual 469, 3) := by decide +kernel
theorem d_M_alone_259 : decode b_M_alone 259 = .ok (.ifCond .ne 11, 3) := by decide +kernel
theorem d_M_alone_262 : decode b_M_alone 262 = .ok (.aload_n 0, 1) := by decide +kernel
theorem d_M_alone_263 : decode b_M_alone 263 = .ok (.iconst 4, 1) := by decide +kernel
theorem d_M_alone_264 : decode b_M_alone 264 = .ok (.invokevirtual 469, 3) := by decide +kernel
theorem d_M_alone_267 : decode b_M_alone 267 = .ok (.ifCond .eq 12, 3) := by decide +kernel
theorem d_M_alone_270 : decode b_M_alone 270 = .ok (.aload_n 0, 1) := by decide +kernel
theorem d_M_alone_271 : decode b_M_alone 271 = .ok (.iload_n 1, 1) := by decide +kernel
theorem d_M_alone_272 : decode b_M_alone 272 = .ok (.invokevirtual 632, 3) := by decide +kernel
theorem d_M_alone_275 : decode b_M_alone 275 = .ok (.istore_n 2, 1) := by decide +kernel
theorem d_M_alone_276 : decode b_M_alone 276 = .ok (.goto 85, 3) := by decide +kernel
theorem d_M_alone_279 : decode b_M_alone 279 = .ok (.aload_n 0, 1) := by decide +kernel
theorem d_M_alone_280 : decode b_M_alone 280 = .ok (.getfield 22, 3) := by decide +kernel
theorem d_M_alone_283 : decode b_M_alone 283 = .ok (.aload_n 0, 1) := by decide +kernel
theorem d_M_alone_284 : decode b_M_alone 284 = .ok (.getfield 457, 3) := by decide +kernel
theorem d_M_alone_287 : decode b_M_alone 287 = .ok (.baload, 1) := by decide +kernel
theorem d_M_alone_288 : decode b_M_alone 288 = .ok (.iconst 3, 1) := by decide +kernel
theorem d_M_alone_289 : decode b_M_alone 289 = .ok (.if_icmp .ne 67, 3) := by decide +kernel
theorem d_M_alone_292 : decode b_M_alone 292 = .ok (.aload_n 0, 1) := by decide +kernel
theorem d_M_alone_293 : decode b_M_alone 293 = .ok (.getfield 517, 3) := by decide +kernel
theorem d_M_alone_296 : decode b_M_alone 296 = .ok (.ifCond .eq 19, 3) := by decide +kernel
theorem d_M_alone_299 : decode b_M_alone 299 = .ok (.aload_n 0, 1) := by decide +kernel
theorem d_M_alone_300 : decode b_M_alone 300 = .ok (.bipush 9, 2) := by decide +kernel
theorem d_M_alone_302 : decode b_M_alone 302 = .ok (.invokevirtual 472, 3) := by decide +kernel
theorem d_M_alone_305 : decode b_M_alone 305 = .ok (.ifCond .ne 10, 3) := by decide +kernel
theorem d_M_alone_308 : decode b_M_alone 308 = .ok (.aload_n 0, 1) := by decide +kernel
theorem d_M_alone_309 : decode b_M_alone 309 = .ok (.bipush 7, 2) := by decide +kernel
theorem d_M_alone_311 : decode b_M_alone 311 = .ok (.iload_n 1, 1) := by decide +kernel
theorem d_M_alone_312 : decode b_M_alone 312 = .ok (.invokevirtual 526, 3) := by decide +kernel
theorem d_M_alone_315 : decode b_M_alone 315 = .ok (.aload_n 0, 1) := by decide +kernel
theorem d_M_alone_316 : decode b_M_alone 316 = .ok (.getfield 517, 3) := by decide +kernel
theorem d_M_alone_319 : decode b_M_alone 319 = .ok (.istore_n 3, 1) := by decide +kernel
theorem d_M_alone_320 : decode b_M_alone 320 = .ok (.aload_n 0, 1) := by decide +kernel
theorem d_M_alone_321 : decode b_M_alone 321 = .ok (.iconst 0, 1) := by decide +kernel
theorem d_M_alone_322 : decode b_M_alone 322 = .ok (.putfield 517, 3) := by decide +kernel
theorem d_M_alone_325 : decode b_M_alone 325 = .ok (.aload_n 0, 1) := by decide +kernel
theorem d_M_alone_326 : decode b_M_alone 326 = .ok (.bipush 7, 2) := by decide +kernel
theorem d_M_alone_328 : decode b_M_alone 328 = .ok (.invokevirtual 472, 3) := by decide +kernel
theorem d_M_alone_331 : decode b_M_alone 331 = .ok (.ifCond .eq 11, 3) := by decide +kernel
theorem d_M_alone_334 : decode b_M_alone 334 = .ok (.aload_n 0, 1) := by decide +kernel
theorem d_M_alone_335 : decode b_M_alone 335 = .ok (.iload_n 1, 1) := by decide +kernel
theorem d_M_alone_336 : decode b_M_alone 336 = .ok (.invokevirtual 635, 3) := by decide +kernel
theorem d_M_alone_339 : decode b_M_alone 339 = .ok (.goto 8, 3) := by decide +kernel
theorem d_M_alone_342 : decode b_M_alone 342 = .ok (.aload_n 0, 1) := by decide +kernel
theorem d_M_alone_343 : decode b_M_alone 343 = .ok (.iload_n 1, 1) := by decide +kernel
theorem d_M_alone_344 : decode b_M_alone 344 = .ok (.invokevirtual 638, 3) := by decide +kernel
theorem d_M_alone_347 : decode b_M_alone 347 = .ok (.istore_n 2, 1) := by decide +kernel
theorem d_M_alone_348 : decode b_M_alone 348 = .ok (.aload_n 0, 1) := by decide +kernel
theorem d_M_alone_349 : decode b_M_alone 349 = .ok (.iload_n 3, 1) := by decide +kernel
theorem d_M_alone_350 : decode b_M_alone 350 = .ok (.putfield 517, 3) := by decide +kernel
theorem d_M_alone_353 : decode b_M_alone 353 = .ok (.goto 8, 3) := by decide +kernel
theorem d_M_alone_356 : decode b_M_alone 356 = .ok (.aload_n 0, 1) := by decide +kernel
theorem d_M_alone_357 : decode b_M_alone 357 = .ok (.iconst 2, 1) := by decide +kernel
theorem d_M_alone_358 : decode b_M_alone 358 = .ok (.invokevirtual 478, 3) := by decide +kernel
theorem d_M_alone_361 : decode b_M_alone 361 = .ok (.iload_n 2, 1) := by decide +kernel
theorem d_M_alone_362 : decode b_M_alone 362 = .ok (.ireturn, 1) := by decide +kernel
set_option maxRecDepth 100000 in
theorem hl_M_alone : Cond.methodLink R_M 629 y_M_alone ∈ wd_tbl := wd_of 2812 (by decide +kernel) rfl
set_option maxRecDepth 100000 in
theorem hi_M_alone : Cond.instanceMethod y_M_alone ∈ wd_tbl := wd_of 2814 (by decide +kernel) rfl
set_option maxRecDepth 100000 in
theorem hs_M_alone : Cond.selects R_M y_M_alone y_M_alone ∈ wd_tbl := wd_of 167 (by decide +kernel) rfl
theorem hd_M_alone : y_M_alone.cls = R_M ∧ y_M_alone.cls ≠ "java/lang/invoke/MethodHandle" ∧ y_M_alone.cls ≠ "java/lang/invoke/VarHandle" ∧ (parseMethodDescriptor y_M_alone.desc).map (fun d => d.parameters.length) = some 1 := by decide +kernel
abbrev b_M_arguments : ByteArray := prog_14_method_63_code
def y_M_arguments : MethodName := ⟨R_M, "arguments", "()V"⟩
def w_M_arguments : List Cond := wd_ws y_M_arguments b_M_arguments 4 none
set_option maxRecDepth 100000 in
theorem k_M_arguments : Cond.code y_M_arguments b_M_arguments 4 none ∈ wd_tbl := wd_of 2811 rfl rfl
theorem d_M_arguments_0 : decode b_M_arguments 0 = .ok (.iconst 0, 1) := by decide +kernel
theorem d_M_arguments_1 : decode b_M_arguments 1 = .ok (.istore_n 1, 1) := by decide +kernel
theorem d_M_arguments_2 : decode b_M_arguments 2 = .ok (.aload_n 0, 1) := by decide +kernel
theorem d_M_arguments_3 : decode b_M_arguments 3 = .ok (.iconst 0, 1) := by decide +kernel
theorem d_M_arguments_4 : decode b_M_arguments 4 = .ok (.invokevirtual 529, 3) := by decide +kernel
theorem d_M_arguments_7 : decode b_M_arguments 7 = .ok (.aload_n 0, 1) := by decide +kernel
theorem d_M_arguments_8 : decode b_M_arguments 8 = .ok (.getfield 454, 3) := by decide +kernel
theorem d_M_arguments_11 : decode b_M_arguments 11 = .ok (.ifCond .ne 62, 3) := by decide +kernel
theorem d_M_arguments_14 : decode b_M_arguments 14 = .ok (.aload_n 0, 1) := by decide +kernel
theorem d_M_arguments_15 : decode b_M_arguments 15 = .ok (.iconst 1, 1) := by decide +kernel
theorem d_M_arguments_16 : decode b_M_arguments 16 = .ok (.invokevirtual 469, 3) := by decide +kernel
theorem d_M_arguments_19 : decode b_M_arguments 19 = .ok (.ifCond .ne 54, 3) := by decide +kernel
theorem d_M_arguments_22 : decode b_M_arguments 22 = .ok (.iconst 1, 1) := by decide +kernel
theorem d_M_arguments_23 : decode b_M_arguments 23 = .ok (.istore_n 2, 1) := by decide +kernel
theorem d_M_arguments_24 : decode b_M_arguments 24 = .ok (.iload_n 2, 1) := by decide +kernel
theorem d_M_arguments_25 : decode b_M_arguments 25 = .ok (.ifCond .eq 48, 3) := by decide +kernel
theorem d_M_arguments_28 : decode b_M_arguments 28 = .ok (.aload_n 0, 1) := by decide +kernel
theorem d_M_arguments_29 : decode b_M_arguments 29 = .ok (.getfield 454, 3) := by decide +kernel
theorem d_M_arguments_32 : decode b_M_arguments 32 = .ok (.ifCond .ne 41, 3) := by decide +kernel
theorem d_M_arguments_35 : decode b_M_arguments 35 = .ok (.aload_n 0, 1) := by decide +kernel
theorem d_M_arguments_36 : decode b_M_arguments 36 = .ok (.invokevirtual 555, 3) := by decide +kernel
theorem d_M_arguments_39 : decode b_M_arguments 39 = .ok (.istore_n 3, 1) := by decide +kernel
theorem d_M_arguments_40 : decode b_M_arguments 40 = .ok (.iinc 1 1, 3) := by decide +kernel
theorem d_M_arguments_43 : decode b_M_arguments 43 = .ok (.iload_n 1, 1) := by decide +kernel
theorem d_M_arguments_44 : decode b_M_arguments 44 = .ok (.bipush 6, 2) := by decide +kernel
theorem d_M_arguments_46 : decode b_M_arguments 46 = .ok (.if_icmp .ne 17, 3) := by decide +kernel
theorem d_M_arguments_49 : decode b_M_arguments 49 = .ok (.aload_n 0, 1) := by decide +kernel
theorem d_M_arguments_50 : decode b_M_arguments 50 = .ok (.bipush 6, 2) := by decide +kernel
theorem d_M_arguments_52 : decode b_M_arguments 52 = .ok (.invokevirtual 469, 3) := by decide +kernel
theorem d_M_arguments_55 : decode b_M_arguments 55 = .ok (.ifCond .eq 8, 3) := by decide +kernel
theorem d_M_arguments_58 : decode b_M_arguments 58 = .ok (.aload_n 0, 1) := by decide +kernel
theorem d_M_arguments_59 : decode b_M_arguments 59 = .ok (.iconst 2, 1) := by decide +kernel
theorem d_M_arguments_60 : decode b_M_arguments 60 = .ok (.invokevirtual 478, 3) := by decide +kernel
theorem d_M_arguments_63 : decode b_M_arguments 63 = .ok (.aload_n 0, 1) := by decide +kernel
theorem d_M_arguments_64 : decode b_M_arguments 64 = .ok (.bipush 6, 2) := by decide +kernel
theorem d_M_arguments_66 : decode b_M_arguments 66 = .ok (.invokevirtual 475, 3) := by decide +kernel
theorem d_M_arguments_69 : decode b_M_arguments 69 = .ok (.istore_n 2, 1) := by decide +kernel
theorem d_M_arguments_70 : decode b_M_arguments 70 = .ok (.goto (-46), 3) := by decide +kernel
theorem d_M_arguments_73 : decode b_M_arguments 73 = .ok (.aload_n 0, 1) := by decide +kernel
theorem d_M_arguments_74 : decode b_M_arguments 74 = .ok (.iconst 1, 1) := by decide +kernel
theorem d_M_arguments_75 : decode b_M_arguments 75 = .ok (.invokevirtual 529, 3) := by decide +kernel
theorem d_M_arguments_78 : decode b_M_arguments 78 = .ok (.aload_n 0, 1) := by decide +kernel
theorem d_M_arguments_79 : decode b_M_arguments 79 = .ok (.iload_n 1, 1) := by decide +kernel
theorem d_M_arguments_80 : decode b_M_arguments 80 = .ok (.putfield 623, 3) := by decide +kernel
theorem d_M_arguments_83 : decode b_M_arguments 83 = .ok (.return_, 1) := by decide +kernel
set_option maxRecDepth 100000 in
theorem hl_M_arguments : Cond.methodLink R_M 626 y_M_arguments ∈ wd_tbl := wd_of 2808 (by decide +kernel) rfl
set_option maxRecDepth 100000 in
theorem hi_M_arguments : Cond.instanceMethod y_M_arguments ∈ wd_tbl := wd_of 2810 (by decide +kernel) rfl
set_option maxRecDepth 100000 in
theorem hs_M_arguments : Cond.selects R_M y_M_arguments y_M_arguments ∈ wd_tbl := wd_of 166 (by decide +kernel) rfl
theorem hd_M_arguments : y_M_arguments.cls = R_M ∧ y_M_arguments.cls ≠ "java/lang/invoke/MethodHandle" ∧ y_M_arguments.cls ≠ "java/lang/invoke/VarHandle" ∧ (parseMethodDescriptor y_M_arguments.desc).map (fun d => d.parameters.length) = some 0 := by decide +kernel
abbrev b_M_primary : ByteArray := prog_14_method_64_code
def y_M_primary : MethodName := ⟨R_M, "primary", "()I"⟩
def w_M_primary : List Cond := wd_ws y_M_primary b_M_primary 3 (some .int)
set_option maxRecDepth 100000 in
theorem k_M_primary : Cond.code y_M_primary b_M_primary 3 (some .int) ∈ wd_tbl := wd_of 2807 rfl rfl
theorem d_M_primary_0 : decode b_M_primary 0 = .ok (.aload_n 0, 1) := by decide +kernel
theorem d_M_primary_1 : decode b_M_primary 1 = .ok (.getfield 454, 3) := by decide +kernel
theorem d_M_primary_4 : decode b_M_primary 4 = .ok (.ifCond .eq 5, 3) := by decide +kernel
theorem d_M_primary_7 : decode b_M_primary 7 = .ok (.iconst (-1), 1) := by decide +kernel
theorem d_M_primary_8 : decode b_M_primary 8 = .ok (.ireturn, 1) := by decide +kernel
theorem d_M_primary_9 : decode b_M_primary 9 = .ok (.aload_n 0, 1) := by decide +kernel
theorem d_M_primary_10 : decode b_M_primary 10 = .ok (.getfield 457, 3) := by decide +kernel
theorem d_M_primary_13 : decode b_M_primary 13 = .ok (.istore_n 1, 1) := by decide +kernel
theorem d_M_primary_14 : decode b_M_primary 14 = .ok (.aload_n 0, 1) := by decide +kernel
theorem d_M_primary_15 : decode b_M_primary 15 = .ok (.getfield 22, 3) := by decide +kernel
theorem d_M_primary_18 : decode b_M_primary 18 = .ok (.aload_n 0, 1) := by decide +kernel
theorem d_M_primary_19 : decode b_M_primary 19 = .ok (.getfield 457, 3) := by decide +kernel
theorem d_M_primary_22 : decode b_M_primary 22 = .ok (.baload, 1) := by decide +kernel
theorem d_M_primary_23 : decode b_M_primary 23 = .ok (.iconst 1, 1) := by decide +kernel
theorem d_M_primary_24 : decode b_M_primary 24 = .ok (.if_icmp .ne 98, 3) := by decide +kernel
theorem d_M_primary_27 : decode b_M_primary 27 = .ok (.aload_n 0, 1) := by decide +kernel
theorem d_M_primary_28 : decode b_M_primary 28 = .ok (.getfield 22, 3) := by decide +kernel
theorem d_M_primary_31 : decode b_M_primary 31 = .ok (.aload_n 0, 1) := by decide +kernel
theorem d_M_primary_32 : decode b_M_primary 32 = .ok (.getfield 457, 3) := by decide +kernel
theorem d_M_primary_35 : decode b_M_primary 35 = .ok (.iconst 1, 1) := by decide +kernel
theorem d_M_primary_36 : decode b_M_primary 36 = .ok (.iadd, 1) := by decide +kernel
theorem d_M_primary_37 : decode b_M_primary 37 = .ok (.baload, 1) := by decide +kernel
theorem d_M_primary_38 : decode b_M_primary 38 = .ok (.bipush 6, 2) := by decide +kernel
theorem d_M_primary_40 : decode b_M_primary 40 = .ok (.if_icmp .ne 82, 3) := by decide +kernel
theorem d_M_primary_43 : decode b_M_primary 43 = .ok (.aload_n 0, 1) := by decide +kernel
theorem d_M_primary_44 : decode b_M_primary 44 = .ok (.getfield 25, 3) := by decide +kernel
theorem d_M_primary_47 : decode b_M_primary 47 = .ok (.aload_n 0, 1) := by decide +kernel
theorem d_M_primary_48 : decode b_M_primary 48 = .ok (.getfield 457, 3) := by decide +kernel
theorem d_M_primary_51 : decode b_M_primary 51 = .ok (.iconst 1, 1) := by decide +kernel
theorem d_M_primary_52 : decode b_M_primary 52 = .ok (.iadd, 1) := by decide +kernel
theorem d_M_primary_53 : decode b_M_primary 53 = .ok (.iaload, 1) := by decide +kernel
theorem d_M_primary_54 : decode b_M_primary 54 = .ok (.ifCond .ne 68, 3) := by decide +kernel
theorem d_M_primary_57 : decode b_M_primary 57 = .ok (.aload_n 0, 1) := by decide +kernel
theorem d_M_primary_58 : decode b_M_primary 58 = .ok (.dup, 1) := by decide +kernel
theorem d_M_primary_59 : decode b_M_primary 59 = .ok (.getfield 457, 3) := by decide +kernel
theorem d_M_primary_62 : decode b_M_primary 62 = .ok (.iconst 1, 1) := by decide +kernel
theorem d_M_primary_63 : decode b_M_primary 63 = .ok (.iadd, 1) := by decide +kernel
theorem d_M_primary_64 : decode b_M_primary 64 = .ok (.putfield 457, 3) := by decide +kernel
theorem d_M_primary_67 : decode b_M_primary 67 = .ok (.aload_n 0, 1) := by decide +kernel
theorem d_M_primary_68 : decode b_M_primary 68 = .ok (.invokevirtual 626, 3) := by decide +kernel
theorem d_M_primary_71 : decode b_M_primary 71 = .ok (.aload_n 0, 1) := by decide +kernel
theorem d_M_primary_72 : decode b_M_primary 72 = .ok (.bipush 12, 2) := by decide +kernel
theorem d_M_primary_74 : decode b_M_primary 74 = .ok (.iload_n 1, 1) := by decide +kernel
theorem d_M_primary_75 : decode b_M_primary 75 = .ok (.invokevirtual 500, 3) := by decide +kernel
theorem d_M_primary_78 : decode b_M_primary 78 = .ok (.istore_n 2, 1) := by decide +kernel
theorem d_M_primary_79 : decode b_M_primary 79 = .ok (.aload_n 0, 1) := by decide +kernel
theorem d_M_primary_80 : decode b_M_primary 80 = .ok (.getfield 63, 3) := by decide +kernel
theorem d_M_primary_83 : decode b_M_primary 83 = .ok (.iload_n 2, 1) := by decide +kernel
theorem d_M_primary_84 : decode b_M_primary 84 = .ok (.aload_n 0, 1) := by decide +kernel
theorem d_M_primary_85 : decode b_M_primary 85 = .ok (.getfield 25, 3) := by decide +kernel
theorem d_M_primary_88 : decode b_M_primary 88 = .ok (.iload_n 1, 1) := by decide +kernel
theorem d_M_primary_89 : decode b_M_primary 89 = .ok (.iaload, 1) := by decide +kernel
theorem d_M_primary_90 : decode b_M_primary 90 = .ok (.iastore, 1) := by decide +kernel
theorem d_M_primary_91 : decode b_M_primary 91 = .ok (.aload_n 0, 1) := by decide +kernel
theorem d_M_primary_92 : decode b_M_primary 92 = .ok (.getfield 66, 3) := by decide +kernel
theorem d_M_primary_95 : decode b_M_primary 95 = .ok (.iload_n 2, 1) := by decide +kernel
theorem d_M_primary_96 : decode b_M_primary 96 = .ok (.aload_n 0, 1) := by decide +kernel
theorem d_M_primary_97 : decode b_M_primary 97 = .ok (.getfield 623, 3) := by decide +kernel
theorem d_M_primary_100 : decode b_M_primary 100 = .ok (.iastore, 1) := by decide +kernel
theorem d_M_primary_101 : decode b_M_primary 101 = .ok (.aload_n 0, 1) := by decide +kernel
theorem d_M_primary_102 : decode b_M_primary 102 = .ok (.getfield 69, 3) := by decide +kernel
theorem d_M_primary_105 : decode b_M_primary 105 = .ok (.iload_n 2, 1) := by decide +kernel
theorem d_M_primary_106 : decode b_M_primary 106 = .ok (.aload_n 0, 1) := by decide +kernel
theorem d_M_primary_107 : decode b_M_primary 107 = .ok (.getfield 517, 3) := by decide +kernel
theorem d_M_primary_110 : decode b_M_primary 110 = .ok (.ifCond .eq 7, 3) := by decide +kernel
theorem d_M_primary_113 : decode b_M_primary 113 = .ok (.iconst 1, 1) := by decide +kernel
theorem d_M_primary_114 : decode b_M_primary 114 = .ok (.goto 4, 3) := by decide +kernel
theorem d_M_primary_117 : decode b_M_primary 117 = .ok (.iconst 0, 1) := by decide +kernel
theorem d_M_primary_118 : decode b_M_primary 118 = .ok (.iastore, 1) := by decide +kernel
theorem d_M_primary_119 : decode b_M_primary 119 = .ok (.goto 9, 3) := by decide +kernel
theorem d_M_primary_122 : decode b_M_primary 122 = .ok (.aload_n 0, 1) := by decide +kernel
theorem d_M_primary_123 : decode b_M_primary 123 = .ok (.iload_n 1, 1) := by decide +kernel
theorem d_M_primary_124 : decode b_M_primary 124 = .ok (.invokevirtual 629, 3) := by decide +kernel
theorem d_M_primary_127 : decode b_M_primary 127 = .ok (.istore_n 2, 1) := by decide +kernel
theorem d_M_primary_128 : decode b_M_primary 128 = .ok (.aload_n 0, 1) := by decide +kernel
theorem d_M_primary_129 : decode b_M_primary 129 = .ok (.getfield 454, 3) := by decide +kernel
theorem d_M_primary_132 : decode b_M_primary 132 = .ok (.ifCond .ne 50, 3) := by decide +kernel
theorem d_M_primary_135 : decode b_M_primary 135 = .ok (.aload_n 0, 1) := by decide +kernel
theorem d_M_primary_136 : decode b_M_primary 136 = .ok (.iconst 0, 1) := by decide +kernel
theorem d_M_primary_137 : decode b_M_primary 137 = .ok (.invokevirtual 469, 3) := by decide +kernel
theorem d_M_primary_140 : decode b_M_primary 140 = .ok (.ifCond .eq 42, 3) := by decide +kernel
theorem d_M_primary_143 : decode b_M_primary 143 = .ok (.aload_n 0, 1) := by decide +kernel
theorem d_M_primary_144 : decode b_M_primary 144 = .ok (.getfield 517, 3) := by decide +kernel
theorem d_M_primary_147 : decode b_M_primary 147 = .ok (.ifCond .eq 10, 3) := by decide +kernel
theorem d_M_primary_150 : decode b_M_primary 150 = .ok (.aload_n 0, 1) := by decide +kernel
theorem d_M_primary_151 : decode b_M_primary 151 = .ok (.bipush 7, 2) := by decide +kernel
theorem d_M_primary_153 : decode b_M_primary 153 = .ok (.iload_n 1, 1) := by decide +kernel
theorem d_M_primary_154 : decode b_M_primary 154 = .ok (.invokevirtual 526, 3) := by decide +kernel
theorem d_M_primary_157 : decode b_M_primary 157 = .ok (.aload_n 0, 1) := by decide +kernel
theorem d_M_primary_158 : decode b_M_primary 158 = .ok (.invokevirtual 626, 3) := by decide +kernel
theorem d_M_primary_161 : decode b_M_primary 161 = .ok (.aload_n 0, 1) := by decide +kernel
theorem d_M_primary_162 : decode b_M_primary 162 = .ok (.bipush 13, 2) := by decide +kernel
theorem d_M_primary_164 : decode b_M_primary 164 = .ok (.iload_n 1, 1) := by decide +kernel
theorem d_M_primary_165 : decode b_M_primary 165 = .ok (.invokevirtual 500, 3) := by decide +kernel
theorem d_M_primary_168 : decode b_M_primary 168 = .ok (.istore_n 2, 1) := by decide +kernel
theorem d_M_primary_169 : decode b_M_primary 169 = .ok (.aload_n 0, 1) := by decide +kernel
theorem d_M_primary_170 : decode b_M_primary 170 = .ok (.getfield 66, 3) := by decide +kernel
theorem d_M_primary_173 : decode b_M_primary 173 = .ok (.iload_n 2, 1) := by decide +kernel
theorem d_M_primary_174 : decode b_M_primary 174 = .ok (.aload_n 0, 1) := by decide +kernel
theorem d_M_primary_175 : decode b_M_primary 175 = .ok (.getfield 623, 3) := by decide +kernel
theorem d_M_primary_178 : decode b_M_primary 178 = .ok (.iastore, 1) := by decide +kernel
theorem d_M_primary_179 : decode b_M_primary 179 = .ok (.goto (-51), 3) := by decide +kernel
theorem d_M_primary_182 : decode b_M_primary 182 = .ok (.iload_n 2, 1) := by decide +kernel
theorem d_M_primary_183 : decode b_M_primary 183 = .ok (.ireturn, 1) := by decide +kernel
set_option maxRecDepth 100000 in
theorem hl_M_primary : Cond.methodLink R_M 613 y_M_primary ∈ wd_tbl := wd_of 2804 (by decide +kernel) rfl
set_option maxRecDepth 100000 in
theorem hi_M_primary : Cond.instanceMethod y_M_primary ∈ wd_tbl := wd_of 2806 (by decide +kernel) rfl
set_option maxRecDepth 100000 in
theorem hs_M_primary : Cond.selects R_M y_M_primary y_M_primary ∈ wd_tbl := wd_of 165 (by decide +kernel) rfl
theorem hd_M_primary : y_M_primary.cls = R_M ∧ y_M_primary.cls ≠ "java/lang/invoke/MethodHandle" ∧ y_M_primary.cls ≠ "java/lang/invoke/VarHandle" ∧ (parseMethodDescriptor y_M_primary.desc).map (fun d => d.parameters.length) = some 0 := by decide +kernel
abbrev b_M_worked : ByteArray := prog_14_method_61_code
def y_M_worked : MethodName := ⟨R_M, "worked", "()I"⟩
def w_M_worked : List Cond := wd_ws y_M_worked b_M_worked 5 (some .int)
set_option maxRecDepth 100000 in
theorem k_M_worked : Cond.code y_M_worked b_M_worked 5 (some .int) ∈ wd_tbl := wd_of 2803 rfl rfl
theorem d_M_worked_0 : decode b_M_worked 0 = .ok (.aload_n 0, 1) := by decide +kernel
theorem d_M_worked_1 : decode b_M_worked 1 = .ok (.getfield 610, 3) := by decide +kernel
theorem d_M_worked_4 : decode b_M_worked 4 = .ok (.istore_n 1, 1) := by decide +kernel
theorem d_M_worked_5 : decode b_M_worked 5 = .ok (.iconst (-1), 1) := by decide +kernel
theorem d_M_worked_6 : decode b_M_worked 6 = .ok (.istore_n 2, 1) := by decide +kernel
theorem d_M_worked_7 : decode b_M_worked 7 = .ok (.iconst 1, 1) := by decide +kernel
theorem d_M_worked_8 : decode b_M_worked 8 = .ok (.istore_n 3, 1) := by decide +kernel
theorem d_M_worked_9 : decode b_M_worked 9 = .ok (.iload_n 3, 1) := by decide +kernel
theorem d_M_worked_10 : decode b_M_worked 10 = .ok (.ifCond .eq 324, 3) := by decide +kernel
theorem d_M_worked_13 : decode b_M_worked 13 = .ok (.aload_n 0, 1) := by decide +kernel
theorem d_M_worked_14 : decode b_M_worked 14 = .ok (.getfield 454, 3) := by decide +kernel
theorem d_M_worked_17 : decode b_M_worked 17 = .ok (.ifCond .ne 317, 3) := by decide +kernel
theorem d_M_worked_20 : decode b_M_worked 20 = .ok (.aload_n 0, 1) := by decide +kernel
theorem d_M_worked_21 : decode b_M_worked 21 = .ok (.getfield 454, 3) := by decide +kernel
theorem d_M_worked_24 : decode b_M_worked 24 = .ok (.ifCond .ne 85, 3) := by decide +kernel
theorem d_M_worked_27 : decode b_M_worked 27 = .ok (.aload_n 0, 1) := by decide +kernel
theorem d_M_worked_28 : decode b_M_worked 28 = .ok (.bipush 19, 2) := by decide +kernel
theorem d_M_worked_30 : decode b_M_worked 30 = .ok (.invokevirtual 469, 3) := by decide +kernel
theorem d_M_worked_33 : decode b_M_worked 33 = .ok (.ifCond .ne 12, 3) := by decide +kernel
theorem d_M_worked_36 : decode b_M_worked 36 = .ok (.aload_n 0, 1) := by decide +kernel
theorem d_M_worked_37 : decode b_M_worked 37 = .ok (.bipush 9, 2) := by decide +kernel
theorem d_M_worked_39 : decode b_M_worked 39 = .ok (.invokevirtual 472, 3) := by decide +kernel
theorem d_M_worked_42 : decode b_M_worked 42 = .ok (.ifCond .eq 67, 3) := by decide +kernel
theorem d_M_worked_45 : decode b_M_worked 45 = .ok (.aload_n 0, 1) := by decide +kernel
theorem d_M_worked_46 : decode b_M_worked 46 = .ok (.getfield 177, 3) := by decide +kernel
theorem d_M_worked_49 : decode b_M_worked 49 = .ok (.aload_n 0, 1) := by decide +kernel
theorem d_M_worked_50 : decode b_M_worked 50 = .ok (.getfield 610, 3) := by decide +kernel
theorem d_M_worked_53 : decode b_M_worked 53 = .ok (.bipush 7, 2) := by decide +kernel
theorem d_M_worked_55 : decode b_M_worked 55 = .ok (.bastore, 1) := by decide +kernel
theorem d_M_worked_56 : decode b_M_worked 56 = .ok (.aload_n 0, 1) := by decide +kernel
theorem d_M_worked_57 : decode b_M_worked 57 = .ok (.getfield 180, 3) := by decide +kernel
theorem d_M_worked_60 : decode b_M_worked 60 = .ok (.aload_n 0, 1) := by decide +kernel
theorem d_M_worked_61 : decode b_M_worked 61 = .ok (.getfield 610, 3) := by decide +kernel
theorem d_M_worked_64 : decode b_M_worked 64 = .ok (.aload_n 0, 1) := by decide +kernel
theorem d_M_worked_65 : decode b_M_worked 65 = .ok (.getfield 457, 3) := by decide +kernel
theorem d_M_worked_68 : decode b_M_worked 68 = .ok (.i2s, 1) := by decide +kernel
theorem d_M_worked_69 : decode b_M_worked 69 = .ok (.sastore, 1) := by decide +kernel
theorem d_M_worked_70 : decode b_M_worked 70 = .ok (.aload_n 0, 1) := by decide +kernel
theorem d_M_worked_71 : decode b_M_worked 71 = .ok (.dup, 1) := by decide +kernel
theorem d_M_worked_72 : decode b_M_worked 72 = .ok (.getfield 610, 3) := by decide +kernel
theorem d_M_worked_75 : decode b_M_worked 75 = .ok (.iconst 1, 1) := by decide +kernel
theorem d_M_worked_76 : decode b_M_worked 76 = .ok (.iadd, 1) := by decide +kernel
theorem d_M_worked_77 : decode b_M_worked 77 = .ok (.putfield 610, 3) := by decide +kernel
theorem d_M_worked_80 : decode b_M_worked 80 = .ok (.aload_n 0, 1) := by decide +kernel
theorem d_M_worked_81 : decode b_M_worked 81 = .ok (.dup, 1) := by decide +kernel
theorem d_M_worked_82 : decode b_M_worked 82 = .ok (.getfield 457, 3) := by decide +kernel
theorem d_M_worked_85 : decode b_M_worked 85 = .ok (.iconst 1, 1) := by decide +kernel
theorem d_M_worked_86 : decode b_M_worked 86 = .ok (.iadd, 1) := by decide +kernel
theorem d_M_worked_87 : decode b_M_worked 87 = .ok (.putfield 457, 3) := by decide +kernel
theorem d_M_worked_90 : decode b_M_worked 90 = .ok (.aload_n 0, 1) := by decide +kernel
theorem d_M_worked_91 : decode b_M_worked 91 = .ok (.invokevirtual 558, 3) := by decide +kernel
theorem d_M_worked_94 : decode b_M_worked 94 = .ok (.ifCond .ne 8, 3) := by decide +kernel
theorem d_M_worked_97 : decode b_M_worked 97 = .ok (.aload_n 0, 1) := by decide +kernel
theorem d_M_worked_98 : decode b_M_worked 98 = .ok (.iconst 2, 1) := by decide +kernel
theorem d_M_worked_99 : decode b_M_worked 99 = .ok (.invokevirtual 478, 3) := by decide +kernel
theorem d_M_worked_102 : decode b_M_worked 102 = .ok (.aload_n 0, 1) := by decide +kernel
theorem d_M_worked_103 : decode b_M_worked 103 = .ok (.invokevirtual 562, 3) := by decide +kernel
theorem d_M_worked_106 : decode b_M_worked 106 = .ok (.goto (-86), 3) := by decide +kernel
theorem d_M_worked_109 : decode b_M_worked 109 = .ok (.aload_n 0, 1) := by decide +kernel
theorem d_M_worked_110 : decode b_M_worked 110 = .ok (.invokevirtual 613, 3) := by decide +kernel
theorem d_M_worked_113 : decode b_M_worked 113 = .ok (.istore_n 2, 1) := by decide +kernel
theorem d_M_worked_114 : decode b_M_worked 114 = .ok (.aload_n 0, 1) := by decide +kernel
theorem d_M_worked_115 : decode b_M_worked 115 = .ok (.getfield 454, 3) := by decide +kernel
theorem d_M_worked_118 : decode b_M_worked 118 = .ok (.ifCond .ne 10, 3) := by decide +kernel
theorem d_M_worked_121 : decode b_M_worked 121 = .ok (.aload_n 0, 1) := by decide +kernel
theorem d_M_worked_122 : decode b_M_worked 122 = .ok (.invokevirtual 616, 3) := by decide +kernel
theorem d_M_worked_125 : decode b_M_worked 125 = .ok (.goto 4, 3) := by decide +kernel
theorem d_M_worked_128 : decode b_M_worked 128 = .ok (.iconst 0, 1) := by decide +kernel
theorem d_M_worked_129 : decode b_M_worked 129 = .ok (.istore 4, 2) := by decide +kernel
theorem d_M_worked_131 : decode b_M_worked 131 = .ok (.iload 4, 2) := by decide +kernel
theorem d_M_worked_133 : decode b_M_worked 133 = .ok (.ifCond .le 7, 3) := by decide +kernel
theorem d_M_worked_136 : decode b_M_worked 136 = .ok (.iconst 1, 1) := by decide +kernel
theorem d_M_worked_137 : decode b_M_worked 137 = .ok (.goto 4, 3) := by decide +kernel
theorem d_M_worked_140 : decode b_M_worked 140 = .ok (.iconst 0, 1) := by decide +kernel
theorem d_M_worked_141 : decode b_M_worked 141 = .ok (.istore_n 3, 1) := by decide +kernel
theorem d_M_worked_142 : decode b_M_worked 142 = .ok (.iload_n 3, 1) := by decide +kernel
theorem d_M_worked_143 : decode b_M_worked 143 = .ok (.ifCond .eq 188, 3) := by decide +kernel
theorem d_M_worked_146 : decode b_M_worked 146 = .ok (.aload_n 0, 1) := by decide +kernel
theorem d_M_worked_147 : decode b_M_worked 147 = .ok (.iload_n 1, 1) := by decide +kernel
theorem d_M_worked_148 : decode b_M_worked 148 = .ok (.iload 4, 2) := by decide +kernel
theorem d_M_worked_150 : decode b_M_worked 150 = .ok (.iload_n 2, 1) := by decide +kernel
theorem d_M_worked_151 : decode b_M_worked 151 = .ok (.invokevirtual 619, 3) := by decide +kernel
theorem d_M_worked_154 : decode b_M_worked 154 = .ok (.istore_n 2, 1) := by decide +kernel
theorem d_M_worked_155 : decode b_M_worked 155 = .ok (.iload 4, 2) := by decide +kernel
theorem d_M_worked_157 : decode b_M_worked 157 = .ok (.iconst 3, 1) := by decide +kernel
theorem d_M_worked_158 : decode b_M_worked 158 = .ok (.if_icmp .ne 31, 3) := by decide +kernel
theorem d_M_worked_161 : decode b_M_worked 161 = .ok (.aload_n 0, 1) := by decide +kernel
theorem d_M_worked_162 : decode b_M_worked 162 = .ok (.getfield 610, 3) := by decide +kernel
theorem d_M_worked_165 : decode b_M_worked 165 = .ok (.iload_n 1, 1) := by decide +kernel
theorem d_M_worked_166 : decode b_M_worked 166 = .ok (.if_icmp .le 23, 3) := by decide +kernel
theorem d_M_worked_169 : decode b_M_worked 169 = .ok (.aload_n 0, 1) := by decide +kernel
theorem d_M_worked_170 : decode b_M_worked 170 = .ok (.getfield 177, 3) := by decide +kernel
theorem d_M_worked_173 : decode b_M_worked 173 = .ok (.aload_n 0, 1) := by decide +kernel
theorem d_M_worked_174 : decode b_M_worked 174 = .ok (.getfield 610, 3) := by decide +kernel
theorem d_M_worked_177 : decode b_M_worked 177 = .ok (.iconst 1, 1) := by decide +kernel
theorem d_M_worked_178 : decode b_M_worked 178 = .ok (.isub, 1) := by decide +kernel
theorem d_M_worked_179 : decode b_M_worked 179 = .ok (.baload, 1) := by decide +kernel
theorem d_M_worked_180 : decode b_M_worked 180 = .ok (.iconst 3, 1) := by decide +kernel
theorem d_M_worked_181 : decode b_M_worked 181 = .ok (.if_icmp .ne 8, 3) := by decide +kernel
theorem d_M_worked_184 : decode b_M_worked 184 = .ok (.aload_n 0, 1) := by decide +kernel
theorem d_M_worked_185 : decode b_M_worked 185 = .ok (.iconst 2, 1) := by decide +kernel
theorem d_M_worked_186 : decode b_M_worked 186 = .ok (.invokevirtual 478, 3) := by decide +kernel
theorem d_M_worked_189 : decode b_M_worked 189 = .ok (.aload_n 0, 1) := by decide +kernel
theorem d_M_worked_190 : decode b_M_worked 190 = .ok (.getfield 177, 3) := by decide +kernel
theorem d_M_worked_193 : decode b_M_worked 193 = .ok (.aload_n 0, 1) := by decide +kernel
theorem d_M_worked_194 : decode b_M_worked 194 = .ok (.getfield 610, 3) := by decide +kernel
theorem d_M_worked_197 : decode b_M_worked 197 = .ok (.iload 4, 2) := by decide +kernel
theorem d_M_worked_199 : decode b_M_worked 199 = .ok (.i2b, 1) := by decide +kernel
theorem d_M_worked_200 : decode b_M_worked 200 = .ok (.bastore, 1) := by decide +kernel
theorem d_M_worked_201 : decode b_M_worked 201 = .ok (.aload_n 0, 1) := by decide +kernel
theorem d_M_worked_202 : decode b_M_worked 202 = .ok (.getfield 180, 3) := by decide +kernel
theorem d_M_worked_205 : decode b_M_worked 205 = .ok (.aload_n 0, 1) := by decide +kernel
theorem d_M_worked_206 : decode b_M_worked 206 = .ok (.getfield 610, 3) := by decide +kernel
theorem d_M_worked_209 : decode b_M_worked 209 = .ok (.aload_n 0, 1) := by decide +kernel
theorem d_M_worked_210 : decode b_M_worked 210 = .ok (.getfield 457, 3) := by decide +kernel
theorem d_M_worked_213 : decode b_M_worked 213 = .ok (.i2s, 1) := by decide +kernel
theorem d_M_worked_214 : decode b_M_worked 214 = .ok (.sastore, 1) := by decide +kernel
theorem d_M_worked_215 : decode b_M_worked 215 = .ok (.iload 4, 2) := by decide +kernel
theorem d_M_worked_217 : decode b_M_worked 217 = .ok (.iconst 3, 1) := by decide +kernel
theorem d_M_worked_218 : decode b_M_worked 218 = .ok (.if_icmp .ge 51, 3) := by decide +kernel
theorem d_M_worked_221 : decode b_M_worked 221 = .ok (.aload_n 0, 1) := by decide +kernel
theorem d_M_worked_222 : decode b_M_worked 222 = .ok (.getfield 183, 3) := by decide +kernel
theorem d_M_worked_225 : decode b_M_worked 225 = .ok (.aload_n 0, 1) := by decide +kernel
theorem d_M_worked_226 : decode b_M_worked 226 = .ok (.getfield 610, 3) := by decide +kernel
theorem d_M_worked_229 : decode b_M_worked 229 = .ok (.aload_n 0, 1) := by decide +kernel
theorem d_M_worked_230 : decode b_M_worked 230 = .ok (.iload 4, 2) := by decide +kernel
theorem d_M_worked_232 : decode b_M_worked 232 = .ok (.iconst 1, 1) := by decide +kernel
theorem d_M_worked_233 : decode b_M_worked 233 = .ok (.if_icmp .ne 8, 3) := by decide +kernel
theorem d_M_worked_236 : decode b_M_worked 236 = .ok (.bipush 10, 2) := by decide +kernel
theorem d_M_worked_238 : decode b_M_worked 238 = .ok (.goto 5, 3) := by decide +kernel
theorem d_M_worked_241 : decode b_M_worked 241 = .ok (.bipush 9, 2) := by decide +kernel
theorem d_M_worked_243 : decode b_M_worked 243 = .ok (.aload_n 0, 1) := by decide +kernel
theorem d_M_worked_244 : decode b_M_worked 244 = .ok (.getfield 457, 3) := by decide +kernel
theorem d_M_worked_247 : decode b_M_worked 247 = .ok (.invokevirtual 500, 3) := by decide +kernel
theorem d_M_worked_250 : decode b_M_worked 250 = .ok (.iastore, 1) := by decide +kernel
theorem d_M_worked_251 : decode b_M_worked 251 = .ok (.aload_n 0, 1) := by decide +kernel
theorem d_M_worked_252 : decode b_M_worked 252 = .ok (.getfield 186, 3) := by decide +kernel
theorem d_M_worked_255 : decode b_M_worked 255 = .ok (.aload_n 0, 1) := by decide +kernel
theorem d_M_worked_256 : decode b_M_worked 256 = .ok (.getfield 610, 3) := by decide +kernel
theorem d_M_worked_259 : decode b_M_worked 259 = .ok (.aload_n 0, 1) := by decide +kernel
theorem d_M_worked_260 : decode b_M_worked 260 = .ok (.getfield 153, 3) := by decide +kernel
theorem d_M_worked_263 : decode b_M_worked 263 = .ok (.aload_n 0, 1) := by decide +kernel
theorem d_M_worked_264 : decode b_M_worked 264 = .ok (.getfield 493, 3) := by decide +kernel
theorem d_M_worked_267 : decode b_M_worked 267 = .ok (.iaload, 1) := by decide +kernel
theorem d_M_worked_268 : decode b_M_worked 268 = .ok (.iastore, 1) := by decide +kernel
theorem d_M_worked_269 : decode b_M_worked 269 = .ok (.aload_n 0, 1) := by decide +kernel
theorem d_M_worked_270 : decode b_M_worked 270 = .ok (.getfield 517, 3) := by decide +kernel
theorem d_M_worked_273 : decode b_M_worked 273 = .ok (.ifCond .eq 19, 3) := by decide +kernel
theorem d_M_worked_276 : decode b_M_worked 276 = .ok (.iload 4, 2) := by decide +kernel
theorem d_M_worked_278 : decode b_M_worked 278 = .ok (.iconst 4, 1) := by decide +kernel
theorem d_M_worked_279 : decode b_M_worked 279 = .ok (.if_icmp .ne 13, 3) := by decide +kernel
theorem d_M_worked_282 : decode b_M_worked 282 = .ok (.aload_n 0, 1) := by decide +kernel
theorem d_M_worked_283 : decode b_M_worked 283 = .ok (.bipush 7, 2) := by decide +kernel
theorem d_M_worked_285 : decode b_M_worked 285 = .ok (.aload_n 0, 1) := by decide +kernel
theorem d_M_worked_286 : decode b_M_worked 286 = .ok (.getfield 457, 3) := by decide +kernel
theorem d_M_worked_289 : decode b_M_worked 289 = .ok (.invokevirtual 526, 3) := by decide +kernel
theorem d_M_worked_292 : decode b_M_worked 292 = .ok (.aload_n 0, 1) := by decide +kernel
theorem d_M_worked_293 : decode b_M_worked 293 = .ok (.dup, 1) := by decide +kernel
theorem d_M_worked_294 : decode b_M_worked 294 = .ok (.getfield 610, 3) := by decide +kernel
theorem d_M_worked_297 : decode b_M_worked 297 = .ok (.iconst 1, 1) := by decide +kernel
theorem d_M_worked_298 : decode b_M_worked 298 = .ok (.iadd, 1) := by decide +kernel
theorem d_M_worked_299 : decode b_M_worked 299 = .ok (.putfield 610, 3) := by decide +kernel
theorem d_M_worked_302 : decode b_M_worked 302 = .ok (.aload_n 0, 1) := by decide +kernel
theorem d_M_worked_303 : decode b_M_worked 303 = .ok (.dup, 1) := by decide +kernel
theorem d_M_worked_304 : decode b_M_worked 304 = .ok (.getfield 457, 3) := by decide +kernel
theorem d_M_worked_307 : decode b_M_worked 307 = .ok (.iconst 1, 1) := by decide +kernel
theorem d_M_worked_308 : decode b_M_worked 308 = .ok (.iadd, 1) := by decide +kernel
theorem d_M_worked_309 : decode b_M_worked 309 = .ok (.putfield 457, 3) := by decide +kernel
theorem d_M_worked_312 : decode b_M_worked 312 = .ok (.aload_n 0, 1) := by decide +kernel
theorem d_M_worked_313 : decode b_M_worked 313 = .ok (.getfield 454, 3) := by decide +kernel
theorem d_M_worked_316 : decode b_M_worked 316 = .ok (.ifCond .ne 15, 3) := by decide +kernel
theorem d_M_worked_319 : decode b_M_worked 319 = .ok (.aload_n 0, 1) := by decide +kernel
theorem d_M_worked_320 : decode b_M_worked 320 = .ok (.invokevirtual 558, 3) := by decide +kernel
theorem d_M_worked_323 : decode b_M_worked 323 = .ok (.ifCond .ne 8, 3) := by decide +kernel
theorem d_M_worked_326 : decode b_M_worked 326 = .ok (.aload_n 0, 1) := by decide +kernel
theorem d_M_worked_327 : decode b_M_worked 327 = .ok (.iconst 2, 1) := by decide +kernel
theorem d_M_worked_328 : decode b_M_worked 328 = .ok (.invokevirtual 478, 3) := by decide +kernel
theorem d_M_worked_331 : decode b_M_worked 331 = .ok (.goto (-322), 3) := by decide +kernel
theorem d_M_worked_334 : decode b_M_worked 334 = .ok (.aload_n 0, 1) := by decide +kernel
theorem d_M_worked_335 : decode b_M_worked 335 = .ok (.getfield 454, 3) := by decide +kernel
theorem d_M_worked_338 : decode b_M_worked 338 = .ok (.ifCond .eq 5, 3) := by decide +kernel
theorem d_M_worked_341 : decode b_M_worked 341 = .ok (.iconst (-1), 1) := by decide +kernel
theorem d_M_worked_342 : decode b_M_worked 342 = .ok (.ireturn, 1) := by decide +kernel
theorem d_M_worked_343 : decode b_M_worked 343 = .ok (.aload_n 0, 1) := by decide +kernel
theorem d_M_worked_344 : decode b_M_worked 344 = .ok (.iload_n 1, 1) := by decide +kernel
theorem d_M_worked_345 : decode b_M_worked 345 = .ok (.iconst 0, 1) := by decide +kernel
theorem d_M_worked_346 : decode b_M_worked 346 = .ok (.iload_n 2, 1) := by decide +kernel
theorem d_M_worked_347 : decode b_M_worked 347 = .ok (.invokevirtual 619, 3) := by decide +kernel
theorem d_M_worked_350 : decode b_M_worked 350 = .ok (.ireturn, 1) := by decide +kernel
set_option maxRecDepth 100000 in
theorem hl_M_worked : Cond.methodLink R_M 595 y_M_worked ∈ wd_tbl := wd_of 2800 (by decide +kernel) rfl
set_option maxRecDepth 100000 in
theorem hi_M_worked : Cond.instanceMethod y_M_worked ∈ wd_tbl := wd_of 2802 (by decide +kernel) rfl
set_option maxRecDepth 100000 in
theorem hs_M_worked : Cond.selects R_M y_M_worked y_M_worked ∈ wd_tbl := wd_of 164 (by decide +kernel) rfl
theorem hd_M_worked : y_M_worked.cls = R_M ∧ y_M_worked.cls ≠ "java/lang/invoke/MethodHandle" ∧ y_M_worked.cls ≠ "java/lang/invoke/VarHandle" ∧ (parseMethodDescriptor y_M_worked.desc).map (fun d => d.parameters.length) = some 0 := by decide +kernel
abbrev b_M_simple : ByteArray := prog_14_method_57_code
def y_M_simple : MethodName := ⟨R_M, "simple", "()I"⟩
def w_M_simple : List Cond := wd_ws y_M_simple b_M_simple 4 (some .int)
set_option maxRecDepth 100000 in
theorem k_M_simple : Cond.code y_M_simple b_M_simple 4 (some .int) ∈ wd_tbl := wd_of 2795 rfl rfl
theorem d_M_simple_0 : decode b_M_simple 0 = .ok (.aload_n 0, 1) := by decide +kernel
theorem d_M_simple_1 : decode b_M_simple 1 = .ok (.getfield 457, 3) := by decide +kernel
theorem d_M_simple_4 : decode b_M_simple 4 = .ok (.istore_n 1, 1) := by decide +kernel
theorem d_M_simple_5 : decode b_M_simple 5 = .ok (.aload_n 0, 1) := by decide +kernel
theorem d_M_simple_6 : decode b_M_simple 6 = .ok (.invokevirtual 592, 3) := by decide +kernel
theorem d_M_simple_9 : decode b_M_simple 9 = .ok (.aload_n 0, 1) := by decide +kernel
theorem d_M_simple_10 : decode b_M_simple 10 = .ok (.invokevirtual 595, 3) := by decide +kernel
theorem d_M_simple_13 : decode b_M_simple 13 = .ok (.istore_n 2, 1) := by decide +kernel
theorem d_M_simple_14 : decode b_M_simple 14 = .ok (.aload_n 0, 1) := by decide +kernel
theorem d_M_simple_15 : decode b_M_simple 15 = .ok (.getfield 454, 3) := by decide +kernel
theorem d_M_simple_18 : decode b_M_simple 18 = .ok (.ifCond .ne 21, 3) := by decide +kernel
theorem d_M_simple_21 : decode b_M_simple 21 = .ok (.aload_n 0, 1) := by decide +kernel
theorem d_M_simple_22 : decode b_M_simple 22 = .ok (.bipush 11, 2) := by decide +kernel
theorem d_M_simple_24 : decode b_M_simple 24 = .ok (.invokevirtual 469, 3) := by decide +kernel
theorem d_M_simple_27 : decode b_M_simple 27 = .ok (.ifCond .eq 12, 3) := by decide +kernel
theorem d_M_simple_30 : decode b_M_simple 30 = .ok (.aload_n 0, 1) := by decide +kernel
theorem d_M_simple_31 : decode b_M_simple 31 = .ok (.iload_n 1, 1) := by decide +kernel
theorem d_M_simple_32 : decode b_M_simple 32 = .ok (.invokevirtual 598, 3) := by decide +kernel
theorem d_M_simple_35 : decode b_M_simple 35 = .ok (.istore_n 2, 1) := by decide +kernel
theorem d_M_simple_36 : decode b_M_simple 36 = .ok (.goto 61, 3) := by decide +kernel
theorem d_M_simple_39 : decode b_M_simple 39 = .ok (.aload_n 0, 1) := by decide +kernel
theorem d_M_simple_40 : decode b_M_simple 40 = .ok (.getfield 454, 3) := by decide +kernel
theorem d_M_simple_43 : decode b_M_simple 43 = .ok (.ifCond .ne 54, 3) := by decide +kernel
theorem d_M_simple_46 : decode b_M_simple 46 = .ok (.aload_n 0, 1) := by decide +kernel
theorem d_M_simple_47 : decode b_M_simple 47 = .ok (.bipush 21, 2) := by decide +kernel
theorem d_M_simple_49 : decode b_M_simple 49 = .ok (.invokevirtual 469, 3) := by decide +kernel
theorem d_M_simple_52 : decode b_M_simple 52 = .ok (.ifCond .eq 45, 3) := by decide +kernel
theorem d_M_simple_55 : decode b_M_simple 55 = .ok (.aload_n 0, 1) := by decide +kernel
theorem d_M_simple_56 : decode b_M_simple 56 = .ok (.getfield 457, 3) := by decide +kernel
theorem d_M_simple_59 : decode b_M_simple 59 = .ok (.istore_n 3, 1) := by decide +kernel
theorem d_M_simple_60 : decode b_M_simple 60 = .ok (.aload_n 0, 1) := by decide +kernel
theorem d_M_simple_61 : decode b_M_simple 61 = .ok (.getfield 517, 3) := by decide +kernel
theorem d_M_simple_64 : decode b_M_simple 64 = .ok (.ifCond .eq 10, 3) := by decide +kernel
theorem d_M_simple_67 : decode b_M_simple 67 = .ok (.aload_n 0, 1) := by decide +kernel
theorem d_M_simple_68 : decode b_M_simple 68 = .ok (.bipush 7, 2) := by decide +kernel
theorem d_M_simple_70 : decode b_M_simple 70 = .ok (.iload_n 3, 1) := by decide +kernel
theorem d_M_simple_71 : decode b_M_simple 71 = .ok (.invokevirtual 526, 3) := by decide +kernel
theorem d_M_simple_74 : decode b_M_simple 74 = .ok (.aload_n 0, 1) := by decide +kernel
theorem d_M_simple_75 : decode b_M_simple 75 = .ok (.dup, 1) := by decide +kernel
theorem d_M_simple_76 : decode b_M_simple 76 = .ok (.getfield 457, 3) := by decide +kernel
theorem d_M_simple_79 : decode b_M_simple 79 = .ok (.iconst 1, 1) := by decide +kernel
theorem d_M_simple_80 : decode b_M_simple 80 = .ok (.iadd, 1) := by decide +kernel
theorem d_M_simple_81 : decode b_M_simple 81 = .ok (.putfield 457, 3) := by decide +kernel
theorem d_M_simple_84 : decode b_M_simple 84 = .ok (.aload_n 0, 1) := by decide +kernel
theorem d_M_simple_85 : decode b_M_simple 85 = .ok (.invokevirtual 601, 3) := by decide +kernel
theorem d_M_simple_88 : decode b_M_simple 88 = .ok (.istore_n 2, 1) := by decide +kernel
theorem d_M_simple_89 : decode b_M_simple 89 = .ok (.aload_n 0, 1) := by decide +kernel
theorem d_M_simple_90 : decode b_M_simple 90 = .ok (.bipush 11, 2) := by decide +kernel
theorem d_M_simple_92 : decode b_M_simple 92 = .ok (.iload_n 3, 1) := by decide +kernel
theorem d_M_simple_93 : decode b_M_simple 93 = .ok (.invokevirtual 500, 3) := by decide +kernel
theorem d_M_simple_96 : decode b_M_simple 96 = .ok (.istore_n 2, 1) := by decide +kernel
theorem d_M_simple_97 : decode b_M_simple 97 = .ok (.aload_n 0, 1) := by decide +kernel
theorem d_M_simple_98 : decode b_M_simple 98 = .ok (.invokevirtual 604, 3) := by decide +kernel
theorem d_M_simple_101 : decode b_M_simple 101 = .ok (.iload_n 2, 1) := by decide +kernel
theorem d_M_simple_102 : decode b_M_simple 102 = .ok (.ireturn, 1) := by decide +kernel
set_option maxRecDepth 100000 in
theorem hl_M_simple : Cond.methodLink R_M 583 y_M_simple ∈ wd_tbl := wd_of 2792 (by decide +kernel) rfl
set_option maxRecDepth 100000 in
theorem hi_M_simple : Cond.instanceMethod y_M_simple ∈ wd_tbl := wd_of 2794 (by decide +kernel) rfl
set_option maxRecDepth 100000 in
theorem hs_M_simple : Cond.selects R_M y_M_simple y_M_simple ∈ wd_tbl := wd_of 162 (by decide +kernel) rfl
theorem hd_M_simple : y_M_simple.cls = R_M ∧ y_M_simple.cls ≠ "java/lang/invoke/MethodHandle" ∧ y_M_simple.cls ≠ "java/lang/invoke/VarHandle" ∧ (parseMethodDescriptor y_M_simple.desc).map (fun d => d.parameters.length) = some 0 := by decide +kernel
abbrev b_M_expression : ByteArray := prog_14_method_53_code
def y_M_expression : MethodName := ⟨R_M, "expression", "()I"⟩
def w_M_expression : List Cond := wd_ws y_M_expression b_M_expression 4 (some .int)
set_option maxRecDepth 100000 in
theorem k_M_expression : Cond.code y_M_expression b_M_expression 4 (some .int) ∈ wd_tbl := wd_of 2775 rfl rfl
theorem d_M_expression_0 : decode b_M_expression 0 = .ok (.aload_n 0, 1) := by decide +kernel
theorem d_M_expression_1 : decode b_M_expression 1 = .ok (.getfield 454, 3) := by decide +kernel
theorem d_M_expression_4 : decode b_M_expression 4 = .ok (.ifCond .eq 5, 3) := by decide +kernel
theorem d_M_expression_7 : decode b_M_expression 7 = .ok (.iconst (-1), 1) := by decide +kernel
theorem d_M_expression_8 : decode b_M_expression 8 = .ok (.ireturn, 1) := by decide +kernel
theorem d_M_expression_9 : decode b_M_expression 9 = .ok (.aload_n 0, 1) := by decide +kernel
theorem d_M_expression_10 : decode b_M_expression 10 = .ok (.invokevirtual 558, 3) := by decide +kernel
theorem d_M_expression_13 : decode b_M_expression 13 = .ok (.ifCond .ne 18, 3) := by decide +kernel
theorem d_M_expression_16 : decode b_M_expression 16 = .ok (.aload_n 0, 1) := by decide +kernel
theorem d_M_expression_17 : decode b_M_expression 17 = .ok (.iconst 4, 1) := by decide +kernel
theorem d_M_expression_18 : decode b_M_expression 18 = .ok (.invokevirtual 472, 3) := by decide +kernel
theorem d_M_expression_21 : decode b_M_expression 21 = .ok (.ifCond .ne 10, 3) := by decide +kernel
theorem d_M_expression_24 : decode b_M_expression 24 = .ok (.aload_n 0, 1) := by decide +kernel
theorem d_M_expression_25 : decode b_M_expression 25 = .ok (.iconst 2, 1) := by decide +kernel
theorem d_M_expression_26 : decode b_M_expression 26 = .ok (.invokevirtual 478, 3) := by decide +kernel
theorem d_M_expression_29 : decode b_M_expression 29 = .ok (.iconst (-1), 1) := by decide +kernel
theorem d_M_expression_30 : decode b_M_expression 30 = .ok (.ireturn, 1) := by decide +kernel
theorem d_M_expression_31 : decode b_M_expression 31 = .ok (.aload_n 0, 1) := by decide +kernel
theorem d_M_expression_32 : decode b_M_expression 32 = .ok (.invokevirtual 562, 3) := by decide +kernel
theorem d_M_expression_35 : decode b_M_expression 35 = .ok (.aload_n 0, 1) := by decide +kernel
theorem d_M_expression_36 : decode b_M_expression 36 = .ok (.iconst 4, 1) := by decide +kernel
theorem d_M_expression_37 : decode b_M_expression 37 = .ok (.invokevirtual 472, 3) := by decide +kernel
theorem d_M_expression_40 : decode b_M_expression 40 = .ok (.ifCond .eq 92, 3) := by decide +kernel
theorem d_M_expression_43 : decode b_M_expression 43 = .ok (.aload_n 0, 1) := by decide +kernel
theorem d_M_expression_44 : decode b_M_expression 44 = .ok (.getfield 517, 3) := by decide +kernel
theorem d_M_expression_47 : decode b_M_expression 47 = .ok (.ifCond .eq 13, 3) := by decide +kernel
theorem d_M_expression_50 : decode b_M_expression 50 = .ok (.aload_n 0, 1) := by decide +kernel
theorem d_M_expression_51 : decode b_M_expression 51 = .ok (.bipush 7, 2) := by decide +kernel
theorem d_M_expression_53 : decode b_M_expression 53 = .ok (.aload_n 0, 1) := by decide +kernel
theorem d_M_expression_54 : decode b_M_expression 54 = .ok (.getfield 457, 3) := by decide +kernel
theorem d_M_expression_57 : decode b_M_expression 57 = .ok (.invokevirtual 526, 3) := by decide +kernel
theorem d_M_expression_60 : decode b_M_expression 60 = .ok (.aload_n 0, 1) := by decide +kernel
theorem d_M_expression_61 : decode b_M_expression 61 = .ok (.bipush 19, 2) := by decide +kernel
theorem d_M_expression_63 : decode b_M_expression 63 = .ok (.aload_n 0, 1) := by decide +kernel
theorem d_M_expression_64 : decode b_M_expression 64 = .ok (.getfield 457, 3) := by decide +kernel
theorem d_M_expression_67 : decode b_M_expression 67 = .ok (.invokevirtual 500, 3) := by decide +kernel
theorem d_M_expression_70 : decode b_M_expression 70 = .ok (.istore_n 2, 1) := by decide +kernel
theorem d_M_expression_71 : decode b_M_expression 71 = .ok (.aload_n 0, 1) := by decide +kernel
theorem d_M_expression_72 : decode b_M_expression 72 = .ok (.dup, 1) := by decide +kernel
theorem d_M_expression_73 : decode b_M_expression 73 = .ok (.getfield 457, 3) := by decide +kernel
theorem d_M_expression_76 : decode b_M_expression 76 = .ok (.iconst 1, 1) := by decide +kernel
theorem d_M_expression_77 : decode b_M_expression 77 = .ok (.iadd, 1) := by decide +kernel
theorem d_M_expression_78 : decode b_M_expression 78 = .ok (.putfield 457, 3) := by decide +kernel
theorem d_M_expression_81 : decode b_M_expression 81 = .ok (.aload_n 0, 1) := by decide +kernel
theorem d_M_expression_82 : decode b_M_expression 82 = .ok (.getfield 153, 3) := by decide +kernel
theorem d_M_expression_85 : decode b_M_expression 85 = .ok (.aload_n 0, 1) := by decide +kernel
theorem d_M_expression_86 : decode b_M_expression 86 = .ok (.getfield 493, 3) := by decide +kernel
theorem d_M_expression_89 : decode b_M_expression 89 = .ok (.iaload, 1) := by decide +kernel
theorem d_M_expression_90 : decode b_M_expression 90 = .ok (.istore_n 3, 1) := by decide +kernel
theorem d_M_expression_91 : decode b_M_expression 91 = .ok (.aload_n 0, 1) := by decide +kernel
theorem d_M_expression_92 : decode b_M_expression 92 = .ok (.getfield 66, 3) := by decide +kernel
theorem d_M_expression_95 : decode b_M_expression 95 = .ok (.iload_n 2, 1) := by decide +kernel
theorem d_M_expression_96 : decode b_M_expression 96 = .ok (.iload_n 3, 1) := by decide +kernel
theorem d_M_expression_97 : decode b_M_expression 97 = .ok (.iastore, 1) := by decide +kernel
theorem d_M_expression_98 : decode b_M_expression 98 = .ok (.aload_n 0, 1) := by decide +kernel
theorem d_M_expression_99 : decode b_M_expression 99 = .ok (.invokevirtual 555, 3) := by decide +kernel
theorem d_M_expression_102 : decode b_M_expression 102 = .ok (.istore_n 1, 1) := by decide +kernel
theorem d_M_expression_103 : decode b_M_expression 103 = .ok (.aload_n 0, 1) := by decide +kernel
theorem d_M_expression_104 : decode b_M_expression 104 = .ok (.iload_n 3, 1) := by decide +kernel
theorem d_M_expression_105 : decode b_M_expression 105 = .ok (.invokevirtual 580, 3) := by decide +kernel
theorem d_M_expression_108 : decode b_M_expression 108 = .ok (.aload_n 0, 1) := by decide +kernel
theorem d_M_expression_109 : decode b_M_expression 109 = .ok (.bipush 20, 2) := by decide +kernel
theorem d_M_expression_111 : decode b_M_expression 111 = .ok (.aload_n 0, 1) := by decide +kernel
theorem d_M_expression_112 : decode b_M_expression 112 = .ok (.getfield 457, 3) := by decide +kernel
theorem d_M_expression_115 : decode b_M_expression 115 = .ok (.invokevirtual 500, 3) := by decide +kernel
theorem d_M_expression_118 : decode b_M_expression 118 = .ok (.istore_n 1, 1) := by decide +kernel
theorem d_M_expression_119 : decode b_M_expression 119 = .ok (.aload_n 0, 1) := by decide +kernel
theorem d_M_expression_120 : decode b_M_expression 120 = .ok (.getfield 63, 3) := by decide +kernel
theorem d_M_expression_123 : decode b_M_expression 123 = .ok (.iload_n 2, 1) := by decide +kernel
theorem d_M_expression_124 : decode b_M_expression 124 = .ok (.aload_n 0, 1) := by decide +kernel
theorem d_M_expression_125 : decode b_M_expression 125 = .ok (.getfield 448, 3) := by decide +kernel
theorem d_M_expression_128 : decode b_M_expression 128 = .ok (.iastore, 1) := by decide +kernel
theorem d_M_expression_129 : decode b_M_expression 129 = .ok (.goto 8, 3) := by decide +kernel
theorem d_M_expression_132 : decode b_M_expression 132 = .ok (.aload_n 0, 1) := by decide +kernel
theorem d_M_expression_133 : decode b_M_expression 133 = .ok (.invokevirtual 583, 3) := by decide +kernel
theorem d_M_expression_136 : decode b_M_expression 136 = .ok (.istore_n 1, 1) := by decide +kernel
theorem d_M_expression_137 : decode b_M_expression 137 = .ok (.aload_n 0, 1) := by decide +kernel
theorem d_M_expression_138 : decode b_M_expression 138 = .ok (.dup, 1) := by decide +kernel
theorem d_M_expression_139 : decode b_M_expression 139 = .ok (.getfield 484, 3) := by decide +kernel
theorem d_M_expression_142 : decode b_M_expression 142 = .ok (.iconst 1, 1) := by decide +kernel
theorem d_M_expression_143 : decode b_M_expression 143 = .ok (.isub, 1) := by decide +kernel
theorem d_M_expression_144 : decode b_M_expression 144 = .ok (.putfield 484, 3) := by decide +kernel
theorem d_M_expression_147 : decode b_M_expression 147 = .ok (.iload_n 1, 1) := by decide +kernel
theorem d_M_expression_148 : decode b_M_expression 148 = .ok (.ireturn, 1) := by decide +kernel
set_option maxRecDepth 100000 in
theorem hl_M_expression : Cond.methodLink R_M 555 y_M_expression ∈ wd_tbl := wd_of 2772 (by decide +kernel) rfl
set_option maxRecDepth 100000 in
theorem hi_M_expression : Cond.instanceMethod y_M_expression ∈ wd_tbl := wd_of 2774 (by decide +kernel) rfl
set_option maxRecDepth 100000 in
theorem hs_M_expression : Cond.selects R_M y_M_expression y_M_expression ∈ wd_tbl := wd_of 157 (by decide +kernel) rfl
theorem hd_M_expression : y_M_expression.cls = R_M ∧ y_M_expression.cls ≠ "java/lang/invoke/MethodHandle" ∧ y_M_expression.cls ≠ "java/lang/invoke/VarHandle" ∧ (parseMethodDescriptor y_M_expression.desc).map (fun d => d.parameters.length) = some 0 := by decide +kernel
abbrev b_M_guardCode : ByteArray := prog_14_method_47_code
def y_M_guardCode : MethodName := ⟨R_M, "guardCode", "()I"⟩
def w_M_guardCode : List Cond := wd_ws y_M_guardCode b_M_guardCode 7 (some .int)
set_option maxRecDepth 100000 in
theorem k_M_guardCode : Cond.code y_M_guardCode b_M_guardCode 7 (some .int) ∈ wd_tbl := wd_of 2771 rfl rfl
theorem d_M_guardCode_0 : decode b_M_guardCode 0 = .ok (.aload_n 0, 1) := by decide +kernel
theorem d_M_guardCode_1 : decode b_M_guardCode 1 = .ok (.getfield 448, 3) := by decide +kernel
theorem d_M_guardCode_4 : decode b_M_guardCode 4 = .ok (.istore_n 1, 1) := by decide +kernel
theorem d_M_guardCode_5 : decode b_M_guardCode 5 = .ok (.aload_n 0, 1) := by decide +kernel
theorem d_M_guardCode_6 : decode b_M_guardCode 6 = .ok (.getfield 517, 3) := by decide +kernel
theorem d_M_guardCode_9 : decode b_M_guardCode 9 = .ok (.istore_n 2, 1) := by decide +kernel
theorem d_M_guardCode_10 : decode b_M_guardCode 10 = .ok (.aload_n 0, 1) := by decide +kernel
theorem d_M_guardCode_11 : decode b_M_guardCode 11 = .ok (.getfield 153, 3) := by decide +kernel
theorem d_M_guardCode_14 : decode b_M_guardCode 14 = .ok (.aload_n 0, 1) := by decide +kernel
theorem d_M_guardCode_15 : decode b_M_guardCode 15 = .ok (.getfield 493, 3) := by decide +kernel
theorem d_M_guardCode_18 : decode b_M_guardCode 18 = .ok (.iaload, 1) := by decide +kernel
theorem d_M_guardCode_19 : decode b_M_guardCode 19 = .ok (.istore_n 3, 1) := by decide +kernel
theorem d_M_guardCode_20 : decode b_M_guardCode 20 = .ok (.aload_n 0, 1) := by decide +kernel
theorem d_M_guardCode_21 : decode b_M_guardCode 21 = .ok (.iconst 1, 1) := by decide +kernel
theorem d_M_guardCode_22 : decode b_M_guardCode 22 = .ok (.putfield 517, 3) := by decide +kernel
theorem d_M_guardCode_25 : decode b_M_guardCode 25 = .ok (.aload_n 0, 1) := by decide +kernel
theorem d_M_guardCode_26 : decode b_M_guardCode 26 = .ok (.getfield 454, 3) := by decide +kernel
theorem d_M_guardCode_29 : decode b_M_guardCode 29 = .ok (.ifCond .ne 7, 3) := by decide +kernel
theorem d_M_guardCode_32 : decode b_M_guardCode 32 = .ok (.iconst 1, 1) := by decide +kernel
theorem d_M_guardCode_33 : decode b_M_guardCode 33 = .ok (.goto 4, 3) := by decide +kernel
theorem d_M_guardCode_36 : decode b_M_guardCode 36 = .ok (.iconst 0, 1) := by decide +kernel
theorem d_M_guardCode_37 : decode b_M_guardCode 37 = .ok (.istore 4, 2) := by decide +kernel
theorem d_M_guardCode_39 : decode b_M_guardCode 39 = .ok (.iload 4, 2) := by decide +kernel
theorem d_M_guardCode_41 : decode b_M_guardCode 41 = .ok (.ifCond .eq 32, 3) := by decide +kernel
theorem d_M_guardCode_44 : decode b_M_guardCode 44 = .ok (.aload_n 0, 1) := by decide +kernel
theorem d_M_guardCode_45 : decode b_M_guardCode 45 = .ok (.invokevirtual 555, 3) := by decide +kernel
theorem d_M_guardCode_48 : decode b_M_guardCode 48 = .ok (.istore 5, 2) := by decide +kernel
theorem d_M_guardCode_50 : decode b_M_guardCode 50 = .ok (.aload_n 0, 1) := by decide +kernel
theorem d_M_guardCode_51 : decode b_M_guardCode 51 = .ok (.bipush 22, 2) := by decide +kernel
theorem d_M_guardCode_53 : decode b_M_guardCode 53 = .ok (.aload_n 0, 1) := by decide +kernel
theorem d_M_guardCode_54 : decode b_M_guardCode 54 = .ok (.getfield 457, 3) := by decide +kernel
theorem d_M_guardCode_57 : decode b_M_guardCode 57 = .ok (.invokevirtual 500, 3) := by decide +kernel
theorem d_M_guardCode_60 : decode b_M_guardCode 60 = .ok (.istore 6, 2) := by decide +kernel
theorem d_M_guardCode_62 : decode b_M_guardCode 62 = .ok (.aload_n 0, 1) := by decide +kernel
theorem d_M_guardCode_63 : decode b_M_guardCode 63 = .ok (.bipush 6, 2) := by decide +kernel
theorem d_M_guardCode_65 : decode b_M_guardCode 65 = .ok (.invokevirtual 475, 3) := by decide +kernel
theorem d_M_guardCode_68 : decode b_M_guardCode 68 = .ok (.istore 4, 2) := by decide +kernel
theorem d_M_guardCode_70 : decode b_M_guardCode 70 = .ok (.goto (-31), 3) := by decide +kernel
theorem d_M_guardCode_73 : decode b_M_guardCode 73 = .ok (.aload_n 0, 1) := by decide +kernel
theorem d_M_guardCode_74 : decode b_M_guardCode 74 = .ok (.bipush 23, 2) := by decide +kernel
theorem d_M_guardCode_76 : decode b_M_guardCode 76 = .ok (.aload_n 0, 1) := by decide +kernel
theorem d_M_guardCode_77 : decode b_M_guardCode 77 = .ok (.getfield 457, 3) := by decide +kernel
theorem d_M_guardCode_80 : decode b_M_guardCode 80 = .ok (.invokevirtual 500, 3) := by decide +kernel
theorem d_M_guardCode_83 : decode b_M_guardCode 83 = .ok (.istore 5, 2) := by decide +kernel
theorem d_M_guardCode_85 : decode b_M_guardCode 85 = .ok (.aload_n 0, 1) := by decide +kernel
theorem d_M_guardCode_86 : decode b_M_guardCode 86 = .ok (.iload_n 2, 1) := by decide +kernel
theorem d_M_guardCode_87 : decode b_M_guardCode 87 = .ok (.putfield 517, 3) := by decide +kernel
theorem d_M_guardCode_90 : decode b_M_guardCode 90 = .ok (.aload_n 0, 1) := by decide +kernel
theorem d_M_guardCode_91 : decode b_M_guardCode 91 = .ok (.getfield 153, 3) := by decide +kernel
theorem d_M_guardCode_94 : decode b_M_guardCode 94 = .ok (.aload_n 0, 1) := by decide +kernel
theorem d_M_guardCode_95 : decode b_M_guardCode 95 = .ok (.getfield 493, 3) := by decide +kernel
theorem d_M_guardCode_98 : decode b_M_guardCode 98 = .ok (.iload_n 3, 1) := by decide +kernel
theorem d_M_guardCode_99 : decode b_M_guardCode 99 = .ok (.iastore, 1) := by decide +kernel
theorem d_M_guardCode_100 : decode b_M_guardCode 100 = .ok (.iload_n 1, 1) := by decide +kernel
theorem d_M_guardCode_101 : decode b_M_guardCode 101 = .ok (.ireturn, 1) := by decide +kernel
set_option maxRecDepth 100000 in
theorem hl_M_guardCode : Cond.methodLink R_M 552 y_M_guardCode ∈ wd_tbl := wd_of 2768 (by decide +kernel) rfl
set_option maxRecDepth 100000 in
theorem hi_M_guardCode : Cond.instanceMethod y_M_guardCode ∈ wd_tbl := wd_of 2770 (by decide +kernel) rfl
set_option maxRecDepth 100000 in
theorem hs_M_guardCode : Cond.selects R_M y_M_guardCode y_M_guardCode ∈ wd_tbl := wd_of 156 (by decide +kernel) rfl
theorem hd_M_guardCode : y_M_guardCode.cls = R_M ∧ y_M_guardCode.cls ≠ "java/lang/invoke/MethodHandle" ∧ y_M_guardCode.cls ≠ "java/lang/invoke/VarHandle" ∧ (parseMethodDescriptor y_M_guardCode.desc).map (fun d => d.parameters.length) = some 0 := by decide +kernel
abbrev b_M_guard : ByteArray := prog_14_method_46_code
def y_M_guard : MethodName := ⟨R_M, "guard", "()I"⟩
def w_M_guard : List Cond := wd_ws y_M_guard b_M_guard 1 (some .int)
set_option maxRecDepth 100000 in
theorem k_M_guard : Cond.code y_M_guard b_M_guard 1 (some .int) ∈ wd_tbl := wd_of 2759 rfl rfl
theorem d_M_guard_0 : decode b_M_guard 0 = .ok (.aload_n 0, 1) := by decide +kernel
theorem d_M_guard_1 : decode b_M_guard 1 = .ok (.bipush 14, 2) := by decide +kernel
theorem d_M_guard_3 : decode b_M_guard 3 = .ok (.invokevirtual 481, 3) := by decide +kernel
theorem d_M_guard_6 : decode b_M_guard 6 = .ok (.ifCond .ne 5, 3) := by decide +kernel
theorem d_M_guard_9 : decode b_M_guard 9 = .ok (.iconst (-1), 1) := by decide +kernel
theorem d_M_guard_10 : decode b_M_guard 10 = .ok (.ireturn, 1) := by decide +kernel
theorem d_M_guard_11 : decode b_M_guard 11 = .ok (.aload_n 0, 1) := by decide +kernel
theorem d_M_guard_12 : decode b_M_guard 12 = .ok (.invokevirtual 552, 3) := by decide +kernel
theorem d_M_guard_15 : decode b_M_guard 15 = .ok (.ireturn, 1) := by decide +kernel
set_option maxRecDepth 100000 in
theorem hl_M_guard : Cond.methodLink R_M 539 y_M_guard ∈ wd_tbl := wd_of 2756 (by decide +kernel) rfl
set_option maxRecDepth 100000 in
theorem hi_M_guard : Cond.instanceMethod y_M_guard ∈ wd_tbl := wd_of 2758 (by decide +kernel) rfl
set_option maxRecDepth 100000 in
theorem hs_M_guard : Cond.selects R_M y_M_guard y_M_guard ∈ wd_tbl := wd_of 153 (by decide +kernel) rfl
theorem hd_M_guard : y_M_guard.cls = R_M ∧ y_M_guard.cls ≠ "java/lang/invoke/MethodHandle" ∧ y_M_guard.cls ≠ "java/lang/invoke/VarHandle" ∧ (parseMethodDescriptor y_M_guard.desc).map (fun d => d.parameters.length) = some 0 := by decide +kernel
abbrev b_M_clause : ByteArray := prog_14_method_42_code
def y_M_clause : MethodName := ⟨R_M, "clause", "(I)I"⟩
def w_M_clause : List Cond := wd_ws y_M_clause b_M_clause 6 (some .int)
set_option maxRecDepth 100000 in
theorem k_M_clause : Cond.code y_M_clause b_M_clause 6 (some .int) ∈ wd_tbl := wd_of 2707 rfl rfl
theorem d_M_clause_0 : decode b_M_clause 0 = .ok (.aload_n 0, 1) := by decide +kernel
theorem d_M_clause_1 : decode b_M_clause 1 = .ok (.getfield 505, 3) := by decide +kernel
theorem d_M_clause_4 : decode b_M_clause 4 = .ok (.istore_n 2, 1) := by decide +kernel
theorem d_M_clause_5 : decode b_M_clause 5 = .ok (.aload_n 0, 1) := by decide +kernel
theorem d_M_clause_6 : decode b_M_clause 6 = .ok (.dup, 1) := by decide +kernel
theorem d_M_clause_7 : decode b_M_clause 7 = .ok (.getfield 505, 3) := by decide +kernel
theorem d_M_clause_10 : decode b_M_clause 10 = .ok (.iconst 1, 1) := by decide +kernel
theorem d_M_clause_11 : decode b_M_clause 11 = .ok (.iadd, 1) := by decide +kernel
theorem d_M_clause_12 : decode b_M_clause 12 = .ok (.putfield 505, 3) := by decide +kernel
theorem d_M_clause_15 : decode b_M_clause 15 = .ok (.aload_n 0, 1) := by decide +kernel
theorem d_M_clause_16 : decode b_M_clause 16 = .ok (.getfield 116, 3) := by decide +kernel
theorem d_M_clause_19 : decode b_M_clause 19 = .ok (.iload_n 2, 1) := by decide +kernel
theorem d_M_clause_20 : decode b_M_clause 20 = .ok (.iload_n 1, 1) := by decide +kernel
theorem d_M_clause_21 : decode b_M_clause 21 = .ok (.iastore, 1) := by decide +kernel
theorem d_M_clause_22 : decode b_M_clause 22 = .ok (.aload_n 0, 1) := by decide +kernel
theorem d_M_clause_23 : decode b_M_clause 23 = .ok (.getfield 119, 3) := by decide +kernel
theorem d_M_clause_26 : decode b_M_clause 26 = .ok (.iload_n 2, 1) := by decide +kernel
theorem d_M_clause_27 : decode b_M_clause 27 = .ok (.iconst (-1), 1) := by decide +kernel
theorem d_M_clause_28 : decode b_M_clause 28 = .ok (.iastore, 1) := by decide +kernel
theorem d_M_clause_29 : decode b_M_clause 29 = .ok (.aload_n 0, 1) := by decide +kernel
theorem d_M_clause_30 : decode b_M_clause 30 = .ok (.getfield 110, 3) := by decide +kernel
theorem d_M_clause_33 : decode b_M_clause 33 = .ok (.iload_n 2, 1) := by decide +kernel
theorem d_M_clause_34 : decode b_M_clause 34 = .ok (.iconst (-1), 1) := by decide +kernel
theorem d_M_clause_35 : decode b_M_clause 35 = .ok (.iastore, 1) := by decide +kernel
theorem d_M_clause_36 : decode b_M_clause 36 = .ok (.aload_n 0, 1) := by decide +kernel
theorem d_M_clause_37 : decode b_M_clause 37 = .ok (.getfield 107, 3) := by decide +kernel
theorem d_M_clause_40 : decode b_M_clause 40 = .ok (.iload_n 2, 1) := by decide +kernel
theorem d_M_clause_41 : decode b_M_clause 41 = .ok (.iconst 0, 1) := by decide +kernel
theorem d_M_clause_42 : decode b_M_clause 42 = .ok (.iastore, 1) := by decide +kernel
theorem d_M_clause_43 : decode b_M_clause 43 = .ok (.aload_n 0, 1) := by decide +kernel
theorem d_M_clause_44 : decode b_M_clause 44 = .ok (.getfield 104, 3) := by decide +kernel
theorem d_M_clause_47 : decode b_M_clause 47 = .ok (.iload_n 2, 1) := by decide +kernel
theorem d_M_clause_48 : decode b_M_clause 48 = .ok (.iconst (-1), 1) := by decide +kernel
theorem d_M_clause_49 : decode b_M_clause 49 = .ok (.iastore, 1) := by decide +kernel
theorem d_M_clause_50 : decode b_M_clause 50 = .ok (.aload_n 0, 1) := by decide +kernel
theorem d_M_clause_51 : decode b_M_clause 51 = .ok (.iconst 0, 1) := by decide +kernel
theorem d_M_clause_52 : decode b_M_clause 52 = .ok (.invokevirtual 529, 3) := by decide +kernel
theorem d_M_clause_55 : decode b_M_clause 55 = .ok (.iconst (-1), 1) := by decide +kernel
theorem d_M_clause_56 : decode b_M_clause 56 = .ok (.istore_n 3, 1) := by decide +kernel
theorem d_M_clause_57 : decode b_M_clause 57 = .ok (.aload_n 0, 1) := by decide +kernel
theorem d_M_clause_58 : decode b_M_clause 58 = .ok (.getfield 454, 3) := by decide +kernel
theorem d_M_clause_61 : decode b_M_clause 61 = .ok (.ifCond .ne 122, 3) := by decide +kernel
theorem d_M_clause_64 : decode b_M_clause 64 = .ok (.aload_n 0, 1) := by decide +kernel
theorem d_M_clause_65 : decode b_M_clause 65 = .ok (.iconst 1, 1) := by decide +kernel
theorem d_M_clause_66 : decode b_M_clause 66 = .ok (.invokevirtual 469, 3) := by decide +kernel
theorem d_M_clause_69 : decode b_M_clause 69 = .ok (.ifCond .ne 114, 3) := by decide +kernel
theorem d_M_clause_72 : decode b_M_clause 72 = .ok (.iconst 1, 1) := by decide +kernel
theorem d_M_clause_73 : decode b_M_clause 73 = .ok (.istore 4, 2) := by decide +kernel
theorem d_M_clause_75 : decode b_M_clause 75 = .ok (.iload 4, 2) := by decide +kernel
theorem d_M_clause_77 : decode b_M_clause 77 = .ok (.ifCond .eq 106, 3) := by decide +kernel
theorem d_M_clause_80 : decode b_M_clause 80 = .ok (.aload_n 0, 1) := by decide +kernel
theorem d_M_clause_81 : decode b_M_clause 81 = .ok (.getfield 454, 3) := by decide +kernel
theorem d_M_clause_84 : decode b_M_clause 84 = .ok (.ifCond .ne 99, 3) := by decide +kernel
theorem d_M_clause_87 : decode b_M_clause 87 = .ok (.aload_n 0, 1) := by decide +kernel
theorem d_M_clause_88 : decode b_M_clause 88 = .ok (.getfield 107, 3) := by decide +kernel
theorem d_M_clause_91 : decode b_M_clause 91 = .ok (.iload_n 2, 1) := by decide +kernel
theorem d_M_clause_92 : decode b_M_clause 92 = .ok (.iaload, 1) := by decide +kernel
theorem d_M_clause_93 : decode b_M_clause 93 = .ok (.bipush 6, 2) := by decide +kernel
theorem d_M_clause_95 : decode b_M_clause 95 = .ok (.if_icmp .ne 8, 3) := by decide +kernel
theorem d_M_clause_98 : decode b_M_clause 98 = .ok (.aload_n 0, 1) := by decide +kernel
theorem d_M_clause_99 : decode b_M_clause 99 = .ok (.iconst 2, 1) := by decide +kernel
theorem d_M_clause_100 : decode b_M_clause 100 = .ok (.invokevirtual 478, 3) := by decide +kernel
theorem d_M_clause_103 : decode b_M_clause 103 = .ok (.aload_n 0, 1) := by decide +kernel
theorem d_M_clause_104 : decode b_M_clause 104 = .ok (.iconst 1, 1) := by decide +kernel
theorem d_M_clause_105 : decode b_M_clause 105 = .ok (.invokevirtual 535, 3) := by decide +kernel
theorem d_M_clause_108 : decode b_M_clause 108 = .ok (.istore 5, 2) := by decide +kernel
theorem d_M_clause_110 : decode b_M_clause 110 = .ok (.iload_n 3, 1) := by decide +kernel
theorem d_M_clause_111 : decode b_M_clause 111 = .ok (.iconst (-1), 1) := by decide +kernel
theorem d_M_clause_112 : decode b_M_clause 112 = .ok (.if_icmp .ne 14, 3) := by decide +kernel
theorem d_M_clause_115 : decode b_M_clause 115 = .ok (.aload_n 0, 1) := by decide +kernel
theorem d_M_clause_116 : decode b_M_clause 116 = .ok (.getfield 104, 3) := by decide +kernel
theorem d_M_clause_119 : decode b_M_clause 119 = .ok (.iload_n 2, 1) := by decide +kernel
theorem d_M_clause_120 : decode b_M_clause 120 = .ok (.iload 5, 2) := by decide +kernel
theorem d_M_clause_122 : decode b_M_clause 122 = .ok (.iastore, 1) := by decide +kernel
theorem d_M_clause_123 : decode b_M_clause 123 = .ok (.goto 11, 3) := by decide +kernel
theorem d_M_clause_126 : decode b_M_clause 126 = .ok (.aload_n 0, 1) := by decide +kernel
theorem d_M_clause_127 : decode b_M_clause 127 = .ok (.getfield 98, 3) := by decide +kernel
theorem d_M_clause_130 : decode b_M_clause 130 = .ok (.iload_n 3, 1) := by decide +kernel
theorem d_M_clause_131 : decode b_M_clause 131 = .ok (.iload 5, 2) := by decide +kernel
theorem d_M_clause_133 : decode b_M_clause 133 = .ok (.iastore, 1) := by decide +kernel
theorem d_M_clause_134 : decode b_M_clause 134 = .ok (.iload 5, 2) := by decide +kernel
theorem d_M_clause_136 : decode b_M_clause 136 = .ok (.istore_n 3, 1) := by decide +kernel
theorem d_M_clause_137 : decode b_M_clause 137 = .ok (.aload_n 0, 1) := by decide +kernel
theorem d_M_clause_138 : decode b_M_clause 138 = .ok (.getfield 107, 3) := by decide +kernel
theorem d_M_clause_141 : decode b_M_clause 141 = .ok (.iload_n 2, 1) := by decide +kernel
theorem d_M_clause_142 : decode b_M_clause 142 = .ok (.dup2, 1) := by decide +kernel
theorem d_M_clause_143 : decode b_M_clause 143 = .ok (.iaload, 1) := by decide +kernel
theorem d_M_clause_144 : decode b_M_clause 144 = .ok (.iconst 1, 1) := by decide +kernel
theorem d_M_clause_145 : decode b_M_clause 145 = .ok (.iadd, 1) := by decide +kernel
theorem d_M_clause_146 : decode b_M_clause 146 = .ok (.iastore, 1) := by decide +kernel
theorem d_M_clause_147 : decode b_M_clause 147 = .ok (.aload_n 0, 1) := by decide +kernel
theorem d_M_clause_148 : decode b_M_clause 148 = .ok (.getfield 107, 3) := by decide +kernel
theorem d_M_clause_151 : decode b_M_clause 151 = .ok (.iload_n 2, 1) := by decide +kernel
theorem d_M_clause_152 : decode b_M_clause 152 = .ok (.iaload, 1) := by decide +kernel
theorem d_M_clause_153 : decode b_M_clause 153 = .ok (.bipush 6, 2) := by decide +kernel
theorem d_M_clause_155 : decode b_M_clause 155 = .ok (.if_icmp .ne 17, 3) := by decide +kernel
theorem d_M_clause_158 : decode b_M_clause 158 = .ok (.aload_n 0, 1) := by decide +kernel
theorem d_M_clause_159 : decode b_M_clause 159 = .ok (.bipush 6, 2) := by decide +kernel
theorem d_M_clause_161 : decode b_M_clause 161 = .ok (.invokevirtual 469, 3) := by decide +kernel
theorem d_M_clause_164 : decode b_M_clause 164 = .ok (.ifCond .eq 8, 3) := by decide +kernel
theorem d_M_clause_167 : decode b_M_clause 167 = .ok (.aload_n 0, 1) := by decide +kernel
theorem d_M_clause_168 : decode b_M_clause 168 = .ok (.iconst 2, 1) := by decide +kernel
theorem d_M_clause_169 : decode b_M_clause 169 = .ok (.invokevirtual 478, 3) := by decide +kernel
theorem d_M_clause_172 : decode b_M_clause 172 = .ok (.aload_n 0, 1) := by decide +kernel
theorem d_M_clause_173 : decode b_M_clause 173 = .ok (.bipush 6, 2) := by decide +kernel
theorem d_M_clause_175 : decode b_M_clause 175 = .ok (.invokevirtual 475, 3) := by decide +kernel
theorem d_M_clause_178 : decode b_M_clause 178 = .ok (.istore 4, 2) := by decide +kernel
theorem d_M_clause_180 : decode b_M_clause 180 = .ok (.goto (-105), 3) := by decide +kernel
theorem d_M_clause_183 : decode b_M_clause 183 = .ok (.aload_n 0, 1) := by decide +kernel
theorem d_M_clause_184 : decode b_M_clause 184 = .ok (.iconst 1, 1) := by decide +kernel
theorem d_M_clause_185 : decode b_M_clause 185 = .ok (.invokevirtual 529, 3) := by decide +kernel
theorem d_M_clause_188 : decode b_M_clause 188 = .ok (.aload_n 0, 1) := by decide +kernel
theorem d_M_clause_189 : decode b_M_clause 189 = .ok (.getfield 110, 3) := by decide +kernel
theorem d_M_clause_192 : decode b_M_clause 192 = .ok (.iload_n 2, 1) := by decide +kernel
theorem d_M_clause_193 : decode b_M_clause 193 = .ok (.aload_n 0, 1) := by decide +kernel
theorem d_M_clause_194 : decode b_M_clause 194 = .ok (.invokevirtual 539, 3) := by decide +kernel
theorem d_M_clause_197 : decode b_M_clause 197 = .ok (.iastore, 1) := by decide +kernel
theorem d_M_clause_198 : decode b_M_clause 198 = .ok (.aload_n 0, 1) := by decide +kernel
theorem d_M_clause_199 : decode b_M_clause 199 = .ok (.bipush 10, 2) := by decide +kernel
theorem d_M_clause_201 : decode b_M_clause 201 = .ok (.invokevirtual 529, 3) := by decide +kernel
theorem d_M_clause_204 : decode b_M_clause 204 = .ok (.aload_n 0, 1) := by decide +kernel
theorem d_M_clause_205 : decode b_M_clause 205 = .ok (.getfield 113, 3) := by decide +kernel
theorem d_M_clause_208 : decode b_M_clause 208 = .ok (.iload_n 2, 1) := by decide +kernel
theorem d_M_clause_209 : decode b_M_clause 209 = .ok (.aload_n 0, 1) := by decide +kernel
theorem d_M_clause_210 : decode b_M_clause 210 = .ok (.getfield 448, 3) := by decide +kernel
theorem d_M_clause_213 : decode b_M_clause 213 = .ok (.iastore, 1) := by decide +kernel
theorem d_M_clause_214 : decode b_M_clause 214 = .ok (.aload_n 0, 1) := by decide +kernel
theorem d_M_clause_215 : decode b_M_clause 215 = .ok (.invokevirtual 543, 3) := by decide +kernel
theorem d_M_clause_218 : decode b_M_clause 218 = .ok (.istore 4, 2) := by decide +kernel
theorem d_M_clause_220 : decode b_M_clause 220 = .ok (.aload_n 0, 1) := by decide +kernel
theorem d_M_clause_221 : decode b_M_clause 221 = .ok (.bipush 29, 2) := by decide +kernel
theorem d_M_clause_223 : decode b_M_clause 223 = .ok (.aload_n 0, 1) := by decide +kernel
theorem d_M_clause_224 : decode b_M_clause 224 = .ok (.getfield 457, 3) := by decide +kernel
theorem d_M_clause_227 : decode b_M_clause 227 = .ok (.invokevirtual 500, 3) := by decide +kernel
theorem d_M_clause_230 : decode b_M_clause 230 = .ok (.istore 5, 2) := by decide +kernel
theorem d_M_clause_232 : decode b_M_clause 232 = .ok (.aload_n 0, 1) := by decide +kernel
theorem d_M_clause_233 : decode b_M_clause 233 = .ok (.iload 4, 2) := by decide +kernel
theorem d_M_clause_235 : decode b_M_clause 235 = .ok (.invokevirtual 546, 3) := by decide +kernel
theorem d_M_clause_238 : decode b_M_clause 238 = .ok (.iload_n 2, 1) := by decide +kernel
theorem d_M_clause_239 : decode b_M_clause 239 = .ok (.ireturn, 1) := by decide +kernel
set_option maxRecDepth 100000 in
theorem hl_M_clause : Cond.methodLink R_M 523 y_M_clause ∈ wd_tbl := wd_of 2704 (by decide +kernel) rfl
set_option maxRecDepth 100000 in
theorem hi_M_clause : Cond.instanceMethod y_M_clause ∈ wd_tbl := wd_of 2706 (by decide +kernel) rfl
set_option maxRecDepth 100000 in
theorem hs_M_clause : Cond.selects R_M y_M_clause y_M_clause ∈ wd_tbl := wd_of 140 (by decide +kernel) rfl
theorem hd_M_clause : y_M_clause.cls = R_M ∧ y_M_clause.cls ≠ "java/lang/invoke/MethodHandle" ∧ y_M_clause.cls ≠ "java/lang/invoke/VarHandle" ∧ (parseMethodDescriptor y_M_clause.desc).map (fun d => d.parameters.length) = some 1 := by decide +kernel
def rg_M_behind (d : Nat) : Room := { frames := 94 + d, cells := 0, slots := 0, locals := 2494 + 29 * d }
abbrev SG_M_behind : Type := (MS → Option (MS × Int32)) × (MS → Int32 → Option (MS × Int32)) × (MS → Int32 → Int32 → Option (MS × Int32)) × (MS → Int32 → Int32 → Option (MS × Int32)) × (MS → Option (MS × Int32)) × (MS → Int32 → Option (MS × Int32)) × (MS → Int32 → Option (MS × Int32)) × (MS → Int32 → Option (MS × Int32)) × (MS → Int32 → Option (MS × Int32)) × (MS → Option (MS × Unit)) × (MS → Option (MS × Int32)) × (MS → Option (MS × Int32)) × (MS → Option (MS × Int32)) × (MS → Option (MS × Int32)) × (MS → Option (MS × Int32)) × (MS → Option (MS × Int32)) × (MS → Int32 → Option (MS × Int32))
def HS_M_behind (l : Launch) (D : va_G) (cl : List vw_C) (cB cI cJ cZ cS : ClassId) (iM h0 : Nat) (ad : Nat → Nat) (rm : Room) (S : SG_M_behind) : Prop := (∀ (u : MS) (x : MS × Int32) (sz : Nat), S.1 u = some x → Met l y_M_behind (wd_ws y_M_behind b_M_behind 2 (some .int)) rm (mPc D cl cB cI cJ cZ cS iM h0 ad u sz [.ref h0]) (mQi D cl cB cI cJ cZ cS iM h0 ad (mA cB cI cJ cZ cS iM h0 ad u sz) x) 0 0 (mA cB cI cJ cZ cS iM h0 ad u sz)) ∧ (∀ (u : MS) (v1 : Int32) (x : MS × Int32) (sz : Nat), S.2.1 u v1 = some x → Met l y_M_matched (wd_ws y_M_matched b_M_matched 7 (some .int)) rm (mPc D cl cB cI cJ cZ cS iM h0 ad u sz [.ref h0, .int v1]) (mQi D cl cB cI cJ cZ cS iM h0 ad (mA cB cI cJ cZ cS iM h0 ad u sz) x) 0 0 (mA cB cI cJ cZ cS iM h0 ad u sz)) ∧ (∀ (u : MS) (v1 : Int32) (v2 : Int32) (x : MS × Int32) (sz : Nat), S.2.2.1 u v1 v2 = some x → Met l y_M_parts0 (wd_ws y_M_parts0 b_M_parts0 10 (some .int)) rm (mPc D cl cB cI cJ cZ cS iM h0 ad u sz [.ref h0, .int v1, .int v2]) (mQi D cl cB cI cJ cZ cS iM h0 ad (mA cB cI cJ cZ cS iM h0 ad u sz) x) 0 0 (mA cB cI cJ cZ cS iM h0 ad u sz)) ∧ (∀ (u : MS) (v1 : Int32) (v2 : Int32) (x : MS × Int32) (sz : Nat), S.2.2.2.1 u v1 v2 = some x → Met l y_M_receive (wd_ws y_M_receive b_M_receive 9 (some .int)) rm (mPc D cl cB cI cJ cZ cS iM h0 ad u sz [.ref h0, .int v1, .int v2]) (mQi D cl cB cI cJ cZ cS iM h0 ad (mA cB cI cJ cZ cS iM h0 ad u sz) x) 0 0 (mA cB cI cJ cZ cS iM h0 ad u sz)) ∧ (∀ (u : MS) (x : MS × Int32) (sz : Nat), S.2.2.2.2.1 u = some x → Met l y_M_body (wd_ws y_M_body b_M_body 3 (some .int)) rm (mPc D cl cB cI cJ cZ cS iM h0 ad u sz [.ref h0]) (mQi D cl cB cI cJ cZ cS iM h0 ad (mA cB cI cJ cZ cS iM h0 ad u sz) x) 0 0 (mA cB cI cJ cZ cS iM h0 ad u sz)) ∧ (∀ (u : MS) (v1 : Int32) (x : MS × Int32) (sz : Nat), S.2.2.2.2.2.1 u v1 = some x → Met l y_M_block (wd_ws y_M_block b_M_block 8 (some .int)) rm (mPc D cl cB cI cJ cZ cS iM h0 ad u sz [.ref h0, .int v1]) (mQi D cl cB cI cJ cZ cS iM h0 ad (mA cB cI cJ cZ cS iM h0 ad u sz) x) 0 0 (mA cB cI cJ cZ cS iM h0 ad u sz)) ∧ (∀ (u : MS) (v1 : Int32) (x : MS × Int32) (sz : Nat), S.2.2.2.2.2.2.1 u v1 = some x → Met l y_M_fun (wd_ws y_M_fun b_M_fun 6 (some .int)) rm (mPc D cl cB cI cJ cZ cS iM h0 ad u sz [.ref h0, .int v1]) (mQi D cl cB cI cJ cZ cS iM h0 ad (mA cB cI cJ cZ cS iM h0 ad u sz) x) 0 0 (mA cB cI cJ cZ cS iM h0 ad u sz)) ∧ (∀ (u : MS) (v1 : Int32) (x : MS × Int32) (sz : Nat), S.2.2.2.2.2.2.2.1 u v1 = some x → Met l y_M_row (wd_ws y_M_row b_M_row 8 (some .int)) rm (mPc D cl cB cI cJ cZ cS iM h0 ad u sz [.ref h0, .int v1]) (mQi D cl cB cI cJ cZ cS iM h0 ad (mA cB cI cJ cZ cS iM h0 ad u sz) x) 0 0 (mA cB cI cJ cZ cS iM h0 ad u sz)) ∧ (∀ (u : MS) (v1 : Int32) (x : MS × Int32) (sz : Nat), S.2.2.2.2.2.2.2.2.1 u v1 = some x → Met l y_M_alone (wd_ws y_M_alone b_M_alone 4 (some .int)) rm (mPc D cl cB cI cJ cZ cS iM h0 ad u sz [.ref h0, .int v1]) (mQi D cl cB cI cJ cZ cS iM h0 ad (mA cB cI cJ cZ cS iM h0 ad u sz) x) 0 0 (mA cB cI cJ cZ cS iM h0 ad u sz)) ∧ (∀ (u : MS) (x : MS × Unit) (sz : Nat), S.2.2.2.2.2.2.2.2.2.1 u = some x → Met l y_M_arguments (wd_ws y_M_arguments b_M_arguments 4 none) rm (mPc D cl cB cI cJ cZ cS iM h0 ad u sz [.ref h0]) (mQv D cl cB cI cJ cZ cS iM h0 ad (mA cB cI cJ cZ cS iM h0 ad u sz) x) 0 0 (mA cB cI cJ cZ cS iM h0 ad u sz)) ∧ (∀ (u : MS) (x : MS × Int32) (sz : Nat), S.2.2.2.2.2.2.2.2.2.2.1 u = some x → Met l y_M_primary (wd_ws y_M_primary b_M_primary 3 (some .int)) rm (mPc D cl cB cI cJ cZ cS iM h0 ad u sz [.ref h0]) (mQi D cl cB cI cJ cZ cS iM h0 ad (mA cB cI cJ cZ cS iM h0 ad u sz) x) 0 0 (mA cB cI cJ cZ cS iM h0 ad u sz)) ∧ (∀ (u : MS) (x : MS × Int32) (sz : Nat), S.2.2.2.2.2.2.2.2.2.2.2.1 u = some x → Met l y_M_worked (wd_ws y_M_worked b_M_worked 5 (some .int)) rm (mPc D cl cB cI cJ cZ cS iM h0 ad u sz [.ref h0]) (mQi D cl cB cI cJ cZ cS iM h0 ad (mA cB cI cJ cZ cS iM h0 ad u sz) x) 0 0 (mA cB cI cJ cZ cS iM h0 ad u sz)) ∧ (∀ (u : MS) (x : MS × Int32) (sz : Nat), S.2.2.2.2.2.2.2.2.2.2.2.2.1 u = some x → Met l y_M_simple (wd_ws y_M_simple b_M_simple 4 (some .int)) rm (mPc D cl cB cI cJ cZ cS iM h0 ad u sz [.ref h0]) (mQi D cl cB cI cJ cZ cS iM h0 ad (mA cB cI cJ cZ cS iM h0 ad u sz) x) 0 0 (mA cB cI cJ cZ cS iM h0 ad u sz)) ∧ (∀ (u : MS) (x : MS × Int32) (sz : Nat), S.2.2.2.2.2.2.2.2.2.2.2.2.2.1 u = some x → Met l y_M_expression (wd_ws y_M_expression b_M_expression 4 (some .int)) rm (mPc D cl cB cI cJ cZ cS iM h0 ad u sz [.ref h0]) (mQi D cl cB cI cJ cZ cS iM h0 ad (mA cB cI cJ cZ cS iM h0 ad u sz) x) 0 0 (mA cB cI cJ cZ cS iM h0 ad u sz)) ∧ (∀ (u : MS) (x : MS × Int32) (sz : Nat), S.2.2.2.2.2.2.2.2.2.2.2.2.2.2.1 u = some x → Met l y_M_guardCode (wd_ws y_M_guardCode b_M_guardCode 7 (some .int)) rm (mPc D cl cB cI cJ cZ cS iM h0 ad u sz [.ref h0]) (mQi D cl cB cI cJ cZ cS iM h0 ad (mA cB cI cJ cZ cS iM h0 ad u sz) x) 0 0 (mA cB cI cJ cZ cS iM h0 ad u sz)) ∧ (∀ (u : MS) (x : MS × Int32) (sz : Nat), S.2.2.2.2.2.2.2.2.2.2.2.2.2.2.2.1 u = some x → Met l y_M_guard (wd_ws y_M_guard b_M_guard 1 (some .int)) rm (mPc D cl cB cI cJ cZ cS iM h0 ad u sz [.ref h0]) (mQi D cl cB cI cJ cZ cS iM h0 ad (mA cB cI cJ cZ cS iM h0 ad u sz) x) 0 0 (mA cB cI cJ cZ cS iM h0 ad u sz)) ∧ (∀ (u : MS) (v1 : Int32) (x : MS × Int32) (sz : Nat), S.2.2.2.2.2.2.2.2.2.2.2.2.2.2.2.2 u v1 = some x → Met l y_M_clause (wd_ws y_M_clause b_M_clause 6 (some .int)) rm (mPc D cl cB cI cJ cZ cS iM h0 ad u sz [.ref h0, .int v1]) (mQi D cl cB cI cJ cZ cS iM h0 ad (mA cB cI cJ cZ cS iM h0 ad u sz) x) 0 0 (mA cB cI cJ cZ cS iM h0 ad u sz))
theorem rm_M_behind_M_beginsUnit {R : Room} {d : Nat} (hR : R = rg_M_behind (d + 1)) : (rm_M_beginsUnit).frames + 1 ≤ R.frames ∧ 8 + (1 + 11) + (rm_M_beginsUnit).locals ≤ R.locals := by
  subst hR
  have h1 : (rm_M_beginsUnit).frames = 1 := rfl
  have h2 : (rm_M_beginsUnit).locals = 21 := rfl
  show (rm_M_beginsUnit).frames + 1 ≤ 94 + (d + 1) ∧ 8 + (1 + 11) + (rm_M_beginsUnit).locals ≤ 2494 + 29 * (d + 1)
  omega
theorem rm_M_behind_M_wrong {R : Room} {d : Nat} (hR : R = rg_M_behind (d + 1)) : (rm_M_wrong).frames + 1 ≤ R.frames ∧ 8 + (2 + 11) + (rm_M_wrong).locals ≤ R.locals := by
  subst hR
  have h1 : (rm_M_wrong).frames = 0 := rfl
  have h2 : (rm_M_wrong).locals = 0 := rfl
  show (rm_M_wrong).frames + 1 ≤ 94 + (d + 1) ∧ 8 + (2 + 11) + (rm_M_wrong).locals ≤ 2494 + 29 * (d + 1)
  omega
theorem rm_M_behind_M_opens {R : Room} {d : Nat} (hR : R = rg_M_behind (d + 1)) : (rm_M_opens).frames + 1 ≤ R.frames ∧ 8 + (1 + 11) + (rm_M_opens).locals ≤ R.locals := by
  subst hR
  have h1 : (rm_M_opens).frames = 1 := rfl
  have h2 : (rm_M_opens).locals = 21 := rfl
  show (rm_M_opens).frames + 1 ≤ 94 + (d + 1) ∧ 8 + (1 + 11) + (rm_M_opens).locals ≤ 2494 + 29 * (d + 1)
  omega
theorem rm_M_behind_M_simple {R : Room} {d : Nat} (hR : R = rg_M_behind (d + 1)) : (rg_M_behind d).frames + 1 ≤ R.frames ∧ 8 + (4 + 11) + (rg_M_behind d).locals ≤ R.locals := by
  subst hR
  show 94 + d + 1 ≤ 94 + (d + 1) ∧ 8 + (4 + 11) + (2494 + 29 * d) ≤ 2494 + 29 * (d + 1)
  omega
