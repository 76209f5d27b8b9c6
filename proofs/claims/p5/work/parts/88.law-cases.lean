def LG (p : Program) (l : Launch) (e : Env) (s : State) (m : MethodId) (args : Array Value) (below : List Frame) (meth : Method) (c : Code) (Q : State → Prop) (D : va_G) (cB cI cJ cZ cS cP : ClassId) (A : Nat → Prop) (b pc : Nat) (i : Int32) (u : CS) (uM : MS) (ce sl : Nat) : Prop :=
  ∀ (ad adM : Nat → Nat) (h0 o : Nat) (f : Nat → Int64) (H : Heap) (locs : List Loc) (ls : Array Slot), va_P D cls (wC cB cI cJ cZ cS cP ad u ++ (oW cJ o f ++ wM cB cI cJ cZ cS 0 h0 adM uM)) H → va_D A (wC cB cI cJ cZ cS cP ad u ++ (oW cJ o f ++ wM cB cI cJ cZ cS 0 h0 adM uM)) → va_S A s.heap H locs → lv_has ls 7 [(0, .ref b), (1, .ref (ad 0)), (2, .ref h0), (3, .ref o), (4, .int i)] → W p l e room_1 s m args below meth c H locs ce sl Q (F0 m pc ls [])
theorem pm_1 {a b c : va_W} : (a ++ (b ++ c)).Perm (c ++ (a ++ b)) := by rw [← List.append_assoc]; exact List.perm_append_comm
theorem pm_2 {a b c : va_W} : (c ++ (a ++ b)).Perm (a ++ (b ++ c)) := pm_1.symm
theorem pm_3 {a b c : va_W} : (a ++ (b ++ c)).Perm (b ++ (a ++ c)) := by rw [← List.append_assoc, ← List.append_assoc]; exact List.Perm.append_right c List.perm_append_comm
theorem lgc (x : Int64) : lg_cmp x x = 0 := by unfold lg_cmp; simp
theorem ix_0 {k L : Nat} (hk : 6 * k + 6 ≤ L) (hL : L ≤ 3072) : (Int32.ofNat (6 * k)).toNatClampNeg = 6 * k ∧ vp_in (Int32.ofNat (6 * k)) L := by
  have e1 : Int32.ofNat (6 * k) = Int32.ofNat (6 * k) := rfl
  rw [e1]
  exact ⟨i_nat (by omega), i_in (by omega) hL⟩
theorem ix_1 {k L : Nat} (hk : 6 * k + 6 ≤ L) (hL : L ≤ 3072) : (Int32.ofNat (6 * k) + 1).toNatClampNeg = 6 * k + 1 ∧ vp_in (Int32.ofNat (6 * k) + 1) L := by
  have e1 : Int32.ofNat (6 * k) + 1 = Int32.ofNat (6 * k + 1) := (Int32.ofNat_add (6 * k) 1).symm
  rw [e1]
  exact ⟨i_nat (by omega), i_in (by omega) hL⟩
theorem ix_2 {k L : Nat} (hk : 6 * k + 6 ≤ L) (hL : L ≤ 3072) : (Int32.ofNat (6 * k) + 2).toNatClampNeg = 6 * k + 2 ∧ vp_in (Int32.ofNat (6 * k) + 2) L := by
  have e1 : Int32.ofNat (6 * k) + 2 = Int32.ofNat (6 * k + 2) := (Int32.ofNat_add (6 * k) 2).symm
  rw [e1]
  exact ⟨i_nat (by omega), i_in (by omega) hL⟩
theorem ix_3 {k L : Nat} (hk : 6 * k + 6 ≤ L) (hL : L ≤ 3072) : (Int32.ofNat (6 * k) + 3).toNatClampNeg = 6 * k + 3 ∧ vp_in (Int32.ofNat (6 * k) + 3) L := by
  have e1 : Int32.ofNat (6 * k) + 3 = Int32.ofNat (6 * k + 3) := (Int32.ofNat_add (6 * k) 3).symm
  rw [e1]
  exact ⟨i_nat (by omega), i_in (by omega) hL⟩
theorem ix_4 {k L : Nat} (hk : 6 * k + 6 ≤ L) (hL : L ≤ 3072) : (Int32.ofNat (6 * k) + 4).toNatClampNeg = 6 * k + 4 ∧ vp_in (Int32.ofNat (6 * k) + 4) L := by
  have e1 : Int32.ofNat (6 * k) + 4 = Int32.ofNat (6 * k + 4) := (Int32.ofNat_add (6 * k) 4).symm
  rw [e1]
  exact ⟨i_nat (by omega), i_in (by omega) hL⟩
theorem ix_5 {k L : Nat} (hk : 6 * k + 6 ≤ L) (hL : L ≤ 3072) : (Int32.ofNat (6 * k) + 5).toNatClampNeg = 6 * k + 5 ∧ vp_in (Int32.ofNat (6 * k) + 5) L := by
  have e1 : Int32.ofNat (6 * k) + 5 = Int32.ofNat (6 * k + 5) := (Int32.ofNat_add (6 * k) 5).symm
  rw [e1]
  exact ⟨i_nat (by omega), i_in (by omega) hL⟩
set_option maxRecDepth 100000 in
theorem d_L_law_0 : decode code 0 = .ok (.new 8, 3) := by decide +kernel
set_option maxRecDepth 100000 in
theorem d_L_law_3 : decode code 3 = .ok (.dup, 1) := by decide +kernel
set_option maxRecDepth 100000 in
theorem d_L_law_4 : decode code 4 = .ok (.invokespecial 31, 3) := by decide +kernel
set_option maxRecDepth 100000 in
theorem d_L_law_7 : decode code 7 = .ok (.astore_n 1, 1) := by decide +kernel
set_option maxRecDepth 100000 in
theorem d_L_law_8 : decode code 8 = .ok (.new 32, 3) := by decide +kernel
set_option maxRecDepth 100000 in
theorem d_L_law_11 : decode code 11 = .ok (.dup, 1) := by decide +kernel
set_option maxRecDepth 100000 in
theorem d_L_law_12 : decode code 12 = .ok (.invokespecial 34, 3) := by decide +kernel
set_option maxRecDepth 100000 in
theorem d_L_law_15 : decode code 15 = .ok (.astore_n 2, 1) := by decide +kernel
set_option maxRecDepth 100000 in
theorem d_L_law_16 : decode code 16 = .ok (.iconst 1, 1) := by decide +kernel
set_option maxRecDepth 100000 in
theorem d_L_law_17 : decode code 17 = .ok (.newarray .long, 2) := by decide +kernel
set_option maxRecDepth 100000 in
theorem d_L_law_19 : decode code 19 = .ok (.astore_n 3, 1) := by decide +kernel
set_option maxRecDepth 100000 in
theorem d_L_law_20 : decode code 20 = .ok (.iconst 0, 1) := by decide +kernel
set_option maxRecDepth 100000 in
theorem d_L_law_21 : decode code 21 = .ok (.istore 4, 2) := by decide +kernel
set_option maxRecDepth 100000 in
theorem d_L_law_23 : decode code 23 = .ok (.iload 4, 2) := by decide +kernel
set_option maxRecDepth 100000 in
theorem d_L_law_25 : decode code 25 = .ok (.aload_n 0, 1) := by decide +kernel
set_option maxRecDepth 100000 in
theorem d_L_law_26 : decode code 26 = .ok (.arraylength, 1) := by decide +kernel
set_option maxRecDepth 100000 in
theorem d_L_law_27 : decode code 27 = .ok (.bipush 6, 2) := by decide +kernel
set_option maxRecDepth 100000 in
theorem d_L_law_29 : decode code 29 = .ok (.isub, 1) := by decide +kernel
set_option maxRecDepth 100000 in
theorem d_L_law_30 : decode code 30 = .ok (.if_icmp .gt 682, 3) := by decide +kernel
set_option maxRecDepth 100000 in
theorem d_L_law_33 : decode code 33 = .ok (.aload_n 0, 1) := by decide +kernel
set_option maxRecDepth 100000 in
theorem d_L_law_34 : decode code 34 = .ok (.iload 4, 2) := by decide +kernel
set_option maxRecDepth 100000 in
theorem d_L_law_36 : decode code 36 = .ok (.iaload, 1) := by decide +kernel
set_option maxRecDepth 100000 in
theorem d_L_law_37 : decode code 37 = .ok (.bipush 15, 2) := by decide +kernel
set_option maxRecDepth 100000 in
theorem d_L_law_39 : decode code 39 = .ok (.iand, 1) := by decide +kernel
set_option maxRecDepth 100000 in
theorem d_L_law_40 : decode code 40 = .ok (.tableswitch 666 0 15 #[80, 153, 178, 191, 216, 253, 290, 315, 355, 383, 432, 469, 518, 555, 604, 629], 80) := by decide +kernel
set_option maxRecDepth 100000 in
theorem d_L_law_120 : decode code 120 = .ok (.aload_n 1, 1) := by decide +kernel
set_option maxRecDepth 100000 in
theorem d_L_law_121 : decode code 121 = .ok (.aload_n 0, 1) := by decide +kernel
set_option maxRecDepth 100000 in
theorem d_L_law_122 : decode code 122 = .ok (.iload 4, 2) := by decide +kernel
set_option maxRecDepth 100000 in
theorem d_L_law_124 : decode code 124 = .ok (.iconst 1, 1) := by decide +kernel
set_option maxRecDepth 100000 in
theorem d_L_law_125 : decode code 125 = .ok (.iadd, 1) := by decide +kernel
set_option maxRecDepth 100000 in
theorem d_L_law_126 : decode code 126 = .ok (.iaload, 1) := by decide +kernel
set_option maxRecDepth 100000 in
theorem d_L_law_127 : decode code 127 = .ok (.aload_n 0, 1) := by decide +kernel
set_option maxRecDepth 100000 in
theorem d_L_law_128 : decode code 128 = .ok (.iload 4, 2) := by decide +kernel
set_option maxRecDepth 100000 in
theorem d_L_law_130 : decode code 130 = .ok (.iconst 2, 1) := by decide +kernel
set_option maxRecDepth 100000 in
theorem d_L_law_131 : decode code 131 = .ok (.iadd, 1) := by decide +kernel
set_option maxRecDepth 100000 in
theorem d_L_law_132 : decode code 132 = .ok (.iaload, 1) := by decide +kernel
set_option maxRecDepth 100000 in
theorem d_L_law_133 : decode code 133 = .ok (.aload_n 0, 1) := by decide +kernel
set_option maxRecDepth 100000 in
theorem d_L_law_134 : decode code 134 = .ok (.iload 4, 2) := by decide +kernel
set_option maxRecDepth 100000 in
theorem d_L_law_136 : decode code 136 = .ok (.iconst 3, 1) := by decide +kernel
set_option maxRecDepth 100000 in
theorem d_L_law_137 : decode code 137 = .ok (.iadd, 1) := by decide +kernel
set_option maxRecDepth 100000 in
theorem d_L_law_138 : decode code 138 = .ok (.iaload, 1) := by decide +kernel
set_option maxRecDepth 100000 in
theorem d_L_law_139 : decode code 139 = .ok (.aload_n 0, 1) := by decide +kernel
set_option maxRecDepth 100000 in
theorem d_L_law_140 : decode code 140 = .ok (.iload 4, 2) := by decide +kernel
set_option maxRecDepth 100000 in
theorem d_L_law_142 : decode code 142 = .ok (.iconst 4, 1) := by decide +kernel
set_option maxRecDepth 100000 in
theorem d_L_law_143 : decode code 143 = .ok (.iadd, 1) := by decide +kernel
set_option maxRecDepth 100000 in
theorem d_L_law_144 : decode code 144 = .ok (.iaload, 1) := by decide +kernel
set_option maxRecDepth 100000 in
theorem d_L_law_145 : decode code 145 = .ok (.aload_n 0, 1) := by decide +kernel
set_option maxRecDepth 100000 in
theorem d_L_law_146 : decode code 146 = .ok (.iload 4, 2) := by decide +kernel
set_option maxRecDepth 100000 in
theorem d_L_law_148 : decode code 148 = .ok (.iconst 5, 1) := by decide +kernel
set_option maxRecDepth 100000 in
theorem d_L_law_149 : decode code 149 = .ok (.iadd, 1) := by decide +kernel
set_option maxRecDepth 100000 in
theorem d_L_law_150 : decode code 150 = .ok (.iaload, 1) := by decide +kernel
set_option maxRecDepth 100000 in
theorem d_L_law_151 : decode code 151 = .ok (.invokevirtual 35, 3) := by decide +kernel
set_option maxRecDepth 100000 in
theorem d_L_law_154 : decode code 154 = .ok (.pop, 1) := by decide +kernel
set_option maxRecDepth 100000 in
theorem d_L_law_155 : decode code 155 = .ok (.aload_n 2, 1) := by decide +kernel
set_option maxRecDepth 100000 in
theorem d_L_law_156 : decode code 156 = .ok (.aload_n 0, 1) := by decide +kernel
set_option maxRecDepth 100000 in
theorem d_L_law_157 : decode code 157 = .ok (.iload 4, 2) := by decide +kernel
set_option maxRecDepth 100000 in
theorem d_L_law_159 : decode code 159 = .ok (.iconst 1, 1) := by decide +kernel
set_option maxRecDepth 100000 in
theorem d_L_law_160 : decode code 160 = .ok (.iadd, 1) := by decide +kernel
set_option maxRecDepth 100000 in
theorem d_L_law_161 : decode code 161 = .ok (.iaload, 1) := by decide +kernel
set_option maxRecDepth 100000 in
theorem d_L_law_162 : decode code 162 = .ok (.aload_n 0, 1) := by decide +kernel
set_option maxRecDepth 100000 in
theorem d_L_law_163 : decode code 163 = .ok (.iload 4, 2) := by decide +kernel
set_option maxRecDepth 100000 in
theorem d_L_law_165 : decode code 165 = .ok (.iconst 2, 1) := by decide +kernel
set_option maxRecDepth 100000 in
theorem d_L_law_166 : decode code 166 = .ok (.iadd, 1) := by decide +kernel
set_option maxRecDepth 100000 in
theorem d_L_law_167 : decode code 167 = .ok (.iaload, 1) := by decide +kernel
set_option maxRecDepth 100000 in
theorem d_L_law_168 : decode code 168 = .ok (.aload_n 0, 1) := by decide +kernel
set_option maxRecDepth 100000 in
theorem d_L_law_169 : decode code 169 = .ok (.iload 4, 2) := by decide +kernel
set_option maxRecDepth 100000 in
theorem d_L_law_171 : decode code 171 = .ok (.iconst 3, 1) := by decide +kernel
set_option maxRecDepth 100000 in
theorem d_L_law_172 : decode code 172 = .ok (.iadd, 1) := by decide +kernel
set_option maxRecDepth 100000 in
theorem d_L_law_173 : decode code 173 = .ok (.iaload, 1) := by decide +kernel
set_option maxRecDepth 100000 in
theorem d_L_law_174 : decode code 174 = .ok (.aload_n 0, 1) := by decide +kernel
set_option maxRecDepth 100000 in
theorem d_L_law_175 : decode code 175 = .ok (.iload 4, 2) := by decide +kernel
set_option maxRecDepth 100000 in
theorem d_L_law_177 : decode code 177 = .ok (.iconst 4, 1) := by decide +kernel
set_option maxRecDepth 100000 in
theorem d_L_law_178 : decode code 178 = .ok (.iadd, 1) := by decide +kernel
set_option maxRecDepth 100000 in
theorem d_L_law_179 : decode code 179 = .ok (.iaload, 1) := by decide +kernel
set_option maxRecDepth 100000 in
theorem d_L_law_180 : decode code 180 = .ok (.aload_n 0, 1) := by decide +kernel
set_option maxRecDepth 100000 in
theorem d_L_law_181 : decode code 181 = .ok (.iload 4, 2) := by decide +kernel
set_option maxRecDepth 100000 in
theorem d_L_law_183 : decode code 183 = .ok (.iconst 5, 1) := by decide +kernel
set_option maxRecDepth 100000 in
theorem d_L_law_184 : decode code 184 = .ok (.iadd, 1) := by decide +kernel
set_option maxRecDepth 100000 in
theorem d_L_law_185 : decode code 185 = .ok (.iaload, 1) := by decide +kernel
set_option maxRecDepth 100000 in
theorem d_L_law_186 : decode code 186 = .ok (.invokevirtual 39, 3) := by decide +kernel
set_option maxRecDepth 100000 in
theorem d_L_law_189 : decode code 189 = .ok (.pop, 1) := by decide +kernel
set_option maxRecDepth 100000 in
theorem d_L_law_190 : decode code 190 = .ok (.goto 516, 3) := by decide +kernel
set_option maxRecDepth 100000 in
theorem d_L_law_193 : decode code 193 = .ok (.aload_n 1, 1) := by decide +kernel
set_option maxRecDepth 100000 in
theorem d_L_law_194 : decode code 194 = .ok (.aload_n 0, 1) := by decide +kernel
set_option maxRecDepth 100000 in
theorem d_L_law_195 : decode code 195 = .ok (.iload 4, 2) := by decide +kernel
set_option maxRecDepth 100000 in
theorem d_L_law_197 : decode code 197 = .ok (.iconst 1, 1) := by decide +kernel
set_option maxRecDepth 100000 in
theorem d_L_law_198 : decode code 198 = .ok (.iadd, 1) := by decide +kernel
set_option maxRecDepth 100000 in
theorem d_L_law_199 : decode code 199 = .ok (.iaload, 1) := by decide +kernel
set_option maxRecDepth 100000 in
theorem d_L_law_200 : decode code 200 = .ok (.invokevirtual 40, 3) := by decide +kernel
set_option maxRecDepth 100000 in
theorem d_L_law_203 : decode code 203 = .ok (.pop, 1) := by decide +kernel
set_option maxRecDepth 100000 in
theorem d_L_law_204 : decode code 204 = .ok (.aload_n 2, 1) := by decide +kernel
set_option maxRecDepth 100000 in
theorem d_L_law_205 : decode code 205 = .ok (.aload_n 0, 1) := by decide +kernel
set_option maxRecDepth 100000 in
theorem d_L_law_206 : decode code 206 = .ok (.iload 4, 2) := by decide +kernel
set_option maxRecDepth 100000 in
theorem d_L_law_208 : decode code 208 = .ok (.iconst 1, 1) := by decide +kernel
set_option maxRecDepth 100000 in
theorem d_L_law_209 : decode code 209 = .ok (.iadd, 1) := by decide +kernel
set_option maxRecDepth 100000 in
theorem d_L_law_210 : decode code 210 = .ok (.iaload, 1) := by decide +kernel
set_option maxRecDepth 100000 in
theorem d_L_law_211 : decode code 211 = .ok (.invokevirtual 43, 3) := by decide +kernel
set_option maxRecDepth 100000 in
theorem d_L_law_214 : decode code 214 = .ok (.pop, 1) := by decide +kernel
set_option maxRecDepth 100000 in
theorem d_L_law_215 : decode code 215 = .ok (.goto 491, 3) := by decide +kernel
set_option maxRecDepth 100000 in
theorem d_L_law_218 : decode code 218 = .ok (.aload_n 1, 1) := by decide +kernel
set_option maxRecDepth 100000 in
theorem d_L_law_219 : decode code 219 = .ok (.invokevirtual 44, 3) := by decide +kernel
set_option maxRecDepth 100000 in
theorem d_L_law_222 : decode code 222 = .ok (.pop, 1) := by decide +kernel
set_option maxRecDepth 100000 in
theorem d_L_law_223 : decode code 223 = .ok (.aload_n 2, 1) := by decide +kernel
set_option maxRecDepth 100000 in
theorem d_L_law_224 : decode code 224 = .ok (.invokevirtual 48, 3) := by decide +kernel
set_option maxRecDepth 100000 in
theorem d_L_law_227 : decode code 227 = .ok (.pop, 1) := by decide +kernel
set_option maxRecDepth 100000 in
theorem d_L_law_228 : decode code 228 = .ok (.goto 478, 3) := by decide +kernel
set_option maxRecDepth 100000 in
theorem d_L_law_231 : decode code 231 = .ok (.aload_n 1, 1) := by decide +kernel
set_option maxRecDepth 100000 in
theorem d_L_law_232 : decode code 232 = .ok (.aload_n 0, 1) := by decide +kernel
set_option maxRecDepth 100000 in
theorem d_L_law_233 : decode code 233 = .ok (.iload 4, 2) := by decide +kernel
set_option maxRecDepth 100000 in
theorem d_L_law_235 : decode code 235 = .ok (.iconst 1, 1) := by decide +kernel
set_option maxRecDepth 100000 in
theorem d_L_law_236 : decode code 236 = .ok (.iadd, 1) := by decide +kernel
set_option maxRecDepth 100000 in
theorem d_L_law_237 : decode code 237 = .ok (.iaload, 1) := by decide +kernel
set_option maxRecDepth 100000 in
theorem d_L_law_238 : decode code 238 = .ok (.invokevirtual 49, 3) := by decide +kernel
set_option maxRecDepth 100000 in
theorem d_L_law_241 : decode code 241 = .ok (.aload_n 2, 1) := by decide +kernel
set_option maxRecDepth 100000 in
theorem d_L_law_242 : decode code 242 = .ok (.aload_n 0, 1) := by decide +kernel
set_option maxRecDepth 100000 in
theorem d_L_law_243 : decode code 243 = .ok (.iload 4, 2) := by decide +kernel
set_option maxRecDepth 100000 in
theorem d_L_law_245 : decode code 245 = .ok (.iconst 1, 1) := by decide +kernel
set_option maxRecDepth 100000 in
theorem d_L_law_246 : decode code 246 = .ok (.iadd, 1) := by decide +kernel
set_option maxRecDepth 100000 in
theorem d_L_law_247 : decode code 247 = .ok (.iaload, 1) := by decide +kernel
set_option maxRecDepth 100000 in
theorem d_L_law_248 : decode code 248 = .ok (.invokevirtual 52, 3) := by decide +kernel
set_option maxRecDepth 100000 in
theorem d_L_law_251 : decode code 251 = .ok (.if_icmp .eq 455, 3) := by decide +kernel
set_option maxRecDepth 100000 in
theorem d_L_law_254 : decode code 254 = .ok (.iconst 0, 1) := by decide +kernel
set_option maxRecDepth 100000 in
theorem d_L_law_255 : decode code 255 = .ok (.ireturn, 1) := by decide +kernel
set_option maxRecDepth 100000 in
theorem d_L_law_256 : decode code 256 = .ok (.aload_n 1, 1) := by decide +kernel
set_option maxRecDepth 100000 in
theorem d_L_law_257 : decode code 257 = .ok (.aload_n 0, 1) := by decide +kernel
set_option maxRecDepth 100000 in
theorem d_L_law_258 : decode code 258 = .ok (.iload 4, 2) := by decide +kernel
set_option maxRecDepth 100000 in
theorem d_L_law_260 : decode code 260 = .ok (.iconst 1, 1) := by decide +kernel
set_option maxRecDepth 100000 in
theorem d_L_law_261 : decode code 261 = .ok (.iadd, 1) := by decide +kernel
set_option maxRecDepth 100000 in
theorem d_L_law_262 : decode code 262 = .ok (.iaload, 1) := by decide +kernel
set_option maxRecDepth 100000 in
theorem d_L_law_263 : decode code 263 = .ok (.aload_n 0, 1) := by decide +kernel
set_option maxRecDepth 100000 in
theorem d_L_law_264 : decode code 264 = .ok (.iload 4, 2) := by decide +kernel
set_option maxRecDepth 100000 in
theorem d_L_law_266 : decode code 266 = .ok (.iconst 2, 1) := by decide +kernel
set_option maxRecDepth 100000 in
theorem d_L_law_267 : decode code 267 = .ok (.iadd, 1) := by decide +kernel
set_option maxRecDepth 100000 in
theorem d_L_law_268 : decode code 268 = .ok (.iaload, 1) := by decide +kernel
set_option maxRecDepth 100000 in
theorem d_L_law_269 : decode code 269 = .ok (.invokevirtual 53, 3) := by decide +kernel
set_option maxRecDepth 100000 in
theorem d_L_law_272 : decode code 272 = .ok (.pop, 1) := by decide +kernel
set_option maxRecDepth 100000 in
theorem d_L_law_273 : decode code 273 = .ok (.aload_n 2, 1) := by decide +kernel
set_option maxRecDepth 100000 in
theorem d_L_law_274 : decode code 274 = .ok (.aload_n 0, 1) := by decide +kernel
set_option maxRecDepth 100000 in
theorem d_L_law_275 : decode code 275 = .ok (.iload 4, 2) := by decide +kernel
set_option maxRecDepth 100000 in
theorem d_L_law_277 : decode code 277 = .ok (.iconst 1, 1) := by decide +kernel
set_option maxRecDepth 100000 in
theorem d_L_law_278 : decode code 278 = .ok (.iadd, 1) := by decide +kernel
set_option maxRecDepth 100000 in
theorem d_L_law_279 : decode code 279 = .ok (.iaload, 1) := by decide +kernel
set_option maxRecDepth 100000 in
theorem d_L_law_280 : decode code 280 = .ok (.aload_n 0, 1) := by decide +kernel
set_option maxRecDepth 100000 in
theorem d_L_law_281 : decode code 281 = .ok (.iload 4, 2) := by decide +kernel
set_option maxRecDepth 100000 in
theorem d_L_law_283 : decode code 283 = .ok (.iconst 2, 1) := by decide +kernel
set_option maxRecDepth 100000 in
theorem d_L_law_284 : decode code 284 = .ok (.iadd, 1) := by decide +kernel
set_option maxRecDepth 100000 in
theorem d_L_law_285 : decode code 285 = .ok (.iaload, 1) := by decide +kernel
set_option maxRecDepth 100000 in
theorem d_L_law_286 : decode code 286 = .ok (.invokevirtual 56, 3) := by decide +kernel
set_option maxRecDepth 100000 in
theorem d_L_law_289 : decode code 289 = .ok (.pop, 1) := by decide +kernel
set_option maxRecDepth 100000 in
theorem d_L_law_290 : decode code 290 = .ok (.goto 416, 3) := by decide +kernel
set_option maxRecDepth 100000 in
theorem d_L_law_293 : decode code 293 = .ok (.aload_n 1, 1) := by decide +kernel
set_option maxRecDepth 100000 in
theorem d_L_law_294 : decode code 294 = .ok (.aload_n 0, 1) := by decide +kernel
set_option maxRecDepth 100000 in
theorem d_L_law_295 : decode code 295 = .ok (.iload 4, 2) := by decide +kernel
set_option maxRecDepth 100000 in
theorem d_L_law_297 : decode code 297 = .ok (.iconst 1, 1) := by decide +kernel
set_option maxRecDepth 100000 in
theorem d_L_law_298 : decode code 298 = .ok (.iadd, 1) := by decide +kernel
set_option maxRecDepth 100000 in
theorem d_L_law_299 : decode code 299 = .ok (.iaload, 1) := by decide +kernel
set_option maxRecDepth 100000 in
theorem d_L_law_300 : decode code 300 = .ok (.aload_n 0, 1) := by decide +kernel
set_option maxRecDepth 100000 in
theorem d_L_law_301 : decode code 301 = .ok (.iload 4, 2) := by decide +kernel
set_option maxRecDepth 100000 in
theorem d_L_law_303 : decode code 303 = .ok (.iconst 2, 1) := by decide +kernel
set_option maxRecDepth 100000 in
theorem d_L_law_304 : decode code 304 = .ok (.iadd, 1) := by decide +kernel
set_option maxRecDepth 100000 in
theorem d_L_law_305 : decode code 305 = .ok (.iaload, 1) := by decide +kernel
set_option maxRecDepth 100000 in
theorem d_L_law_306 : decode code 306 = .ok (.invokevirtual 57, 3) := by decide +kernel
set_option maxRecDepth 100000 in
theorem d_L_law_309 : decode code 309 = .ok (.pop, 1) := by decide +kernel
set_option maxRecDepth 100000 in
theorem d_L_law_310 : decode code 310 = .ok (.aload_n 2, 1) := by decide +kernel
set_option maxRecDepth 100000 in
theorem d_L_law_311 : decode code 311 = .ok (.aload_n 0, 1) := by decide +kernel
set_option maxRecDepth 100000 in
theorem d_L_law_312 : decode code 312 = .ok (.iload 4, 2) := by decide +kernel
set_option maxRecDepth 100000 in
theorem d_L_law_314 : decode code 314 = .ok (.iconst 1, 1) := by decide +kernel
set_option maxRecDepth 100000 in
theorem d_L_law_315 : decode code 315 = .ok (.iadd, 1) := by decide +kernel
set_option maxRecDepth 100000 in
theorem d_L_law_316 : decode code 316 = .ok (.iaload, 1) := by decide +kernel
set_option maxRecDepth 100000 in
theorem d_L_law_317 : decode code 317 = .ok (.aload_n 0, 1) := by decide +kernel
set_option maxRecDepth 100000 in
theorem d_L_law_318 : decode code 318 = .ok (.iload 4, 2) := by decide +kernel
set_option maxRecDepth 100000 in
theorem d_L_law_320 : decode code 320 = .ok (.iconst 2, 1) := by decide +kernel
set_option maxRecDepth 100000 in
theorem d_L_law_321 : decode code 321 = .ok (.iadd, 1) := by decide +kernel
set_option maxRecDepth 100000 in
theorem d_L_law_322 : decode code 322 = .ok (.iaload, 1) := by decide +kernel
set_option maxRecDepth 100000 in
theorem d_L_law_323 : decode code 323 = .ok (.invokevirtual 60, 3) := by decide +kernel
set_option maxRecDepth 100000 in
theorem d_L_law_326 : decode code 326 = .ok (.pop, 1) := by decide +kernel
set_option maxRecDepth 100000 in
theorem d_L_law_327 : decode code 327 = .ok (.goto 379, 3) := by decide +kernel
set_option maxRecDepth 100000 in
theorem d_L_law_330 : decode code 330 = .ok (.aload_n 1, 1) := by decide +kernel
set_option maxRecDepth 100000 in
theorem d_L_law_331 : decode code 331 = .ok (.aload_n 0, 1) := by decide +kernel
set_option maxRecDepth 100000 in
theorem d_L_law_332 : decode code 332 = .ok (.iload 4, 2) := by decide +kernel
set_option maxRecDepth 100000 in
theorem d_L_law_334 : decode code 334 = .ok (.iconst 1, 1) := by decide +kernel
set_option maxRecDepth 100000 in
theorem d_L_law_335 : decode code 335 = .ok (.iadd, 1) := by decide +kernel
set_option maxRecDepth 100000 in
theorem d_L_law_336 : decode code 336 = .ok (.iaload, 1) := by decide +kernel
set_option maxRecDepth 100000 in
theorem d_L_law_337 : decode code 337 = .ok (.invokestatic 61, 3) := by decide +kernel
set_option maxRecDepth 100000 in
theorem d_L_law_340 : decode code 340 = .ok (.istore 5, 2) := by decide +kernel
set_option maxRecDepth 100000 in
theorem d_L_law_342 : decode code 342 = .ok (.aload_n 2, 1) := by decide +kernel
set_option maxRecDepth 100000 in
theorem d_L_law_343 : decode code 343 = .ok (.aload_n 0, 1) := by decide +kernel
set_option maxRecDepth 100000 in
theorem d_L_law_344 : decode code 344 = .ok (.iload 4, 2) := by decide +kernel
set_option maxRecDepth 100000 in
theorem d_L_law_346 : decode code 346 = .ok (.iconst 1, 1) := by decide +kernel
set_option maxRecDepth 100000 in
theorem d_L_law_347 : decode code 347 = .ok (.iadd, 1) := by decide +kernel
set_option maxRecDepth 100000 in
theorem d_L_law_348 : decode code 348 = .ok (.iaload, 1) := by decide +kernel
set_option maxRecDepth 100000 in
theorem d_L_law_349 : decode code 349 = .ok (.invokevirtual 66, 3) := by decide +kernel
set_option maxRecDepth 100000 in
theorem d_L_law_352 : decode code 352 = .ok (.goto 354, 3) := by decide +kernel
set_option maxRecDepth 100000 in
theorem d_L_law_355 : decode code 355 = .ok (.aload_n 1, 1) := by decide +kernel
set_option maxRecDepth 100000 in
theorem d_L_law_356 : decode code 356 = .ok (.aload_n 0, 1) := by decide +kernel
set_option maxRecDepth 100000 in
theorem d_L_law_357 : decode code 357 = .ok (.iload 4, 2) := by decide +kernel
set_option maxRecDepth 100000 in
theorem d_L_law_359 : decode code 359 = .ok (.iconst 1, 1) := by decide +kernel
set_option maxRecDepth 100000 in
theorem d_L_law_360 : decode code 360 = .ok (.iadd, 1) := by decide +kernel
set_option maxRecDepth 100000 in
theorem d_L_law_361 : decode code 361 = .ok (.iaload, 1) := by decide +kernel
set_option maxRecDepth 100000 in
theorem d_L_law_362 : decode code 362 = .ok (.aload_n 0, 1) := by decide +kernel
set_option maxRecDepth 100000 in
theorem d_L_law_363 : decode code 363 = .ok (.iload 4, 2) := by decide +kernel
set_option maxRecDepth 100000 in
theorem d_L_law_365 : decode code 365 = .ok (.iconst 2, 1) := by decide +kernel
set_option maxRecDepth 100000 in
theorem d_L_law_366 : decode code 366 = .ok (.iadd, 1) := by decide +kernel
set_option maxRecDepth 100000 in
theorem d_L_law_367 : decode code 367 = .ok (.iaload, 1) := by decide +kernel
set_option maxRecDepth 100000 in
theorem d_L_law_368 : decode code 368 = .ok (.aload_n 3, 1) := by decide +kernel
set_option maxRecDepth 100000 in
theorem d_L_law_369 : decode code 369 = .ok (.invokestatic 67, 3) := by decide +kernel
set_option maxRecDepth 100000 in
theorem d_L_law_372 : decode code 372 = .ok (.istore 5, 2) := by decide +kernel
set_option maxRecDepth 100000 in
theorem d_L_law_374 : decode code 374 = .ok (.aload_n 2, 1) := by decide +kernel
set_option maxRecDepth 100000 in
theorem d_L_law_375 : decode code 375 = .ok (.aload_n 0, 1) := by decide +kernel
set_option maxRecDepth 100000 in
theorem d_L_law_376 : decode code 376 = .ok (.iload 4, 2) := by decide +kernel
set_option maxRecDepth 100000 in
theorem d_L_law_378 : decode code 378 = .ok (.iconst 1, 1) := by decide +kernel
set_option maxRecDepth 100000 in
theorem d_L_law_379 : decode code 379 = .ok (.iadd, 1) := by decide +kernel
set_option maxRecDepth 100000 in
theorem d_L_law_380 : decode code 380 = .ok (.iaload, 1) := by decide +kernel
set_option maxRecDepth 100000 in
theorem d_L_law_381 : decode code 381 = .ok (.aload_n 0, 1) := by decide +kernel
set_option maxRecDepth 100000 in
theorem d_L_law_382 : decode code 382 = .ok (.iload 4, 2) := by decide +kernel
set_option maxRecDepth 100000 in
theorem d_L_law_384 : decode code 384 = .ok (.iconst 2, 1) := by decide +kernel
set_option maxRecDepth 100000 in
theorem d_L_law_385 : decode code 385 = .ok (.iadd, 1) := by decide +kernel
set_option maxRecDepth 100000 in
theorem d_L_law_386 : decode code 386 = .ok (.iaload, 1) := by decide +kernel
set_option maxRecDepth 100000 in
theorem d_L_law_387 : decode code 387 = .ok (.invokevirtual 70, 3) := by decide +kernel
set_option maxRecDepth 100000 in
theorem d_L_law_390 : decode code 390 = .ok (.istore 6, 2) := by decide +kernel
set_option maxRecDepth 100000 in
theorem d_L_law_392 : decode code 392 = .ok (.goto 314, 3) := by decide +kernel
set_option maxRecDepth 100000 in
theorem d_L_law_395 : decode code 395 = .ok (.aload_n 1, 1) := by decide +kernel
set_option maxRecDepth 100000 in
theorem d_L_law_396 : decode code 396 = .ok (.aload_n 0, 1) := by decide +kernel
set_option maxRecDepth 100000 in
theorem d_L_law_397 : decode code 397 = .ok (.iload 4, 2) := by decide +kernel
set_option maxRecDepth 100000 in
theorem d_L_law_399 : decode code 399 = .ok (.iconst 1, 1) := by decide +kernel
set_option maxRecDepth 100000 in
theorem d_L_law_400 : decode code 400 = .ok (.iadd, 1) := by decide +kernel
set_option maxRecDepth 100000 in
theorem d_L_law_401 : decode code 401 = .ok (.iaload, 1) := by decide +kernel
set_option maxRecDepth 100000 in
theorem d_L_law_402 : decode code 402 = .ok (.aload_n 3, 1) := by decide +kernel
set_option maxRecDepth 100000 in
theorem d_L_law_403 : decode code 403 = .ok (.invokestatic 71, 3) := by decide +kernel
set_option maxRecDepth 100000 in
theorem d_L_law_406 : decode code 406 = .ok (.istore 5, 2) := by decide +kernel
set_option maxRecDepth 100000 in
theorem d_L_law_408 : decode code 408 = .ok (.aload_n 2, 1) := by decide +kernel
set_option maxRecDepth 100000 in
theorem d_L_law_409 : decode code 409 = .ok (.aload_n 0, 1) := by decide +kernel
set_option maxRecDepth 100000 in
theorem d_L_law_410 : decode code 410 = .ok (.iload 4, 2) := by decide +kernel
set_option maxRecDepth 100000 in
theorem d_L_law_412 : decode code 412 = .ok (.iconst 1, 1) := by decide +kernel
set_option maxRecDepth 100000 in
theorem d_L_law_413 : decode code 413 = .ok (.iadd, 1) := by decide +kernel
set_option maxRecDepth 100000 in
theorem d_L_law_414 : decode code 414 = .ok (.iaload, 1) := by decide +kernel
set_option maxRecDepth 100000 in
theorem d_L_law_415 : decode code 415 = .ok (.invokevirtual 74, 3) := by decide +kernel
set_option maxRecDepth 100000 in
theorem d_L_law_418 : decode code 418 = .ok (.istore 6, 2) := by decide +kernel
set_option maxRecDepth 100000 in
theorem d_L_law_420 : decode code 420 = .ok (.goto 286, 3) := by decide +kernel
set_option maxRecDepth 100000 in
theorem d_L_law_423 : decode code 423 = .ok (.aload_n 1, 1) := by decide +kernel
set_option maxRecDepth 100000 in
theorem d_L_law_424 : decode code 424 = .ok (.aload_n 0, 1) := by decide +kernel
set_option maxRecDepth 100000 in
theorem d_L_law_425 : decode code 425 = .ok (.iload 4, 2) := by decide +kernel
set_option maxRecDepth 100000 in
theorem d_L_law_427 : decode code 427 = .ok (.iconst 1, 1) := by decide +kernel
set_option maxRecDepth 100000 in
theorem d_L_law_428 : decode code 428 = .ok (.iadd, 1) := by decide +kernel
set_option maxRecDepth 100000 in
theorem d_L_law_429 : decode code 429 = .ok (.iaload, 1) := by decide +kernel
set_option maxRecDepth 100000 in
theorem d_L_law_430 : decode code 430 = .ok (.aload_n 0, 1) := by decide +kernel
set_option maxRecDepth 100000 in
theorem d_L_law_431 : decode code 431 = .ok (.iload 4, 2) := by decide +kernel
set_option maxRecDepth 100000 in
theorem d_L_law_433 : decode code 433 = .ok (.iconst 2, 1) := by decide +kernel
set_option maxRecDepth 100000 in
theorem d_L_law_434 : decode code 434 = .ok (.iadd, 1) := by decide +kernel
set_option maxRecDepth 100000 in
theorem d_L_law_435 : decode code 435 = .ok (.iaload, 1) := by decide +kernel
set_option maxRecDepth 100000 in
theorem d_L_law_436 : decode code 436 = .ok (.aload_n 0, 1) := by decide +kernel
set_option maxRecDepth 100000 in
theorem d_L_law_437 : decode code 437 = .ok (.iload 4, 2) := by decide +kernel
set_option maxRecDepth 100000 in
theorem d_L_law_439 : decode code 439 = .ok (.iconst 3, 1) := by decide +kernel
set_option maxRecDepth 100000 in
theorem d_L_law_440 : decode code 440 = .ok (.iadd, 1) := by decide +kernel
set_option maxRecDepth 100000 in
theorem d_L_law_441 : decode code 441 = .ok (.iaload, 1) := by decide +kernel
set_option maxRecDepth 100000 in
theorem d_L_law_442 : decode code 442 = .ok (.invokestatic 75, 3) := by decide +kernel
set_option maxRecDepth 100000 in
theorem d_L_law_445 : decode code 445 = .ok (.istore 5, 2) := by decide +kernel
set_option maxRecDepth 100000 in
theorem d_L_law_447 : decode code 447 = .ok (.aload_n 2, 1) := by decide +kernel
set_option maxRecDepth 100000 in
theorem d_L_law_448 : decode code 448 = .ok (.aload_n 0, 1) := by decide +kernel
set_option maxRecDepth 100000 in
theorem d_L_law_449 : decode code 449 = .ok (.iload 4, 2) := by decide +kernel
set_option maxRecDepth 100000 in
theorem d_L_law_451 : decode code 451 = .ok (.iconst 1, 1) := by decide +kernel
set_option maxRecDepth 100000 in
theorem d_L_law_452 : decode code 452 = .ok (.iadd, 1) := by decide +kernel
set_option maxRecDepth 100000 in
theorem d_L_law_453 : decode code 453 = .ok (.iaload, 1) := by decide +kernel
set_option maxRecDepth 100000 in
theorem d_L_law_454 : decode code 454 = .ok (.aload_n 0, 1) := by decide +kernel
set_option maxRecDepth 100000 in
theorem d_L_law_455 : decode code 455 = .ok (.iload 4, 2) := by decide +kernel
set_option maxRecDepth 100000 in
theorem d_L_law_457 : decode code 457 = .ok (.iconst 2, 1) := by decide +kernel
set_option maxRecDepth 100000 in
theorem d_L_law_458 : decode code 458 = .ok (.iadd, 1) := by decide +kernel
set_option maxRecDepth 100000 in
theorem d_L_law_459 : decode code 459 = .ok (.iaload, 1) := by decide +kernel
set_option maxRecDepth 100000 in
theorem d_L_law_460 : decode code 460 = .ok (.aload_n 0, 1) := by decide +kernel
set_option maxRecDepth 100000 in
theorem d_L_law_461 : decode code 461 = .ok (.iload 4, 2) := by decide +kernel
set_option maxRecDepth 100000 in
theorem d_L_law_463 : decode code 463 = .ok (.iconst 3, 1) := by decide +kernel
set_option maxRecDepth 100000 in
theorem d_L_law_464 : decode code 464 = .ok (.iadd, 1) := by decide +kernel
set_option maxRecDepth 100000 in
theorem d_L_law_465 : decode code 465 = .ok (.iaload, 1) := by decide +kernel
set_option maxRecDepth 100000 in
theorem d_L_law_466 : decode code 466 = .ok (.invokevirtual 78, 3) := by decide +kernel
set_option maxRecDepth 100000 in
theorem d_L_law_469 : decode code 469 = .ok (.goto 237, 3) := by decide +kernel
set_option maxRecDepth 100000 in
theorem d_L_law_472 : decode code 472 = .ok (.aload_n 1, 1) := by decide +kernel
set_option maxRecDepth 100000 in
theorem d_L_law_473 : decode code 473 = .ok (.aload_n 0, 1) := by decide +kernel
set_option maxRecDepth 100000 in
theorem d_L_law_474 : decode code 474 = .ok (.iload 4, 2) := by decide +kernel
set_option maxRecDepth 100000 in
theorem d_L_law_476 : decode code 476 = .ok (.iconst 1, 1) := by decide +kernel
set_option maxRecDepth 100000 in
theorem d_L_law_477 : decode code 477 = .ok (.iadd, 1) := by decide +kernel
set_option maxRecDepth 100000 in
theorem d_L_law_478 : decode code 478 = .ok (.iaload, 1) := by decide +kernel
set_option maxRecDepth 100000 in
theorem d_L_law_479 : decode code 479 = .ok (.aload_n 0, 1) := by decide +kernel
set_option maxRecDepth 100000 in
theorem d_L_law_480 : decode code 480 = .ok (.iload 4, 2) := by decide +kernel
set_option maxRecDepth 100000 in
theorem d_L_law_482 : decode code 482 = .ok (.iconst 2, 1) := by decide +kernel
set_option maxRecDepth 100000 in
theorem d_L_law_483 : decode code 483 = .ok (.iadd, 1) := by decide +kernel
set_option maxRecDepth 100000 in
theorem d_L_law_484 : decode code 484 = .ok (.iaload, 1) := by decide +kernel
set_option maxRecDepth 100000 in
theorem d_L_law_485 : decode code 485 = .ok (.invokevirtual 79, 3) := by decide +kernel
set_option maxRecDepth 100000 in
theorem d_L_law_488 : decode code 488 = .ok (.pop, 1) := by decide +kernel
set_option maxRecDepth 100000 in
theorem d_L_law_489 : decode code 489 = .ok (.aload_n 2, 1) := by decide +kernel
set_option maxRecDepth 100000 in
theorem d_L_law_490 : decode code 490 = .ok (.aload_n 0, 1) := by decide +kernel
set_option maxRecDepth 100000 in
theorem d_L_law_491 : decode code 491 = .ok (.iload 4, 2) := by decide +kernel
set_option maxRecDepth 100000 in
theorem d_L_law_493 : decode code 493 = .ok (.iconst 1, 1) := by decide +kernel
set_option maxRecDepth 100000 in
theorem d_L_law_494 : decode code 494 = .ok (.iadd, 1) := by decide +kernel
set_option maxRecDepth 100000 in
theorem d_L_law_495 : decode code 495 = .ok (.iaload, 1) := by decide +kernel
set_option maxRecDepth 100000 in
theorem d_L_law_496 : decode code 496 = .ok (.aload_n 0, 1) := by decide +kernel
set_option maxRecDepth 100000 in
theorem d_L_law_497 : decode code 497 = .ok (.iload 4, 2) := by decide +kernel
set_option maxRecDepth 100000 in
theorem d_L_law_499 : decode code 499 = .ok (.iconst 2, 1) := by decide +kernel
set_option maxRecDepth 100000 in
theorem d_L_law_500 : decode code 500 = .ok (.iadd, 1) := by decide +kernel
set_option maxRecDepth 100000 in
theorem d_L_law_501 : decode code 501 = .ok (.iaload, 1) := by decide +kernel
set_option maxRecDepth 100000 in
theorem d_L_law_502 : decode code 502 = .ok (.invokevirtual 82, 3) := by decide +kernel
set_option maxRecDepth 100000 in
theorem d_L_law_505 : decode code 505 = .ok (.pop, 1) := by decide +kernel
set_option maxRecDepth 100000 in
theorem d_L_law_506 : decode code 506 = .ok (.goto 200, 3) := by decide +kernel
set_option maxRecDepth 100000 in
theorem d_L_law_509 : decode code 509 = .ok (.aload_n 1, 1) := by decide +kernel
set_option maxRecDepth 100000 in
theorem d_L_law_510 : decode code 510 = .ok (.aload_n 0, 1) := by decide +kernel
set_option maxRecDepth 100000 in
theorem d_L_law_511 : decode code 511 = .ok (.iload 4, 2) := by decide +kernel
set_option maxRecDepth 100000 in
theorem d_L_law_513 : decode code 513 = .ok (.iconst 1, 1) := by decide +kernel
set_option maxRecDepth 100000 in
theorem d_L_law_514 : decode code 514 = .ok (.iadd, 1) := by decide +kernel
set_option maxRecDepth 100000 in
theorem d_L_law_515 : decode code 515 = .ok (.iaload, 1) := by decide +kernel
set_option maxRecDepth 100000 in
theorem d_L_law_516 : decode code 516 = .ok (.aload_n 0, 1) := by decide +kernel
set_option maxRecDepth 100000 in
theorem d_L_law_517 : decode code 517 = .ok (.iload 4, 2) := by decide +kernel
set_option maxRecDepth 100000 in
theorem d_L_law_519 : decode code 519 = .ok (.iconst 2, 1) := by decide +kernel
set_option maxRecDepth 100000 in
theorem d_L_law_520 : decode code 520 = .ok (.iadd, 1) := by decide +kernel
set_option maxRecDepth 100000 in
theorem d_L_law_521 : decode code 521 = .ok (.iaload, 1) := by decide +kernel
set_option maxRecDepth 100000 in
theorem d_L_law_522 : decode code 522 = .ok (.aload_n 0, 1) := by decide +kernel
set_option maxRecDepth 100000 in
theorem d_L_law_523 : decode code 523 = .ok (.iload 4, 2) := by decide +kernel
set_option maxRecDepth 100000 in
theorem d_L_law_525 : decode code 525 = .ok (.iconst 3, 1) := by decide +kernel
set_option maxRecDepth 100000 in
theorem d_L_law_526 : decode code 526 = .ok (.iadd, 1) := by decide +kernel
set_option maxRecDepth 100000 in
theorem d_L_law_527 : decode code 527 = .ok (.iaload, 1) := by decide +kernel
set_option maxRecDepth 100000 in
theorem d_L_law_528 : decode code 528 = .ok (.invokevirtual 83, 3) := by decide +kernel
set_option maxRecDepth 100000 in
theorem d_L_law_531 : decode code 531 = .ok (.pop, 1) := by decide +kernel
set_option maxRecDepth 100000 in
theorem d_L_law_532 : decode code 532 = .ok (.aload_n 2, 1) := by decide +kernel
set_option maxRecDepth 100000 in
theorem d_L_law_533 : decode code 533 = .ok (.aload_n 0, 1) := by decide +kernel
set_option maxRecDepth 100000 in
theorem d_L_law_534 : decode code 534 = .ok (.iload 4, 2) := by decide +kernel
set_option maxRecDepth 100000 in
theorem d_L_law_536 : decode code 536 = .ok (.iconst 1, 1) := by decide +kernel
set_option maxRecDepth 100000 in
theorem d_L_law_537 : decode code 537 = .ok (.iadd, 1) := by decide +kernel
set_option maxRecDepth 100000 in
theorem d_L_law_538 : decode code 538 = .ok (.iaload, 1) := by decide +kernel
set_option maxRecDepth 100000 in
theorem d_L_law_539 : decode code 539 = .ok (.aload_n 0, 1) := by decide +kernel
set_option maxRecDepth 100000 in
theorem d_L_law_540 : decode code 540 = .ok (.iload 4, 2) := by decide +kernel
set_option maxRecDepth 100000 in
theorem d_L_law_542 : decode code 542 = .ok (.iconst 2, 1) := by decide +kernel
set_option maxRecDepth 100000 in
theorem d_L_law_543 : decode code 543 = .ok (.iadd, 1) := by decide +kernel
set_option maxRecDepth 100000 in
theorem d_L_law_544 : decode code 544 = .ok (.iaload, 1) := by decide +kernel
set_option maxRecDepth 100000 in
theorem d_L_law_545 : decode code 545 = .ok (.aload_n 0, 1) := by decide +kernel
set_option maxRecDepth 100000 in
theorem d_L_law_546 : decode code 546 = .ok (.iload 4, 2) := by decide +kernel
set_option maxRecDepth 100000 in
theorem d_L_law_548 : decode code 548 = .ok (.iconst 3, 1) := by decide +kernel
set_option maxRecDepth 100000 in
theorem d_L_law_549 : decode code 549 = .ok (.iadd, 1) := by decide +kernel
set_option maxRecDepth 100000 in
theorem d_L_law_550 : decode code 550 = .ok (.iaload, 1) := by decide +kernel
set_option maxRecDepth 100000 in
theorem d_L_law_551 : decode code 551 = .ok (.invokevirtual 87, 3) := by decide +kernel
set_option maxRecDepth 100000 in
theorem d_L_law_554 : decode code 554 = .ok (.pop, 1) := by decide +kernel
set_option maxRecDepth 100000 in
theorem d_L_law_555 : decode code 555 = .ok (.goto 151, 3) := by decide +kernel
set_option maxRecDepth 100000 in
theorem d_L_law_558 : decode code 558 = .ok (.aload_n 1, 1) := by decide +kernel
set_option maxRecDepth 100000 in
theorem d_L_law_559 : decode code 559 = .ok (.aload_n 0, 1) := by decide +kernel
set_option maxRecDepth 100000 in
theorem d_L_law_560 : decode code 560 = .ok (.iload 4, 2) := by decide +kernel
set_option maxRecDepth 100000 in
theorem d_L_law_562 : decode code 562 = .ok (.iconst 1, 1) := by decide +kernel
set_option maxRecDepth 100000 in
theorem d_L_law_563 : decode code 563 = .ok (.iadd, 1) := by decide +kernel
set_option maxRecDepth 100000 in
theorem d_L_law_564 : decode code 564 = .ok (.iaload, 1) := by decide +kernel
set_option maxRecDepth 100000 in
theorem d_L_law_565 : decode code 565 = .ok (.aload_n 0, 1) := by decide +kernel
set_option maxRecDepth 100000 in
theorem d_L_law_566 : decode code 566 = .ok (.iload 4, 2) := by decide +kernel
set_option maxRecDepth 100000 in
theorem d_L_law_568 : decode code 568 = .ok (.iconst 2, 1) := by decide +kernel
set_option maxRecDepth 100000 in
theorem d_L_law_569 : decode code 569 = .ok (.iadd, 1) := by decide +kernel
set_option maxRecDepth 100000 in
theorem d_L_law_570 : decode code 570 = .ok (.iaload, 1) := by decide +kernel
set_option maxRecDepth 100000 in
theorem d_L_law_571 : decode code 571 = .ok (.invokevirtual 88, 3) := by decide +kernel
set_option maxRecDepth 100000 in
theorem d_L_law_574 : decode code 574 = .ok (.pop, 1) := by decide +kernel
set_option maxRecDepth 100000 in
theorem d_L_law_575 : decode code 575 = .ok (.aload_n 2, 1) := by decide +kernel
set_option maxRecDepth 100000 in
theorem d_L_law_576 : decode code 576 = .ok (.aload_n 0, 1) := by decide +kernel
set_option maxRecDepth 100000 in
theorem d_L_law_577 : decode code 577 = .ok (.iload 4, 2) := by decide +kernel
set_option maxRecDepth 100000 in
theorem d_L_law_579 : decode code 579 = .ok (.iconst 1, 1) := by decide +kernel
set_option maxRecDepth 100000 in
theorem d_L_law_580 : decode code 580 = .ok (.iadd, 1) := by decide +kernel
set_option maxRecDepth 100000 in
theorem d_L_law_581 : decode code 581 = .ok (.iaload, 1) := by decide +kernel
set_option maxRecDepth 100000 in
theorem d_L_law_582 : decode code 582 = .ok (.aload_n 0, 1) := by decide +kernel
set_option maxRecDepth 100000 in
theorem d_L_law_583 : decode code 583 = .ok (.iload 4, 2) := by decide +kernel
set_option maxRecDepth 100000 in
theorem d_L_law_585 : decode code 585 = .ok (.iconst 2, 1) := by decide +kernel
set_option maxRecDepth 100000 in
theorem d_L_law_586 : decode code 586 = .ok (.iadd, 1) := by decide +kernel
set_option maxRecDepth 100000 in
theorem d_L_law_587 : decode code 587 = .ok (.iaload, 1) := by decide +kernel
set_option maxRecDepth 100000 in
theorem d_L_law_588 : decode code 588 = .ok (.invokevirtual 91, 3) := by decide +kernel
set_option maxRecDepth 100000 in
theorem d_L_law_591 : decode code 591 = .ok (.pop, 1) := by decide +kernel
set_option maxRecDepth 100000 in
theorem d_L_law_592 : decode code 592 = .ok (.goto 114, 3) := by decide +kernel
set_option maxRecDepth 100000 in
theorem d_L_law_595 : decode code 595 = .ok (.aload_n 1, 1) := by decide +kernel
set_option maxRecDepth 100000 in
theorem d_L_law_596 : decode code 596 = .ok (.aload_n 0, 1) := by decide +kernel
set_option maxRecDepth 100000 in
theorem d_L_law_597 : decode code 597 = .ok (.iload 4, 2) := by decide +kernel
set_option maxRecDepth 100000 in
theorem d_L_law_599 : decode code 599 = .ok (.iconst 1, 1) := by decide +kernel
set_option maxRecDepth 100000 in
theorem d_L_law_600 : decode code 600 = .ok (.iadd, 1) := by decide +kernel
set_option maxRecDepth 100000 in
theorem d_L_law_601 : decode code 601 = .ok (.iaload, 1) := by decide +kernel
set_option maxRecDepth 100000 in
theorem d_L_law_602 : decode code 602 = .ok (.aload_n 0, 1) := by decide +kernel
set_option maxRecDepth 100000 in
theorem d_L_law_603 : decode code 603 = .ok (.iload 4, 2) := by decide +kernel
set_option maxRecDepth 100000 in
theorem d_L_law_605 : decode code 605 = .ok (.iconst 2, 1) := by decide +kernel
set_option maxRecDepth 100000 in
theorem d_L_law_606 : decode code 606 = .ok (.iadd, 1) := by decide +kernel
set_option maxRecDepth 100000 in
theorem d_L_law_607 : decode code 607 = .ok (.iaload, 1) := by decide +kernel
set_option maxRecDepth 100000 in
theorem d_L_law_608 : decode code 608 = .ok (.aload_n 0, 1) := by decide +kernel
set_option maxRecDepth 100000 in
theorem d_L_law_609 : decode code 609 = .ok (.iload 4, 2) := by decide +kernel
set_option maxRecDepth 100000 in
theorem d_L_law_611 : decode code 611 = .ok (.iconst 3, 1) := by decide +kernel
set_option maxRecDepth 100000 in
theorem d_L_law_612 : decode code 612 = .ok (.iadd, 1) := by decide +kernel
set_option maxRecDepth 100000 in
theorem d_L_law_613 : decode code 613 = .ok (.iaload, 1) := by decide +kernel
set_option maxRecDepth 100000 in
theorem d_L_law_614 : decode code 614 = .ok (.invokevirtual 92, 3) := by decide +kernel
set_option maxRecDepth 100000 in
theorem d_L_law_617 : decode code 617 = .ok (.pop, 1) := by decide +kernel
set_option maxRecDepth 100000 in
theorem d_L_law_618 : decode code 618 = .ok (.aload_n 2, 1) := by decide +kernel
set_option maxRecDepth 100000 in
theorem d_L_law_619 : decode code 619 = .ok (.aload_n 0, 1) := by decide +kernel
set_option maxRecDepth 100000 in
theorem d_L_law_620 : decode code 620 = .ok (.iload 4, 2) := by decide +kernel
set_option maxRecDepth 100000 in
theorem d_L_law_622 : decode code 622 = .ok (.iconst 1, 1) := by decide +kernel
set_option maxRecDepth 100000 in
theorem d_L_law_623 : decode code 623 = .ok (.iadd, 1) := by decide +kernel
set_option maxRecDepth 100000 in
theorem d_L_law_624 : decode code 624 = .ok (.iaload, 1) := by decide +kernel
set_option maxRecDepth 100000 in
theorem d_L_law_625 : decode code 625 = .ok (.aload_n 0, 1) := by decide +kernel
set_option maxRecDepth 100000 in
theorem d_L_law_626 : decode code 626 = .ok (.iload 4, 2) := by decide +kernel
set_option maxRecDepth 100000 in
theorem d_L_law_628 : decode code 628 = .ok (.iconst 2, 1) := by decide +kernel
set_option maxRecDepth 100000 in
theorem d_L_law_629 : decode code 629 = .ok (.iadd, 1) := by decide +kernel
set_option maxRecDepth 100000 in
theorem d_L_law_630 : decode code 630 = .ok (.iaload, 1) := by decide +kernel
set_option maxRecDepth 100000 in
theorem d_L_law_631 : decode code 631 = .ok (.aload_n 0, 1) := by decide +kernel
set_option maxRecDepth 100000 in
theorem d_L_law_632 : decode code 632 = .ok (.iload 4, 2) := by decide +kernel
set_option maxRecDepth 100000 in
theorem d_L_law_634 : decode code 634 = .ok (.iconst 3, 1) := by decide +kernel
set_option maxRecDepth 100000 in
theorem d_L_law_635 : decode code 635 = .ok (.iadd, 1) := by decide +kernel
set_option maxRecDepth 100000 in
theorem d_L_law_636 : decode code 636 = .ok (.iaload, 1) := by decide +kernel
set_option maxRecDepth 100000 in
theorem d_L_law_637 : decode code 637 = .ok (.invokevirtual 95, 3) := by decide +kernel
set_option maxRecDepth 100000 in
theorem d_L_law_640 : decode code 640 = .ok (.pop, 1) := by decide +kernel
set_option maxRecDepth 100000 in
theorem d_L_law_641 : decode code 641 = .ok (.goto 65, 3) := by decide +kernel
set_option maxRecDepth 100000 in
theorem d_L_law_644 : decode code 644 = .ok (.aload_n 1, 1) := by decide +kernel
set_option maxRecDepth 100000 in
theorem d_L_law_645 : decode code 645 = .ok (.aload_n 0, 1) := by decide +kernel
set_option maxRecDepth 100000 in
theorem d_L_law_646 : decode code 646 = .ok (.iload 4, 2) := by decide +kernel
set_option maxRecDepth 100000 in
theorem d_L_law_648 : decode code 648 = .ok (.iconst 1, 1) := by decide +kernel
set_option maxRecDepth 100000 in
theorem d_L_law_649 : decode code 649 = .ok (.iadd, 1) := by decide +kernel
set_option maxRecDepth 100000 in
theorem d_L_law_650 : decode code 650 = .ok (.iaload, 1) := by decide +kernel
set_option maxRecDepth 100000 in
theorem d_L_law_651 : decode code 651 = .ok (.invokevirtual 96, 3) := by decide +kernel
set_option maxRecDepth 100000 in
theorem d_L_law_654 : decode code 654 = .ok (.pop, 1) := by decide +kernel
set_option maxRecDepth 100000 in
theorem d_L_law_655 : decode code 655 = .ok (.aload_n 2, 1) := by decide +kernel
set_option maxRecDepth 100000 in
theorem d_L_law_656 : decode code 656 = .ok (.aload_n 0, 1) := by decide +kernel
set_option maxRecDepth 100000 in
theorem d_L_law_657 : decode code 657 = .ok (.iload 4, 2) := by decide +kernel
set_option maxRecDepth 100000 in
theorem d_L_law_659 : decode code 659 = .ok (.iconst 1, 1) := by decide +kernel
set_option maxRecDepth 100000 in
theorem d_L_law_660 : decode code 660 = .ok (.iadd, 1) := by decide +kernel
set_option maxRecDepth 100000 in
theorem d_L_law_661 : decode code 661 = .ok (.iaload, 1) := by decide +kernel
set_option maxRecDepth 100000 in
theorem d_L_law_662 : decode code 662 = .ok (.invokevirtual 99, 3) := by decide +kernel
set_option maxRecDepth 100000 in
theorem d_L_law_665 : decode code 665 = .ok (.pop, 1) := by decide +kernel
set_option maxRecDepth 100000 in
theorem d_L_law_666 : decode code 666 = .ok (.goto 40, 3) := by decide +kernel
set_option maxRecDepth 100000 in
theorem d_L_law_669 : decode code 669 = .ok (.aload_n 1, 1) := by decide +kernel
set_option maxRecDepth 100000 in
theorem d_L_law_670 : decode code 670 = .ok (.aload_n 0, 1) := by decide +kernel
set_option maxRecDepth 100000 in
theorem d_L_law_671 : decode code 671 = .ok (.iload 4, 2) := by decide +kernel
set_option maxRecDepth 100000 in
theorem d_L_law_673 : decode code 673 = .ok (.iconst 1, 1) := by decide +kernel
set_option maxRecDepth 100000 in
theorem d_L_law_674 : decode code 674 = .ok (.iadd, 1) := by decide +kernel
set_option maxRecDepth 100000 in
theorem d_L_law_675 : decode code 675 = .ok (.iaload, 1) := by decide +kernel
set_option maxRecDepth 100000 in
theorem d_L_law_676 : decode code 676 = .ok (.aload_n 0, 1) := by decide +kernel
set_option maxRecDepth 100000 in
theorem d_L_law_677 : decode code 677 = .ok (.iload 4, 2) := by decide +kernel
set_option maxRecDepth 100000 in
theorem d_L_law_679 : decode code 679 = .ok (.iconst 2, 1) := by decide +kernel
set_option maxRecDepth 100000 in
theorem d_L_law_680 : decode code 680 = .ok (.iadd, 1) := by decide +kernel
set_option maxRecDepth 100000 in
theorem d_L_law_681 : decode code 681 = .ok (.iaload, 1) := by decide +kernel
set_option maxRecDepth 100000 in
theorem d_L_law_682 : decode code 682 = .ok (.invokevirtual 100, 3) := by decide +kernel
set_option maxRecDepth 100000 in
theorem d_L_law_685 : decode code 685 = .ok (.pop, 1) := by decide +kernel
set_option maxRecDepth 100000 in
theorem d_L_law_686 : decode code 686 = .ok (.aload_n 2, 1) := by decide +kernel
set_option maxRecDepth 100000 in
theorem d_L_law_687 : decode code 687 = .ok (.aload_n 0, 1) := by decide +kernel
set_option maxRecDepth 100000 in
theorem d_L_law_688 : decode code 688 = .ok (.iload 4, 2) := by decide +kernel
set_option maxRecDepth 100000 in
theorem d_L_law_690 : decode code 690 = .ok (.iconst 1, 1) := by decide +kernel
set_option maxRecDepth 100000 in
theorem d_L_law_691 : decode code 691 = .ok (.iadd, 1) := by decide +kernel
set_option maxRecDepth 100000 in
theorem d_L_law_692 : decode code 692 = .ok (.iaload, 1) := by decide +kernel
set_option maxRecDepth 100000 in
theorem d_L_law_693 : decode code 693 = .ok (.aload_n 0, 1) := by decide +kernel
set_option maxRecDepth 100000 in
theorem d_L_law_694 : decode code 694 = .ok (.iload 4, 2) := by decide +kernel
set_option maxRecDepth 100000 in
theorem d_L_law_696 : decode code 696 = .ok (.iconst 2, 1) := by decide +kernel
set_option maxRecDepth 100000 in
theorem d_L_law_697 : decode code 697 = .ok (.iadd, 1) := by decide +kernel
set_option maxRecDepth 100000 in
theorem d_L_law_698 : decode code 698 = .ok (.iaload, 1) := by decide +kernel
set_option maxRecDepth 100000 in
theorem d_L_law_699 : decode code 699 = .ok (.invokevirtual 103, 3) := by decide +kernel
set_option maxRecDepth 100000 in
theorem d_L_law_702 : decode code 702 = .ok (.pop, 1) := by decide +kernel
set_option maxRecDepth 100000 in
theorem d_L_law_703 : decode code 703 = .ok (.goto 3, 3) := by decide +kernel
set_option maxRecDepth 100000 in
theorem d_L_law_706 : decode code 706 = .ok (.iinc 4 6, 3) := by decide +kernel
set_option maxRecDepth 100000 in
theorem d_L_law_709 : decode code 709 = .ok (.goto (-686), 3) := by decide +kernel
set_option maxRecDepth 100000 in
theorem d_L_law_712 : decode code 712 = .ok (.iconst 1, 1) := by decide +kernel
set_option maxRecDepth 100000 in
theorem d_L_law_713 : decode code 713 = .ok (.ireturn, 1) := by decide +kernel
set_option maxRecDepth 100000 in
theorem li_M_feed : Cond.instanceMethod y_M_feed ∈ wd_tbl := wd_of 2623 (by decide +kernel) rfl
set_option maxRecDepth 100000 in
theorem ls_M_feed : Cond.selects R_M y_M_feed y_M_feed ∈ wd_tbl := wd_of 2624 (by decide +kernel) rfl
theorem ld_M_feed : y_M_feed.cls = R_M ∧ y_M_feed.cls ≠ "java/lang/invoke/MethodHandle" ∧ y_M_feed.cls ≠ "java/lang/invoke/VarHandle" ∧ (parseMethodDescriptor y_M_feed.desc).map (fun d => d.parameters.length) = some 5 := by decide +kernel
set_option maxRecDepth 100000 in
theorem li_M_back : Cond.instanceMethod y_M_back ∈ wd_tbl := wd_of 2627 (by decide +kernel) rfl
set_option maxRecDepth 100000 in
theorem ls_M_back : Cond.selects R_M y_M_back y_M_back ∈ wd_tbl := wd_of 2628 (by decide +kernel) rfl
theorem ld_M_back : y_M_back.cls = R_M ∧ y_M_back.cls ≠ "java/lang/invoke/MethodHandle" ∧ y_M_back.cls ≠ "java/lang/invoke/VarHandle" ∧ (parseMethodDescriptor y_M_back.desc).map (fun d => d.parameters.length) = some 1 := by decide +kernel
set_option maxRecDepth 100000 in
theorem li_M_read : Cond.instanceMethod y_M_read ∈ wd_tbl := wd_of 2631 (by decide +kernel) rfl
set_option maxRecDepth 100000 in
theorem ls_M_read : Cond.selects R_M y_M_read y_M_read ∈ wd_tbl := wd_of 2632 (by decide +kernel) rfl
theorem ld_M_read : y_M_read.cls = R_M ∧ y_M_read.cls ≠ "java/lang/invoke/MethodHandle" ∧ y_M_read.cls ≠ "java/lang/invoke/VarHandle" ∧ (parseMethodDescriptor y_M_read.desc).map (fun d => d.parameters.length) = some 0 := by decide +kernel
set_option maxRecDepth 100000 in
theorem li_M_count : Cond.instanceMethod y_M_count ∈ wd_tbl := wd_of 3257 (by decide +kernel) rfl
set_option maxRecDepth 100000 in
theorem ls_M_count : Cond.selects R_M y_M_count y_M_count ∈ wd_tbl := wd_of 3258 (by decide +kernel) rfl
theorem ld_M_count : y_M_count.cls = R_M ∧ y_M_count.cls ≠ "java/lang/invoke/MethodHandle" ∧ y_M_count.cls ≠ "java/lang/invoke/VarHandle" ∧ (parseMethodDescriptor y_M_count.desc).map (fun d => d.parameters.length) = some 1 := by decide +kernel
set_option maxRecDepth 100000 in
theorem li_M_function1 : Cond.instanceMethod y_M_function1 ∈ wd_tbl := wd_of 2889 (by decide +kernel) rfl
set_option maxRecDepth 100000 in
theorem ls_M_function1 : Cond.selects R_M y_M_function1 y_M_function1 ∈ wd_tbl := wd_of 2890 (by decide +kernel) rfl
theorem ld_M_function1 : y_M_function1.cls = R_M ∧ y_M_function1.cls ≠ "java/lang/invoke/MethodHandle" ∧ y_M_function1.cls ≠ "java/lang/invoke/VarHandle" ∧ (parseMethodDescriptor y_M_function1.desc).map (fun d => d.parameters.length) = some 2 := by decide +kernel
set_option maxRecDepth 100000 in
theorem li_M_letter : Cond.instanceMethod y_M_letter ∈ wd_tbl := wd_of 2893 (by decide +kernel) rfl
set_option maxRecDepth 100000 in
theorem ls_M_letter : Cond.selects R_M y_M_letter y_M_letter ∈ wd_tbl := wd_of 2894 (by decide +kernel) rfl
theorem ld_M_letter : y_M_letter.cls = R_M ∧ y_M_letter.cls ≠ "java/lang/invoke/MethodHandle" ∧ y_M_letter.cls ≠ "java/lang/invoke/VarHandle" ∧ (parseMethodDescriptor y_M_letter.desc).map (fun d => d.parameters.length) = some 2 := by decide +kernel
set_option maxRecDepth 100000 in
theorem li_M_begin : Cond.instanceMethod y_M_begin ∈ wd_tbl := wd_of 3243 (by decide +kernel) rfl
set_option maxRecDepth 100000 in
theorem ls_M_begin : Cond.selects R_M y_M_begin y_M_begin ∈ wd_tbl := wd_of 3244 (by decide +kernel) rfl
theorem ld_M_begin : y_M_begin.cls = R_M ∧ y_M_begin.cls ≠ "java/lang/invoke/MethodHandle" ∧ y_M_begin.cls ≠ "java/lang/invoke/VarHandle" ∧ (parseMethodDescriptor y_M_begin.desc).map (fun d => d.parameters.length) = some 1 := by decide +kernel
set_option maxRecDepth 100000 in
theorem li_M_go : Cond.instanceMethod y_M_go ∈ wd_tbl := wd_of 2897 (by decide +kernel) rfl
set_option maxRecDepth 100000 in
theorem ls_M_go : Cond.selects R_M y_M_go y_M_go ∈ wd_tbl := wd_of 2898 (by decide +kernel) rfl
theorem ld_M_go : y_M_go.cls = R_M ∧ y_M_go.cls ≠ "java/lang/invoke/MethodHandle" ∧ y_M_go.cls ≠ "java/lang/invoke/VarHandle" ∧ (parseMethodDescriptor y_M_go.desc).map (fun d => d.parameters.length) = some 2 := by decide +kernel
set_option maxRecDepth 100000 in
theorem li_M_clock : Cond.instanceMethod y_M_clock ∈ wd_tbl := wd_of 3247 (by decide +kernel) rfl
set_option maxRecDepth 100000 in
theorem ls_M_clock : Cond.selects R_M y_M_clock y_M_clock ∈ wd_tbl := wd_of 3248 (by decide +kernel) rfl
theorem ld_M_clock : y_M_clock.cls = R_M ∧ y_M_clock.cls ≠ "java/lang/invoke/MethodHandle" ∧ y_M_clock.cls ≠ "java/lang/invoke/VarHandle" ∧ (parseMethodDescriptor y_M_clock.desc).map (fun d => d.parameters.length) = some 1 := by decide +kernel
set_option maxRecDepth 100000 in
theorem li_M_send : Cond.instanceMethod y_M_send ∈ wd_tbl := wd_of 3253 (by decide +kernel) rfl
set_option maxRecDepth 100000 in
theorem ls_M_send : Cond.selects R_M y_M_send y_M_send ∈ wd_tbl := wd_of 3254 (by decide +kernel) rfl
theorem ld_M_send : y_M_send.cls = R_M ∧ y_M_send.cls ≠ "java/lang/invoke/MethodHandle" ∧ y_M_send.cls ≠ "java/lang/invoke/VarHandle" ∧ (parseMethodDescriptor y_M_send.desc).map (fun d => d.parameters.length) = some 3 := by decide +kernel
set_option maxRecDepth 100000 in
theorem li_M_process : Cond.instanceMethod y_M_process ∈ wd_tbl := wd_of 3261 (by decide +kernel) rfl
set_option maxRecDepth 100000 in
theorem ls_M_process : Cond.selects R_M y_M_process y_M_process ∈ wd_tbl := wd_of 3262 (by decide +kernel) rfl
theorem ld_M_process : y_M_process.cls = R_M ∧ y_M_process.cls ≠ "java/lang/invoke/MethodHandle" ∧ y_M_process.cls ≠ "java/lang/invoke/VarHandle" ∧ (parseMethodDescriptor y_M_process.desc).map (fun d => d.parameters.length) = some 2 := by decide +kernel
set_option maxRecDepth 100000 in
theorem li_M_frame1 : Cond.instanceMethod y_M_frame1 ∈ wd_tbl := wd_of 3266 (by decide +kernel) rfl
set_option maxRecDepth 100000 in
theorem ls_M_frame1 : Cond.selects R_M y_M_frame1 y_M_frame1 ∈ wd_tbl := wd_of 3267 (by decide +kernel) rfl
theorem ld_M_frame1 : y_M_frame1.cls = R_M ∧ y_M_frame1.cls ≠ "java/lang/invoke/MethodHandle" ∧ y_M_frame1.cls ≠ "java/lang/invoke/VarHandle" ∧ (parseMethodDescriptor y_M_frame1.desc).map (fun d => d.parameters.length) = some 3 := by decide +kernel
set_option maxRecDepth 100000 in
theorem li_M_link : Cond.instanceMethod y_M_link ∈ wd_tbl := wd_of 3270 (by decide +kernel) rfl
set_option maxRecDepth 100000 in
theorem ls_M_link : Cond.selects R_M y_M_link y_M_link ∈ wd_tbl := wd_of 3271 (by decide +kernel) rfl
theorem ld_M_link : y_M_link.cls = R_M ∧ y_M_link.cls ≠ "java/lang/invoke/MethodHandle" ∧ y_M_link.cls ≠ "java/lang/invoke/VarHandle" ∧ (parseMethodDescriptor y_M_link.desc).map (fun d => d.parameters.length) = some 2 := by decide +kernel
set_option maxRecDepth 100000 in
theorem li_M_show : Cond.instanceMethod y_M_show ∈ wd_tbl := wd_of 3274 (by decide +kernel) rfl
set_option maxRecDepth 100000 in
theorem ls_M_show : Cond.selects R_M y_M_show y_M_show ∈ wd_tbl := wd_of 3275 (by decide +kernel) rfl
theorem ld_M_show : y_M_show.cls = R_M ∧ y_M_show.cls ≠ "java/lang/invoke/MethodHandle" ∧ y_M_show.cls ≠ "java/lang/invoke/VarHandle" ∧ (parseMethodDescriptor y_M_show.desc).map (fun d => d.parameters.length) = some 3 := by decide +kernel
set_option maxRecDepth 100000 in
theorem li_M_shown : Cond.instanceMethod y_M_shown ∈ wd_tbl := wd_of 3278 (by decide +kernel) rfl
set_option maxRecDepth 100000 in
theorem ls_M_shown : Cond.selects R_M y_M_shown y_M_shown ∈ wd_tbl := wd_of 3279 (by decide +kernel) rfl
theorem ld_M_shown : y_M_shown.cls = R_M ∧ y_M_shown.cls ≠ "java/lang/invoke/MethodHandle" ∧ y_M_shown.cls ≠ "java/lang/invoke/VarHandle" ∧ (parseMethodDescriptor y_M_shown.desc).map (fun d => d.parameters.length) = some 1 := by decide +kernel
set_option maxRecDepth 100000 in
theorem li_M_printed : Cond.instanceMethod y_M_printed ∈ wd_tbl := wd_of 3282 (by decide +kernel) rfl
set_option maxRecDepth 100000 in
theorem ls_M_printed : Cond.selects R_M y_M_printed y_M_printed ∈ wd_tbl := wd_of 3283 (by decide +kernel) rfl
theorem ld_M_printed : y_M_printed.cls = R_M ∧ y_M_printed.cls ≠ "java/lang/invoke/MethodHandle" ∧ y_M_printed.cls ≠ "java/lang/invoke/VarHandle" ∧ (parseMethodDescriptor y_M_printed.desc).map (fun d => d.parameters.length) = some 2 := by decide +kernel
set_option maxRecDepth 100000 in
set_option maxHeartbeats 4000000 in
theorem lc_0 {p : Program} {l : Launch} {e : Env} {s : State} {m : MethodId} {args : Array Value} {below : List Frame} {meth : Method} {c : Code} {Q : State → Prop} {b0 L b k ce sl N : Nat} {xs : Nat → Int32} {D : va_G} {cB cI cJ cZ cS cP : ClassId} {A : Nat → Prop} {sk sv : Nat → Nat} {u u2 : CS} {uM uM2 : MS} (C0 : XCx p s s b0 m args meth c R_L code 7 (some .boolean) D cB cI cJ cZ cS cP A) (hE : ENV s b0 sk sv) (hL : l.stackTraces = false) (hNC : NCs s) (hX : va_X b L xs s s.heap) (hbl : b < s.heap.size) (hbA : ¬ A b) (hk : 6 * k + 6 ≤ L) (hLm : L ≤ 3072) (hi : isO u 0 1 = true) (hce : ce ≤ 601024 ∧ sl ≤ 7293034) {r r9 : Int32} (h1 : fm_H_feed N u 0 (xs (6 * k + 1)) (xs (6 * k + 2)) (xs (6 * k + 3)) (xs (6 * k + 4)) (xs (6 * k + 5)) = some (u2, r)) (h2 : fm_M_feed N uM (xs (6 * k + 1)) (xs (6 * k + 2)) (xs (6 * k + 3)) (xs (6 * k + 4)) (xs (6 * k + 5)) = some (uM2, r9)) (kk : LG p l e s m args below meth c Q D cB cI cJ cZ cS cP A b 706 (Int32.ofNat (6 * k)) u2 uM2 ce sl) : LG p l e s m args below meth c Q D cB cI cJ cZ cS cP A b 120 (Int32.ofNat (6 * k)) u uM ce sl := by
  intro ad adM h0 o f H locs ls hP hD hS hl
  obtain ⟨hx, hb, hr, hml, ht, hown, hK, hA, hlocks, hA0, hO, hbs⟩ := id C0
  refine lv_aload_n hx hb d_L_law_120 rfl (lv_at hl 1 rfl) ?_
  refine lv_aload_n hx hb d_L_law_121 rfl (lv_at hl 0 rfl) ?_
  refine lv_iload hx hb d_L_law_122 (lv_at hl 4 rfl) ?_
  refine lv_iconst (v := 1) hx hb d_L_law_124 (by decide) ?_
  refine lv_iadd hx hb d_L_law_125 ?_
  refine va_sld hx hb hX hbl hbA hS (ix_1 hk hLm).2 d_L_law_126 ?_
  rw [(ix_1 hk hLm).1]
  refine lv_aload_n hx hb d_L_law_127 rfl (lv_at hl 0 rfl) ?_
  refine lv_iload hx hb d_L_law_128 (lv_at hl 4 rfl) ?_
  refine lv_iconst (v := 2) hx hb d_L_law_130 (by decide) ?_
  refine lv_iadd hx hb d_L_law_131 ?_
  refine va_sld hx hb hX hbl hbA hS (ix_2 hk hLm).2 d_L_law_132 ?_
  rw [(ix_2 hk hLm).1]
  refine lv_aload_n hx hb d_L_law_133 rfl (lv_at hl 0 rfl) ?_
  refine lv_iload hx hb d_L_law_134 (lv_at hl 4 rfl) ?_
  refine lv_iconst (v := 3) hx hb d_L_law_136 (by decide) ?_
  refine lv_iadd hx hb d_L_law_137 ?_
  refine va_sld hx hb hX hbl hbA hS (ix_3 hk hLm).2 d_L_law_138 ?_
  rw [(ix_3 hk hLm).1]
  refine lv_aload_n hx hb d_L_law_139 rfl (lv_at hl 0 rfl) ?_
  refine lv_iload hx hb d_L_law_140 (lv_at hl 4 rfl) ?_
  refine lv_iconst (v := 4) hx hb d_L_law_142 (by decide) ?_
  refine lv_iadd hx hb d_L_law_143 ?_
  refine va_sld hx hb hX hbl hbA hS (ix_4 hk hLm).2 d_L_law_144 ?_
  rw [(ix_4 hk hLm).1]
  refine lv_aload_n hx hb d_L_law_145 rfl (lv_at hl 0 rfl) ?_
  refine lv_iload hx hb d_L_law_146 (lv_at hl 4 rfl) ?_
  refine lv_iconst (v := 5) hx hb d_L_law_148 (by decide) ?_
  refine lv_iadd hx hb d_L_law_149 ?_
  refine va_sld hx hb hX hbl hbA hS (ix_5 hk hLm).2 d_L_law_150 ?_
  rw [(ix_5 hk hLm).1]
  refine L_V0 (i := 0) (As := [.int (xs (6 * k + 1)), .int (xs (6 * k + 2)), .int (xs (6 * k + 3)), .int (xs (6 * k + 4)), .int (xs (6 * k + 5))]) (rest := []) C0 hP hD hS ck_H hi (c_H_feed N h1) k_H_feed (wd_of 803 (by decide +kernel) rfl) hi_H_feed hs_H_feed hini_H rfl rfl hd_H_feed rfl ⟨(Nat.le_of_ble_eq_true rfl), (Nat.le_of_ble_eq_true rfl)⟩ hl.1 (Nat.le_of_ble_eq_true rfl) d_L_law_151 rfl ⟨(by show ce + 0 ≤ 601024; omega), (by show sl + 0 ≤ 7293034; omega)⟩ (fun H locs hP hD hS => ?_)
  refine lv_pop hx hb d_L_law_154 rfl ?_
  refine lv_aload_n hx hb d_L_law_155 rfl (lv_at hl 2 rfl) ?_
  refine lv_aload_n hx hb d_L_law_156 rfl (lv_at hl 0 rfl) ?_
  refine lv_iload hx hb d_L_law_157 (lv_at hl 4 rfl) ?_
  refine lv_iconst (v := 1) hx hb d_L_law_159 (by decide) ?_
  refine lv_iadd hx hb d_L_law_160 ?_
  refine va_sld hx hb hX hbl hbA hS (ix_1 hk hLm).2 d_L_law_161 ?_
  rw [(ix_1 hk hLm).1]
  refine lv_aload_n hx hb d_L_law_162 rfl (lv_at hl 0 rfl) ?_
  refine lv_iload hx hb d_L_law_163 (lv_at hl 4 rfl) ?_
  refine lv_iconst (v := 2) hx hb d_L_law_165 (by decide) ?_
  refine lv_iadd hx hb d_L_law_166 ?_
  refine va_sld hx hb hX hbl hbA hS (ix_2 hk hLm).2 d_L_law_167 ?_
  rw [(ix_2 hk hLm).1]
  refine lv_aload_n hx hb d_L_law_168 rfl (lv_at hl 0 rfl) ?_
  refine lv_iload hx hb d_L_law_169 (lv_at hl 4 rfl) ?_
  refine lv_iconst (v := 3) hx hb d_L_law_171 (by decide) ?_
  refine lv_iadd hx hb d_L_law_172 ?_
  refine va_sld hx hb hX hbl hbA hS (ix_3 hk hLm).2 d_L_law_173 ?_
  rw [(ix_3 hk hLm).1]
  refine lv_aload_n hx hb d_L_law_174 rfl (lv_at hl 0 rfl) ?_
  refine lv_iload hx hb d_L_law_175 (lv_at hl 4 rfl) ?_
  refine lv_iconst (v := 4) hx hb d_L_law_177 (by decide) ?_
  refine lv_iadd hx hb d_L_law_178 ?_
  refine va_sld hx hb hX hbl hbA hS (ix_4 hk hLm).2 d_L_law_179 ?_
  rw [(ix_4 hk hLm).1]
  refine lv_aload_n hx hb d_L_law_180 rfl (lv_at hl 0 rfl) ?_
  refine lv_iload hx hb d_L_law_181 (lv_at hl 4 rfl) ?_
  refine lv_iconst (v := 5) hx hb d_L_law_183 (by decide) ?_
  refine lv_iadd hx hb d_L_law_184 ?_
  refine va_sld hx hb hX hbl hbA hS (ix_5 hk hLm).2 d_L_law_185 ?_
  rw [(ix_5 hk hLm).1]
  refine L_Mi (As := [.int (xs (6 * k + 1)), .int (xs (6 * k + 2)), .int (xs (6 * k + 3)), .int (xs (6 * k + 4)), .int (xs (6 * k + 5))]) (rest := []) C0 (wP_perm pm_1 hP) (wD_perm pm_1 hD) hS (c_M_feed N rfl h2) k_M_feed (wd_of 2622 (by decide +kernel) rfl) li_M_feed ls_M_feed hini_M rfl rfl ld_M_feed rfl ⟨(Nat.le_of_ble_eq_true rfl), (Nat.le_of_ble_eq_true rfl)⟩ hl.1 (Nat.le_of_ble_eq_true rfl) d_L_law_186 rfl ⟨(by show ce + 0 ≤ 601024; omega), (by show sl + 0 ≤ 7293034; omega)⟩ (fun H locs hP hD hS => ?_)
  have hP := wP_perm pm_2 hP
  have hD := wD_perm pm_2 hD
  refine lv_pop hx hb d_L_law_189 rfl ?_
  refine lv_goto (tgt := 706) hx hb d_L_law_190 (by decide) ?_
  exact kk ad adM h0 o f H locs ls hP hD hS hl
set_option maxRecDepth 100000 in
set_option maxHeartbeats 4000000 in
theorem lc_1 {p : Program} {l : Launch} {e : Env} {s : State} {m : MethodId} {args : Array Value} {below : List Frame} {meth : Method} {c : Code} {Q : State → Prop} {b0 L b k ce sl N : Nat} {xs : Nat → Int32} {D : va_G} {cB cI cJ cZ cS cP : ClassId} {A : Nat → Prop} {sk sv : Nat → Nat} {u u2 : CS} {uM uM2 : MS} (C0 : XCx p s s b0 m args meth c R_L code 7 (some .boolean) D cB cI cJ cZ cS cP A) (hE : ENV s b0 sk sv) (hL : l.stackTraces = false) (hNC : NCs s) (hX : va_X b L xs s s.heap) (hbl : b < s.heap.size) (hbA : ¬ A b) (hk : 6 * k + 6 ≤ L) (hLm : L ≤ 3072) (hi : isO u 0 1 = true) (hce : ce ≤ 601024 ∧ sl ≤ 7293034) {r r9 : Int32} (h1 : fm_H_back N u 0 (xs (6 * k + 1)) = some (u2, r)) (h2 : fm_M_back N uM (xs (6 * k + 1)) = some (uM2, r9)) (kk : LG p l e s m args below meth c Q D cB cI cJ cZ cS cP A b 706 (Int32.ofNat (6 * k)) u2 uM2 ce sl) : LG p l e s m args below meth c Q D cB cI cJ cZ cS cP A b 193 (Int32.ofNat (6 * k)) u uM ce sl := by
  intro ad adM h0 o f H locs ls hP hD hS hl
  obtain ⟨hx, hb, hr, hml, ht, hown, hK, hA, hlocks, hA0, hO, hbs⟩ := id C0
  refine lv_aload_n hx hb d_L_law_193 rfl (lv_at hl 1 rfl) ?_
  refine lv_aload_n hx hb d_L_law_194 rfl (lv_at hl 0 rfl) ?_
  refine lv_iload hx hb d_L_law_195 (lv_at hl 4 rfl) ?_
  refine lv_iconst (v := 1) hx hb d_L_law_197 (by decide) ?_
  refine lv_iadd hx hb d_L_law_198 ?_
  refine va_sld hx hb hX hbl hbA hS (ix_1 hk hLm).2 d_L_law_199 ?_
  rw [(ix_1 hk hLm).1]
  refine L_V0 (i := 0) (As := [.int (xs (6 * k + 1))]) (rest := []) C0 hP hD hS ck_H hi (c_H_back N h1) k_H_back (wd_of 811 (by decide +kernel) rfl) hi_H_back hs_H_back hini_H rfl rfl hd_H_back rfl ⟨(Nat.le_of_ble_eq_true rfl), (Nat.le_of_ble_eq_true rfl)⟩ hl.1 (Nat.le_of_ble_eq_true rfl) d_L_law_200 rfl ⟨(by show ce + 0 ≤ 601024; omega), (by show sl + 0 ≤ 7293034; omega)⟩ (fun H locs hP hD hS => ?_)
  refine lv_pop hx hb d_L_law_203 rfl ?_
  refine lv_aload_n hx hb d_L_law_204 rfl (lv_at hl 2 rfl) ?_
  refine lv_aload_n hx hb d_L_law_205 rfl (lv_at hl 0 rfl) ?_
  refine lv_iload hx hb d_L_law_206 (lv_at hl 4 rfl) ?_
  refine lv_iconst (v := 1) hx hb d_L_law_208 (by decide) ?_
  refine lv_iadd hx hb d_L_law_209 ?_
  refine va_sld hx hb hX hbl hbA hS (ix_1 hk hLm).2 d_L_law_210 ?_
  rw [(ix_1 hk hLm).1]
  refine L_Mi (As := [.int (xs (6 * k + 1))]) (rest := []) C0 (wP_perm pm_1 hP) (wD_perm pm_1 hD) hS (c_M_back N rfl h2) k_M_back (wd_of 2626 (by decide +kernel) rfl) li_M_back ls_M_back hini_M rfl rfl ld_M_back rfl ⟨(Nat.le_of_ble_eq_true rfl), (Nat.le_of_ble_eq_true rfl)⟩ hl.1 (Nat.le_of_ble_eq_true rfl) d_L_law_211 rfl ⟨(by show ce + 0 ≤ 601024; omega), (by show sl + 0 ≤ 7293034; omega)⟩ (fun H locs hP hD hS => ?_)
  have hP := wP_perm pm_2 hP
  have hD := wD_perm pm_2 hD
  refine lv_pop hx hb d_L_law_214 rfl ?_
  refine lv_goto (tgt := 706) hx hb d_L_law_215 (by decide) ?_
  exact kk ad adM h0 o f H locs ls hP hD hS hl
set_option maxRecDepth 100000 in
set_option maxHeartbeats 4000000 in
theorem lc_2 {p : Program} {l : Launch} {e : Env} {s : State} {m : MethodId} {args : Array Value} {below : List Frame} {meth : Method} {c : Code} {Q : State → Prop} {b0 L b k ce sl N : Nat} {xs : Nat → Int32} {D : va_G} {cB cI cJ cZ cS cP : ClassId} {A : Nat → Prop} {sk sv : Nat → Nat} {u u2 : CS} {uM uM2 : MS} (C0 : XCx p s s b0 m args meth c R_L code 7 (some .boolean) D cB cI cJ cZ cS cP A) (hE : ENV s b0 sk sv) (hL : l.stackTraces = false) (hNC : NCs s) (hX : va_X b L xs s s.heap) (hbl : b < s.heap.size) (hbA : ¬ A b) (hk : 6 * k + 6 ≤ L) (hLm : L ≤ 3072) (hi : isO u 0 1 = true) (hce : ce ≤ 601024 ∧ sl ≤ 7293034) (hce2 : ce + 1 ≤ 601024 ∧ sl + 6 ≤ 7293034) {r r9 : Int32} (h1 : fm_H_read N u 0 = some (u2, r)) (h2 : fm_M_read N uM = some (uM2, r9)) (kk : LG p l e s m args below meth c Q D cB cI cJ cZ cS cP A b 706 (Int32.ofNat (6 * k)) u2 uM2 (ce + 1) (sl + 6)) : LG p l e s m args below meth c Q D cB cI cJ cZ cS cP A b 218 (Int32.ofNat (6 * k)) u uM ce sl := by
  intro ad adM h0 o f H locs ls hP hD hS hl
  obtain ⟨hx, hb, hr, hml, ht, hown, hK, hA, hlocks, hA0, hO, hbs⟩ := id C0
  refine lv_aload_n hx hb d_L_law_218 rfl (lv_at hl 1 rfl) ?_
  refine L_V0 (i := 0) (As := []) (rest := []) C0 hP hD hS ck_H hi (c_H_read N hE hL h1) k_H_read (wd_of 815 (by decide +kernel) rfl) hi_H_read hs_H_read hini_H rfl rfl hd_H_read rfl ⟨(Nat.le_of_ble_eq_true rfl), (Nat.le_of_ble_eq_true rfl)⟩ hl.1 (Nat.le_of_ble_eq_true rfl) d_L_law_219 rfl ⟨(by show ce + 1 ≤ 601024; omega), (by show sl + 6 ≤ 7293034; omega)⟩ (fun H locs hP hD hS => ?_)
  refine lv_pop hx hb d_L_law_222 rfl ?_
  refine lv_aload_n hx hb d_L_law_223 rfl (lv_at hl 2 rfl) ?_
  refine L_Mi (As := []) (rest := []) C0 (wP_perm pm_1 hP) (wD_perm pm_1 hD) hS (c_M_read N rfl h2) k_M_read (wd_of 2630 (by decide +kernel) rfl) li_M_read ls_M_read hini_M rfl rfl ld_M_read rfl ⟨(Nat.le_of_ble_eq_true rfl), (Nat.le_of_ble_eq_true rfl)⟩ hl.1 (Nat.le_of_ble_eq_true rfl) d_L_law_224 rfl ⟨(by show ce + 1 + 0 ≤ 601024; omega), (by show sl + 6 + 0 ≤ 7293034; omega)⟩ (fun H locs hP hD hS => ?_)
  have hP := wP_perm pm_2 hP
  have hD := wD_perm pm_2 hD
  refine lv_pop hx hb d_L_law_227 rfl ?_
  refine lv_goto (tgt := 706) hx hb d_L_law_228 (by decide) ?_
  exact kk ad adM h0 o f H locs ls hP hD hS hl
set_option maxRecDepth 100000 in
set_option maxHeartbeats 4000000 in
theorem lc_3 {p : Program} {l : Launch} {e : Env} {s : State} {m : MethodId} {args : Array Value} {below : List Frame} {meth : Method} {c : Code} {Q : State → Prop} {b0 L b k ce sl N : Nat} {xs : Nat → Int32} {D : va_G} {cB cI cJ cZ cS cP : ClassId} {A : Nat → Prop} {sk sv : Nat → Nat} {u u2 : CS} {uM uM2 : MS} (C0 : XCx p s s b0 m args meth c R_L code 7 (some .boolean) D cB cI cJ cZ cS cP A) (hE : ENV s b0 sk sv) (hL : l.stackTraces = false) (hNC : NCs s) (hX : va_X b L xs s s.heap) (hbl : b < s.heap.size) (hbA : ¬ A b) (hk : 6 * k + 6 ≤ L) (hLm : L ≤ 3072) (hi : isO u 0 1 = true) (hce : ce ≤ 601024 ∧ sl ≤ 7293034) {r : Int32} (h1 : fm_H_count N u 0 (xs (6 * k + 1)) = some (u2, r)) (h2 : fm_M_count N uM (xs (6 * k + 1)) = some (uM2, r)) (kk : LG p l e s m args below meth c Q D cB cI cJ cZ cS cP A b 706 (Int32.ofNat (6 * k)) u2 uM2 ce sl) : LG p l e s m args below meth c Q D cB cI cJ cZ cS cP A b 231 (Int32.ofNat (6 * k)) u uM ce sl := by
  intro ad adM h0 o f H locs ls hP hD hS hl
  obtain ⟨hx, hb, hr, hml, ht, hown, hK, hA, hlocks, hA0, hO, hbs⟩ := id C0
  refine lv_aload_n hx hb d_L_law_231 rfl (lv_at hl 1 rfl) ?_
  refine lv_aload_n hx hb d_L_law_232 rfl (lv_at hl 0 rfl) ?_
  refine lv_iload hx hb d_L_law_233 (lv_at hl 4 rfl) ?_
  refine lv_iconst (v := 1) hx hb d_L_law_235 (by decide) ?_
  refine lv_iadd hx hb d_L_law_236 ?_
  refine va_sld hx hb hX hbl hbA hS (ix_1 hk hLm).2 d_L_law_237 ?_
  rw [(ix_1 hk hLm).1]
  refine L_V0 (i := 0) (As := [.int (xs (6 * k + 1))]) (rest := []) C0 hP hD hS ck_H hi (c_H_count N h1) k_H_count (wd_of 1272 (by decide +kernel) rfl) hi_H_count hs_H_count hini_H rfl rfl hd_H_count rfl ⟨(Nat.le_of_ble_eq_true rfl), (Nat.le_of_ble_eq_true rfl)⟩ hl.1 (Nat.le_of_ble_eq_true rfl) d_L_law_238 rfl ⟨(by show ce + 0 ≤ 601024; omega), (by show sl + 0 ≤ 7293034; omega)⟩ (fun H locs hP hD hS => ?_)
  refine lv_aload_n hx hb d_L_law_241 rfl (lv_at hl 2 rfl) ?_
  refine lv_aload_n hx hb d_L_law_242 rfl (lv_at hl 0 rfl) ?_
  refine lv_iload hx hb d_L_law_243 (lv_at hl 4 rfl) ?_
  refine lv_iconst (v := 1) hx hb d_L_law_245 (by decide) ?_
  refine lv_iadd hx hb d_L_law_246 ?_
  refine va_sld hx hb hX hbl hbA hS (ix_1 hk hLm).2 d_L_law_247 ?_
  rw [(ix_1 hk hLm).1]
  refine L_Mi (As := [.int (xs (6 * k + 1))]) (rest := [.int r]) C0 (wP_perm pm_1 hP) (wD_perm pm_1 hD) hS (c_M_count N rfl h2) k_M_count (wd_of 3256 (by decide +kernel) rfl) li_M_count ls_M_count hini_M rfl rfl ld_M_count rfl ⟨(Nat.le_of_ble_eq_true rfl), (Nat.le_of_ble_eq_true rfl)⟩ hl.1 (Nat.le_of_ble_eq_true rfl) d_L_law_248 rfl ⟨(by show ce + 0 ≤ 601024; omega), (by show sl + 0 ≤ 7293034; omega)⟩ (fun H locs hP hD hS => ?_)
  have hP := wP_perm pm_2 hP
  have hD := wD_perm pm_2 hD
  refine lv_icmp_eq (tgt := 706) hx hb d_L_law_251 (by decide) (fun hc => ?_) (fun hc => absurd rfl hc)
  exact kk ad adM h0 o f H locs ls hP hD hS hl
set_option maxRecDepth 100000 in
set_option maxHeartbeats 4000000 in
theorem lc_4 {p : Program} {l : Launch} {e : Env} {s : State} {m : MethodId} {args : Array Value} {below : List Frame} {meth : Method} {c : Code} {Q : State → Prop} {b0 L b k ce sl N : Nat} {xs : Nat → Int32} {D : va_G} {cB cI cJ cZ cS cP : ClassId} {A : Nat → Prop} {sk sv : Nat → Nat} {u u2 : CS} {uM uM2 : MS} (C0 : XCx p s s b0 m args meth c R_L code 7 (some .boolean) D cB cI cJ cZ cS cP A) (hE : ENV s b0 sk sv) (hL : l.stackTraces = false) (hNC : NCs s) (hX : va_X b L xs s s.heap) (hbl : b < s.heap.size) (hbA : ¬ A b) (hk : 6 * k + 6 ≤ L) (hLm : L ≤ 3072) (hi : isO u 0 1 = true) (hce : ce ≤ 601024 ∧ sl ≤ 7293034) {r r9 : Int32} (h1 : fm_H_function N u 0 (xs (6 * k + 1)) (xs (6 * k + 2)) = some (u2, r)) (h2 : fm_M_function1 N uM (xs (6 * k + 1)) (xs (6 * k + 2)) = some (uM2, r9)) (kk : LG p l e s m args below meth c Q D cB cI cJ cZ cS cP A b 706 (Int32.ofNat (6 * k)) u2 uM2 ce sl) : LG p l e s m args below meth c Q D cB cI cJ cZ cS cP A b 256 (Int32.ofNat (6 * k)) u uM ce sl := by
  intro ad adM h0 o f H locs ls hP hD hS hl
  obtain ⟨hx, hb, hr, hml, ht, hown, hK, hA, hlocks, hA0, hO, hbs⟩ := id C0
  refine lv_aload_n hx hb d_L_law_256 rfl (lv_at hl 1 rfl) ?_
  refine lv_aload_n hx hb d_L_law_257 rfl (lv_at hl 0 rfl) ?_
  refine lv_iload hx hb d_L_law_258 (lv_at hl 4 rfl) ?_
  refine lv_iconst (v := 1) hx hb d_L_law_260 (by decide) ?_
  refine lv_iadd hx hb d_L_law_261 ?_
  refine va_sld hx hb hX hbl hbA hS (ix_1 hk hLm).2 d_L_law_262 ?_
  rw [(ix_1 hk hLm).1]
  refine lv_aload_n hx hb d_L_law_263 rfl (lv_at hl 0 rfl) ?_
  refine lv_iload hx hb d_L_law_264 (lv_at hl 4 rfl) ?_
  refine lv_iconst (v := 2) hx hb d_L_law_266 (by decide) ?_
  refine lv_iadd hx hb d_L_law_267 ?_
  refine va_sld hx hb hX hbl hbA hS (ix_2 hk hLm).2 d_L_law_268 ?_
  rw [(ix_2 hk hLm).1]
  refine L_V0 (i := 0) (As := [.int (xs (6 * k + 1)), .int (xs (6 * k + 2))]) (rest := []) C0 hP hD hS ck_H hi (c_H_function N h1) k_H_function (wd_of 1276 (by decide +kernel) rfl) hi_H_function hs_H_function hini_H rfl rfl hd_H_function rfl ⟨(Nat.le_of_ble_eq_true rfl), (Nat.le_of_ble_eq_true rfl)⟩ hl.1 (Nat.le_of_ble_eq_true rfl) d_L_law_269 rfl ⟨(by show ce + 0 ≤ 601024; omega), (by show sl + 0 ≤ 7293034; omega)⟩ (fun H locs hP hD hS => ?_)
  refine lv_pop hx hb d_L_law_272 rfl ?_
  refine lv_aload_n hx hb d_L_law_273 rfl (lv_at hl 2 rfl) ?_
  refine lv_aload_n hx hb d_L_law_274 rfl (lv_at hl 0 rfl) ?_
  refine lv_iload hx hb d_L_law_275 (lv_at hl 4 rfl) ?_
  refine lv_iconst (v := 1) hx hb d_L_law_277 (by decide) ?_
  refine lv_iadd hx hb d_L_law_278 ?_
  refine va_sld hx hb hX hbl hbA hS (ix_1 hk hLm).2 d_L_law_279 ?_
  rw [(ix_1 hk hLm).1]
  refine lv_aload_n hx hb d_L_law_280 rfl (lv_at hl 0 rfl) ?_
  refine lv_iload hx hb d_L_law_281 (lv_at hl 4 rfl) ?_
  refine lv_iconst (v := 2) hx hb d_L_law_283 (by decide) ?_
  refine lv_iadd hx hb d_L_law_284 ?_
  refine va_sld hx hb hX hbl hbA hS (ix_2 hk hLm).2 d_L_law_285 ?_
  rw [(ix_2 hk hLm).1]
  refine L_Mi (As := [.int (xs (6 * k + 1)), .int (xs (6 * k + 2))]) (rest := []) C0 (wP_perm pm_1 hP) (wD_perm pm_1 hD) hS (c_M_function1 N rfl h2) k_M_function1 (wd_of 2888 (by decide +kernel) rfl) li_M_function1 ls_M_function1 hini_M rfl rfl ld_M_function1 rfl ⟨(Nat.le_of_ble_eq_true rfl), (Nat.le_of_ble_eq_true rfl)⟩ hl.1 (Nat.le_of_ble_eq_true rfl) d_L_law_286 rfl ⟨(by show ce + 0 ≤ 601024; omega), (by show sl + 0 ≤ 7293034; omega)⟩ (fun H locs hP hD hS => ?_)
  have hP := wP_perm pm_2 hP
  have hD := wD_perm pm_2 hD
  refine lv_pop hx hb d_L_law_289 rfl ?_
  refine lv_goto (tgt := 706) hx hb d_L_law_290 (by decide) ?_
  exact kk ad adM h0 o f H locs ls hP hD hS hl
set_option maxRecDepth 100000 in
set_option maxHeartbeats 4000000 in
theorem lc_5 {p : Program} {l : Launch} {e : Env} {s : State} {m : MethodId} {args : Array Value} {below : List Frame} {meth : Method} {c : Code} {Q : State → Prop} {b0 L b k ce sl N : Nat} {xs : Nat → Int32} {D : va_G} {cB cI cJ cZ cS cP : ClassId} {A : Nat → Prop} {sk sv : Nat → Nat} {u u2 : CS} {uM uM2 : MS} (C0 : XCx p s s b0 m args meth c R_L code 7 (some .boolean) D cB cI cJ cZ cS cP A) (hE : ENV s b0 sk sv) (hL : l.stackTraces = false) (hNC : NCs s) (hX : va_X b L xs s s.heap) (hbl : b < s.heap.size) (hbA : ¬ A b) (hk : 6 * k + 6 ≤ L) (hLm : L ≤ 3072) (hi : isO u 0 1 = true) (hce : ce ≤ 601024 ∧ sl ≤ 7293034) {r r9 : Int32} (h1 : fm_H_letter N u 0 (xs (6 * k + 1)) (xs (6 * k + 2)) = some (u2, r)) (h2 : fm_M_letter N uM (xs (6 * k + 1)) (xs (6 * k + 2)) = some (uM2, r9)) (kk : LG p l e s m args below meth c Q D cB cI cJ cZ cS cP A b 706 (Int32.ofNat (6 * k)) u2 uM2 ce sl) : LG p l e s m args below meth c Q D cB cI cJ cZ cS cP A b 293 (Int32.ofNat (6 * k)) u uM ce sl := by
  intro ad adM h0 o f H locs ls hP hD hS hl
  obtain ⟨hx, hb, hr, hml, ht, hown, hK, hA, hlocks, hA0, hO, hbs⟩ := id C0
  refine lv_aload_n hx hb d_L_law_293 rfl (lv_at hl 1 rfl) ?_
  refine lv_aload_n hx hb d_L_law_294 rfl (lv_at hl 0 rfl) ?_
  refine lv_iload hx hb d_L_law_295 (lv_at hl 4 rfl) ?_
  refine lv_iconst (v := 1) hx hb d_L_law_297 (by decide) ?_
  refine lv_iadd hx hb d_L_law_298 ?_
  refine va_sld hx hb hX hbl hbA hS (ix_1 hk hLm).2 d_L_law_299 ?_
  rw [(ix_1 hk hLm).1]
  refine lv_aload_n hx hb d_L_law_300 rfl (lv_at hl 0 rfl) ?_
  refine lv_iload hx hb d_L_law_301 (lv_at hl 4 rfl) ?_
  refine lv_iconst (v := 2) hx hb d_L_law_303 (by decide) ?_
  refine lv_iadd hx hb d_L_law_304 ?_
  refine va_sld hx hb hX hbl hbA hS (ix_2 hk hLm).2 d_L_law_305 ?_
  rw [(ix_2 hk hLm).1]
  refine L_V0 (i := 0) (As := [.int (xs (6 * k + 1)), .int (xs (6 * k + 2))]) (rest := []) C0 hP hD hS ck_H hi (c_H_letter N h1) k_H_letter (wd_of 1284 (by decide +kernel) rfl) hi_H_letter hs_H_letter hini_H rfl rfl hd_H_letter rfl ⟨(Nat.le_of_ble_eq_true rfl), (Nat.le_of_ble_eq_true rfl)⟩ hl.1 (Nat.le_of_ble_eq_true rfl) d_L_law_306 rfl ⟨(by show ce + 0 ≤ 601024; omega), (by show sl + 0 ≤ 7293034; omega)⟩ (fun H locs hP hD hS => ?_)
  refine lv_pop hx hb d_L_law_309 rfl ?_
  refine lv_aload_n hx hb d_L_law_310 rfl (lv_at hl 2 rfl) ?_
  refine lv_aload_n hx hb d_L_law_311 rfl (lv_at hl 0 rfl) ?_
  refine lv_iload hx hb d_L_law_312 (lv_at hl 4 rfl) ?_
  refine lv_iconst (v := 1) hx hb d_L_law_314 (by decide) ?_
  refine lv_iadd hx hb d_L_law_315 ?_
  refine va_sld hx hb hX hbl hbA hS (ix_1 hk hLm).2 d_L_law_316 ?_
  rw [(ix_1 hk hLm).1]
  refine lv_aload_n hx hb d_L_law_317 rfl (lv_at hl 0 rfl) ?_
  refine lv_iload hx hb d_L_law_318 (lv_at hl 4 rfl) ?_
  refine lv_iconst (v := 2) hx hb d_L_law_320 (by decide) ?_
  refine lv_iadd hx hb d_L_law_321 ?_
  refine va_sld hx hb hX hbl hbA hS (ix_2 hk hLm).2 d_L_law_322 ?_
  rw [(ix_2 hk hLm).1]
  refine L_Mi (As := [.int (xs (6 * k + 1)), .int (xs (6 * k + 2))]) (rest := []) C0 (wP_perm pm_1 hP) (wD_perm pm_1 hD) hS (c_M_letter N rfl h2) k_M_letter (wd_of 2892 (by decide +kernel) rfl) li_M_letter ls_M_letter hini_M rfl rfl ld_M_letter rfl ⟨(Nat.le_of_ble_eq_true rfl), (Nat.le_of_ble_eq_true rfl)⟩ hl.1 (Nat.le_of_ble_eq_true rfl) d_L_law_323 rfl ⟨(by show ce + 0 ≤ 601024; omega), (by show sl + 0 ≤ 7293034; omega)⟩ (fun H locs hP hD hS => ?_)
  have hP := wP_perm pm_2 hP
  have hD := wD_perm pm_2 hD
  refine lv_pop hx hb d_L_law_326 rfl ?_
  refine lv_goto (tgt := 706) hx hb d_L_law_327 (by decide) ?_
  exact kk ad adM h0 o f H locs ls hP hD hS hl
set_option maxRecDepth 100000 in
set_option maxHeartbeats 4000000 in
theorem lc_6 {p : Program} {l : Launch} {e : Env} {s : State} {m : MethodId} {args : Array Value} {below : List Frame} {meth : Method} {c : Code} {Q : State → Prop} {b0 L b k ce sl N : Nat} {xs : Nat → Int32} {D : va_G} {cB cI cJ cZ cS cP : ClassId} {A : Nat → Prop} {sk sv : Nat → Nat} {u u2 : CS} {uM uM2 : MS} (C0 : XCx p s s b0 m args meth c R_L code 7 (some .boolean) D cB cI cJ cZ cS cP A) (hE : ENV s b0 sk sv) (hL : l.stackTraces = false) (hNC : NCs s) (hX : va_X b L xs s s.heap) (hbl : b < s.heap.size) (hbA : ¬ A b) (hk : 6 * k + 6 ≤ L) (hLm : L ≤ 3072) (hi : isO u 0 1 = true) (hce : ce ≤ 601024 ∧ sl ≤ 7293034) {mc ms : Nat} {z : Unit ⊕ Nat} (hce2 : ce + mc ≤ 601024 ∧ sl + ms ≤ 7293034) (h1 : fm_H_begin N u 0 (xs (6 * k + 1)) = some (u2, z)) (hok : ok_L_begin z = true) (hm : u.1.1 + mc = u2.1.1 + tc z ∧ u.1.2 + ms = u2.1.2 + tsl z) (h2 : fm_M_begin N uM (xs (6 * k + 1)) = some (uM2, ())) (kk : LG p l e s m args below meth c Q D cB cI cJ cZ cS cP A b 706 (Int32.ofNat (6 * k)) u2 uM2 (ce + mc) (sl + ms)) : LG p l e s m args below meth c Q D cB cI cJ cZ cS cP A b 330 (Int32.ofNat (6 * k)) u uM ce sl := by
  intro ad adM h0 o f H locs ls hP hD hS hl
  obtain ⟨hx, hb, hr, hml, ht, hown, hK, hA, hlocks, hA0, hO, hbs⟩ := id C0
  obtain ⟨fH, hpos, -⟩ := isO_some hi
  refine lv_aload_n hx hb d_L_law_330 rfl (lv_at hl 1 rfl) ?_
  refine lv_aload_n hx hb d_L_law_331 rfl (lv_at hl 0 rfl) ?_
  refine lv_iload hx hb d_L_law_332 (lv_at hl 4 rfl) ?_
  refine lv_iconst (v := 1) hx hb d_L_law_334 (by decide) ?_
  refine lv_iadd hx hb d_L_law_335 ?_
  refine va_sld hx hb hX hbl hbA hS (ix_1 hk hLm).2 d_L_law_336 ?_
  rw [(ix_1 hk hLm).1]
  refine L_S (As := [.ref (ad 0), .int (xs (6 * k + 1))]) (rest := []) C0 (by rw [List.append_assoc]; exact hP) (by rw [List.append_assoc]; exact hD) hS (c_L_begin N hE hL hNC hi h1 hok hm) k_L_begin (wd_of 1397 (by decide +kernel) rfl) ht_L_begin hini_L rfl rfl hd_L_begin.2 rfl ⟨(Nat.le_of_ble_eq_true rfl), (Nat.le_of_ble_eq_true rfl)⟩ hl.1 (Nat.le_of_ble_eq_true rfl) d_L_law_337 rfl ⟨hce2.1, hce2.2⟩ (fun ad2 H locs hag hP hD hS => ?_)
  rw [List.append_assoc] at hP hD
  have e9 : ad2 0 = ad 0 := hag 0 hpos
  have hl : lv_has ls 7 [(0, .ref b), (1, .ref (ad2 0)), (2, .ref h0), (3, .ref o), (4, .int (Int32.ofNat (6 * k)))] := by rw [e9]; exact hl
  refine lv_istore (lv' := [(5, .int (cd_L_begin z)), (0, .ref b), (1, .ref (ad2 0)), (2, .ref h0), (3, .ref o), (4, .int (Int32.ofNat (6 * k)))]) hx hb d_L_law_340 hl (by decide) (by rfl) (fun ls hl => ?_)
  refine lv_aload_n hx hb d_L_law_342 rfl (lv_at hl 3 rfl) ?_
  refine lv_aload_n hx hb d_L_law_343 rfl (lv_at hl 1 rfl) ?_
  refine lv_iload hx hb d_L_law_344 (lv_at hl 5 rfl) ?_
  refine lv_iconst (v := 1) hx hb d_L_law_346 (by decide) ?_
  refine lv_iadd hx hb d_L_law_347 ?_
  refine va_sld hx hb hX hbl hbA hS (ix_1 hk hLm).2 d_L_law_348 ?_
  rw [(ix_1 hk hLm).1]
  refine L_Mv (As := [.int (xs (6 * k + 1))]) (rest := []) C0 (wP_perm pm_1 hP) (wD_perm pm_1 hD) hS (c_M_begin N rfl h2) k_M_begin (wd_of 3242 (by decide +kernel) rfl) li_M_begin ls_M_begin hini_M rfl rfl ld_M_begin rfl ⟨(Nat.le_of_ble_eq_true rfl), (Nat.le_of_ble_eq_true rfl)⟩ hl.1 (Nat.le_of_ble_eq_true rfl) d_L_law_349 rfl ⟨(by show (ce + mc) + 0 ≤ 601024; omega), (by show (sl + ms) + 0 ≤ 7293034; omega)⟩ (fun H locs hP hD hS => ?_)
  have hP := wP_perm pm_2 hP
  have hD := wD_perm pm_2 hD
  refine lv_goto (tgt := 706) hx hb d_L_law_352 (by decide) ?_
  exact kk ad2 adM h0 o f H locs ls hP hD hS (lv_sub hl [1, 2, 3, 4, 5] rfl)
set_option maxRecDepth 100000 in
set_option maxHeartbeats 4000000 in
theorem lc_7 {p : Program} {l : Launch} {e : Env} {s : State} {m : MethodId} {args : Array Value} {below : List Frame} {meth : Method} {c : Code} {Q : State → Prop} {b0 L b k ce sl N : Nat} {xs : Nat → Int32} {D : va_G} {cB cI cJ cZ cS cP : ClassId} {A : Nat → Prop} {sk sv : Nat → Nat} {u u2 : CS} {uM uM2 : MS} (C0 : XCx p s s b0 m args meth c R_L code 7 (some .boolean) D cB cI cJ cZ cS cP A) (hE : ENV s b0 sk sv) (hL : l.stackTraces = false) (hNC : NCs s) (hX : va_X b L xs s s.heap) (hbl : b < s.heap.size) (hbA : ¬ A b) (hk : 6 * k + 6 ≤ L) (hLm : L ≤ 3072) (hi : isO u 0 1 = true) (hce : ce ≤ 601024 ∧ sl ≤ 7293034) {mc ms : Nat} {z : Int32 ⊕ Nat} {r9 : Int32} (hce2 : ce + mc ≤ 601024 ∧ sl + ms ≤ 7293034) (h1 : fm_H_go N u 0 (xs (6 * k + 1)) (xs (6 * k + 2)) = some (u2, z)) (hok : ok_L_go z = true) (hm : u.1.1 + mc = u2.1.1 + tc z ∧ u.1.2 + ms = u2.1.2 + tsl z) (h2 : fm_M_go N uM (xs (6 * k + 1)) (xs (6 * k + 2)) = some (uM2, r9)) (kk : LG p l e s m args below meth c Q D cB cI cJ cZ cS cP A b 706 (Int32.ofNat (6 * k)) u2 uM2 (ce + mc) (sl + ms)) : LG p l e s m args below meth c Q D cB cI cJ cZ cS cP A b 355 (Int32.ofNat (6 * k)) u uM ce sl := by
  intro ad adM h0 o f H locs ls hP hD hS hl
  obtain ⟨hx, hb, hr, hml, ht, hown, hK, hA, hlocks, hA0, hO, hbs⟩ := id C0
  obtain ⟨fH, hpos, -⟩ := isO_some hi
  refine lv_aload_n hx hb d_L_law_355 rfl (lv_at hl 1 rfl) ?_
  refine lv_aload_n hx hb d_L_law_356 rfl (lv_at hl 0 rfl) ?_
  refine lv_iload hx hb d_L_law_357 (lv_at hl 4 rfl) ?_
  refine lv_iconst (v := 1) hx hb d_L_law_359 (by decide) ?_
  refine lv_iadd hx hb d_L_law_360 ?_
  refine va_sld hx hb hX hbl hbA hS (ix_1 hk hLm).2 d_L_law_361 ?_
  rw [(ix_1 hk hLm).1]
  refine lv_aload_n hx hb d_L_law_362 rfl (lv_at hl 0 rfl) ?_
  refine lv_iload hx hb d_L_law_363 (lv_at hl 4 rfl) ?_
  refine lv_iconst (v := 2) hx hb d_L_law_365 (by decide) ?_
  refine lv_iadd hx hb d_L_law_366 ?_
  refine va_sld hx hb hX hbl hbA hS (ix_2 hk hLm).2 d_L_law_367 ?_
  rw [(ix_2 hk hLm).1]
  refine lv_aload_n hx hb d_L_law_368 rfl (lv_at hl 3 rfl) ?_
  refine L_S (As := [.ref (ad 0), .int (xs (6 * k + 1)), .int (xs (6 * k + 2)), .ref o]) (rest := []) C0 (by rw [List.append_assoc]; exact hP) (by rw [List.append_assoc]; exact hD) hS (c_L_go N hE hL hNC hi h1 hok hm) k_L_go (wd_of 1625 (by decide +kernel) rfl) ht_L_go hini_L rfl rfl hd_L_go.2 rfl ⟨(Nat.le_of_ble_eq_true rfl), (Nat.le_of_ble_eq_true rfl)⟩ hl.1 (Nat.le_of_ble_eq_true rfl) d_L_law_369 rfl ⟨hce2.1, hce2.2⟩ (fun ad2 H locs hag hP hD hS => ?_)
  rw [List.append_assoc] at hP hD
  have e9 : ad2 0 = ad 0 := hag 0 hpos
  have hl : lv_has ls 7 [(0, .ref b), (1, .ref (ad2 0)), (2, .ref h0), (3, .ref o), (4, .int (Int32.ofNat (6 * k)))] := by rw [e9]; exact hl
  refine lv_istore (lv' := [(5, .int (cd_L_go z)), (0, .ref b), (1, .ref (ad2 0)), (2, .ref h0), (3, .ref o), (4, .int (Int32.ofNat (6 * k)))]) hx hb d_L_law_372 hl (by decide) (by rfl) (fun ls hl => ?_)
  refine lv_aload_n hx hb d_L_law_374 rfl (lv_at hl 3 rfl) ?_
  refine lv_aload_n hx hb d_L_law_375 rfl (lv_at hl 1 rfl) ?_
  refine lv_iload hx hb d_L_law_376 (lv_at hl 5 rfl) ?_
  refine lv_iconst (v := 1) hx hb d_L_law_378 (by decide) ?_
  refine lv_iadd hx hb d_L_law_379 ?_
  refine va_sld hx hb hX hbl hbA hS (ix_1 hk hLm).2 d_L_law_380 ?_
  rw [(ix_1 hk hLm).1]
  refine lv_aload_n hx hb d_L_law_381 rfl (lv_at hl 1 rfl) ?_
  refine lv_iload hx hb d_L_law_382 (lv_at hl 5 rfl) ?_
  refine lv_iconst (v := 2) hx hb d_L_law_384 (by decide) ?_
  refine lv_iadd hx hb d_L_law_385 ?_
  refine va_sld hx hb hX hbl hbA hS (ix_2 hk hLm).2 d_L_law_386 ?_
  rw [(ix_2 hk hLm).1]
  refine L_Mi (As := [.int (xs (6 * k + 1)), .int (xs (6 * k + 2))]) (rest := []) C0 (wP_perm pm_1 hP) (wD_perm pm_1 hD) hS (c_M_go N rfl h2) k_M_go (wd_of 2896 (by decide +kernel) rfl) li_M_go ls_M_go hini_M rfl rfl ld_M_go rfl ⟨(Nat.le_of_ble_eq_true rfl), (Nat.le_of_ble_eq_true rfl)⟩ hl.1 (Nat.le_of_ble_eq_true rfl) d_L_law_387 rfl ⟨(by show (ce + mc) + 0 ≤ 601024; omega), (by show (sl + ms) + 0 ≤ 7293034; omega)⟩ (fun H locs hP hD hS => ?_)
  have hP := wP_perm pm_2 hP
  have hD := wD_perm pm_2 hD
  refine lv_istore (lv' := [(6, .int r9), (5, .int (cd_L_go z)), (0, .ref b), (1, .ref (ad2 0)), (2, .ref h0), (3, .ref o), (4, .int (Int32.ofNat (6 * k)))]) hx hb d_L_law_390 hl (by decide) (by rfl) (fun ls hl => ?_)
  refine lv_goto (tgt := 706) hx hb d_L_law_392 (by decide) ?_
  exact kk ad2 adM h0 o (outF z f) H locs ls hP hD hS (lv_sub hl [2, 3, 4, 5, 6] rfl)
set_option maxRecDepth 100000 in
set_option maxHeartbeats 4000000 in
theorem lc_8 {p : Program} {l : Launch} {e : Env} {s : State} {m : MethodId} {args : Array Value} {below : List Frame} {meth : Method} {c : Code} {Q : State → Prop} {b0 L b k ce sl N : Nat} {xs : Nat → Int32} {D : va_G} {cB cI cJ cZ cS cP : ClassId} {A : Nat → Prop} {sk sv : Nat → Nat} {u u2 : CS} {uM uM2 : MS} (C0 : XCx p s s b0 m args meth c R_L code 7 (some .boolean) D cB cI cJ cZ cS cP A) (hE : ENV s b0 sk sv) (hL : l.stackTraces = false) (hNC : NCs s) (hX : va_X b L xs s s.heap) (hbl : b < s.heap.size) (hbA : ¬ A b) (hk : 6 * k + 6 ≤ L) (hLm : L ≤ 3072) (hi : isO u 0 1 = true) (hce : ce ≤ 601024 ∧ sl ≤ 7293034) {z : Int32 ⊕ Nat} {r9 : Int32} (hce2 : ce + tc z ≤ 601024 ∧ sl + tsl z ≤ 7293034) (h1 : fm_H_clock N u 0 (xs (6 * k + 1)) = some (u2, z)) (hok : ok_L_clock z = true) (h2 : fm_M_clock N uM (xs (6 * k + 1)) = some (uM2, r9)) (kk : LG p l e s m args below meth c Q D cB cI cJ cZ cS cP A b 706 (Int32.ofNat (6 * k)) u2 uM2 (ce + tc z) (sl + tsl z)) : LG p l e s m args below meth c Q D cB cI cJ cZ cS cP A b 395 (Int32.ofNat (6 * k)) u uM ce sl := by
  intro ad adM h0 o f H locs ls hP hD hS hl
  obtain ⟨hx, hb, hr, hml, ht, hown, hK, hA, hlocks, hA0, hO, hbs⟩ := id C0
  obtain ⟨fH, hpos, -⟩ := isO_some hi
  refine lv_aload_n hx hb d_L_law_395 rfl (lv_at hl 1 rfl) ?_
  refine lv_aload_n hx hb d_L_law_396 rfl (lv_at hl 0 rfl) ?_
  refine lv_iload hx hb d_L_law_397 (lv_at hl 4 rfl) ?_
  refine lv_iconst (v := 1) hx hb d_L_law_399 (by decide) ?_
  refine lv_iadd hx hb d_L_law_400 ?_
  refine va_sld hx hb hX hbl hbA hS (ix_1 hk hLm).2 d_L_law_401 ?_
  rw [(ix_1 hk hLm).1]
  refine lv_aload_n hx hb d_L_law_402 rfl (lv_at hl 3 rfl) ?_
  refine L_S (As := [.ref (ad 0), .int (xs (6 * k + 1)), .ref o]) (rest := []) C0 (by rw [List.append_assoc]; exact hP) (by rw [List.append_assoc]; exact hD) hS (c_L_clock N hE hL hNC hi h1 hok) k_L_clock (wd_of 2067 (by decide +kernel) rfl) ht_L_clock hini_L rfl rfl hd_L_clock.2 rfl ⟨(Nat.le_of_ble_eq_true rfl), (Nat.le_of_ble_eq_true rfl)⟩ hl.1 (Nat.le_of_ble_eq_true rfl) d_L_law_403 rfl ⟨hce2.1, hce2.2⟩ (fun ad2 H locs hag hP hD hS => ?_)
  rw [List.append_assoc] at hP hD
  have e9 : ad2 0 = ad 0 := hag 0 hpos
  have hl : lv_has ls 7 [(0, .ref b), (1, .ref (ad2 0)), (2, .ref h0), (3, .ref o), (4, .int (Int32.ofNat (6 * k)))] := by rw [e9]; exact hl
  refine lv_istore (lv' := [(5, .int (cd_L_clock z)), (0, .ref b), (1, .ref (ad2 0)), (2, .ref h0), (3, .ref o), (4, .int (Int32.ofNat (6 * k)))]) hx hb d_L_law_406 hl (by decide) (by rfl) (fun ls hl => ?_)
  refine lv_aload_n hx hb d_L_law_408 rfl (lv_at hl 3 rfl) ?_
  refine lv_aload_n hx hb d_L_law_409 rfl (lv_at hl 1 rfl) ?_
  refine lv_iload hx hb d_L_law_410 (lv_at hl 5 rfl) ?_
  refine lv_iconst (v := 1) hx hb d_L_law_412 (by decide) ?_
  refine lv_iadd hx hb d_L_law_413 ?_
  refine va_sld hx hb hX hbl hbA hS (ix_1 hk hLm).2 d_L_law_414 ?_
  rw [(ix_1 hk hLm).1]
  refine L_Mi (As := [.int (xs (6 * k + 1))]) (rest := []) C0 (wP_perm pm_1 hP) (wD_perm pm_1 hD) hS (c_M_clock N rfl h2) k_M_clock (wd_of 3246 (by decide +kernel) rfl) li_M_clock ls_M_clock hini_M rfl rfl ld_M_clock rfl ⟨(Nat.le_of_ble_eq_true rfl), (Nat.le_of_ble_eq_true rfl)⟩ hl.1 (Nat.le_of_ble_eq_true rfl) d_L_law_415 rfl ⟨(by show (ce + tc z) + 0 ≤ 601024; omega), (by show (sl + tsl z) + 0 ≤ 7293034; omega)⟩ (fun H locs hP hD hS => ?_)
  have hP := wP_perm pm_2 hP
  have hD := wD_perm pm_2 hD
  refine lv_istore (lv' := [(6, .int r9), (5, .int (cd_L_clock z)), (0, .ref b), (1, .ref (ad2 0)), (2, .ref h0), (3, .ref o), (4, .int (Int32.ofNat (6 * k)))]) hx hb d_L_law_418 hl (by decide) (by rfl) (fun ls hl => ?_)
  refine lv_goto (tgt := 706) hx hb d_L_law_420 (by decide) ?_
  exact kk ad2 adM h0 o (outF z f) H locs ls hP hD hS (lv_sub hl [2, 3, 4, 5, 6] rfl)
set_option maxRecDepth 100000 in
set_option maxHeartbeats 4000000 in
theorem lc_9 {p : Program} {l : Launch} {e : Env} {s : State} {m : MethodId} {args : Array Value} {below : List Frame} {meth : Method} {c : Code} {Q : State → Prop} {b0 L b k ce sl N : Nat} {xs : Nat → Int32} {D : va_G} {cB cI cJ cZ cS cP : ClassId} {A : Nat → Prop} {sk sv : Nat → Nat} {u u2 : CS} {uM uM2 : MS} (C0 : XCx p s s b0 m args meth c R_L code 7 (some .boolean) D cB cI cJ cZ cS cP A) (hE : ENV s b0 sk sv) (hL : l.stackTraces = false) (hNC : NCs s) (hX : va_X b L xs s s.heap) (hbl : b < s.heap.size) (hbA : ¬ A b) (hk : 6 * k + 6 ≤ L) (hLm : L ≤ 3072) (hi : isO u 0 1 = true) (hce : ce ≤ 601024 ∧ sl ≤ 7293034) {z : Unit ⊕ Nat} (hce2 : ce + tc z ≤ 601024 ∧ sl + tsl z ≤ 7293034) (h1 : fm_H_send N u 0 (xs (6 * k + 1)) (xs (6 * k + 2)) (xs (6 * k + 3)) = some (u2, z)) (hok : ok_L_send z = true) (h2 : fm_M_send N uM (xs (6 * k + 1)) (xs (6 * k + 2)) (xs (6 * k + 3)) = some (uM2, ())) (kk : LG p l e s m args below meth c Q D cB cI cJ cZ cS cP A b 706 (Int32.ofNat (6 * k)) u2 uM2 (ce + tc z) (sl + tsl z)) : LG p l e s m args below meth c Q D cB cI cJ cZ cS cP A b 423 (Int32.ofNat (6 * k)) u uM ce sl := by
  intro ad adM h0 o f H locs ls hP hD hS hl
  obtain ⟨hx, hb, hr, hml, ht, hown, hK, hA, hlocks, hA0, hO, hbs⟩ := id C0
  obtain ⟨fH, hpos, -⟩ := isO_some hi
  refine lv_aload_n hx hb d_L_law_423 rfl (lv_at hl 1 rfl) ?_
  refine lv_aload_n hx hb d_L_law_424 rfl (lv_at hl 0 rfl) ?_
  refine lv_iload hx hb d_L_law_425 (lv_at hl 4 rfl) ?_
  refine lv_iconst (v := 1) hx hb d_L_law_427 (by decide) ?_
  refine lv_iadd hx hb d_L_law_428 ?_
  refine va_sld hx hb hX hbl hbA hS (ix_1 hk hLm).2 d_L_law_429 ?_
  rw [(ix_1 hk hLm).1]
  refine lv_aload_n hx hb d_L_law_430 rfl (lv_at hl 0 rfl) ?_
  refine lv_iload hx hb d_L_law_431 (lv_at hl 4 rfl) ?_
  refine lv_iconst (v := 2) hx hb d_L_law_433 (by decide) ?_
  refine lv_iadd hx hb d_L_law_434 ?_
  refine va_sld hx hb hX hbl hbA hS (ix_2 hk hLm).2 d_L_law_435 ?_
  rw [(ix_2 hk hLm).1]
  refine lv_aload_n hx hb d_L_law_436 rfl (lv_at hl 0 rfl) ?_
  refine lv_iload hx hb d_L_law_437 (lv_at hl 4 rfl) ?_
  refine lv_iconst (v := 3) hx hb d_L_law_439 (by decide) ?_
  refine lv_iadd hx hb d_L_law_440 ?_
  refine va_sld hx hb hX hbl hbA hS (ix_3 hk hLm).2 d_L_law_441 ?_
  rw [(ix_3 hk hLm).1]
  refine L_S (As := [.ref (ad 0), .int (xs (6 * k + 1)), .int (xs (6 * k + 2)), .int (xs (6 * k + 3))]) (rest := []) C0 (by rw [List.append_assoc]; exact hP) (by rw [List.append_assoc]; exact hD) hS (c_L_send N hE hL hNC hi h1 hok) k_L_send (wd_of 2077 (by decide +kernel) rfl) ht_L_send hini_L rfl rfl hd_L_send.2 rfl ⟨(Nat.le_of_ble_eq_true rfl), (Nat.le_of_ble_eq_true rfl)⟩ hl.1 (Nat.le_of_ble_eq_true rfl) d_L_law_442 rfl ⟨hce2.1, hce2.2⟩ (fun ad2 H locs hag hP hD hS => ?_)
  rw [List.append_assoc] at hP hD
  have e9 : ad2 0 = ad 0 := hag 0 hpos
  have hl : lv_has ls 7 [(0, .ref b), (1, .ref (ad2 0)), (2, .ref h0), (3, .ref o), (4, .int (Int32.ofNat (6 * k)))] := by rw [e9]; exact hl
  refine lv_istore (lv' := [(5, .int (cd_L_send z)), (0, .ref b), (1, .ref (ad2 0)), (2, .ref h0), (3, .ref o), (4, .int (Int32.ofNat (6 * k)))]) hx hb d_L_law_445 hl (by decide) (by rfl) (fun ls hl => ?_)
  refine lv_aload_n hx hb d_L_law_447 rfl (lv_at hl 3 rfl) ?_
  refine lv_aload_n hx hb d_L_law_448 rfl (lv_at hl 1 rfl) ?_
  refine lv_iload hx hb d_L_law_449 (lv_at hl 5 rfl) ?_
  refine lv_iconst (v := 1) hx hb d_L_law_451 (by decide) ?_
  refine lv_iadd hx hb d_L_law_452 ?_
  refine va_sld hx hb hX hbl hbA hS (ix_1 hk hLm).2 d_L_law_453 ?_
  rw [(ix_1 hk hLm).1]
  refine lv_aload_n hx hb d_L_law_454 rfl (lv_at hl 1 rfl) ?_
  refine lv_iload hx hb d_L_law_455 (lv_at hl 5 rfl) ?_
  refine lv_iconst (v := 2) hx hb d_L_law_457 (by decide) ?_
  refine lv_iadd hx hb d_L_law_458 ?_
  refine va_sld hx hb hX hbl hbA hS (ix_2 hk hLm).2 d_L_law_459 ?_
  rw [(ix_2 hk hLm).1]
  refine lv_aload_n hx hb d_L_law_460 rfl (lv_at hl 1 rfl) ?_
  refine lv_iload hx hb d_L_law_461 (lv_at hl 5 rfl) ?_
  refine lv_iconst (v := 3) hx hb d_L_law_463 (by decide) ?_
  refine lv_iadd hx hb d_L_law_464 ?_
  refine va_sld hx hb hX hbl hbA hS (ix_3 hk hLm).2 d_L_law_465 ?_
  rw [(ix_3 hk hLm).1]
  refine L_Mv (As := [.int (xs (6 * k + 1)), .int (xs (6 * k + 2)), .int (xs (6 * k + 3))]) (rest := []) C0 (wP_perm pm_1 hP) (wD_perm pm_1 hD) hS (c_M_send N rfl h2) k_M_send (wd_of 3252 (by decide +kernel) rfl) li_M_send ls_M_send hini_M rfl rfl ld_M_send rfl ⟨(Nat.le_of_ble_eq_true rfl), (Nat.le_of_ble_eq_true rfl)⟩ hl.1 (Nat.le_of_ble_eq_true rfl) d_L_law_466 rfl ⟨(by show (ce + tc z) + 0 ≤ 601024; omega), (by show (sl + tsl z) + 0 ≤ 7293034; omega)⟩ (fun H locs hP hD hS => ?_)
  have hP := wP_perm pm_2 hP
  have hD := wD_perm pm_2 hD
  refine lv_goto (tgt := 706) hx hb d_L_law_469 (by decide) ?_
  exact kk ad2 adM h0 o f H locs ls hP hD hS (lv_sub hl [1, 2, 3, 4, 5] rfl)
set_option maxRecDepth 100000 in
set_option maxHeartbeats 4000000 in
theorem lc_10 {p : Program} {l : Launch} {e : Env} {s : State} {m : MethodId} {args : Array Value} {below : List Frame} {meth : Method} {c : Code} {Q : State → Prop} {b0 L b k ce sl N : Nat} {xs : Nat → Int32} {D : va_G} {cB cI cJ cZ cS cP : ClassId} {A : Nat → Prop} {sk sv : Nat → Nat} {u u2 : CS} {uM uM2 : MS} (C0 : XCx p s s b0 m args meth c R_L code 7 (some .boolean) D cB cI cJ cZ cS cP A) (hE : ENV s b0 sk sv) (hL : l.stackTraces = false) (hNC : NCs s) (hX : va_X b L xs s s.heap) (hbl : b < s.heap.size) (hbA : ¬ A b) (hk : 6 * k + 6 ≤ L) (hLm : L ≤ 3072) (hi : isO u 0 1 = true) (hce : ce ≤ 601024 ∧ sl ≤ 7293034) {r r9 : Int32} (h1 : fm_H_process N u 0 (xs (6 * k + 1)) (xs (6 * k + 2)) = some (u2, r)) (h2 : fm_M_process N uM (xs (6 * k + 1)) (xs (6 * k + 2)) = some (uM2, r9)) (kk : LG p l e s m args below meth c Q D cB cI cJ cZ cS cP A b 706 (Int32.ofNat (6 * k)) u2 uM2 ce sl) : LG p l e s m args below meth c Q D cB cI cJ cZ cS cP A b 472 (Int32.ofNat (6 * k)) u uM ce sl := by
  intro ad adM h0 o f H locs ls hP hD hS hl
  obtain ⟨hx, hb, hr, hml, ht, hown, hK, hA, hlocks, hA0, hO, hbs⟩ := id C0
  refine lv_aload_n hx hb d_L_law_472 rfl (lv_at hl 1 rfl) ?_
  refine lv_aload_n hx hb d_L_law_473 rfl (lv_at hl 0 rfl) ?_
  refine lv_iload hx hb d_L_law_474 (lv_at hl 4 rfl) ?_
  refine lv_iconst (v := 1) hx hb d_L_law_476 (by decide) ?_
  refine lv_iadd hx hb d_L_law_477 ?_
  refine va_sld hx hb hX hbl hbA hS (ix_1 hk hLm).2 d_L_law_478 ?_
  rw [(ix_1 hk hLm).1]
  refine lv_aload_n hx hb d_L_law_479 rfl (lv_at hl 0 rfl) ?_
  refine lv_iload hx hb d_L_law_480 (lv_at hl 4 rfl) ?_
  refine lv_iconst (v := 2) hx hb d_L_law_482 (by decide) ?_
  refine lv_iadd hx hb d_L_law_483 ?_
  refine va_sld hx hb hX hbl hbA hS (ix_2 hk hLm).2 d_L_law_484 ?_
  rw [(ix_2 hk hLm).1]
  refine L_V0 (i := 0) (As := [.int (xs (6 * k + 1)), .int (xs (6 * k + 2))]) (rest := []) C0 hP hD hS ck_H hi (c_H_process N hE h1) k_H_process (wd_of 1292 (by decide +kernel) rfl) hi_H_process hs_H_process hini_H rfl rfl hd_H_process rfl ⟨(Nat.le_of_ble_eq_true rfl), (Nat.le_of_ble_eq_true rfl)⟩ hl.1 (Nat.le_of_ble_eq_true rfl) d_L_law_485 rfl ⟨(by show ce + 0 ≤ 601024; omega), (by show sl + 0 ≤ 7293034; omega)⟩ (fun H locs hP hD hS => ?_)
  refine lv_pop hx hb d_L_law_488 rfl ?_
  refine lv_aload_n hx hb d_L_law_489 rfl (lv_at hl 2 rfl) ?_
  refine lv_aload_n hx hb d_L_law_490 rfl (lv_at hl 0 rfl) ?_
  refine lv_iload hx hb d_L_law_491 (lv_at hl 4 rfl) ?_
  refine lv_iconst (v := 1) hx hb d_L_law_493 (by decide) ?_
  refine lv_iadd hx hb d_L_law_494 ?_
  refine va_sld hx hb hX hbl hbA hS (ix_1 hk hLm).2 d_L_law_495 ?_
  rw [(ix_1 hk hLm).1]
  refine lv_aload_n hx hb d_L_law_496 rfl (lv_at hl 0 rfl) ?_
  refine lv_iload hx hb d_L_law_497 (lv_at hl 4 rfl) ?_
  refine lv_iconst (v := 2) hx hb d_L_law_499 (by decide) ?_
  refine lv_iadd hx hb d_L_law_500 ?_
  refine va_sld hx hb hX hbl hbA hS (ix_2 hk hLm).2 d_L_law_501 ?_
  rw [(ix_2 hk hLm).1]
  refine L_Mi (As := [.int (xs (6 * k + 1)), .int (xs (6 * k + 2))]) (rest := []) C0 (wP_perm pm_1 hP) (wD_perm pm_1 hD) hS (c_M_process N rfl h2) k_M_process (wd_of 3260 (by decide +kernel) rfl) li_M_process ls_M_process hini_M rfl rfl ld_M_process rfl ⟨(Nat.le_of_ble_eq_true rfl), (Nat.le_of_ble_eq_true rfl)⟩ hl.1 (Nat.le_of_ble_eq_true rfl) d_L_law_502 rfl ⟨(by show ce + 0 ≤ 601024; omega), (by show sl + 0 ≤ 7293034; omega)⟩ (fun H locs hP hD hS => ?_)
  have hP := wP_perm pm_2 hP
  have hD := wD_perm pm_2 hD
  refine lv_pop hx hb d_L_law_505 rfl ?_
  refine lv_goto (tgt := 706) hx hb d_L_law_506 (by decide) ?_
  exact kk ad adM h0 o f H locs ls hP hD hS hl
set_option maxRecDepth 100000 in
set_option maxHeartbeats 4000000 in
theorem lc_11 {p : Program} {l : Launch} {e : Env} {s : State} {m : MethodId} {args : Array Value} {below : List Frame} {meth : Method} {c : Code} {Q : State → Prop} {b0 L b k ce sl N : Nat} {xs : Nat → Int32} {D : va_G} {cB cI cJ cZ cS cP : ClassId} {A : Nat → Prop} {sk sv : Nat → Nat} {u u2 : CS} {uM uM2 : MS} (C0 : XCx p s s b0 m args meth c R_L code 7 (some .boolean) D cB cI cJ cZ cS cP A) (hE : ENV s b0 sk sv) (hL : l.stackTraces = false) (hNC : NCs s) (hX : va_X b L xs s s.heap) (hbl : b < s.heap.size) (hbA : ¬ A b) (hk : 6 * k + 6 ≤ L) (hLm : L ≤ 3072) (hi : isO u 0 1 = true) (hce : ce ≤ 601024 ∧ sl ≤ 7293034) {r r9 : Int32} (h1 : fm_H_frame N u 0 (xs (6 * k + 1)) (xs (6 * k + 2)) (xs (6 * k + 3)) = some (u2, r)) (h2 : fm_M_frame1 N uM (xs (6 * k + 1)) (xs (6 * k + 2)) (xs (6 * k + 3)) = some (uM2, r9)) (kk : LG p l e s m args below meth c Q D cB cI cJ cZ cS cP A b 706 (Int32.ofNat (6 * k)) u2 uM2 ce sl) : LG p l e s m args below meth c Q D cB cI cJ cZ cS cP A b 509 (Int32.ofNat (6 * k)) u uM ce sl := by
  intro ad adM h0 o f H locs ls hP hD hS hl
  obtain ⟨hx, hb, hr, hml, ht, hown, hK, hA, hlocks, hA0, hO, hbs⟩ := id C0
  refine lv_aload_n hx hb d_L_law_509 rfl (lv_at hl 1 rfl) ?_
  refine lv_aload_n hx hb d_L_law_510 rfl (lv_at hl 0 rfl) ?_
  refine lv_iload hx hb d_L_law_511 (lv_at hl 4 rfl) ?_
  refine lv_iconst (v := 1) hx hb d_L_law_513 (by decide) ?_
  refine lv_iadd hx hb d_L_law_514 ?_
  refine va_sld hx hb hX hbl hbA hS (ix_1 hk hLm).2 d_L_law_515 ?_
  rw [(ix_1 hk hLm).1]
  refine lv_aload_n hx hb d_L_law_516 rfl (lv_at hl 0 rfl) ?_
  refine lv_iload hx hb d_L_law_517 (lv_at hl 4 rfl) ?_
  refine lv_iconst (v := 2) hx hb d_L_law_519 (by decide) ?_
  refine lv_iadd hx hb d_L_law_520 ?_
  refine va_sld hx hb hX hbl hbA hS (ix_2 hk hLm).2 d_L_law_521 ?_
  rw [(ix_2 hk hLm).1]
  refine lv_aload_n hx hb d_L_law_522 rfl (lv_at hl 0 rfl) ?_
  refine lv_iload hx hb d_L_law_523 (lv_at hl 4 rfl) ?_
  refine lv_iconst (v := 3) hx hb d_L_law_525 (by decide) ?_
  refine lv_iadd hx hb d_L_law_526 ?_
  refine va_sld hx hb hX hbl hbA hS (ix_3 hk hLm).2 d_L_law_527 ?_
  rw [(ix_3 hk hLm).1]
  refine L_V0 (i := 0) (As := [.int (xs (6 * k + 1)), .int (xs (6 * k + 2)), .int (xs (6 * k + 3))]) (rest := []) C0 hP hD hS ck_H hi (c_H_frame N hE h1) k_H_frame (wd_of 1316 (by decide +kernel) rfl) hi_H_frame hs_H_frame hini_H rfl rfl hd_H_frame rfl ⟨(Nat.le_of_ble_eq_true rfl), (Nat.le_of_ble_eq_true rfl)⟩ hl.1 (Nat.le_of_ble_eq_true rfl) d_L_law_528 rfl ⟨(by show ce + 0 ≤ 601024; omega), (by show sl + 0 ≤ 7293034; omega)⟩ (fun H locs hP hD hS => ?_)
  refine lv_pop hx hb d_L_law_531 rfl ?_
  refine lv_aload_n hx hb d_L_law_532 rfl (lv_at hl 2 rfl) ?_
  refine lv_aload_n hx hb d_L_law_533 rfl (lv_at hl 0 rfl) ?_
  refine lv_iload hx hb d_L_law_534 (lv_at hl 4 rfl) ?_
  refine lv_iconst (v := 1) hx hb d_L_law_536 (by decide) ?_
  refine lv_iadd hx hb d_L_law_537 ?_
  refine va_sld hx hb hX hbl hbA hS (ix_1 hk hLm).2 d_L_law_538 ?_
  rw [(ix_1 hk hLm).1]
  refine lv_aload_n hx hb d_L_law_539 rfl (lv_at hl 0 rfl) ?_
  refine lv_iload hx hb d_L_law_540 (lv_at hl 4 rfl) ?_
  refine lv_iconst (v := 2) hx hb d_L_law_542 (by decide) ?_
  refine lv_iadd hx hb d_L_law_543 ?_
  refine va_sld hx hb hX hbl hbA hS (ix_2 hk hLm).2 d_L_law_544 ?_
  rw [(ix_2 hk hLm).1]
  refine lv_aload_n hx hb d_L_law_545 rfl (lv_at hl 0 rfl) ?_
  refine lv_iload hx hb d_L_law_546 (lv_at hl 4 rfl) ?_
  refine lv_iconst (v := 3) hx hb d_L_law_548 (by decide) ?_
  refine lv_iadd hx hb d_L_law_549 ?_
  refine va_sld hx hb hX hbl hbA hS (ix_3 hk hLm).2 d_L_law_550 ?_
  rw [(ix_3 hk hLm).1]
  refine L_Mi (As := [.int (xs (6 * k + 1)), .int (xs (6 * k + 2)), .int (xs (6 * k + 3))]) (rest := []) C0 (wP_perm pm_1 hP) (wD_perm pm_1 hD) hS (c_M_frame1 N rfl h2) k_M_frame1 (wd_of 3265 (by decide +kernel) rfl) li_M_frame1 ls_M_frame1 hini_M rfl rfl ld_M_frame1 rfl ⟨(Nat.le_of_ble_eq_true rfl), (Nat.le_of_ble_eq_true rfl)⟩ hl.1 (Nat.le_of_ble_eq_true rfl) d_L_law_551 rfl ⟨(by show ce + 0 ≤ 601024; omega), (by show sl + 0 ≤ 7293034; omega)⟩ (fun H locs hP hD hS => ?_)
  have hP := wP_perm pm_2 hP
  have hD := wD_perm pm_2 hD
  refine lv_pop hx hb d_L_law_554 rfl ?_
  refine lv_goto (tgt := 706) hx hb d_L_law_555 (by decide) ?_
  exact kk ad adM h0 o f H locs ls hP hD hS hl
set_option maxRecDepth 100000 in
set_option maxHeartbeats 4000000 in
theorem lc_12 {p : Program} {l : Launch} {e : Env} {s : State} {m : MethodId} {args : Array Value} {below : List Frame} {meth : Method} {c : Code} {Q : State → Prop} {b0 L b k ce sl N : Nat} {xs : Nat → Int32} {D : va_G} {cB cI cJ cZ cS cP : ClassId} {A : Nat → Prop} {sk sv : Nat → Nat} {u u2 : CS} {uM uM2 : MS} (C0 : XCx p s s b0 m args meth c R_L code 7 (some .boolean) D cB cI cJ cZ cS cP A) (hE : ENV s b0 sk sv) (hL : l.stackTraces = false) (hNC : NCs s) (hX : va_X b L xs s s.heap) (hbl : b < s.heap.size) (hbA : ¬ A b) (hk : 6 * k + 6 ≤ L) (hLm : L ≤ 3072) (hi : isO u 0 1 = true) (hce : ce ≤ 601024 ∧ sl ≤ 7293034) {r r9 : Int32} (h1 : fm_H_link N u 0 (xs (6 * k + 1)) (xs (6 * k + 2)) = some (u2, r)) (h2 : fm_M_link N uM (xs (6 * k + 1)) (xs (6 * k + 2)) = some (uM2, r9)) (kk : LG p l e s m args below meth c Q D cB cI cJ cZ cS cP A b 706 (Int32.ofNat (6 * k)) u2 uM2 ce sl) : LG p l e s m args below meth c Q D cB cI cJ cZ cS cP A b 558 (Int32.ofNat (6 * k)) u uM ce sl := by
  intro ad adM h0 o f H locs ls hP hD hS hl
  obtain ⟨hx, hb, hr, hml, ht, hown, hK, hA, hlocks, hA0, hO, hbs⟩ := id C0
  refine lv_aload_n hx hb d_L_law_558 rfl (lv_at hl 1 rfl) ?_
  refine lv_aload_n hx hb d_L_law_559 rfl (lv_at hl 0 rfl) ?_
  refine lv_iload hx hb d_L_law_560 (lv_at hl 4 rfl) ?_
  refine lv_iconst (v := 1) hx hb d_L_law_562 (by decide) ?_
  refine lv_iadd hx hb d_L_law_563 ?_
  refine va_sld hx hb hX hbl hbA hS (ix_1 hk hLm).2 d_L_law_564 ?_
  rw [(ix_1 hk hLm).1]
  refine lv_aload_n hx hb d_L_law_565 rfl (lv_at hl 0 rfl) ?_
  refine lv_iload hx hb d_L_law_566 (lv_at hl 4 rfl) ?_
  refine lv_iconst (v := 2) hx hb d_L_law_568 (by decide) ?_
  refine lv_iadd hx hb d_L_law_569 ?_
  refine va_sld hx hb hX hbl hbA hS (ix_2 hk hLm).2 d_L_law_570 ?_
  rw [(ix_2 hk hLm).1]
  refine L_V0 (i := 0) (As := [.int (xs (6 * k + 1)), .int (xs (6 * k + 2))]) (rest := []) C0 hP hD hS ck_H hi (c_H_link N hE h1) k_H_link (wd_of 1333 (by decide +kernel) rfl) hi_H_link hs_H_link hini_H rfl rfl hd_H_link rfl ⟨(Nat.le_of_ble_eq_true rfl), (Nat.le_of_ble_eq_true rfl)⟩ hl.1 (Nat.le_of_ble_eq_true rfl) d_L_law_571 rfl ⟨(by show ce + 0 ≤ 601024; omega), (by show sl + 0 ≤ 7293034; omega)⟩ (fun H locs hP hD hS => ?_)
  refine lv_pop hx hb d_L_law_574 rfl ?_
  refine lv_aload_n hx hb d_L_law_575 rfl (lv_at hl 2 rfl) ?_
  refine lv_aload_n hx hb d_L_law_576 rfl (lv_at hl 0 rfl) ?_
  refine lv_iload hx hb d_L_law_577 (lv_at hl 4 rfl) ?_
  refine lv_iconst (v := 1) hx hb d_L_law_579 (by decide) ?_
  refine lv_iadd hx hb d_L_law_580 ?_
  refine va_sld hx hb hX hbl hbA hS (ix_1 hk hLm).2 d_L_law_581 ?_
  rw [(ix_1 hk hLm).1]
  refine lv_aload_n hx hb d_L_law_582 rfl (lv_at hl 0 rfl) ?_
  refine lv_iload hx hb d_L_law_583 (lv_at hl 4 rfl) ?_
  refine lv_iconst (v := 2) hx hb d_L_law_585 (by decide) ?_
  refine lv_iadd hx hb d_L_law_586 ?_
  refine va_sld hx hb hX hbl hbA hS (ix_2 hk hLm).2 d_L_law_587 ?_
  rw [(ix_2 hk hLm).1]
  refine L_Mi (As := [.int (xs (6 * k + 1)), .int (xs (6 * k + 2))]) (rest := []) C0 (wP_perm pm_1 hP) (wD_perm pm_1 hD) hS (c_M_link N rfl h2) k_M_link (wd_of 3269 (by decide +kernel) rfl) li_M_link ls_M_link hini_M rfl rfl ld_M_link rfl ⟨(Nat.le_of_ble_eq_true rfl), (Nat.le_of_ble_eq_true rfl)⟩ hl.1 (Nat.le_of_ble_eq_true rfl) d_L_law_588 rfl ⟨(by show ce + 0 ≤ 601024; omega), (by show sl + 0 ≤ 7293034; omega)⟩ (fun H locs hP hD hS => ?_)
  have hP := wP_perm pm_2 hP
  have hD := wD_perm pm_2 hD
  refine lv_pop hx hb d_L_law_591 rfl ?_
  refine lv_goto (tgt := 706) hx hb d_L_law_592 (by decide) ?_
  exact kk ad adM h0 o f H locs ls hP hD hS hl
set_option maxRecDepth 100000 in
set_option maxHeartbeats 4000000 in
theorem lc_13 {p : Program} {l : Launch} {e : Env} {s : State} {m : MethodId} {args : Array Value} {below : List Frame} {meth : Method} {c : Code} {Q : State → Prop} {b0 L b k ce sl N : Nat} {xs : Nat → Int32} {D : va_G} {cB cI cJ cZ cS cP : ClassId} {A : Nat → Prop} {sk sv : Nat → Nat} {u u2 : CS} {uM uM2 : MS} (C0 : XCx p s s b0 m args meth c R_L code 7 (some .boolean) D cB cI cJ cZ cS cP A) (hE : ENV s b0 sk sv) (hL : l.stackTraces = false) (hNC : NCs s) (hX : va_X b L xs s s.heap) (hbl : b < s.heap.size) (hbA : ¬ A b) (hk : 6 * k + 6 ≤ L) (hLm : L ≤ 3072) (hi : isO u 0 1 = true) (hce : ce ≤ 601024 ∧ sl ≤ 7293034) {r r9 : Int32} (h1 : fm_H_show N u 0 (xs (6 * k + 1)) (xs (6 * k + 2)) (xs (6 * k + 3)) = some (u2, r)) (h2 : fm_M_show N uM (xs (6 * k + 1)) (xs (6 * k + 2)) (xs (6 * k + 3)) = some (uM2, r9)) (kk : LG p l e s m args below meth c Q D cB cI cJ cZ cS cP A b 706 (Int32.ofNat (6 * k)) u2 uM2 ce sl) : LG p l e s m args below meth c Q D cB cI cJ cZ cS cP A b 595 (Int32.ofNat (6 * k)) u uM ce sl := by
  intro ad adM h0 o f H locs ls hP hD hS hl
  obtain ⟨hx, hb, hr, hml, ht, hown, hK, hA, hlocks, hA0, hO, hbs⟩ := id C0
  refine lv_aload_n hx hb d_L_law_595 rfl (lv_at hl 1 rfl) ?_
  refine lv_aload_n hx hb d_L_law_596 rfl (lv_at hl 0 rfl) ?_
  refine lv_iload hx hb d_L_law_597 (lv_at hl 4 rfl) ?_
  refine lv_iconst (v := 1) hx hb d_L_law_599 (by decide) ?_
  refine lv_iadd hx hb d_L_law_600 ?_
  refine va_sld hx hb hX hbl hbA hS (ix_1 hk hLm).2 d_L_law_601 ?_
  rw [(ix_1 hk hLm).1]
  refine lv_aload_n hx hb d_L_law_602 rfl (lv_at hl 0 rfl) ?_
  refine lv_iload hx hb d_L_law_603 (lv_at hl 4 rfl) ?_
  refine lv_iconst (v := 2) hx hb d_L_law_605 (by decide) ?_
  refine lv_iadd hx hb d_L_law_606 ?_
  refine va_sld hx hb hX hbl hbA hS (ix_2 hk hLm).2 d_L_law_607 ?_
  rw [(ix_2 hk hLm).1]
  refine lv_aload_n hx hb d_L_law_608 rfl (lv_at hl 0 rfl) ?_
  refine lv_iload hx hb d_L_law_609 (lv_at hl 4 rfl) ?_
  refine lv_iconst (v := 3) hx hb d_L_law_611 (by decide) ?_
  refine lv_iadd hx hb d_L_law_612 ?_
  refine va_sld hx hb hX hbl hbA hS (ix_3 hk hLm).2 d_L_law_613 ?_
  rw [(ix_3 hk hLm).1]
  refine L_V0 (i := 0) (As := [.int (xs (6 * k + 1)), .int (xs (6 * k + 2)), .int (xs (6 * k + 3))]) (rest := []) C0 hP hD hS ck_H hi (c_H_show N hE h1) k_H_show (wd_of 1337 (by decide +kernel) rfl) hi_H_show hs_H_show hini_H rfl rfl hd_H_show rfl ⟨(Nat.le_of_ble_eq_true rfl), (Nat.le_of_ble_eq_true rfl)⟩ hl.1 (Nat.le_of_ble_eq_true rfl) d_L_law_614 rfl ⟨(by show ce + 0 ≤ 601024; omega), (by show sl + 0 ≤ 7293034; omega)⟩ (fun H locs hP hD hS => ?_)
  refine lv_pop hx hb d_L_law_617 rfl ?_
  refine lv_aload_n hx hb d_L_law_618 rfl (lv_at hl 2 rfl) ?_
  refine lv_aload_n hx hb d_L_law_619 rfl (lv_at hl 0 rfl) ?_
  refine lv_iload hx hb d_L_law_620 (lv_at hl 4 rfl) ?_
  refine lv_iconst (v := 1) hx hb d_L_law_622 (by decide) ?_
  refine lv_iadd hx hb d_L_law_623 ?_
  refine va_sld hx hb hX hbl hbA hS (ix_1 hk hLm).2 d_L_law_624 ?_
  rw [(ix_1 hk hLm).1]
  refine lv_aload_n hx hb d_L_law_625 rfl (lv_at hl 0 rfl) ?_
  refine lv_iload hx hb d_L_law_626 (lv_at hl 4 rfl) ?_
  refine lv_iconst (v := 2) hx hb d_L_law_628 (by decide) ?_
  refine lv_iadd hx hb d_L_law_629 ?_
  refine va_sld hx hb hX hbl hbA hS (ix_2 hk hLm).2 d_L_law_630 ?_
  rw [(ix_2 hk hLm).1]
  refine lv_aload_n hx hb d_L_law_631 rfl (lv_at hl 0 rfl) ?_
  refine lv_iload hx hb d_L_law_632 (lv_at hl 4 rfl) ?_
  refine lv_iconst (v := 3) hx hb d_L_law_634 (by decide) ?_
  refine lv_iadd hx hb d_L_law_635 ?_
  refine va_sld hx hb hX hbl hbA hS (ix_3 hk hLm).2 d_L_law_636 ?_
  rw [(ix_3 hk hLm).1]
  refine L_Mi (As := [.int (xs (6 * k + 1)), .int (xs (6 * k + 2)), .int (xs (6 * k + 3))]) (rest := []) C0 (wP_perm pm_1 hP) (wD_perm pm_1 hD) hS (c_M_show N rfl h2) k_M_show (wd_of 3273 (by decide +kernel) rfl) li_M_show ls_M_show hini_M rfl rfl ld_M_show rfl ⟨(Nat.le_of_ble_eq_true rfl), (Nat.le_of_ble_eq_true rfl)⟩ hl.1 (Nat.le_of_ble_eq_true rfl) d_L_law_637 rfl ⟨(by show ce + 0 ≤ 601024; omega), (by show sl + 0 ≤ 7293034; omega)⟩ (fun H locs hP hD hS => ?_)
  have hP := wP_perm pm_2 hP
  have hD := wD_perm pm_2 hD
  refine lv_pop hx hb d_L_law_640 rfl ?_
  refine lv_goto (tgt := 706) hx hb d_L_law_641 (by decide) ?_
  exact kk ad adM h0 o f H locs ls hP hD hS hl
set_option maxRecDepth 100000 in
set_option maxHeartbeats 4000000 in
theorem lc_14 {p : Program} {l : Launch} {e : Env} {s : State} {m : MethodId} {args : Array Value} {below : List Frame} {meth : Method} {c : Code} {Q : State → Prop} {b0 L b k ce sl N : Nat} {xs : Nat → Int32} {D : va_G} {cB cI cJ cZ cS cP : ClassId} {A : Nat → Prop} {sk sv : Nat → Nat} {u u2 : CS} {uM uM2 : MS} (C0 : XCx p s s b0 m args meth c R_L code 7 (some .boolean) D cB cI cJ cZ cS cP A) (hE : ENV s b0 sk sv) (hL : l.stackTraces = false) (hNC : NCs s) (hX : va_X b L xs s s.heap) (hbl : b < s.heap.size) (hbA : ¬ A b) (hk : 6 * k + 6 ≤ L) (hLm : L ≤ 3072) (hi : isO u 0 1 = true) (hce : ce ≤ 601024 ∧ sl ≤ 7293034) {r r9 : Int32} (h1 : fm_H_shown N u 0 (xs (6 * k + 1)) = some (u2, r)) (h2 : fm_M_shown N uM (xs (6 * k + 1)) = some (uM2, r9)) (kk : LG p l e s m args below meth c Q D cB cI cJ cZ cS cP A b 706 (Int32.ofNat (6 * k)) u2 uM2 ce sl) : LG p l e s m args below meth c Q D cB cI cJ cZ cS cP A b 644 (Int32.ofNat (6 * k)) u uM ce sl := by
  intro ad adM h0 o f H locs ls hP hD hS hl
  obtain ⟨hx, hb, hr, hml, ht, hown, hK, hA, hlocks, hA0, hO, hbs⟩ := id C0
  refine lv_aload_n hx hb d_L_law_644 rfl (lv_at hl 1 rfl) ?_
  refine lv_aload_n hx hb d_L_law_645 rfl (lv_at hl 0 rfl) ?_
  refine lv_iload hx hb d_L_law_646 (lv_at hl 4 rfl) ?_
  refine lv_iconst (v := 1) hx hb d_L_law_648 (by decide) ?_
  refine lv_iadd hx hb d_L_law_649 ?_
  refine va_sld hx hb hX hbl hbA hS (ix_1 hk hLm).2 d_L_law_650 ?_
  rw [(ix_1 hk hLm).1]
  refine L_V0 (i := 0) (As := [.int (xs (6 * k + 1))]) (rest := []) C0 hP hD hS ck_H hi (c_H_shown N h1) k_H_shown (wd_of 1389 (by decide +kernel) rfl) hi_H_shown hs_H_shown hini_H rfl rfl hd_H_shown rfl ⟨(Nat.le_of_ble_eq_true rfl), (Nat.le_of_ble_eq_true rfl)⟩ hl.1 (Nat.le_of_ble_eq_true rfl) d_L_law_651 rfl ⟨(by show ce + 0 ≤ 601024; omega), (by show sl + 0 ≤ 7293034; omega)⟩ (fun H locs hP hD hS => ?_)
  refine lv_pop hx hb d_L_law_654 rfl ?_
  refine lv_aload_n hx hb d_L_law_655 rfl (lv_at hl 2 rfl) ?_
  refine lv_aload_n hx hb d_L_law_656 rfl (lv_at hl 0 rfl) ?_
  refine lv_iload hx hb d_L_law_657 (lv_at hl 4 rfl) ?_
  refine lv_iconst (v := 1) hx hb d_L_law_659 (by decide) ?_
  refine lv_iadd hx hb d_L_law_660 ?_
  refine va_sld hx hb hX hbl hbA hS (ix_1 hk hLm).2 d_L_law_661 ?_
  rw [(ix_1 hk hLm).1]
  refine L_Mi (As := [.int (xs (6 * k + 1))]) (rest := []) C0 (wP_perm pm_1 hP) (wD_perm pm_1 hD) hS (c_M_shown N rfl h2) k_M_shown (wd_of 3277 (by decide +kernel) rfl) li_M_shown ls_M_shown hini_M rfl rfl ld_M_shown rfl ⟨(Nat.le_of_ble_eq_true rfl), (Nat.le_of_ble_eq_true rfl)⟩ hl.1 (Nat.le_of_ble_eq_true rfl) d_L_law_662 rfl ⟨(by show ce + 0 ≤ 601024; omega), (by show sl + 0 ≤ 7293034; omega)⟩ (fun H locs hP hD hS => ?_)
  have hP := wP_perm pm_2 hP
  have hD := wD_perm pm_2 hD
  refine lv_pop hx hb d_L_law_665 rfl ?_
  refine lv_goto (tgt := 706) hx hb d_L_law_666 (by decide) ?_
  exact kk ad adM h0 o f H locs ls hP hD hS hl
set_option maxRecDepth 100000 in
set_option maxHeartbeats 4000000 in
theorem lc_15 {p : Program} {l : Launch} {e : Env} {s : State} {m : MethodId} {args : Array Value} {below : List Frame} {meth : Method} {c : Code} {Q : State → Prop} {b0 L b k ce sl N : Nat} {xs : Nat → Int32} {D : va_G} {cB cI cJ cZ cS cP : ClassId} {A : Nat → Prop} {sk sv : Nat → Nat} {u u2 : CS} {uM uM2 : MS} (C0 : XCx p s s b0 m args meth c R_L code 7 (some .boolean) D cB cI cJ cZ cS cP A) (hE : ENV s b0 sk sv) (hL : l.stackTraces = false) (hNC : NCs s) (hX : va_X b L xs s s.heap) (hbl : b < s.heap.size) (hbA : ¬ A b) (hk : 6 * k + 6 ≤ L) (hLm : L ≤ 3072) (hi : isO u 0 1 = true) (hce : ce ≤ 601024 ∧ sl ≤ 7293034) {r r9 : Int32} (h1 : fm_H_printed N u 0 (xs (6 * k + 1)) (xs (6 * k + 2)) = some (u2, r)) (h2 : fm_M_printed N uM (xs (6 * k + 1)) (xs (6 * k + 2)) = some (uM2, r9)) (kk : LG p l e s m args below meth c Q D cB cI cJ cZ cS cP A b 706 (Int32.ofNat (6 * k)) u2 uM2 ce sl) : LG p l e s m args below meth c Q D cB cI cJ cZ cS cP A b 669 (Int32.ofNat (6 * k)) u uM ce sl := by
  intro ad adM h0 o f H locs ls hP hD hS hl
  obtain ⟨hx, hb, hr, hml, ht, hown, hK, hA, hlocks, hA0, hO, hbs⟩ := id C0
  refine lv_aload_n hx hb d_L_law_669 rfl (lv_at hl 1 rfl) ?_
  refine lv_aload_n hx hb d_L_law_670 rfl (lv_at hl 0 rfl) ?_
  refine lv_iload hx hb d_L_law_671 (lv_at hl 4 rfl) ?_
  refine lv_iconst (v := 1) hx hb d_L_law_673 (by decide) ?_
  refine lv_iadd hx hb d_L_law_674 ?_
  refine va_sld hx hb hX hbl hbA hS (ix_1 hk hLm).2 d_L_law_675 ?_
  rw [(ix_1 hk hLm).1]
  refine lv_aload_n hx hb d_L_law_676 rfl (lv_at hl 0 rfl) ?_
  refine lv_iload hx hb d_L_law_677 (lv_at hl 4 rfl) ?_
  refine lv_iconst (v := 2) hx hb d_L_law_679 (by decide) ?_
  refine lv_iadd hx hb d_L_law_680 ?_
  refine va_sld hx hb hX hbl hbA hS (ix_2 hk hLm).2 d_L_law_681 ?_
  rw [(ix_2 hk hLm).1]
  refine L_V0 (i := 0) (As := [.int (xs (6 * k + 1)), .int (xs (6 * k + 2))]) (rest := []) C0 hP hD hS ck_H hi (c_H_printed N h1) k_H_printed (wd_of 1393 (by decide +kernel) rfl) hi_H_printed hs_H_printed hini_H rfl rfl hd_H_printed rfl ⟨(Nat.le_of_ble_eq_true rfl), (Nat.le_of_ble_eq_true rfl)⟩ hl.1 (Nat.le_of_ble_eq_true rfl) d_L_law_682 rfl ⟨(by show ce + 0 ≤ 601024; omega), (by show sl + 0 ≤ 7293034; omega)⟩ (fun H locs hP hD hS => ?_)
  refine lv_pop hx hb d_L_law_685 rfl ?_
  refine lv_aload_n hx hb d_L_law_686 rfl (lv_at hl 2 rfl) ?_
  refine lv_aload_n hx hb d_L_law_687 rfl (lv_at hl 0 rfl) ?_
  refine lv_iload hx hb d_L_law_688 (lv_at hl 4 rfl) ?_
  refine lv_iconst (v := 1) hx hb d_L_law_690 (by decide) ?_
  refine lv_iadd hx hb d_L_law_691 ?_
  refine va_sld hx hb hX hbl hbA hS (ix_1 hk hLm).2 d_L_law_692 ?_
  rw [(ix_1 hk hLm).1]
  refine lv_aload_n hx hb d_L_law_693 rfl (lv_at hl 0 rfl) ?_
  refine lv_iload hx hb d_L_law_694 (lv_at hl 4 rfl) ?_
  refine lv_iconst (v := 2) hx hb d_L_law_696 (by decide) ?_
  refine lv_iadd hx hb d_L_law_697 ?_
  refine va_sld hx hb hX hbl hbA hS (ix_2 hk hLm).2 d_L_law_698 ?_
  rw [(ix_2 hk hLm).1]
  refine L_Mi (As := [.int (xs (6 * k + 1)), .int (xs (6 * k + 2))]) (rest := []) C0 (wP_perm pm_1 hP) (wD_perm pm_1 hD) hS (c_M_printed N rfl h2) k_M_printed (wd_of 3281 (by decide +kernel) rfl) li_M_printed ls_M_printed hini_M rfl rfl ld_M_printed rfl ⟨(Nat.le_of_ble_eq_true rfl), (Nat.le_of_ble_eq_true rfl)⟩ hl.1 (Nat.le_of_ble_eq_true rfl) d_L_law_699 rfl ⟨(by show ce + 0 ≤ 601024; omega), (by show sl + 0 ≤ 7293034; omega)⟩ (fun H locs hP hD hS => ?_)
  have hP := wP_perm pm_2 hP
  have hD := wD_perm pm_2 hD
  refine lv_pop hx hb d_L_law_702 rfl ?_
  refine lv_goto (tgt := 706) hx hb d_L_law_703 (by decide) ?_
  exact kk ad adM h0 o f H locs ls hP hD hS hl
