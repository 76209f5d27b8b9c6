def LG (p : Program) (l : Launch) (e : Env) (s : State) (m : MethodId) (args : Array Value) (below : List Frame) (meth : Method) (c : Code) (Q : State → Prop) (D : va_G) (cB cI cJ cZ cS cP : ClassId) (A : Nat → Prop) (b pc : Nat) (i : Int32) (u : CS) (uM : MS) (ce sl : Nat) : Prop :=
  ∀ (ad adM : Nat → Nat) (h0 o : Nat) (f : Nat → Int64) (H : Heap) (locs : List Loc) (ls : Array Slot), va_P D cls (wC cB cI cJ cZ cS cP ad u ++ (oW cJ o f ++ wM cB cI cJ cZ cS 0 h0 adM uM)) H → va_D A (wC cB cI cJ cZ cS cP ad u ++ (oW cJ o f ++ wM cB cI cJ cZ cS 0 h0 adM uM)) → va_S A s.heap H locs → lv_has ls 7 [(0, .ref b), (1, .ref (ad 0)), (2, .ref h0), (3, .ref o), (4, .int i)] → W p l e room_1 s m args below meth c H locs ce sl Q (F0 m pc ls [])
theorem pm_1 {a b c : va_W} : (a ++ (b ++ c)).Perm (c ++ (a ++ b)) := by rw [← List.append_assoc]; exact List.perm_append_comm
theorem pm_2 {a b c : va_W} : (c ++ (a ++ b)).Perm (a ++ (b ++ c)) := pm_1.symm
theorem pm_3 {a b c : va_W} : (a ++ (b ++ c)).Perm (b ++ (a ++ c)) := by rw [← List.append_assoc, ← List.append_assoc]; exact List.Perm.append_right c List.perm_append_comm
theorem lgc (x : Int64) : lg_cmp x x = 0 := by unfold lg_cmp; simp
theorem ix_0 {k L : Nat} (hk : 6 * k + 6 ≤ L) (hL : L ≤ 3072) : (Int32.ofNat (6 * k)).toNatClampNeg = 6 * k ∧ vp_in (Int32.ofNat (6 * k)) L := by
  have e1 : Int32.ofNat (6 * k) = Int32.ofNat (6 * k) := rfl
  rw [e1]
  exact ⟨i_nat (by omega), i_in (by omega) hL⟩
theorem ix_1 {k L : Nat} (hk : 6 * k + 6 ≤ L) (hL : L ≤ 3072) : (Int32.ofNat (6 * k) + 1).toNatClampNeg = 6 * k + 1 ∧ vp_in (Int32.ofNat (6 * k) + 1) L := by
  have e1 : Int32.ofNat (6 * k) + 1 = Int32.ofNat (6 * k + 1) := (Int32.ofNat_add (6 * k) 1).symm
  rw [e1]
  exact ⟨i_nat (by omega), i_in (by omega) hL⟩
theorem ix_2 {k L : Nat} (hk : 6 * k + 6 ≤ L) (hL : L ≤ 3072) : (Int32.ofNat (6 * k) + 2).toNatClampNeg = 6 * k + 2 ∧ vp_in (Int32.ofNat (6 * k) + 2) L := by
  have e1 : Int32.ofNat (6 * k) + 2 = Int32.ofNat (6 * k + 2) := (Int32.ofNat_add (6 * k) 2).symm
  rw [e1]
  exact ⟨i_nat (by omega), i_in (by omega) hL⟩
theorem ix_3 {k L : Nat} (hk : 6 * k + 6 ≤ L) (hL : L ≤ 3072) : (Int32.ofNat (6 * k) + 3).toNatClampNeg = 6 * k + 3 ∧ vp_in (Int32.ofNat (6 * k) + 3) L := by
  have e1 : Int32.ofNat (6 * k) + 3 = Int32.ofNat (6 * k + 3) := (Int32.ofNat_add (6 * k) 3).symm
  rw [e1]
  exact ⟨i_nat (by omega), i_in (by omega) hL⟩
theorem ix_4 {k L : Nat} (hk : 6 * k + 6 ≤ L) (hL : L ≤ 3072) : (Int32.ofNat (6 * k) + 4).toNatClampNeg = 6 * k + 4 ∧ vp_in (Int32.ofNat (6 * k) + 4) L := by
  have e1 : Int32.ofNat (6 * k) + 4 = Int32.ofNat (6 * k + 4) := (Int32.ofNat_add (6 * k) 4).symm
  rw [e1]
  exact ⟨i_nat (by omega), i_in (by omega) hL⟩
theorem ix_5 {k L : Nat} (hk : 6 * k + 6 ≤ L) (hL : L ≤ 3072) : (Int32.ofNat (6 * k) + 5).toNatClampNeg = 6 * k + 5 ∧ vp_in (Int32.ofNat (6 * k) + 5) L := by
  have e1 : Int32.ofNat (6 * k) + 5 = Int32.ofNat (6 * k + 5) := (Int32.ofNat_add (6 * k) 5).symm
  rw [e1]
  exact ⟨i_nat (by omega), i_in (by omega) hL⟩
set_option maxRecDepth 100000 in
theorem d_L_law_0 : decode code 0 = .ok (.new 8, 3) := by decide +kernel
set_option maxRecDepth 100000 in
theorem d_L_law_3 : decode code 3 = .ok (.dup, 1) := by decide +kernel
set_option maxRecDepth 100000 in
theorem d_L_law_4 : decode code 4 = .ok (.invokespecial 31, 3) := by decide +kernel
set_option maxRecDepth 100000 in
theorem d_L_law_7 : decode code 7 = .ok (.astore_n 1, 1) := by decide +kernel
set_option maxRecDepth 100000 in
theorem d_L_law_8 : decode code 8 = .ok (.new 32, 3) := by decide +kernel
set_option maxRecDepth 100000 in
theorem d_L_law_11 : decode code 11 = .ok (.dup, 1) := by decide +kernel
set_option maxRecDepth 100000 in
theorem d_L_law_12 : decode code 12 = .ok (.invokespecial 34, 3) := by decide +kernel
set_option maxRecDepth 100000 in
theorem d_L_law_15 : decode code 15 = .ok (.astore_n 2, 1) := by decide +kernel
set_option maxRecDepth 100000 in
theorem d_L_law_16 : decode code 16 = .ok (.iconst 1, 1) := by decide +kernel
set_option maxRecDepth 100000 in
theorem d_L_law_17 : decode code 17 = .ok (.newarray .long, 2) := by decide +kernel
set_option maxRecDepth 100000 in
theorem d_L_law_19 : decode code 19 = .ok (.astore_n 3, 1) := by decide +kernel
set_option maxRecDepth 100000 in
theorem d_L_law_20 : decode code 20 = .ok (.iconst 0, 1) := by decide +kernel
set_option maxRecDepth 100000 in
theorem d_L_law_21 : decode code 21 = .ok (.istore 4, 2) := by decide +kernel
set_option maxRecDepth 100000 in
theorem d_L_law_23 : decode code 23 = .ok (.iload 4, 2) := by decide +kernel
set_option maxRecDepth 100000 in
theorem d_L_law_25 : decode code 25 = .ok (.aload_n 0, 1) := by decide +kernel
set_option maxRecDepth 100000 in
theorem d_L_law_26 : decode code 26 = .ok (.arraylength, 1) := by decide +kernel
set_option maxRecDepth 100000 in
theorem d_L_law_27 : decode code 27 = .ok (.bipush 6, 2) := by decide +kernel
set_option maxRecDepth 100000 in
theorem d_L_law_29 : decode code 29 = .ok (.isub, 1) := by decide +kernel
set_option maxRecDepth 100000 in
theorem d_L_law_30 : decode code 30 = .ok (.if_icmp .gt 760, 3) := by decide +kernel
set_option maxRecDepth 100000 in
theorem d_L_law_33 : decode code 33 = .ok (.aload_n 0, 1) := by decide +kernel
set_option maxRecDepth 100000 in
theorem d_L_law_34 : decode code 34 = .ok (.iload 4, 2) := by decide +kernel
set_option maxRecDepth 100000 in
theorem d_L_law_36 : decode code 36 = .ok (.iaload, 1) := by decide +kernel
set_option maxRecDepth 100000 in
theorem d_L_law_37 : decode code 37 = .ok (.bipush 15, 2) := by decide +kernel
set_option maxRecDepth 100000 in
theorem d_L_law_39 : decode code 39 = .ok (.iand, 1) := by decide +kernel
set_option maxRecDepth 100000 in
theorem d_L_law_40 : decode code 40 = .ok (.tableswitch 744 0 15 #[80, 153, 178, 191, 216, 253, 290, 326, 394, 450, 510, 547, 596, 633, 682, 707], 80) := by decide +kernel
set_option maxRecDepth 100000 in
theorem d_L_law_120 : decode code 120 = .ok (.aload_n 1, 1) := by decide +kernel
set_option maxRecDepth 100000 in
theorem d_L_law_121 : decode code 121 = .ok (.aload_n 0, 1) := by decide +kernel
set_option maxRecDepth 100000 in
theorem d_L_law_122 : decode code 122 = .ok (.iload 4, 2) := by decide +kernel
set_option maxRecDepth 100000 in
theorem d_L_law_124 : decode code 124 = .ok (.iconst 1, 1) := by decide +kernel
set_option maxRecDepth 100000 in
theorem d_L_law_125 : decode code 125 = .ok (.iadd, 1) := by decide +kernel
set_option maxRecDepth 100000 in
theorem d_L_law_126 : decode code 126 = .ok (.iaload, 1) := by decide +kernel
set_option maxRecDepth 100000 in
theorem d_L_law_127 : decode code 127 = .ok (.aload_n 0, 1) := by decide +kernel
set_option maxRecDepth 100000 in
theorem d_L_law_128 : decode code 128 = .ok (.iload 4, 2) := by decide +kernel
set_option maxRecDepth 100000 in
theorem d_L_law_130 : decode code 130 = .ok (.iconst 2, 1) := by decide +kernel
set_option maxRecDepth 100000 in
theorem d_L_law_131 : decode code 131 = .ok (.iadd, 1) := by decide +kernel
set_option maxRecDepth 100000 in
theorem d_L_law_132 : decode code 132 = .ok (.iaload, 1) := by decide +kernel
set_option maxRecDepth 100000 in
theorem d_L_law_133 : decode code 133 = .ok (.aload_n 0, 1) := by decide +kernel
set_option maxRecDepth 100000 in
theorem d_L_law_134 : decode code 134 = .ok (.iload 4, 2) := by decide +kernel
set_option maxRecDepth 100000 in
theorem d_L_law_136 : decode code 136 = .ok (.iconst 3, 1) := by decide +kernel
set_option maxRecDepth 100000 in
theorem d_L_law_137 : decode code 137 = .ok (.iadd, 1) := by decide +kernel
set_option maxRecDepth 100000 in
theorem d_L_law_138 : decode code 138 = .ok (.iaload, 1) := by decide +kernel
set_option maxRecDepth 100000 in
theorem d_L_law_139 : decode code 139 = .ok (.aload_n 0, 1) := by decide +kernel
set_option maxRecDepth 100000 in
theorem d_L_law_140 : decode code 140 = .ok (.iload 4, 2) := by decide +kernel
set_option maxRecDepth 100000 in
theorem d_L_law_142 : decode code 142 = .ok (.iconst 4, 1) := by decide +kernel
set_option maxRecDepth 100000 in
theorem d_L_law_143 : decode code 143 = .ok (.iadd, 1) := by decide +kernel
set_option maxRecDepth 100000 in
theorem d_L_law_144 : decode code 144 = .ok (.iaload, 1) := by decide +kernel
set_option maxRecDepth 100000 in
theorem d_L_law_145 : decode code 145 = .ok (.aload_n 0, 1) := by decide +kernel
set_option maxRecDepth 100000 in
theorem d_L_law_146 : decode code 146 = .ok (.iload 4, 2) := by decide +kernel
set_option maxRecDepth 100000 in
theorem d_L_law_148 : decode code 148 = .ok (.iconst 5, 1) := by decide +kernel
set_option maxRecDepth 100000 in
theorem d_L_law_149 : decode code 149 = .ok (.iadd, 1) := by decide +kernel
set_option maxRecDepth 100000 in
theorem d_L_law_150 : decode code 150 = .ok (.iaload, 1) := by decide +kernel
set_option maxRecDepth 100000 in
theorem d_L_law_151 : decode code 151 = .ok (.invokevirtual 35, 3) := by decide +kernel
set_option maxRecDepth 100000 in
theorem d_L_law_154 : decode code 154 = .ok (.aload_n 2, 1) := by decide +kernel
set_option maxRecDepth 100000 in
theorem d_L_law_155 : decode code 155 = .ok (.aload_n 0, 1) := by decide +kernel
set_option maxRecDepth 100000 in
theorem d_L_law_156 : decode code 156 = .ok (.iload 4, 2) := by decide +kernel
set_option maxRecDepth 100000 in
theorem d_L_law_158 : decode code 158 = .ok (.iconst 1, 1) := by decide +kernel
set_option maxRecDepth 100000 in
theorem d_L_law_159 : decode code 159 = .ok (.iadd, 1) := by decide +kernel
set_option maxRecDepth 100000 in
theorem d_L_law_160 : decode code 160 = .ok (.iaload, 1) := by decide +kernel
set_option maxRecDepth 100000 in
theorem d_L_law_161 : decode code 161 = .ok (.aload_n 0, 1) := by decide +kernel
set_option maxRecDepth 100000 in
theorem d_L_law_162 : decode code 162 = .ok (.iload 4, 2) := by decide +kernel
set_option maxRecDepth 100000 in
theorem d_L_law_164 : decode code 164 = .ok (.iconst 2, 1) := by decide +kernel
set_option maxRecDepth 100000 in
theorem d_L_law_165 : decode code 165 = .ok (.iadd, 1) := by decide +kernel
set_option maxRecDepth 100000 in
theorem d_L_law_166 : decode code 166 = .ok (.iaload, 1) := by decide +kernel
set_option maxRecDepth 100000 in
theorem d_L_law_167 : decode code 167 = .ok (.aload_n 0, 1) := by decide +kernel
set_option maxRecDepth 100000 in
theorem d_L_law_168 : decode code 168 = .ok (.iload 4, 2) := by decide +kernel
set_option maxRecDepth 100000 in
theorem d_L_law_170 : decode code 170 = .ok (.iconst 3, 1) := by decide +kernel
set_option maxRecDepth 100000 in
theorem d_L_law_171 : decode code 171 = .ok (.iadd, 1) := by decide +kernel
set_option maxRecDepth 100000 in
theorem d_L_law_172 : decode code 172 = .ok (.iaload, 1) := by decide +kernel
set_option maxRecDepth 100000 in
theorem d_L_law_173 : decode code 173 = .ok (.aload_n 0, 1) := by decide +kernel
set_option maxRecDepth 100000 in
theorem d_L_law_174 : decode code 174 = .ok (.iload 4, 2) := by decide +kernel
set_option maxRecDepth 100000 in
theorem d_L_law_176 : decode code 176 = .ok (.iconst 4, 1) := by decide +kernel
set_option maxRecDepth 100000 in
theorem d_L_law_177 : decode code 177 = .ok (.iadd, 1) := by decide +kernel
set_option maxRecDepth 100000 in
theorem d_L_law_178 : decode code 178 = .ok (.iaload, 1) := by decide +kernel
set_option maxRecDepth 100000 in
theorem d_L_law_179 : decode code 179 = .ok (.aload_n 0, 1) := by decide +kernel
set_option maxRecDepth 100000 in
theorem d_L_law_180 : decode code 180 = .ok (.iload 4, 2) := by decide +kernel
set_option maxRecDepth 100000 in
theorem d_L_law_182 : decode code 182 = .ok (.iconst 5, 1) := by decide +kernel
set_option maxRecDepth 100000 in
theorem d_L_law_183 : decode code 183 = .ok (.iadd, 1) := by decide +kernel
set_option maxRecDepth 100000 in
theorem d_L_law_184 : decode code 184 = .ok (.iaload, 1) := by decide +kernel
set_option maxRecDepth 100000 in
theorem d_L_law_185 : decode code 185 = .ok (.invokevirtual 39, 3) := by decide +kernel
set_option maxRecDepth 100000 in
theorem d_L_law_188 : decode code 188 = .ok (.if_icmp .eq 596, 3) := by decide +kernel
set_option maxRecDepth 100000 in
theorem d_L_law_191 : decode code 191 = .ok (.iconst 0, 1) := by decide +kernel
set_option maxRecDepth 100000 in
theorem d_L_law_192 : decode code 192 = .ok (.ireturn, 1) := by decide +kernel
set_option maxRecDepth 100000 in
theorem d_L_law_193 : decode code 193 = .ok (.aload_n 1, 1) := by decide +kernel
set_option maxRecDepth 100000 in
theorem d_L_law_194 : decode code 194 = .ok (.aload_n 0, 1) := by decide +kernel
set_option maxRecDepth 100000 in
theorem d_L_law_195 : decode code 195 = .ok (.iload 4, 2) := by decide +kernel
set_option maxRecDepth 100000 in
theorem d_L_law_197 : decode code 197 = .ok (.iconst 1, 1) := by decide +kernel
set_option maxRecDepth 100000 in
theorem d_L_law_198 : decode code 198 = .ok (.iadd, 1) := by decide +kernel
set_option maxRecDepth 100000 in
theorem d_L_law_199 : decode code 199 = .ok (.iaload, 1) := by decide +kernel
set_option maxRecDepth 100000 in
theorem d_L_law_200 : decode code 200 = .ok (.invokevirtual 40, 3) := by decide +kernel
set_option maxRecDepth 100000 in
theorem d_L_law_203 : decode code 203 = .ok (.aload_n 2, 1) := by decide +kernel
set_option maxRecDepth 100000 in
theorem d_L_law_204 : decode code 204 = .ok (.aload_n 0, 1) := by decide +kernel
set_option maxRecDepth 100000 in
theorem d_L_law_205 : decode code 205 = .ok (.iload 4, 2) := by decide +kernel
set_option maxRecDepth 100000 in
theorem d_L_law_207 : decode code 207 = .ok (.iconst 1, 1) := by decide +kernel
set_option maxRecDepth 100000 in
theorem d_L_law_208 : decode code 208 = .ok (.iadd, 1) := by decide +kernel
set_option maxRecDepth 100000 in
theorem d_L_law_209 : decode code 209 = .ok (.iaload, 1) := by decide +kernel
set_option maxRecDepth 100000 in
theorem d_L_law_210 : decode code 210 = .ok (.invokevirtual 43, 3) := by decide +kernel
set_option maxRecDepth 100000 in
theorem d_L_law_213 : decode code 213 = .ok (.if_icmp .eq 571, 3) := by decide +kernel
set_option maxRecDepth 100000 in
theorem d_L_law_216 : decode code 216 = .ok (.iconst 0, 1) := by decide +kernel
set_option maxRecDepth 100000 in
theorem d_L_law_217 : decode code 217 = .ok (.ireturn, 1) := by decide +kernel
set_option maxRecDepth 100000 in
theorem d_L_law_218 : decode code 218 = .ok (.aload_n 1, 1) := by decide +kernel
set_option maxRecDepth 100000 in
theorem d_L_law_219 : decode code 219 = .ok (.invokevirtual 44, 3) := by decide +kernel
set_option maxRecDepth 100000 in
theorem d_L_law_222 : decode code 222 = .ok (.aload_n 2, 1) := by decide +kernel
set_option maxRecDepth 100000 in
theorem d_L_law_223 : decode code 223 = .ok (.invokevirtual 48, 3) := by decide +kernel
set_option maxRecDepth 100000 in
theorem d_L_law_226 : decode code 226 = .ok (.if_icmp .eq 558, 3) := by decide +kernel
set_option maxRecDepth 100000 in
theorem d_L_law_229 : decode code 229 = .ok (.iconst 0, 1) := by decide +kernel
set_option maxRecDepth 100000 in
theorem d_L_law_230 : decode code 230 = .ok (.ireturn, 1) := by decide +kernel
set_option maxRecDepth 100000 in
theorem d_L_law_231 : decode code 231 = .ok (.aload_n 1, 1) := by decide +kernel
set_option maxRecDepth 100000 in
theorem d_L_law_232 : decode code 232 = .ok (.aload_n 0, 1) := by decide +kernel
set_option maxRecDepth 100000 in
theorem d_L_law_233 : decode code 233 = .ok (.iload 4, 2) := by decide +kernel
set_option maxRecDepth 100000 in
theorem d_L_law_235 : decode code 235 = .ok (.iconst 1, 1) := by decide +kernel
set_option maxRecDepth 100000 in
theorem d_L_law_236 : decode code 236 = .ok (.iadd, 1) := by decide +kernel
set_option maxRecDepth 100000 in
theorem d_L_law_237 : decode code 237 = .ok (.iaload, 1) := by decide +kernel
set_option maxRecDepth 100000 in
theorem d_L_law_238 : decode code 238 = .ok (.invokevirtual 49, 3) := by decide +kernel
set_option maxRecDepth 100000 in
theorem d_L_law_241 : decode code 241 = .ok (.aload_n 2, 1) := by decide +kernel
set_option maxRecDepth 100000 in
theorem d_L_law_242 : decode code 242 = .ok (.aload_n 0, 1) := by decide +kernel
set_option maxRecDepth 100000 in
theorem d_L_law_243 : decode code 243 = .ok (.iload 4, 2) := by decide +kernel
set_option maxRecDepth 100000 in
theorem d_L_law_245 : decode code 245 = .ok (.iconst 1, 1) := by decide +kernel
set_option maxRecDepth 100000 in
theorem d_L_law_246 : decode code 246 = .ok (.iadd, 1) := by decide +kernel
set_option maxRecDepth 100000 in
theorem d_L_law_247 : decode code 247 = .ok (.iaload, 1) := by decide +kernel
set_option maxRecDepth 100000 in
theorem d_L_law_248 : decode code 248 = .ok (.invokevirtual 52, 3) := by decide +kernel
set_option maxRecDepth 100000 in
theorem d_L_law_251 : decode code 251 = .ok (.if_icmp .eq 533, 3) := by decide +kernel
set_option maxRecDepth 100000 in
theorem d_L_law_254 : decode code 254 = .ok (.iconst 0, 1) := by decide +kernel
set_option maxRecDepth 100000 in
theorem d_L_law_255 : decode code 255 = .ok (.ireturn, 1) := by decide +kernel
set_option maxRecDepth 100000 in
theorem d_L_law_256 : decode code 256 = .ok (.aload_n 1, 1) := by decide +kernel
set_option maxRecDepth 100000 in
theorem d_L_law_257 : decode code 257 = .ok (.aload_n 0, 1) := by decide +kernel
set_option maxRecDepth 100000 in
theorem d_L_law_258 : decode code 258 = .ok (.iload 4, 2) := by decide +kernel
set_option maxRecDepth 100000 in
theorem d_L_law_260 : decode code 260 = .ok (.iconst 1, 1) := by decide +kernel
set_option maxRecDepth 100000 in
theorem d_L_law_261 : decode code 261 = .ok (.iadd, 1) := by decide +kernel
set_option maxRecDepth 100000 in
theorem d_L_law_262 : decode code 262 = .ok (.iaload, 1) := by decide +kernel
set_option maxRecDepth 100000 in
theorem d_L_law_263 : decode code 263 = .ok (.aload_n 0, 1) := by decide +kernel
set_option maxRecDepth 100000 in
theorem d_L_law_264 : decode code 264 = .ok (.iload 4, 2) := by decide +kernel
set_option maxRecDepth 100000 in
theorem d_L_law_266 : decode code 266 = .ok (.iconst 2, 1) := by decide +kernel
set_option maxRecDepth 100000 in
theorem d_L_law_267 : decode code 267 = .ok (.iadd, 1) := by decide +kernel
set_option maxRecDepth 100000 in
theorem d_L_law_268 : decode code 268 = .ok (.iaload, 1) := by decide +kernel
set_option maxRecDepth 100000 in
theorem d_L_law_269 : decode code 269 = .ok (.invokevirtual 53, 3) := by decide +kernel
set_option maxRecDepth 100000 in
theorem d_L_law_272 : decode code 272 = .ok (.aload_n 2, 1) := by decide +kernel
set_option maxRecDepth 100000 in
theorem d_L_law_273 : decode code 273 = .ok (.aload_n 0, 1) := by decide +kernel
set_option maxRecDepth 100000 in
theorem d_L_law_274 : decode code 274 = .ok (.iload 4, 2) := by decide +kernel
set_option maxRecDepth 100000 in
theorem d_L_law_276 : decode code 276 = .ok (.iconst 1, 1) := by decide +kernel
set_option maxRecDepth 100000 in
theorem d_L_law_277 : decode code 277 = .ok (.iadd, 1) := by decide +kernel
set_option maxRecDepth 100000 in
theorem d_L_law_278 : decode code 278 = .ok (.iaload, 1) := by decide +kernel
set_option maxRecDepth 100000 in
theorem d_L_law_279 : decode code 279 = .ok (.aload_n 0, 1) := by decide +kernel
set_option maxRecDepth 100000 in
theorem d_L_law_280 : decode code 280 = .ok (.iload 4, 2) := by decide +kernel
set_option maxRecDepth 100000 in
theorem d_L_law_282 : decode code 282 = .ok (.iconst 2, 1) := by decide +kernel
set_option maxRecDepth 100000 in
theorem d_L_law_283 : decode code 283 = .ok (.iadd, 1) := by decide +kernel
set_option maxRecDepth 100000 in
theorem d_L_law_284 : decode code 284 = .ok (.iaload, 1) := by decide +kernel
set_option maxRecDepth 100000 in
theorem d_L_law_285 : decode code 285 = .ok (.invokevirtual 56, 3) := by decide +kernel
set_option maxRecDepth 100000 in
theorem d_L_law_288 : decode code 288 = .ok (.if_icmp .eq 496, 3) := by decide +kernel
set_option maxRecDepth 100000 in
theorem d_L_law_291 : decode code 291 = .ok (.iconst 0, 1) := by decide +kernel
set_option maxRecDepth 100000 in
theorem d_L_law_292 : decode code 292 = .ok (.ireturn, 1) := by decide +kernel
set_option maxRecDepth 100000 in
theorem d_L_law_293 : decode code 293 = .ok (.aload_n 1, 1) := by decide +kernel
set_option maxRecDepth 100000 in
theorem d_L_law_294 : decode code 294 = .ok (.aload_n 0, 1) := by decide +kernel
set_option maxRecDepth 100000 in
theorem d_L_law_295 : decode code 295 = .ok (.iload 4, 2) := by decide +kernel
set_option maxRecDepth 100000 in
theorem d_L_law_297 : decode code 297 = .ok (.iconst 1, 1) := by decide +kernel
set_option maxRecDepth 100000 in
theorem d_L_law_298 : decode code 298 = .ok (.iadd, 1) := by decide +kernel
set_option maxRecDepth 100000 in
theorem d_L_law_299 : decode code 299 = .ok (.iaload, 1) := by decide +kernel
set_option maxRecDepth 100000 in
theorem d_L_law_300 : decode code 300 = .ok (.aload_n 0, 1) := by decide +kernel
set_option maxRecDepth 100000 in
theorem d_L_law_301 : decode code 301 = .ok (.iload 4, 2) := by decide +kernel
set_option maxRecDepth 100000 in
theorem d_L_law_303 : decode code 303 = .ok (.iconst 2, 1) := by decide +kernel
set_option maxRecDepth 100000 in
theorem d_L_law_304 : decode code 304 = .ok (.iadd, 1) := by decide +kernel
set_option maxRecDepth 100000 in
theorem d_L_law_305 : decode code 305 = .ok (.iaload, 1) := by decide +kernel
set_option maxRecDepth 100000 in
theorem d_L_law_306 : decode code 306 = .ok (.invokevirtual 57, 3) := by decide +kernel
set_option maxRecDepth 100000 in
theorem d_L_law_309 : decode code 309 = .ok (.aload_n 2, 1) := by decide +kernel
set_option maxRecDepth 100000 in
theorem d_L_law_310 : decode code 310 = .ok (.aload_n 0, 1) := by decide +kernel
set_option maxRecDepth 100000 in
theorem d_L_law_311 : decode code 311 = .ok (.iload 4, 2) := by decide +kernel
set_option maxRecDepth 100000 in
theorem d_L_law_313 : decode code 313 = .ok (.iconst 1, 1) := by decide +kernel
set_option maxRecDepth 100000 in
theorem d_L_law_314 : decode code 314 = .ok (.iadd, 1) := by decide +kernel
set_option maxRecDepth 100000 in
theorem d_L_law_315 : decode code 315 = .ok (.iaload, 1) := by decide +kernel
set_option maxRecDepth 100000 in
theorem d_L_law_316 : decode code 316 = .ok (.aload_n 0, 1) := by decide +kernel
set_option maxRecDepth 100000 in
theorem d_L_law_317 : decode code 317 = .ok (.iload 4, 2) := by decide +kernel
set_option maxRecDepth 100000 in
theorem d_L_law_319 : decode code 319 = .ok (.iconst 2, 1) := by decide +kernel
set_option maxRecDepth 100000 in
theorem d_L_law_320 : decode code 320 = .ok (.iadd, 1) := by decide +kernel
set_option maxRecDepth 100000 in
theorem d_L_law_321 : decode code 321 = .ok (.iaload, 1) := by decide +kernel
set_option maxRecDepth 100000 in
theorem d_L_law_322 : decode code 322 = .ok (.invokevirtual 60, 3) := by decide +kernel
set_option maxRecDepth 100000 in
theorem d_L_law_325 : decode code 325 = .ok (.if_icmp .eq 459, 3) := by decide +kernel
set_option maxRecDepth 100000 in
theorem d_L_law_328 : decode code 328 = .ok (.iconst 0, 1) := by decide +kernel
set_option maxRecDepth 100000 in
theorem d_L_law_329 : decode code 329 = .ok (.ireturn, 1) := by decide +kernel
set_option maxRecDepth 100000 in
theorem d_L_law_330 : decode code 330 = .ok (.aload_n 1, 1) := by decide +kernel
set_option maxRecDepth 100000 in
theorem d_L_law_331 : decode code 331 = .ok (.aload_n 0, 1) := by decide +kernel
set_option maxRecDepth 100000 in
theorem d_L_law_332 : decode code 332 = .ok (.iload 4, 2) := by decide +kernel
set_option maxRecDepth 100000 in
theorem d_L_law_334 : decode code 334 = .ok (.iconst 1, 1) := by decide +kernel
set_option maxRecDepth 100000 in
theorem d_L_law_335 : decode code 335 = .ok (.iadd, 1) := by decide +kernel
set_option maxRecDepth 100000 in
theorem d_L_law_336 : decode code 336 = .ok (.iaload, 1) := by decide +kernel
set_option maxRecDepth 100000 in
theorem d_L_law_337 : decode code 337 = .ok (.invokestatic 61, 3) := by decide +kernel
set_option maxRecDepth 100000 in
theorem d_L_law_340 : decode code 340 = .ok (.istore 5, 2) := by decide +kernel
set_option maxRecDepth 100000 in
theorem d_L_law_342 : decode code 342 = .ok (.aload_n 2, 1) := by decide +kernel
set_option maxRecDepth 100000 in
theorem d_L_law_343 : decode code 343 = .ok (.aload_n 0, 1) := by decide +kernel
set_option maxRecDepth 100000 in
theorem d_L_law_344 : decode code 344 = .ok (.iload 4, 2) := by decide +kernel
set_option maxRecDepth 100000 in
theorem d_L_law_346 : decode code 346 = .ok (.iconst 1, 1) := by decide +kernel
set_option maxRecDepth 100000 in
theorem d_L_law_347 : decode code 347 = .ok (.iadd, 1) := by decide +kernel
set_option maxRecDepth 100000 in
theorem d_L_law_348 : decode code 348 = .ok (.iaload, 1) := by decide +kernel
set_option maxRecDepth 100000 in
theorem d_L_law_349 : decode code 349 = .ok (.invokevirtual 66, 3) := by decide +kernel
set_option maxRecDepth 100000 in
theorem d_L_law_352 : decode code 352 = .ok (.aload_n 2, 1) := by decide +kernel
set_option maxRecDepth 100000 in
theorem d_L_law_353 : decode code 353 = .ok (.invokevirtual 67, 3) := by decide +kernel
set_option maxRecDepth 100000 in
theorem d_L_law_356 : decode code 356 = .ok (.iload 5, 2) := by decide +kernel
set_option maxRecDepth 100000 in
theorem d_L_law_358 : decode code 358 = .ok (.if_icmp .eq 5, 3) := by decide +kernel
set_option maxRecDepth 100000 in
theorem d_L_law_361 : decode code 361 = .ok (.iconst 0, 1) := by decide +kernel
set_option maxRecDepth 100000 in
theorem d_L_law_362 : decode code 362 = .ok (.ireturn, 1) := by decide +kernel
set_option maxRecDepth 100000 in
theorem d_L_law_363 : decode code 363 = .ok (.goto 421, 3) := by decide +kernel
set_option maxRecDepth 100000 in
theorem d_L_law_366 : decode code 366 = .ok (.aload_n 1, 1) := by decide +kernel
set_option maxRecDepth 100000 in
theorem d_L_law_367 : decode code 367 = .ok (.aload_n 0, 1) := by decide +kernel
set_option maxRecDepth 100000 in
theorem d_L_law_368 : decode code 368 = .ok (.iload 4, 2) := by decide +kernel
set_option maxRecDepth 100000 in
theorem d_L_law_370 : decode code 370 = .ok (.iconst 1, 1) := by decide +kernel
set_option maxRecDepth 100000 in
theorem d_L_law_371 : decode code 371 = .ok (.iadd, 1) := by decide +kernel
set_option maxRecDepth 100000 in
theorem d_L_law_372 : decode code 372 = .ok (.iaload, 1) := by decide +kernel
set_option maxRecDepth 100000 in
theorem d_L_law_373 : decode code 373 = .ok (.aload_n 0, 1) := by decide +kernel
set_option maxRecDepth 100000 in
theorem d_L_law_374 : decode code 374 = .ok (.iload 4, 2) := by decide +kernel
set_option maxRecDepth 100000 in
theorem d_L_law_376 : decode code 376 = .ok (.iconst 2, 1) := by decide +kernel
set_option maxRecDepth 100000 in
theorem d_L_law_377 : decode code 377 = .ok (.iadd, 1) := by decide +kernel
set_option maxRecDepth 100000 in
theorem d_L_law_378 : decode code 378 = .ok (.iaload, 1) := by decide +kernel
set_option maxRecDepth 100000 in
theorem d_L_law_379 : decode code 379 = .ok (.aload_n 3, 1) := by decide +kernel
set_option maxRecDepth 100000 in
theorem d_L_law_380 : decode code 380 = .ok (.invokestatic 70, 3) := by decide +kernel
set_option maxRecDepth 100000 in
theorem d_L_law_383 : decode code 383 = .ok (.istore 5, 2) := by decide +kernel
set_option maxRecDepth 100000 in
theorem d_L_law_385 : decode code 385 = .ok (.aload_n 2, 1) := by decide +kernel
set_option maxRecDepth 100000 in
theorem d_L_law_386 : decode code 386 = .ok (.aload_n 0, 1) := by decide +kernel
set_option maxRecDepth 100000 in
theorem d_L_law_387 : decode code 387 = .ok (.iload 4, 2) := by decide +kernel
set_option maxRecDepth 100000 in
theorem d_L_law_389 : decode code 389 = .ok (.iconst 1, 1) := by decide +kernel
set_option maxRecDepth 100000 in
theorem d_L_law_390 : decode code 390 = .ok (.iadd, 1) := by decide +kernel
set_option maxRecDepth 100000 in
theorem d_L_law_391 : decode code 391 = .ok (.iaload, 1) := by decide +kernel
set_option maxRecDepth 100000 in
theorem d_L_law_392 : decode code 392 = .ok (.aload_n 0, 1) := by decide +kernel
set_option maxRecDepth 100000 in
theorem d_L_law_393 : decode code 393 = .ok (.iload 4, 2) := by decide +kernel
set_option maxRecDepth 100000 in
theorem d_L_law_395 : decode code 395 = .ok (.iconst 2, 1) := by decide +kernel
set_option maxRecDepth 100000 in
theorem d_L_law_396 : decode code 396 = .ok (.iadd, 1) := by decide +kernel
set_option maxRecDepth 100000 in
theorem d_L_law_397 : decode code 397 = .ok (.iaload, 1) := by decide +kernel
set_option maxRecDepth 100000 in
theorem d_L_law_398 : decode code 398 = .ok (.invokevirtual 73, 3) := by decide +kernel
set_option maxRecDepth 100000 in
theorem d_L_law_401 : decode code 401 = .ok (.istore 6, 2) := by decide +kernel
set_option maxRecDepth 100000 in
theorem d_L_law_403 : decode code 403 = .ok (.aload_n 2, 1) := by decide +kernel
set_option maxRecDepth 100000 in
theorem d_L_law_404 : decode code 404 = .ok (.invokevirtual 67, 3) := by decide +kernel
set_option maxRecDepth 100000 in
theorem d_L_law_407 : decode code 407 = .ok (.iload 5, 2) := by decide +kernel
set_option maxRecDepth 100000 in
theorem d_L_law_409 : decode code 409 = .ok (.if_icmp .eq 5, 3) := by decide +kernel
set_option maxRecDepth 100000 in
theorem d_L_law_412 : decode code 412 = .ok (.iconst 0, 1) := by decide +kernel
set_option maxRecDepth 100000 in
theorem d_L_law_413 : decode code 413 = .ok (.ireturn, 1) := by decide +kernel
set_option maxRecDepth 100000 in
theorem d_L_law_414 : decode code 414 = .ok (.iload 5, 2) := by decide +kernel
set_option maxRecDepth 100000 in
theorem d_L_law_416 : decode code 416 = .ok (.ifCond .ne 15, 3) := by decide +kernel
set_option maxRecDepth 100000 in
theorem d_L_law_419 : decode code 419 = .ok (.aload_n 3, 1) := by decide +kernel
set_option maxRecDepth 100000 in
theorem d_L_law_420 : decode code 420 = .ok (.iconst 0, 1) := by decide +kernel
set_option maxRecDepth 100000 in
theorem d_L_law_421 : decode code 421 = .ok (.laload, 1) := by decide +kernel
set_option maxRecDepth 100000 in
theorem d_L_law_422 : decode code 422 = .ok (.iload 6, 2) := by decide +kernel
set_option maxRecDepth 100000 in
theorem d_L_law_424 : decode code 424 = .ok (.i2l, 1) := by decide +kernel
set_option maxRecDepth 100000 in
theorem d_L_law_425 : decode code 425 = .ok (.lcmp, 1) := by decide +kernel
set_option maxRecDepth 100000 in
theorem d_L_law_426 : decode code 426 = .ok (.ifCond .eq 5, 3) := by decide +kernel
set_option maxRecDepth 100000 in
theorem d_L_law_429 : decode code 429 = .ok (.iconst 0, 1) := by decide +kernel
set_option maxRecDepth 100000 in
theorem d_L_law_430 : decode code 430 = .ok (.ireturn, 1) := by decide +kernel
set_option maxRecDepth 100000 in
theorem d_L_law_431 : decode code 431 = .ok (.goto 353, 3) := by decide +kernel
set_option maxRecDepth 100000 in
theorem d_L_law_434 : decode code 434 = .ok (.aload_n 1, 1) := by decide +kernel
set_option maxRecDepth 100000 in
theorem d_L_law_435 : decode code 435 = .ok (.aload_n 0, 1) := by decide +kernel
set_option maxRecDepth 100000 in
theorem d_L_law_436 : decode code 436 = .ok (.iload 4, 2) := by decide +kernel
set_option maxRecDepth 100000 in
theorem d_L_law_438 : decode code 438 = .ok (.iconst 1, 1) := by decide +kernel
set_option maxRecDepth 100000 in
theorem d_L_law_439 : decode code 439 = .ok (.iadd, 1) := by decide +kernel
set_option maxRecDepth 100000 in
theorem d_L_law_440 : decode code 440 = .ok (.iaload, 1) := by decide +kernel
set_option maxRecDepth 100000 in
theorem d_L_law_441 : decode code 441 = .ok (.aload_n 3, 1) := by decide +kernel
set_option maxRecDepth 100000 in
theorem d_L_law_442 : decode code 442 = .ok (.invokestatic 74, 3) := by decide +kernel
set_option maxRecDepth 100000 in
theorem d_L_law_445 : decode code 445 = .ok (.istore 5, 2) := by decide +kernel
set_option maxRecDepth 100000 in
theorem d_L_law_447 : decode code 447 = .ok (.aload_n 2, 1) := by decide +kernel
set_option maxRecDepth 100000 in
theorem d_L_law_448 : decode code 448 = .ok (.aload_n 0, 1) := by decide +kernel
set_option maxRecDepth 100000 in
theorem d_L_law_449 : decode code 449 = .ok (.iload 4, 2) := by decide +kernel
set_option maxRecDepth 100000 in
theorem d_L_law_451 : decode code 451 = .ok (.iconst 1, 1) := by decide +kernel
set_option maxRecDepth 100000 in
theorem d_L_law_452 : decode code 452 = .ok (.iadd, 1) := by decide +kernel
set_option maxRecDepth 100000 in
theorem d_L_law_453 : decode code 453 = .ok (.iaload, 1) := by decide +kernel
set_option maxRecDepth 100000 in
theorem d_L_law_454 : decode code 454 = .ok (.invokevirtual 77, 3) := by decide +kernel
set_option maxRecDepth 100000 in
theorem d_L_law_457 : decode code 457 = .ok (.istore 6, 2) := by decide +kernel
set_option maxRecDepth 100000 in
theorem d_L_law_459 : decode code 459 = .ok (.aload_n 2, 1) := by decide +kernel
set_option maxRecDepth 100000 in
theorem d_L_law_460 : decode code 460 = .ok (.invokevirtual 67, 3) := by decide +kernel
set_option maxRecDepth 100000 in
theorem d_L_law_463 : decode code 463 = .ok (.iload 5, 2) := by decide +kernel
set_option maxRecDepth 100000 in
theorem d_L_law_465 : decode code 465 = .ok (.if_icmp .eq 5, 3) := by decide +kernel
set_option maxRecDepth 100000 in
theorem d_L_law_468 : decode code 468 = .ok (.iconst 0, 1) := by decide +kernel
set_option maxRecDepth 100000 in
theorem d_L_law_469 : decode code 469 = .ok (.ireturn, 1) := by decide +kernel
set_option maxRecDepth 100000 in
theorem d_L_law_470 : decode code 470 = .ok (.iload 5, 2) := by decide +kernel
set_option maxRecDepth 100000 in
theorem d_L_law_472 : decode code 472 = .ok (.ifCond .ne 15, 3) := by decide +kernel
set_option maxRecDepth 100000 in
theorem d_L_law_475 : decode code 475 = .ok (.aload_n 3, 1) := by decide +kernel
set_option maxRecDepth 100000 in
theorem d_L_law_476 : decode code 476 = .ok (.iconst 0, 1) := by decide +kernel
set_option maxRecDepth 100000 in
theorem d_L_law_477 : decode code 477 = .ok (.laload, 1) := by decide +kernel
set_option maxRecDepth 100000 in
theorem d_L_law_478 : decode code 478 = .ok (.iload 6, 2) := by decide +kernel
set_option maxRecDepth 100000 in
theorem d_L_law_480 : decode code 480 = .ok (.i2l, 1) := by decide +kernel
set_option maxRecDepth 100000 in
theorem d_L_law_481 : decode code 481 = .ok (.lcmp, 1) := by decide +kernel
set_option maxRecDepth 100000 in
theorem d_L_law_482 : decode code 482 = .ok (.ifCond .eq 5, 3) := by decide +kernel
set_option maxRecDepth 100000 in
theorem d_L_law_485 : decode code 485 = .ok (.iconst 0, 1) := by decide +kernel
set_option maxRecDepth 100000 in
theorem d_L_law_486 : decode code 486 = .ok (.ireturn, 1) := by decide +kernel
set_option maxRecDepth 100000 in
theorem d_L_law_487 : decode code 487 = .ok (.goto 297, 3) := by decide +kernel
set_option maxRecDepth 100000 in
theorem d_L_law_490 : decode code 490 = .ok (.aload_n 1, 1) := by decide +kernel
set_option maxRecDepth 100000 in
theorem d_L_law_491 : decode code 491 = .ok (.aload_n 0, 1) := by decide +kernel
set_option maxRecDepth 100000 in
theorem d_L_law_492 : decode code 492 = .ok (.iload 4, 2) := by decide +kernel
set_option maxRecDepth 100000 in
theorem d_L_law_494 : decode code 494 = .ok (.iconst 1, 1) := by decide +kernel
set_option maxRecDepth 100000 in
theorem d_L_law_495 : decode code 495 = .ok (.iadd, 1) := by decide +kernel
set_option maxRecDepth 100000 in
theorem d_L_law_496 : decode code 496 = .ok (.iaload, 1) := by decide +kernel
set_option maxRecDepth 100000 in
theorem d_L_law_497 : decode code 497 = .ok (.aload_n 0, 1) := by decide +kernel
set_option maxRecDepth 100000 in
theorem d_L_law_498 : decode code 498 = .ok (.iload 4, 2) := by decide +kernel
set_option maxRecDepth 100000 in
theorem d_L_law_500 : decode code 500 = .ok (.iconst 2, 1) := by decide +kernel
set_option maxRecDepth 100000 in
theorem d_L_law_501 : decode code 501 = .ok (.iadd, 1) := by decide +kernel
set_option maxRecDepth 100000 in
theorem d_L_law_502 : decode code 502 = .ok (.iaload, 1) := by decide +kernel
set_option maxRecDepth 100000 in
theorem d_L_law_503 : decode code 503 = .ok (.aload_n 0, 1) := by decide +kernel
set_option maxRecDepth 100000 in
theorem d_L_law_504 : decode code 504 = .ok (.iload 4, 2) := by decide +kernel
set_option maxRecDepth 100000 in
theorem d_L_law_506 : decode code 506 = .ok (.iconst 3, 1) := by decide +kernel
set_option maxRecDepth 100000 in
theorem d_L_law_507 : decode code 507 = .ok (.iadd, 1) := by decide +kernel
set_option maxRecDepth 100000 in
theorem d_L_law_508 : decode code 508 = .ok (.iaload, 1) := by decide +kernel
set_option maxRecDepth 100000 in
theorem d_L_law_509 : decode code 509 = .ok (.invokestatic 78, 3) := by decide +kernel
set_option maxRecDepth 100000 in
theorem d_L_law_512 : decode code 512 = .ok (.istore 5, 2) := by decide +kernel
set_option maxRecDepth 100000 in
theorem d_L_law_514 : decode code 514 = .ok (.aload_n 2, 1) := by decide +kernel
set_option maxRecDepth 100000 in
theorem d_L_law_515 : decode code 515 = .ok (.aload_n 0, 1) := by decide +kernel
set_option maxRecDepth 100000 in
theorem d_L_law_516 : decode code 516 = .ok (.iload 4, 2) := by decide +kernel
set_option maxRecDepth 100000 in
theorem d_L_law_518 : decode code 518 = .ok (.iconst 1, 1) := by decide +kernel
set_option maxRecDepth 100000 in
theorem d_L_law_519 : decode code 519 = .ok (.iadd, 1) := by decide +kernel
set_option maxRecDepth 100000 in
theorem d_L_law_520 : decode code 520 = .ok (.iaload, 1) := by decide +kernel
set_option maxRecDepth 100000 in
theorem d_L_law_521 : decode code 521 = .ok (.aload_n 0, 1) := by decide +kernel
set_option maxRecDepth 100000 in
theorem d_L_law_522 : decode code 522 = .ok (.iload 4, 2) := by decide +kernel
set_option maxRecDepth 100000 in
theorem d_L_law_524 : decode code 524 = .ok (.iconst 2, 1) := by decide +kernel
set_option maxRecDepth 100000 in
theorem d_L_law_525 : decode code 525 = .ok (.iadd, 1) := by decide +kernel
set_option maxRecDepth 100000 in
theorem d_L_law_526 : decode code 526 = .ok (.iaload, 1) := by decide +kernel
set_option maxRecDepth 100000 in
theorem d_L_law_527 : decode code 527 = .ok (.aload_n 0, 1) := by decide +kernel
set_option maxRecDepth 100000 in
theorem d_L_law_528 : decode code 528 = .ok (.iload 4, 2) := by decide +kernel
set_option maxRecDepth 100000 in
theorem d_L_law_530 : decode code 530 = .ok (.iconst 3, 1) := by decide +kernel
set_option maxRecDepth 100000 in
theorem d_L_law_531 : decode code 531 = .ok (.iadd, 1) := by decide +kernel
set_option maxRecDepth 100000 in
theorem d_L_law_532 : decode code 532 = .ok (.iaload, 1) := by decide +kernel
set_option maxRecDepth 100000 in
theorem d_L_law_533 : decode code 533 = .ok (.invokevirtual 81, 3) := by decide +kernel
set_option maxRecDepth 100000 in
theorem d_L_law_536 : decode code 536 = .ok (.aload_n 2, 1) := by decide +kernel
set_option maxRecDepth 100000 in
theorem d_L_law_537 : decode code 537 = .ok (.invokevirtual 67, 3) := by decide +kernel
set_option maxRecDepth 100000 in
theorem d_L_law_540 : decode code 540 = .ok (.iload 5, 2) := by decide +kernel
set_option maxRecDepth 100000 in
theorem d_L_law_542 : decode code 542 = .ok (.if_icmp .eq 5, 3) := by decide +kernel
set_option maxRecDepth 100000 in
theorem d_L_law_545 : decode code 545 = .ok (.iconst 0, 1) := by decide +kernel
set_option maxRecDepth 100000 in
theorem d_L_law_546 : decode code 546 = .ok (.ireturn, 1) := by decide +kernel
set_option maxRecDepth 100000 in
theorem d_L_law_547 : decode code 547 = .ok (.goto 237, 3) := by decide +kernel
set_option maxRecDepth 100000 in
theorem d_L_law_550 : decode code 550 = .ok (.aload_n 1, 1) := by decide +kernel
set_option maxRecDepth 100000 in
theorem d_L_law_551 : decode code 551 = .ok (.aload_n 0, 1) := by decide +kernel
set_option maxRecDepth 100000 in
theorem d_L_law_552 : decode code 552 = .ok (.iload 4, 2) := by decide +kernel
set_option maxRecDepth 100000 in
theorem d_L_law_554 : decode code 554 = .ok (.iconst 1, 1) := by decide +kernel
set_option maxRecDepth 100000 in
theorem d_L_law_555 : decode code 555 = .ok (.iadd, 1) := by decide +kernel
set_option maxRecDepth 100000 in
theorem d_L_law_556 : decode code 556 = .ok (.iaload, 1) := by decide +kernel
set_option maxRecDepth 100000 in
theorem d_L_law_557 : decode code 557 = .ok (.aload_n 0, 1) := by decide +kernel
set_option maxRecDepth 100000 in
theorem d_L_law_558 : decode code 558 = .ok (.iload 4, 2) := by decide +kernel
set_option maxRecDepth 100000 in
theorem d_L_law_560 : decode code 560 = .ok (.iconst 2, 1) := by decide +kernel
set_option maxRecDepth 100000 in
theorem d_L_law_561 : decode code 561 = .ok (.iadd, 1) := by decide +kernel
set_option maxRecDepth 100000 in
theorem d_L_law_562 : decode code 562 = .ok (.iaload, 1) := by decide +kernel
set_option maxRecDepth 100000 in
theorem d_L_law_563 : decode code 563 = .ok (.invokevirtual 82, 3) := by decide +kernel
set_option maxRecDepth 100000 in
theorem d_L_law_566 : decode code 566 = .ok (.aload_n 2, 1) := by decide +kernel
set_option maxRecDepth 100000 in
theorem d_L_law_567 : decode code 567 = .ok (.aload_n 0, 1) := by decide +kernel
set_option maxRecDepth 100000 in
theorem d_L_law_568 : decode code 568 = .ok (.iload 4, 2) := by decide +kernel
set_option maxRecDepth 100000 in
theorem d_L_law_570 : decode code 570 = .ok (.iconst 1, 1) := by decide +kernel
set_option maxRecDepth 100000 in
theorem d_L_law_571 : decode code 571 = .ok (.iadd, 1) := by decide +kernel
set_option maxRecDepth 100000 in
theorem d_L_law_572 : decode code 572 = .ok (.iaload, 1) := by decide +kernel
set_option maxRecDepth 100000 in
theorem d_L_law_573 : decode code 573 = .ok (.aload_n 0, 1) := by decide +kernel
set_option maxRecDepth 100000 in
theorem d_L_law_574 : decode code 574 = .ok (.iload 4, 2) := by decide +kernel
set_option maxRecDepth 100000 in
theorem d_L_law_576 : decode code 576 = .ok (.iconst 2, 1) := by decide +kernel
set_option maxRecDepth 100000 in
theorem d_L_law_577 : decode code 577 = .ok (.iadd, 1) := by decide +kernel
set_option maxRecDepth 100000 in
theorem d_L_law_578 : decode code 578 = .ok (.iaload, 1) := by decide +kernel
set_option maxRecDepth 100000 in
theorem d_L_law_579 : decode code 579 = .ok (.invokevirtual 85, 3) := by decide +kernel
set_option maxRecDepth 100000 in
theorem d_L_law_582 : decode code 582 = .ok (.if_icmp .eq 202, 3) := by decide +kernel
set_option maxRecDepth 100000 in
theorem d_L_law_585 : decode code 585 = .ok (.iconst 0, 1) := by decide +kernel
set_option maxRecDepth 100000 in
theorem d_L_law_586 : decode code 586 = .ok (.ireturn, 1) := by decide +kernel
set_option maxRecDepth 100000 in
theorem d_L_law_587 : decode code 587 = .ok (.aload_n 1, 1) := by decide +kernel
set_option maxRecDepth 100000 in
theorem d_L_law_588 : decode code 588 = .ok (.aload_n 0, 1) := by decide +kernel
set_option maxRecDepth 100000 in
theorem d_L_law_589 : decode code 589 = .ok (.iload 4, 2) := by decide +kernel
set_option maxRecDepth 100000 in
theorem d_L_law_591 : decode code 591 = .ok (.iconst 1, 1) := by decide +kernel
set_option maxRecDepth 100000 in
theorem d_L_law_592 : decode code 592 = .ok (.iadd, 1) := by decide +kernel
set_option maxRecDepth 100000 in
theorem d_L_law_593 : decode code 593 = .ok (.iaload, 1) := by decide +kernel
set_option maxRecDepth 100000 in
theorem d_L_law_594 : decode code 594 = .ok (.aload_n 0, 1) := by decide +kernel
set_option maxRecDepth 100000 in
theorem d_L_law_595 : decode code 595 = .ok (.iload 4, 2) := by decide +kernel
set_option maxRecDepth 100000 in
theorem d_L_law_597 : decode code 597 = .ok (.iconst 2, 1) := by decide +kernel
set_option maxRecDepth 100000 in
theorem d_L_law_598 : decode code 598 = .ok (.iadd, 1) := by decide +kernel
set_option maxRecDepth 100000 in
theorem d_L_law_599 : decode code 599 = .ok (.iaload, 1) := by decide +kernel
set_option maxRecDepth 100000 in
theorem d_L_law_600 : decode code 600 = .ok (.aload_n 0, 1) := by decide +kernel
set_option maxRecDepth 100000 in
theorem d_L_law_601 : decode code 601 = .ok (.iload 4, 2) := by decide +kernel
set_option maxRecDepth 100000 in
theorem d_L_law_603 : decode code 603 = .ok (.iconst 3, 1) := by decide +kernel
set_option maxRecDepth 100000 in
theorem d_L_law_604 : decode code 604 = .ok (.iadd, 1) := by decide +kernel
set_option maxRecDepth 100000 in
theorem d_L_law_605 : decode code 605 = .ok (.iaload, 1) := by decide +kernel
set_option maxRecDepth 100000 in
theorem d_L_law_606 : decode code 606 = .ok (.invokevirtual 86, 3) := by decide +kernel
set_option maxRecDepth 100000 in
theorem d_L_law_609 : decode code 609 = .ok (.aload_n 2, 1) := by decide +kernel
set_option maxRecDepth 100000 in
theorem d_L_law_610 : decode code 610 = .ok (.aload_n 0, 1) := by decide +kernel
set_option maxRecDepth 100000 in
theorem d_L_law_611 : decode code 611 = .ok (.iload 4, 2) := by decide +kernel
set_option maxRecDepth 100000 in
theorem d_L_law_613 : decode code 613 = .ok (.iconst 1, 1) := by decide +kernel
set_option maxRecDepth 100000 in
theorem d_L_law_614 : decode code 614 = .ok (.iadd, 1) := by decide +kernel
set_option maxRecDepth 100000 in
theorem d_L_law_615 : decode code 615 = .ok (.iaload, 1) := by decide +kernel
set_option maxRecDepth 100000 in
theorem d_L_law_616 : decode code 616 = .ok (.aload_n 0, 1) := by decide +kernel
set_option maxRecDepth 100000 in
theorem d_L_law_617 : decode code 617 = .ok (.iload 4, 2) := by decide +kernel
set_option maxRecDepth 100000 in
theorem d_L_law_619 : decode code 619 = .ok (.iconst 2, 1) := by decide +kernel
set_option maxRecDepth 100000 in
theorem d_L_law_620 : decode code 620 = .ok (.iadd, 1) := by decide +kernel
set_option maxRecDepth 100000 in
theorem d_L_law_621 : decode code 621 = .ok (.iaload, 1) := by decide +kernel
set_option maxRecDepth 100000 in
theorem d_L_law_622 : decode code 622 = .ok (.aload_n 0, 1) := by decide +kernel
set_option maxRecDepth 100000 in
theorem d_L_law_623 : decode code 623 = .ok (.iload 4, 2) := by decide +kernel
set_option maxRecDepth 100000 in
theorem d_L_law_625 : decode code 625 = .ok (.iconst 3, 1) := by decide +kernel
set_option maxRecDepth 100000 in
theorem d_L_law_626 : decode code 626 = .ok (.iadd, 1) := by decide +kernel
set_option maxRecDepth 100000 in
theorem d_L_law_627 : decode code 627 = .ok (.iaload, 1) := by decide +kernel
set_option maxRecDepth 100000 in
theorem d_L_law_628 : decode code 628 = .ok (.invokevirtual 90, 3) := by decide +kernel
set_option maxRecDepth 100000 in
theorem d_L_law_631 : decode code 631 = .ok (.if_icmp .eq 153, 3) := by decide +kernel
set_option maxRecDepth 100000 in
theorem d_L_law_634 : decode code 634 = .ok (.iconst 0, 1) := by decide +kernel
set_option maxRecDepth 100000 in
theorem d_L_law_635 : decode code 635 = .ok (.ireturn, 1) := by decide +kernel
set_option maxRecDepth 100000 in
theorem d_L_law_636 : decode code 636 = .ok (.aload_n 1, 1) := by decide +kernel
set_option maxRecDepth 100000 in
theorem d_L_law_637 : decode code 637 = .ok (.aload_n 0, 1) := by decide +kernel
set_option maxRecDepth 100000 in
theorem d_L_law_638 : decode code 638 = .ok (.iload 4, 2) := by decide +kernel
set_option maxRecDepth 100000 in
theorem d_L_law_640 : decode code 640 = .ok (.iconst 1, 1) := by decide +kernel
set_option maxRecDepth 100000 in
theorem d_L_law_641 : decode code 641 = .ok (.iadd, 1) := by decide +kernel
set_option maxRecDepth 100000 in
theorem d_L_law_642 : decode code 642 = .ok (.iaload, 1) := by decide +kernel
set_option maxRecDepth 100000 in
theorem d_L_law_643 : decode code 643 = .ok (.aload_n 0, 1) := by decide +kernel
set_option maxRecDepth 100000 in
theorem d_L_law_644 : decode code 644 = .ok (.iload 4, 2) := by decide +kernel
set_option maxRecDepth 100000 in
theorem d_L_law_646 : decode code 646 = .ok (.iconst 2, 1) := by decide +kernel
set_option maxRecDepth 100000 in
theorem d_L_law_647 : decode code 647 = .ok (.iadd, 1) := by decide +kernel
set_option maxRecDepth 100000 in
theorem d_L_law_648 : decode code 648 = .ok (.iaload, 1) := by decide +kernel
set_option maxRecDepth 100000 in
theorem d_L_law_649 : decode code 649 = .ok (.invokevirtual 91, 3) := by decide +kernel
set_option maxRecDepth 100000 in
theorem d_L_law_652 : decode code 652 = .ok (.aload_n 2, 1) := by decide +kernel
set_option maxRecDepth 100000 in
theorem d_L_law_653 : decode code 653 = .ok (.aload_n 0, 1) := by decide +kernel
set_option maxRecDepth 100000 in
theorem d_L_law_654 : decode code 654 = .ok (.iload 4, 2) := by decide +kernel
set_option maxRecDepth 100000 in
theorem d_L_law_656 : decode code 656 = .ok (.iconst 1, 1) := by decide +kernel
set_option maxRecDepth 100000 in
theorem d_L_law_657 : decode code 657 = .ok (.iadd, 1) := by decide +kernel
set_option maxRecDepth 100000 in
theorem d_L_law_658 : decode code 658 = .ok (.iaload, 1) := by decide +kernel
set_option maxRecDepth 100000 in
theorem d_L_law_659 : decode code 659 = .ok (.aload_n 0, 1) := by decide +kernel
set_option maxRecDepth 100000 in
theorem d_L_law_660 : decode code 660 = .ok (.iload 4, 2) := by decide +kernel
set_option maxRecDepth 100000 in
theorem d_L_law_662 : decode code 662 = .ok (.iconst 2, 1) := by decide +kernel
set_option maxRecDepth 100000 in
theorem d_L_law_663 : decode code 663 = .ok (.iadd, 1) := by decide +kernel
set_option maxRecDepth 100000 in
theorem d_L_law_664 : decode code 664 = .ok (.iaload, 1) := by decide +kernel
set_option maxRecDepth 100000 in
theorem d_L_law_665 : decode code 665 = .ok (.invokevirtual 94, 3) := by decide +kernel
set_option maxRecDepth 100000 in
theorem d_L_law_668 : decode code 668 = .ok (.if_icmp .eq 116, 3) := by decide +kernel
set_option maxRecDepth 100000 in
theorem d_L_law_671 : decode code 671 = .ok (.iconst 0, 1) := by decide +kernel
set_option maxRecDepth 100000 in
theorem d_L_law_672 : decode code 672 = .ok (.ireturn, 1) := by decide +kernel
set_option maxRecDepth 100000 in
theorem d_L_law_673 : decode code 673 = .ok (.aload_n 1, 1) := by decide +kernel
set_option maxRecDepth 100000 in
theorem d_L_law_674 : decode code 674 = .ok (.aload_n 0, 1) := by decide +kernel
set_option maxRecDepth 100000 in
theorem d_L_law_675 : decode code 675 = .ok (.iload 4, 2) := by decide +kernel
set_option maxRecDepth 100000 in
theorem d_L_law_677 : decode code 677 = .ok (.iconst 1, 1) := by decide +kernel
set_option maxRecDepth 100000 in
theorem d_L_law_678 : decode code 678 = .ok (.iadd, 1) := by decide +kernel
set_option maxRecDepth 100000 in
theorem d_L_law_679 : decode code 679 = .ok (.iaload, 1) := by decide +kernel
set_option maxRecDepth 100000 in
theorem d_L_law_680 : decode code 680 = .ok (.aload_n 0, 1) := by decide +kernel
set_option maxRecDepth 100000 in
theorem d_L_law_681 : decode code 681 = .ok (.iload 4, 2) := by decide +kernel
set_option maxRecDepth 100000 in
theorem d_L_law_683 : decode code 683 = .ok (.iconst 2, 1) := by decide +kernel
set_option maxRecDepth 100000 in
theorem d_L_law_684 : decode code 684 = .ok (.iadd, 1) := by decide +kernel
set_option maxRecDepth 100000 in
theorem d_L_law_685 : decode code 685 = .ok (.iaload, 1) := by decide +kernel
set_option maxRecDepth 100000 in
theorem d_L_law_686 : decode code 686 = .ok (.aload_n 0, 1) := by decide +kernel
set_option maxRecDepth 100000 in
theorem d_L_law_687 : decode code 687 = .ok (.iload 4, 2) := by decide +kernel
set_option maxRecDepth 100000 in
theorem d_L_law_689 : decode code 689 = .ok (.iconst 3, 1) := by decide +kernel
set_option maxRecDepth 100000 in
theorem d_L_law_690 : decode code 690 = .ok (.iadd, 1) := by decide +kernel
set_option maxRecDepth 100000 in
theorem d_L_law_691 : decode code 691 = .ok (.iaload, 1) := by decide +kernel
set_option maxRecDepth 100000 in
theorem d_L_law_692 : decode code 692 = .ok (.invokevirtual 95, 3) := by decide +kernel
set_option maxRecDepth 100000 in
theorem d_L_law_695 : decode code 695 = .ok (.aload_n 2, 1) := by decide +kernel
set_option maxRecDepth 100000 in
theorem d_L_law_696 : decode code 696 = .ok (.aload_n 0, 1) := by decide +kernel
set_option maxRecDepth 100000 in
theorem d_L_law_697 : decode code 697 = .ok (.iload 4, 2) := by decide +kernel
set_option maxRecDepth 100000 in
theorem d_L_law_699 : decode code 699 = .ok (.iconst 1, 1) := by decide +kernel
set_option maxRecDepth 100000 in
theorem d_L_law_700 : decode code 700 = .ok (.iadd, 1) := by decide +kernel
set_option maxRecDepth 100000 in
theorem d_L_law_701 : decode code 701 = .ok (.iaload, 1) := by decide +kernel
set_option maxRecDepth 100000 in
theorem d_L_law_702 : decode code 702 = .ok (.aload_n 0, 1) := by decide +kernel
set_option maxRecDepth 100000 in
theorem d_L_law_703 : decode code 703 = .ok (.iload 4, 2) := by decide +kernel
set_option maxRecDepth 100000 in
theorem d_L_law_705 : decode code 705 = .ok (.iconst 2, 1) := by decide +kernel
set_option maxRecDepth 100000 in
theorem d_L_law_706 : decode code 706 = .ok (.iadd, 1) := by decide +kernel
set_option maxRecDepth 100000 in
theorem d_L_law_707 : decode code 707 = .ok (.iaload, 1) := by decide +kernel
set_option maxRecDepth 100000 in
theorem d_L_law_708 : decode code 708 = .ok (.aload_n 0, 1) := by decide +kernel
set_option maxRecDepth 100000 in
theorem d_L_law_709 : decode code 709 = .ok (.iload 4, 2) := by decide +kernel
set_option maxRecDepth 100000 in
theorem d_L_law_711 : decode code 711 = .ok (.iconst 3, 1) := by decide +kernel
set_option maxRecDepth 100000 in
theorem d_L_law_712 : decode code 712 = .ok (.iadd, 1) := by decide +kernel
set_option maxRecDepth 100000 in
theorem d_L_law_713 : decode code 713 = .ok (.iaload, 1) := by decide +kernel
set_option maxRecDepth 100000 in
theorem d_L_law_714 : decode code 714 = .ok (.invokevirtual 98, 3) := by decide +kernel
set_option maxRecDepth 100000 in
theorem d_L_law_717 : decode code 717 = .ok (.if_icmp .eq 67, 3) := by decide +kernel
set_option maxRecDepth 100000 in
theorem d_L_law_720 : decode code 720 = .ok (.iconst 0, 1) := by decide +kernel
set_option maxRecDepth 100000 in
theorem d_L_law_721 : decode code 721 = .ok (.ireturn, 1) := by decide +kernel
set_option maxRecDepth 100000 in
theorem d_L_law_722 : decode code 722 = .ok (.aload_n 1, 1) := by decide +kernel
set_option maxRecDepth 100000 in
theorem d_L_law_723 : decode code 723 = .ok (.aload_n 0, 1) := by decide +kernel
set_option maxRecDepth 100000 in
theorem d_L_law_724 : decode code 724 = .ok (.iload 4, 2) := by decide +kernel
set_option maxRecDepth 100000 in
theorem d_L_law_726 : decode code 726 = .ok (.iconst 1, 1) := by decide +kernel
set_option maxRecDepth 100000 in
theorem d_L_law_727 : decode code 727 = .ok (.iadd, 1) := by decide +kernel
set_option maxRecDepth 100000 in
theorem d_L_law_728 : decode code 728 = .ok (.iaload, 1) := by decide +kernel
set_option maxRecDepth 100000 in
theorem d_L_law_729 : decode code 729 = .ok (.invokevirtual 99, 3) := by decide +kernel
set_option maxRecDepth 100000 in
theorem d_L_law_732 : decode code 732 = .ok (.aload_n 2, 1) := by decide +kernel
set_option maxRecDepth 100000 in
theorem d_L_law_733 : decode code 733 = .ok (.aload_n 0, 1) := by decide +kernel
set_option maxRecDepth 100000 in
theorem d_L_law_734 : decode code 734 = .ok (.iload 4, 2) := by decide +kernel
set_option maxRecDepth 100000 in
theorem d_L_law_736 : decode code 736 = .ok (.iconst 1, 1) := by decide +kernel
set_option maxRecDepth 100000 in
theorem d_L_law_737 : decode code 737 = .ok (.iadd, 1) := by decide +kernel
set_option maxRecDepth 100000 in
theorem d_L_law_738 : decode code 738 = .ok (.iaload, 1) := by decide +kernel
set_option maxRecDepth 100000 in
theorem d_L_law_739 : decode code 739 = .ok (.invokevirtual 102, 3) := by decide +kernel
set_option maxRecDepth 100000 in
theorem d_L_law_742 : decode code 742 = .ok (.if_icmp .eq 42, 3) := by decide +kernel
set_option maxRecDepth 100000 in
theorem d_L_law_745 : decode code 745 = .ok (.iconst 0, 1) := by decide +kernel
set_option maxRecDepth 100000 in
theorem d_L_law_746 : decode code 746 = .ok (.ireturn, 1) := by decide +kernel
set_option maxRecDepth 100000 in
theorem d_L_law_747 : decode code 747 = .ok (.aload_n 1, 1) := by decide +kernel
set_option maxRecDepth 100000 in
theorem d_L_law_748 : decode code 748 = .ok (.aload_n 0, 1) := by decide +kernel
set_option maxRecDepth 100000 in
theorem d_L_law_749 : decode code 749 = .ok (.iload 4, 2) := by decide +kernel
set_option maxRecDepth 100000 in
theorem d_L_law_751 : decode code 751 = .ok (.iconst 1, 1) := by decide +kernel
set_option maxRecDepth 100000 in
theorem d_L_law_752 : decode code 752 = .ok (.iadd, 1) := by decide +kernel
set_option maxRecDepth 100000 in
theorem d_L_law_753 : decode code 753 = .ok (.iaload, 1) := by decide +kernel
set_option maxRecDepth 100000 in
theorem d_L_law_754 : decode code 754 = .ok (.aload_n 0, 1) := by decide +kernel
set_option maxRecDepth 100000 in
theorem d_L_law_755 : decode code 755 = .ok (.iload 4, 2) := by decide +kernel
set_option maxRecDepth 100000 in
theorem d_L_law_757 : decode code 757 = .ok (.iconst 2, 1) := by decide +kernel
set_option maxRecDepth 100000 in
theorem d_L_law_758 : decode code 758 = .ok (.iadd, 1) := by decide +kernel
set_option maxRecDepth 100000 in
theorem d_L_law_759 : decode code 759 = .ok (.iaload, 1) := by decide +kernel
set_option maxRecDepth 100000 in
theorem d_L_law_760 : decode code 760 = .ok (.invokevirtual 103, 3) := by decide +kernel
set_option maxRecDepth 100000 in
theorem d_L_law_763 : decode code 763 = .ok (.aload_n 2, 1) := by decide +kernel
set_option maxRecDepth 100000 in
theorem d_L_law_764 : decode code 764 = .ok (.aload_n 0, 1) := by decide +kernel
set_option maxRecDepth 100000 in
theorem d_L_law_765 : decode code 765 = .ok (.iload 4, 2) := by decide +kernel
set_option maxRecDepth 100000 in
theorem d_L_law_767 : decode code 767 = .ok (.iconst 1, 1) := by decide +kernel
set_option maxRecDepth 100000 in
theorem d_L_law_768 : decode code 768 = .ok (.iadd, 1) := by decide +kernel
set_option maxRecDepth 100000 in
theorem d_L_law_769 : decode code 769 = .ok (.iaload, 1) := by decide +kernel
set_option maxRecDepth 100000 in
theorem d_L_law_770 : decode code 770 = .ok (.aload_n 0, 1) := by decide +kernel
set_option maxRecDepth 100000 in
theorem d_L_law_771 : decode code 771 = .ok (.iload 4, 2) := by decide +kernel
set_option maxRecDepth 100000 in
theorem d_L_law_773 : decode code 773 = .ok (.iconst 2, 1) := by decide +kernel
set_option maxRecDepth 100000 in
theorem d_L_law_774 : decode code 774 = .ok (.iadd, 1) := by decide +kernel
set_option maxRecDepth 100000 in
theorem d_L_law_775 : decode code 775 = .ok (.iaload, 1) := by decide +kernel
set_option maxRecDepth 100000 in
theorem d_L_law_776 : decode code 776 = .ok (.invokevirtual 106, 3) := by decide +kernel
set_option maxRecDepth 100000 in
theorem d_L_law_779 : decode code 779 = .ok (.if_icmp .eq 5, 3) := by decide +kernel
set_option maxRecDepth 100000 in
theorem d_L_law_782 : decode code 782 = .ok (.iconst 0, 1) := by decide +kernel
set_option maxRecDepth 100000 in
theorem d_L_law_783 : decode code 783 = .ok (.ireturn, 1) := by decide +kernel
set_option maxRecDepth 100000 in
theorem d_L_law_784 : decode code 784 = .ok (.iinc 4 6, 3) := by decide +kernel
set_option maxRecDepth 100000 in
theorem d_L_law_787 : decode code 787 = .ok (.goto (-764), 3) := by decide +kernel
set_option maxRecDepth 100000 in
theorem d_L_law_790 : decode code 790 = .ok (.iconst 1, 1) := by decide +kernel
set_option maxRecDepth 100000 in
theorem d_L_law_791 : decode code 791 = .ok (.ireturn, 1) := by decide +kernel
set_option maxRecDepth 100000 in
theorem li_M_feed : Cond.instanceMethod y_M_feed ∈ wd_tbl := wd_of 2627 (by decide +kernel) rfl
set_option maxRecDepth 100000 in
theorem ls_M_feed : Cond.selects R_M y_M_feed y_M_feed ∈ wd_tbl := wd_of 2628 (by decide +kernel) rfl
theorem ld_M_feed : y_M_feed.cls = R_M ∧ y_M_feed.cls ≠ "java/lang/invoke/MethodHandle" ∧ y_M_feed.cls ≠ "java/lang/invoke/VarHandle" ∧ (parseMethodDescriptor y_M_feed.desc).map (fun d => d.parameters.length) = some 5 := by decide +kernel
set_option maxRecDepth 100000 in
theorem li_M_back : Cond.instanceMethod y_M_back ∈ wd_tbl := wd_of 2631 (by decide +kernel) rfl
set_option maxRecDepth 100000 in
theorem ls_M_back : Cond.selects R_M y_M_back y_M_back ∈ wd_tbl := wd_of 2632 (by decide +kernel) rfl
theorem ld_M_back : y_M_back.cls = R_M ∧ y_M_back.cls ≠ "java/lang/invoke/MethodHandle" ∧ y_M_back.cls ≠ "java/lang/invoke/VarHandle" ∧ (parseMethodDescriptor y_M_back.desc).map (fun d => d.parameters.length) = some 1 := by decide +kernel
set_option maxRecDepth 100000 in
theorem li_M_read : Cond.instanceMethod y_M_read ∈ wd_tbl := wd_of 2635 (by decide +kernel) rfl
set_option maxRecDepth 100000 in
theorem ls_M_read : Cond.selects R_M y_M_read y_M_read ∈ wd_tbl := wd_of 2636 (by decide +kernel) rfl
theorem ld_M_read : y_M_read.cls = R_M ∧ y_M_read.cls ≠ "java/lang/invoke/MethodHandle" ∧ y_M_read.cls ≠ "java/lang/invoke/VarHandle" ∧ (parseMethodDescriptor y_M_read.desc).map (fun d => d.parameters.length) = some 0 := by decide +kernel
set_option maxRecDepth 100000 in
theorem li_M_count : Cond.instanceMethod y_M_count ∈ wd_tbl := wd_of 3261 (by decide +kernel) rfl
set_option maxRecDepth 100000 in
theorem ls_M_count : Cond.selects R_M y_M_count y_M_count ∈ wd_tbl := wd_of 3262 (by decide +kernel) rfl
theorem ld_M_count : y_M_count.cls = R_M ∧ y_M_count.cls ≠ "java/lang/invoke/MethodHandle" ∧ y_M_count.cls ≠ "java/lang/invoke/VarHandle" ∧ (parseMethodDescriptor y_M_count.desc).map (fun d => d.parameters.length) = some 1 := by decide +kernel
set_option maxRecDepth 100000 in
theorem li_M_function1 : Cond.instanceMethod y_M_function1 ∈ wd_tbl := wd_of 2893 (by decide +kernel) rfl
set_option maxRecDepth 100000 in
theorem ls_M_function1 : Cond.selects R_M y_M_function1 y_M_function1 ∈ wd_tbl := wd_of 2894 (by decide +kernel) rfl
theorem ld_M_function1 : y_M_function1.cls = R_M ∧ y_M_function1.cls ≠ "java/lang/invoke/MethodHandle" ∧ y_M_function1.cls ≠ "java/lang/invoke/VarHandle" ∧ (parseMethodDescriptor y_M_function1.desc).map (fun d => d.parameters.length) = some 2 := by decide +kernel
set_option maxRecDepth 100000 in
theorem li_M_letter : Cond.instanceMethod y_M_letter ∈ wd_tbl := wd_of 2897 (by decide +kernel) rfl
set_option maxRecDepth 100000 in
theorem ls_M_letter : Cond.selects R_M y_M_letter y_M_letter ∈ wd_tbl := wd_of 2898 (by decide +kernel) rfl
theorem ld_M_letter : y_M_letter.cls = R_M ∧ y_M_letter.cls ≠ "java/lang/invoke/MethodHandle" ∧ y_M_letter.cls ≠ "java/lang/invoke/VarHandle" ∧ (parseMethodDescriptor y_M_letter.desc).map (fun d => d.parameters.length) = some 2 := by decide +kernel
set_option maxRecDepth 100000 in
theorem li_M_begin : Cond.instanceMethod y_M_begin ∈ wd_tbl := wd_of 3247 (by decide +kernel) rfl
set_option maxRecDepth 100000 in
theorem ls_M_begin : Cond.selects R_M y_M_begin y_M_begin ∈ wd_tbl := wd_of 3248 (by decide +kernel) rfl
theorem ld_M_begin : y_M_begin.cls = R_M ∧ y_M_begin.cls ≠ "java/lang/invoke/MethodHandle" ∧ y_M_begin.cls ≠ "java/lang/invoke/VarHandle" ∧ (parseMethodDescriptor y_M_begin.desc).map (fun d => d.parameters.length) = some 1 := by decide +kernel
set_option maxRecDepth 100000 in
theorem li_M_go : Cond.instanceMethod y_M_go ∈ wd_tbl := wd_of 2901 (by decide +kernel) rfl
set_option maxRecDepth 100000 in
theorem ls_M_go : Cond.selects R_M y_M_go y_M_go ∈ wd_tbl := wd_of 2902 (by decide +kernel) rfl
theorem ld_M_go : y_M_go.cls = R_M ∧ y_M_go.cls ≠ "java/lang/invoke/MethodHandle" ∧ y_M_go.cls ≠ "java/lang/invoke/VarHandle" ∧ (parseMethodDescriptor y_M_go.desc).map (fun d => d.parameters.length) = some 2 := by decide +kernel
set_option maxRecDepth 100000 in
theorem li_M_clock : Cond.instanceMethod y_M_clock ∈ wd_tbl := wd_of 3251 (by decide +kernel) rfl
set_option maxRecDepth 100000 in
theorem ls_M_clock : Cond.selects R_M y_M_clock y_M_clock ∈ wd_tbl := wd_of 3252 (by decide +kernel) rfl
theorem ld_M_clock : y_M_clock.cls = R_M ∧ y_M_clock.cls ≠ "java/lang/invoke/MethodHandle" ∧ y_M_clock.cls ≠ "java/lang/invoke/VarHandle" ∧ (parseMethodDescriptor y_M_clock.desc).map (fun d => d.parameters.length) = some 1 := by decide +kernel
set_option maxRecDepth 100000 in
theorem li_M_send : Cond.instanceMethod y_M_send ∈ wd_tbl := wd_of 3257 (by decide +kernel) rfl
set_option maxRecDepth 100000 in
theorem ls_M_send : Cond.selects R_M y_M_send y_M_send ∈ wd_tbl := wd_of 3258 (by decide +kernel) rfl
theorem ld_M_send : y_M_send.cls = R_M ∧ y_M_send.cls ≠ "java/lang/invoke/MethodHandle" ∧ y_M_send.cls ≠ "java/lang/invoke/VarHandle" ∧ (parseMethodDescriptor y_M_send.desc).map (fun d => d.parameters.length) = some 3 := by decide +kernel
set_option maxRecDepth 100000 in
theorem li_M_process : Cond.instanceMethod y_M_process ∈ wd_tbl := wd_of 3265 (by decide +kernel) rfl
set_option maxRecDepth 100000 in
theorem ls_M_process : Cond.selects R_M y_M_process y_M_process ∈ wd_tbl := wd_of 3266 (by decide +kernel) rfl
theorem ld_M_process : y_M_process.cls = R_M ∧ y_M_process.cls ≠ "java/lang/invoke/MethodHandle" ∧ y_M_process.cls ≠ "java/lang/invoke/VarHandle" ∧ (parseMethodDescriptor y_M_process.desc).map (fun d => d.parameters.length) = some 2 := by decide +kernel
set_option maxRecDepth 100000 in
theorem li_M_frame1 : Cond.instanceMethod y_M_frame1 ∈ wd_tbl := wd_of 3270 (by decide +kernel) rfl
set_option maxRecDepth 100000 in
theorem ls_M_frame1 : Cond.selects R_M y_M_frame1 y_M_frame1 ∈ wd_tbl := wd_of 3271 (by decide +kernel) rfl
theorem ld_M_frame1 : y_M_frame1.cls = R_M ∧ y_M_frame1.cls ≠ "java/lang/invoke/MethodHandle" ∧ y_M_frame1.cls ≠ "java/lang/invoke/VarHandle" ∧ (parseMethodDescriptor y_M_frame1.desc).map (fun d => d.parameters.length) = some 3 := by decide +kernel
set_option maxRecDepth 100000 in
theorem li_M_link : Cond.instanceMethod y_M_link ∈ wd_tbl := wd_of 3274 (by decide +kernel) rfl
set_option maxRecDepth 100000 in
theorem ls_M_link : Cond.selects R_M y_M_link y_M_link ∈ wd_tbl := wd_of 3275 (by decide +kernel) rfl
theorem ld_M_link : y_M_link.cls = R_M ∧ y_M_link.cls ≠ "java/lang/invoke/MethodHandle" ∧ y_M_link.cls ≠ "java/lang/invoke/VarHandle" ∧ (parseMethodDescriptor y_M_link.desc).map (fun d => d.parameters.length) = some 2 := by decide +kernel
set_option maxRecDepth 100000 in
theorem li_M_show : Cond.instanceMethod y_M_show ∈ wd_tbl := wd_of 3278 (by decide +kernel) rfl
set_option maxRecDepth 100000 in
theorem ls_M_show : Cond.selects R_M y_M_show y_M_show ∈ wd_tbl := wd_of 3279 (by decide +kernel) rfl
theorem ld_M_show : y_M_show.cls = R_M ∧ y_M_show.cls ≠ "java/lang/invoke/MethodHandle" ∧ y_M_show.cls ≠ "java/lang/invoke/VarHandle" ∧ (parseMethodDescriptor y_M_show.desc).map (fun d => d.parameters.length) = some 3 := by decide +kernel
set_option maxRecDepth 100000 in
theorem li_M_shown : Cond.instanceMethod y_M_shown ∈ wd_tbl := wd_of 3282 (by decide +kernel) rfl
set_option maxRecDepth 100000 in
theorem ls_M_shown : Cond.selects R_M y_M_shown y_M_shown ∈ wd_tbl := wd_of 3283 (by decide +kernel) rfl
theorem ld_M_shown : y_M_shown.cls = R_M ∧ y_M_shown.cls ≠ "java/lang/invoke/MethodHandle" ∧ y_M_shown.cls ≠ "java/lang/invoke/VarHandle" ∧ (parseMethodDescriptor y_M_shown.desc).map (fun d => d.parameters.length) = some 1 := by decide +kernel
set_option maxRecDepth 100000 in
theorem li_M_printed : Cond.instanceMethod y_M_printed ∈ wd_tbl := wd_of 3286 (by decide +kernel) rfl
set_option maxRecDepth 100000 in
theorem ls_M_printed : Cond.selects R_M y_M_printed y_M_printed ∈ wd_tbl := wd_of 3287 (by decide +kernel) rfl
theorem ld_M_printed : y_M_printed.cls = R_M ∧ y_M_printed.cls ≠ "java/lang/invoke/MethodHandle" ∧ y_M_printed.cls ≠ "java/lang/invoke/VarHandle" ∧ (parseMethodDescriptor y_M_printed.desc).map (fun d => d.parameters.length) = some 2 := by decide +kernel
set_option maxRecDepth 100000 in
theorem li_M_thrown : Cond.instanceMethod y_M_thrown ∈ wd_tbl := wd_of 2623 (by decide +kernel) rfl
set_option maxRecDepth 100000 in
theorem ls_M_thrown : Cond.selects R_M y_M_thrown y_M_thrown ∈ wd_tbl := wd_of 2624 (by decide +kernel) rfl
theorem ld_M_thrown : y_M_thrown.cls = R_M ∧ y_M_thrown.cls ≠ "java/lang/invoke/MethodHandle" ∧ y_M_thrown.cls ≠ "java/lang/invoke/VarHandle" ∧ (parseMethodDescriptor y_M_thrown.desc).map (fun d => d.parameters.length) = some 0 := by decide +kernel
set_option maxRecDepth 100000 in
set_option maxHeartbeats 4000000 in
theorem lc_0 {p : Program} {l : Launch} {e : Env} {s : State} {m : MethodId} {args : Array Value} {below : List Frame} {meth : Method} {c : Code} {Q : State → Prop} {b0 L b k ce sl N : Nat} {xs : Nat → Int32} {D : va_G} {cB cI cJ cZ cS cP : ClassId} {A : Nat → Prop} {sk sv : Nat → Nat} {u u2 : CS} {uM uM2 : MS} (C0 : XCx p s s b0 m args meth c R_L code 7 (some .boolean) D cB cI cJ cZ cS cP A) (hE : ENV s b0 sk sv) (hL : l.stackTraces = false) (hNC : NCs s) (hX : va_X b L xs s s.heap) (hbl : b < s.heap.size) (hbA : ¬ A b) (hk : 6 * k + 6 ≤ L) (hLm : L ≤ 3072) (hi : isO u 0 1 = true) (hce : ce ≤ 600002 ∧ sl ≤ 7302232) {r : Int32} (h1 : fm_H_feed N u 0 (xs (6 * k + 1)) (xs (6 * k + 2)) (xs (6 * k + 3)) (xs (6 * k + 4)) (xs (6 * k + 5)) = some (u2, r)) (h2 : fm_M_feed N uM (xs (6 * k + 1)) (xs (6 * k + 2)) (xs (6 * k + 3)) (xs (6 * k + 4)) (xs (6 * k + 5)) = some (uM2, r)) (kk : LG p l e s m args below meth c Q D cB cI cJ cZ cS cP A b 784 (Int32.ofNat (6 * k)) u2 uM2 ce sl) : LG p l e s m args below meth c Q D cB cI cJ cZ cS cP A b 120 (Int32.ofNat (6 * k)) u uM ce sl := by
  intro ad adM h0 o f H locs ls hP hD hS hl
  obtain ⟨hx, hb, hr, hml, ht, hown, hK, hA, hlocks, hA0, hO, hbs⟩ := id C0
  refine lv_aload_n hx hb d_L_law_120 rfl (lv_at hl 1 rfl) ?_
  refine lv_aload_n hx hb d_L_law_121 rfl (lv_at hl 0 rfl) ?_
  refine lv_iload hx hb d_L_law_122 (lv_at hl 4 rfl) ?_
  refine lv_iconst (v := 1) hx hb d_L_law_124 (by decide) ?_
  refine lv_iadd hx hb d_L_law_125 ?_
  refine va_sld hx hb hX hbl hbA hS (ix_1 hk hLm).2 d_L_law_126 ?_
  rw [(ix_1 hk hLm).1]
  refine lv_aload_n hx hb d_L_law_127 rfl (lv_at hl 0 rfl) ?_
  refine lv_iload hx hb d_L_law_128 (lv_at hl 4 rfl) ?_
  refine lv_iconst (v := 2) hx hb d_L_law_130 (by decide) ?_
  refine lv_iadd hx hb d_L_law_131 ?_
  refine va_sld hx hb hX hbl hbA hS (ix_2 hk hLm).2 d_L_law_132 ?_
  rw [(ix_2 hk hLm).1]
  refine lv_aload_n hx hb d_L_law_133 rfl (lv_at hl 0 rfl) ?_
  refine lv_iload hx hb d_L_law_134 (lv_at hl 4 rfl) ?_
  refine lv_iconst (v := 3) hx hb d_L_law_136 (by decide) ?_
  refine lv_iadd hx hb d_L_law_137 ?_
  refine va_sld hx hb hX hbl hbA hS (ix_3 hk hLm).2 d_L_law_138 ?_
  rw [(ix_3 hk hLm).1]
  refine lv_aload_n hx hb d_L_law_139 rfl (lv_at hl 0 rfl) ?_
  refine lv_iload hx hb d_L_law_140 (lv_at hl 4 rfl) ?_
  refine lv_iconst (v := 4) hx hb d_L_law_142 (by decide) ?_
  refine lv_iadd hx hb d_L_law_143 ?_
  refine va_sld hx hb hX hbl hbA hS (ix_4 hk hLm).2 d_L_law_144 ?_
  rw [(ix_4 hk hLm).1]
  refine lv_aload_n hx hb d_L_law_145 rfl (lv_at hl 0 rfl) ?_
  refine lv_iload hx hb d_L_law_146 (lv_at hl 4 rfl) ?_
  refine lv_iconst (v := 5) hx hb d_L_law_148 (by decide) ?_
  refine lv_iadd hx hb d_L_law_149 ?_
  refine va_sld hx hb hX hbl hbA hS (ix_5 hk hLm).2 d_L_law_150 ?_
  rw [(ix_5 hk hLm).1]
  refine L_V0 (i := 0) (As := [.int (xs (6 * k + 1)), .int (xs (6 * k + 2)), .int (xs (6 * k + 3)), .int (xs (6 * k + 4)), .int (xs (6 * k + 5))]) (rest := []) C0 hP hD hS ck_H hi (c_H_feed N h1) k_H_feed (wd_of 803 (by decide +kernel) rfl) hi_H_feed hs_H_feed hini_H rfl rfl hd_H_feed rfl ⟨(Nat.le_of_ble_eq_true rfl), (Nat.le_of_ble_eq_true rfl)⟩ hl.1 (Nat.le_of_ble_eq_true rfl) d_L_law_151 rfl ⟨(by show ce + 0 ≤ 600002; omega), (by show sl + 0 ≤ 7302232; omega)⟩ (fun H locs hP hD hS => ?_)
  refine lv_aload_n hx hb d_L_law_154 rfl (lv_at hl 2 rfl) ?_
  refine lv_aload_n hx hb d_L_law_155 rfl (lv_at hl 0 rfl) ?_
  refine lv_iload hx hb d_L_law_156 (lv_at hl 4 rfl) ?_
  refine lv_iconst (v := 1) hx hb d_L_law_158 (by decide) ?_
  refine lv_iadd hx hb d_L_law_159 ?_
  refine va_sld hx hb hX hbl hbA hS (ix_1 hk hLm).2 d_L_law_160 ?_
  rw [(ix_1 hk hLm).1]
  refine lv_aload_n hx hb d_L_law_161 rfl (lv_at hl 0 rfl) ?_
  refine lv_iload hx hb d_L_law_162 (lv_at hl 4 rfl) ?_
  refine lv_iconst (v := 2) hx hb d_L_law_164 (by decide) ?_
  refine lv_iadd hx hb d_L_law_165 ?_
  refine va_sld hx hb hX hbl hbA hS (ix_2 hk hLm).2 d_L_law_166 ?_
  rw [(ix_2 hk hLm).1]
  refine lv_aload_n hx hb d_L_law_167 rfl (lv_at hl 0 rfl) ?_
  refine lv_iload hx hb d_L_law_168 (lv_at hl 4 rfl) ?_
  refine lv_iconst (v := 3) hx hb d_L_law_170 (by decide) ?_
  refine lv_iadd hx hb d_L_law_171 ?_
  refine va_sld hx hb hX hbl hbA hS (ix_3 hk hLm).2 d_L_law_172 ?_
  rw [(ix_3 hk hLm).1]
  refine lv_aload_n hx hb d_L_law_173 rfl (lv_at hl 0 rfl) ?_
  refine lv_iload hx hb d_L_law_174 (lv_at hl 4 rfl) ?_
  refine lv_iconst (v := 4) hx hb d_L_law_176 (by decide) ?_
  refine lv_iadd hx hb d_L_law_177 ?_
  refine va_sld hx hb hX hbl hbA hS (ix_4 hk hLm).2 d_L_law_178 ?_
  rw [(ix_4 hk hLm).1]
  refine lv_aload_n hx hb d_L_law_179 rfl (lv_at hl 0 rfl) ?_
  refine lv_iload hx hb d_L_law_180 (lv_at hl 4 rfl) ?_
  refine lv_iconst (v := 5) hx hb d_L_law_182 (by decide) ?_
  refine lv_iadd hx hb d_L_law_183 ?_
  refine va_sld hx hb hX hbl hbA hS (ix_5 hk hLm).2 d_L_law_184 ?_
  rw [(ix_5 hk hLm).1]
  refine L_Mi (As := [.int (xs (6 * k + 1)), .int (xs (6 * k + 2)), .int (xs (6 * k + 3)), .int (xs (6 * k + 4)), .int (xs (6 * k + 5))]) (rest := [.int r]) C0 (wP_perm pm_1 hP) (wD_perm pm_1 hD) hS (c_M_feed N rfl h2) k_M_feed (wd_of 2626 (by decide +kernel) rfl) li_M_feed ls_M_feed hini_M rfl rfl ld_M_feed rfl ⟨(Nat.le_of_ble_eq_true rfl), (Nat.le_of_ble_eq_true rfl)⟩ hl.1 (Nat.le_of_ble_eq_true rfl) d_L_law_185 rfl ⟨(by show ce + 0 ≤ 600002; omega), (by show sl + 0 ≤ 7302232; omega)⟩ (fun H locs hP hD hS => ?_)
  have hP := wP_perm pm_2 hP
  have hD := wD_perm pm_2 hD
  refine lv_icmp_eq (tgt := 784) hx hb d_L_law_188 (by decide) (fun hc => ?_) (fun hc => absurd rfl hc)
  exact kk ad adM h0 o f H locs ls hP hD hS hl
set_option maxRecDepth 100000 in
set_option maxHeartbeats 4000000 in
theorem lc_1 {p : Program} {l : Launch} {e : Env} {s : State} {m : MethodId} {args : Array Value} {below : List Frame} {meth : Method} {c : Code} {Q : State → Prop} {b0 L b k ce sl N : Nat} {xs : Nat → Int32} {D : va_G} {cB cI cJ cZ cS cP : ClassId} {A : Nat → Prop} {sk sv : Nat → Nat} {u u2 : CS} {uM uM2 : MS} (C0 : XCx p s s b0 m args meth c R_L code 7 (some .boolean) D cB cI cJ cZ cS cP A) (hE : ENV s b0 sk sv) (hL : l.stackTraces = false) (hNC : NCs s) (hX : va_X b L xs s s.heap) (hbl : b < s.heap.size) (hbA : ¬ A b) (hk : 6 * k + 6 ≤ L) (hLm : L ≤ 3072) (hi : isO u 0 1 = true) (hce : ce ≤ 600002 ∧ sl ≤ 7302232) {r : Int32} (h1 : fm_H_back N u 0 (xs (6 * k + 1)) = some (u2, r)) (h2 : fm_M_back N uM (xs (6 * k + 1)) = some (uM2, r)) (kk : LG p l e s m args below meth c Q D cB cI cJ cZ cS cP A b 784 (Int32.ofNat (6 * k)) u2 uM2 ce sl) : LG p l e s m args below meth c Q D cB cI cJ cZ cS cP A b 193 (Int32.ofNat (6 * k)) u uM ce sl := by
  intro ad adM h0 o f H locs ls hP hD hS hl
  obtain ⟨hx, hb, hr, hml, ht, hown, hK, hA, hlocks, hA0, hO, hbs⟩ := id C0
  refine lv_aload_n hx hb d_L_law_193 rfl (lv_at hl 1 rfl) ?_
  refine lv_aload_n hx hb d_L_law_194 rfl (lv_at hl 0 rfl) ?_
  refine lv_iload hx hb d_L_law_195 (lv_at hl 4 rfl) ?_
  refine lv_iconst (v := 1) hx hb d_L_law_197 (by decide) ?_
  refine lv_iadd hx hb d_L_law_198 ?_
  refine va_sld hx hb hX hbl hbA hS (ix_1 hk hLm).2 d_L_law_199 ?_
  rw [(ix_1 hk hLm).1]
  refine L_V0 (i := 0) (As := [.int (xs (6 * k + 1))]) (rest := []) C0 hP hD hS ck_H hi (c_H_back N h1) k_H_back (wd_of 811 (by decide +kernel) rfl) hi_H_back hs_H_back hini_H rfl rfl hd_H_back rfl ⟨(Nat.le_of_ble_eq_true rfl), (Nat.le_of_ble_eq_true rfl)⟩ hl.1 (Nat.le_of_ble_eq_true rfl) d_L_law_200 rfl ⟨(by show ce + 0 ≤ 600002; omega), (by show sl + 0 ≤ 7302232; omega)⟩ (fun H locs hP hD hS => ?_)
  refine lv_aload_n hx hb d_L_law_203 rfl (lv_at hl 2 rfl) ?_
  refine lv_aload_n hx hb d_L_law_204 rfl (lv_at hl 0 rfl) ?_
  refine lv_iload hx hb d_L_law_205 (lv_at hl 4 rfl) ?_
  refine lv_iconst (v := 1) hx hb d_L_law_207 (by decide) ?_
  refine lv_iadd hx hb d_L_law_208 ?_
  refine va_sld hx hb hX hbl hbA hS (ix_1 hk hLm).2 d_L_law_209 ?_
  rw [(ix_1 hk hLm).1]
  refine L_Mi (As := [.int (xs (6 * k + 1))]) (rest := [.int r]) C0 (wP_perm pm_1 hP) (wD_perm pm_1 hD) hS (c_M_back N rfl h2) k_M_back (wd_of 2630 (by decide +kernel) rfl) li_M_back ls_M_back hini_M rfl rfl ld_M_back rfl ⟨(Nat.le_of_ble_eq_true rfl), (Nat.le_of_ble_eq_true rfl)⟩ hl.1 (Nat.le_of_ble_eq_true rfl) d_L_law_210 rfl ⟨(by show ce + 0 ≤ 600002; omega), (by show sl + 0 ≤ 7302232; omega)⟩ (fun H locs hP hD hS => ?_)
  have hP := wP_perm pm_2 hP
  have hD := wD_perm pm_2 hD
  refine lv_icmp_eq (tgt := 784) hx hb d_L_law_213 (by decide) (fun hc => ?_) (fun hc => absurd rfl hc)
  exact kk ad adM h0 o f H locs ls hP hD hS hl
set_option maxRecDepth 100000 in
set_option maxHeartbeats 4000000 in
theorem lc_2 {p : Program} {l : Launch} {e : Env} {s : State} {m : MethodId} {args : Array Value} {below : List Frame} {meth : Method} {c : Code} {Q : State → Prop} {b0 L b k ce sl N : Nat} {xs : Nat → Int32} {D : va_G} {cB cI cJ cZ cS cP : ClassId} {A : Nat → Prop} {sk sv : Nat → Nat} {u u2 : CS} {uM uM2 : MS} (C0 : XCx p s s b0 m args meth c R_L code 7 (some .boolean) D cB cI cJ cZ cS cP A) (hE : ENV s b0 sk sv) (hL : l.stackTraces = false) (hNC : NCs s) (hX : va_X b L xs s s.heap) (hbl : b < s.heap.size) (hbA : ¬ A b) (hk : 6 * k + 6 ≤ L) (hLm : L ≤ 3072) (hi : isO u 0 1 = true) (hce : ce ≤ 600002 ∧ sl ≤ 7302232) (hce2 : ce + 1 ≤ 600002 ∧ sl + 6 ≤ 7302232) {r : Int32} (h1 : fm_H_read N u 0 = some (u2, r)) (h2 : fm_M_read N uM = some (uM2, r)) (kk : LG p l e s m args below meth c Q D cB cI cJ cZ cS cP A b 784 (Int32.ofNat (6 * k)) u2 uM2 (ce + 1) (sl + 6)) : LG p l e s m args below meth c Q D cB cI cJ cZ cS cP A b 218 (Int32.ofNat (6 * k)) u uM ce sl := by
  intro ad adM h0 o f H locs ls hP hD hS hl
  obtain ⟨hx, hb, hr, hml, ht, hown, hK, hA, hlocks, hA0, hO, hbs⟩ := id C0
  refine lv_aload_n hx hb d_L_law_218 rfl (lv_at hl 1 rfl) ?_
  refine L_V0 (i := 0) (As := []) (rest := []) C0 hP hD hS ck_H hi (c_H_read N hE hL h1) k_H_read (wd_of 815 (by decide +kernel) rfl) hi_H_read hs_H_read hini_H rfl rfl hd_H_read rfl ⟨(Nat.le_of_ble_eq_true rfl), (Nat.le_of_ble_eq_true rfl)⟩ hl.1 (Nat.le_of_ble_eq_true rfl) d_L_law_219 rfl ⟨(by show ce + 1 ≤ 600002; omega), (by show sl + 6 ≤ 7302232; omega)⟩ (fun H locs hP hD hS => ?_)
  refine lv_aload_n hx hb d_L_law_222 rfl (lv_at hl 2 rfl) ?_
  refine L_Mi (As := []) (rest := [.int r]) C0 (wP_perm pm_1 hP) (wD_perm pm_1 hD) hS (c_M_read N rfl h2) k_M_read (wd_of 2634 (by decide +kernel) rfl) li_M_read ls_M_read hini_M rfl rfl ld_M_read rfl ⟨(Nat.le_of_ble_eq_true rfl), (Nat.le_of_ble_eq_true rfl)⟩ hl.1 (Nat.le_of_ble_eq_true rfl) d_L_law_223 rfl ⟨(by show ce + 1 + 0 ≤ 600002; omega), (by show sl + 6 + 0 ≤ 7302232; omega)⟩ (fun H locs hP hD hS => ?_)
  have hP := wP_perm pm_2 hP
  have hD := wD_perm pm_2 hD
  refine lv_icmp_eq (tgt := 784) hx hb d_L_law_226 (by decide) (fun hc => ?_) (fun hc => absurd rfl hc)
  exact kk ad adM h0 o f H locs ls hP hD hS hl
set_option maxRecDepth 100000 in
set_option maxHeartbeats 4000000 in
theorem lc_3 {p : Program} {l : Launch} {e : Env} {s : State} {m : MethodId} {args : Array Value} {below : List Frame} {meth : Method} {c : Code} {Q : State → Prop} {b0 L b k ce sl N : Nat} {xs : Nat → Int32} {D : va_G} {cB cI cJ cZ cS cP : ClassId} {A : Nat → Prop} {sk sv : Nat → Nat} {u u2 : CS} {uM uM2 : MS} (C0 : XCx p s s b0 m args meth c R_L code 7 (some .boolean) D cB cI cJ cZ cS cP A) (hE : ENV s b0 sk sv) (hL : l.stackTraces = false) (hNC : NCs s) (hX : va_X b L xs s s.heap) (hbl : b < s.heap.size) (hbA : ¬ A b) (hk : 6 * k + 6 ≤ L) (hLm : L ≤ 3072) (hi : isO u 0 1 = true) (hce : ce ≤ 600002 ∧ sl ≤ 7302232) {r : Int32} (h1 : fm_H_count N u 0 (xs (6 * k + 1)) = some (u2, r)) (h2 : fm_M_count N uM (xs (6 * k + 1)) = some (uM2, r)) (kk : LG p l e s m args below meth c Q D cB cI cJ cZ cS cP A b 784 (Int32.ofNat (6 * k)) u2 uM2 ce sl) : LG p l e s m args below meth c Q D cB cI cJ cZ cS cP A b 231 (Int32.ofNat (6 * k)) u uM ce sl := by
  intro ad adM h0 o f H locs ls hP hD hS hl
  obtain ⟨hx, hb, hr, hml, ht, hown, hK, hA, hlocks, hA0, hO, hbs⟩ := id C0
  refine lv_aload_n hx hb d_L_law_231 rfl (lv_at hl 1 rfl) ?_
  refine lv_aload_n hx hb d_L_law_232 rfl (lv_at hl 0 rfl) ?_
  refine lv_iload hx hb d_L_law_233 (lv_at hl 4 rfl) ?_
  refine lv_iconst (v := 1) hx hb d_L_law_235 (by decide) ?_
  refine lv_iadd hx hb d_L_law_236 ?_
  refine va_sld hx hb hX hbl hbA hS (ix_1 hk hLm).2 d_L_law_237 ?_
  rw [(ix_1 hk hLm).1]
  refine L_V0 (i := 0) (As := [.int (xs (6 * k + 1))]) (rest := []) C0 hP hD hS ck_H hi (c_H_count N h1) k_H_count (wd_of 1272 (by decide +kernel) rfl) hi_H_count hs_H_count hini_H rfl rfl hd_H_count rfl ⟨(Nat.le_of_ble_eq_true rfl), (Nat.le_of_ble_eq_true rfl)⟩ hl.1 (Nat.le_of_ble_eq_true rfl) d_L_law_238 rfl ⟨(by show ce + 0 ≤ 600002; omega), (by show sl + 0 ≤ 7302232; omega)⟩ (fun H locs hP hD hS => ?_)
  refine lv_aload_n hx hb d_L_law_241 rfl (lv_at hl 2 rfl) ?_
  refine lv_aload_n hx hb d_L_law_242 rfl (lv_at hl 0 rfl) ?_
  refine lv_iload hx hb d_L_law_243 (lv_at hl 4 rfl) ?_
  refine lv_iconst (v := 1) hx hb d_L_law_245 (by decide) ?_
  refine lv_iadd hx hb d_L_law_246 ?_
  refine va_sld hx hb hX hbl hbA hS (ix_1 hk hLm).2 d_L_law_247 ?_
  rw [(ix_1 hk hLm).1]
  refine L_Mi (As := [.int (xs (6 * k + 1))]) (rest := [.int r]) C0 (wP_perm pm_1 hP) (wD_perm pm_1 hD) hS (c_M_count N rfl h2) k_M_count (wd_of 3260 (by decide +kernel) rfl) li_M_count ls_M_count hini_M rfl rfl ld_M_count rfl ⟨(Nat.le_of_ble_eq_true rfl), (Nat.le_of_ble_eq_true rfl)⟩ hl.1 (Nat.le_of_ble_eq_true rfl) d_L_law_248 rfl ⟨(by show ce + 0 ≤ 600002; omega), (by show sl + 0 ≤ 7302232; omega)⟩ (fun H locs hP hD hS => ?_)
  have hP := wP_perm pm_2 hP
  have hD := wD_perm pm_2 hD
  refine lv_icmp_eq (tgt := 784) hx hb d_L_law_251 (by decide) (fun hc => ?_) (fun hc => absurd rfl hc)
  exact kk ad adM h0 o f H locs ls hP hD hS hl
set_option maxRecDepth 100000 in
set_option maxHeartbeats 4000000 in
theorem lc_4 {p : Program} {l : Launch} {e : Env} {s : State} {m : MethodId} {args : Array Value} {below : List Frame} {meth : Method} {c : Code} {Q : State → Prop} {b0 L b k ce sl N : Nat} {xs : Nat → Int32} {D : va_G} {cB cI cJ cZ cS cP : ClassId} {A : Nat → Prop} {sk sv : Nat → Nat} {u u2 : CS} {uM uM2 : MS} (C0 : XCx p s s b0 m args meth c R_L code 7 (some .boolean) D cB cI cJ cZ cS cP A) (hE : ENV s b0 sk sv) (hL : l.stackTraces = false) (hNC : NCs s) (hX : va_X b L xs s s.heap) (hbl : b < s.heap.size) (hbA : ¬ A b) (hk : 6 * k + 6 ≤ L) (hLm : L ≤ 3072) (hi : isO u 0 1 = true) (hce : ce ≤ 600002 ∧ sl ≤ 7302232) {r : Int32} (h1 : fm_H_function N u 0 (xs (6 * k + 1)) (xs (6 * k + 2)) = some (u2, r)) (h2 : fm_M_function1 N uM (xs (6 * k + 1)) (xs (6 * k + 2)) = some (uM2, r)) (kk : LG p l e s m args below meth c Q D cB cI cJ cZ cS cP A b 784 (Int32.ofNat (6 * k)) u2 uM2 ce sl) : LG p l e s m args below meth c Q D cB cI cJ cZ cS cP A b 256 (Int32.ofNat (6 * k)) u uM ce sl := by
  intro ad adM h0 o f H locs ls hP hD hS hl
  obtain ⟨hx, hb, hr, hml, ht, hown, hK, hA, hlocks, hA0, hO, hbs⟩ := id C0
  refine lv_aload_n hx hb d_L_law_256 rfl (lv_at hl 1 rfl) ?_
  refine lv_aload_n hx hb d_L_law_257 rfl (lv_at hl 0 rfl) ?_
  refine lv_iload hx hb d_L_law_258 (lv_at hl 4 rfl) ?_
  refine lv_iconst (v := 1) hx hb d_L_law_260 (by decide) ?_
  refine lv_iadd hx hb d_L_law_261 ?_
  refine va_sld hx hb hX hbl hbA hS (ix_1 hk hLm).2 d_L_law_262 ?_
  rw [(ix_1 hk hLm).1]
  refine lv_aload_n hx hb d_L_law_263 rfl (lv_at hl 0 rfl) ?_
  refine lv_iload hx hb d_L_law_264 (lv_at hl 4 rfl) ?_
  refine lv_iconst (v := 2) hx hb d_L_law_266 (by decide) ?_
  refine lv_iadd hx hb d_L_law_267 ?_
  refine va_sld hx hb hX hbl hbA hS (ix_2 hk hLm).2 d_L_law_268 ?_
  rw [(ix_2 hk hLm).1]
  refine L_V0 (i := 0) (As := [.int (xs (6 * k + 1)), .int (xs (6 * k + 2))]) (rest := []) C0 hP hD hS ck_H hi (c_H_function N h1) k_H_function (wd_of 1276 (by decide +kernel) rfl) hi_H_function hs_H_function hini_H rfl rfl hd_H_function rfl ⟨(Nat.le_of_ble_eq_true rfl), (Nat.le_of_ble_eq_true rfl)⟩ hl.1 (Nat.le_of_ble_eq_true rfl) d_L_law_269 rfl ⟨(by show ce + 0 ≤ 600002; omega), (by show sl + 0 ≤ 7302232; omega)⟩ (fun H locs hP hD hS => ?_)
  refine lv_aload_n hx hb d_L_law_272 rfl (lv_at hl 2 rfl) ?_
  refine lv_aload_n hx hb d_L_law_273 rfl (lv_at hl 0 rfl) ?_
  refine lv_iload hx hb d_L_law_274 (lv_at hl 4 rfl) ?_
  refine lv_iconst (v := 1) hx hb d_L_law_276 (by decide) ?_
  refine lv_iadd hx hb d_L_law_277 ?_
  refine va_sld hx hb hX hbl hbA hS (ix_1 hk hLm).2 d_L_law_278 ?_
  rw [(ix_1 hk hLm).1]
  refine lv_aload_n hx hb d_L_law_279 rfl (lv_at hl 0 rfl) ?_
  refine lv_iload hx hb d_L_law_280 (lv_at hl 4 rfl) ?_
  refine lv_iconst (v := 2) hx hb d_L_law_282 (by decide) ?_
  refine lv_iadd hx hb d_L_law_283 ?_
  refine va_sld hx hb hX hbl hbA hS (ix_2 hk hLm).2 d_L_law_284 ?_
  rw [(ix_2 hk hLm).1]
  refine L_Mi (As := [.int (xs (6 * k + 1)), .int (xs (6 * k + 2))]) (rest := [.int r]) C0 (wP_perm pm_1 hP) (wD_perm pm_1 hD) hS (c_M_function1 N rfl h2) k_M_function1 (wd_of 2892 (by decide +kernel) rfl) li_M_function1 ls_M_function1 hini_M rfl rfl ld_M_function1 rfl ⟨(Nat.le_of_ble_eq_true rfl), (Nat.le_of_ble_eq_true rfl)⟩ hl.1 (Nat.le_of_ble_eq_true rfl) d_L_law_285 rfl ⟨(by show ce + 0 ≤ 600002; omega), (by show sl + 0 ≤ 7302232; omega)⟩ (fun H locs hP hD hS => ?_)
  have hP := wP_perm pm_2 hP
  have hD := wD_perm pm_2 hD
  refine lv_icmp_eq (tgt := 784) hx hb d_L_law_288 (by decide) (fun hc => ?_) (fun hc => absurd rfl hc)
  exact kk ad adM h0 o f H locs ls hP hD hS hl
set_option maxRecDepth 100000 in
set_option maxHeartbeats 4000000 in
theorem lc_5 {p : Program} {l : Launch} {e : Env} {s : State} {m : MethodId} {args : Array Value} {below : List Frame} {meth : Method} {c : Code} {Q : State → Prop} {b0 L b k ce sl N : Nat} {xs : Nat → Int32} {D : va_G} {cB cI cJ cZ cS cP : ClassId} {A : Nat → Prop} {sk sv : Nat → Nat} {u u2 : CS} {uM uM2 : MS} (C0 : XCx p s s b0 m args meth c R_L code 7 (some .boolean) D cB cI cJ cZ cS cP A) (hE : ENV s b0 sk sv) (hL : l.stackTraces = false) (hNC : NCs s) (hX : va_X b L xs s s.heap) (hbl : b < s.heap.size) (hbA : ¬ A b) (hk : 6 * k + 6 ≤ L) (hLm : L ≤ 3072) (hi : isO u 0 1 = true) (hce : ce ≤ 600002 ∧ sl ≤ 7302232) {r : Int32} (h1 : fm_H_letter N u 0 (xs (6 * k + 1)) (xs (6 * k + 2)) = some (u2, r)) (h2 : fm_M_letter N uM (xs (6 * k + 1)) (xs (6 * k + 2)) = some (uM2, r)) (kk : LG p l e s m args below meth c Q D cB cI cJ cZ cS cP A b 784 (Int32.ofNat (6 * k)) u2 uM2 ce sl) : LG p l e s m args below meth c Q D cB cI cJ cZ cS cP A b 293 (Int32.ofNat (6 * k)) u uM ce sl := by
  intro ad adM h0 o f H locs ls hP hD hS hl
  obtain ⟨hx, hb, hr, hml, ht, hown, hK, hA, hlocks, hA0, hO, hbs⟩ := id C0
  refine lv_aload_n hx hb d_L_law_293 rfl (lv_at hl 1 rfl) ?_
  refine lv_aload_n hx hb d_L_law_294 rfl (lv_at hl 0 rfl) ?_
  refine lv_iload hx hb d_L_law_295 (lv_at hl 4 rfl) ?_
  refine lv_iconst (v := 1) hx hb d_L_law_297 (by decide) ?_
  refine lv_iadd hx hb d_L_law_298 ?_
  refine va_sld hx hb hX hbl hbA hS (ix_1 hk hLm).2 d_L_law_299 ?_
  rw [(ix_1 hk hLm).1]
  refine lv_aload_n hx hb d_L_law_300 rfl (lv_at hl 0 rfl) ?_
  refine lv_iload hx hb d_L_law_301 (lv_at hl 4 rfl) ?_
  refine lv_iconst (v := 2) hx hb d_L_law_303 (by decide) ?_
  refine lv_iadd hx hb d_L_law_304 ?_
  refine va_sld hx hb hX hbl hbA hS (ix_2 hk hLm).2 d_L_law_305 ?_
  rw [(ix_2 hk hLm).1]
  refine L_V0 (i := 0) (As := [.int (xs (6 * k + 1)), .int (xs (6 * k + 2))]) (rest := []) C0 hP hD hS ck_H hi (c_H_letter N h1) k_H_letter (wd_of 1284 (by decide +kernel) rfl) hi_H_letter hs_H_letter hini_H rfl rfl hd_H_letter rfl ⟨(Nat.le_of_ble_eq_true rfl), (Nat.le_of_ble_eq_true rfl)⟩ hl.1 (Nat.le_of_ble_eq_true rfl) d_L_law_306 rfl ⟨(by show ce + 0 ≤ 600002; omega), (by show sl + 0 ≤ 7302232; omega)⟩ (fun H locs hP hD hS => ?_)
  refine lv_aload_n hx hb d_L_law_309 rfl (lv_at hl 2 rfl) ?_
  refine lv_aload_n hx hb d_L_law_310 rfl (lv_at hl 0 rfl) ?_
  refine lv_iload hx hb d_L_law_311 (lv_at hl 4 rfl) ?_
  refine lv_iconst (v := 1) hx hb d_L_law_313 (by decide) ?_
  refine lv_iadd hx hb d_L_law_314 ?_
  refine va_sld hx hb hX hbl hbA hS (ix_1 hk hLm).2 d_L_law_315 ?_
  rw [(ix_1 hk hLm).1]
  refine lv_aload_n hx hb d_L_law_316 rfl (lv_at hl 0 rfl) ?_
  refine lv_iload hx hb d_L_law_317 (lv_at hl 4 rfl) ?_
  refine lv_iconst (v := 2) hx hb d_L_law_319 (by decide) ?_
  refine lv_iadd hx hb d_L_law_320 ?_
  refine va_sld hx hb hX hbl hbA hS (ix_2 hk hLm).2 d_L_law_321 ?_
  rw [(ix_2 hk hLm).1]
  refine L_Mi (As := [.int (xs (6 * k + 1)), .int (xs (6 * k + 2))]) (rest := [.int r]) C0 (wP_perm pm_1 hP) (wD_perm pm_1 hD) hS (c_M_letter N rfl h2) k_M_letter (wd_of 2896 (by decide +kernel) rfl) li_M_letter ls_M_letter hini_M rfl rfl ld_M_letter rfl ⟨(Nat.le_of_ble_eq_true rfl), (Nat.le_of_ble_eq_true rfl)⟩ hl.1 (Nat.le_of_ble_eq_true rfl) d_L_law_322 rfl ⟨(by show ce + 0 ≤ 600002; omega), (by show sl + 0 ≤ 7302232; omega)⟩ (fun H locs hP hD hS => ?_)
  have hP := wP_perm pm_2 hP
  have hD := wD_perm pm_2 hD
  refine lv_icmp_eq (tgt := 784) hx hb d_L_law_325 (by decide) (fun hc => ?_) (fun hc => absurd rfl hc)
  exact kk ad adM h0 o f H locs ls hP hD hS hl
set_option maxRecDepth 100000 in
set_option maxHeartbeats 4000000 in
theorem lc_6 {p : Program} {l : Launch} {e : Env} {s : State} {m : MethodId} {args : Array Value} {below : List Frame} {meth : Method} {c : Code} {Q : State → Prop} {b0 L b k ce sl N : Nat} {xs : Nat → Int32} {D : va_G} {cB cI cJ cZ cS cP : ClassId} {A : Nat → Prop} {sk sv : Nat → Nat} {u u2 : CS} {uM uM2 : MS} (C0 : XCx p s s b0 m args meth c R_L code 7 (some .boolean) D cB cI cJ cZ cS cP A) (hE : ENV s b0 sk sv) (hL : l.stackTraces = false) (hNC : NCs s) (hX : va_X b L xs s s.heap) (hbl : b < s.heap.size) (hbA : ¬ A b) (hk : 6 * k + 6 ≤ L) (hLm : L ≤ 3072) (hi : isO u 0 1 = true) (hce : ce ≤ 600002 ∧ sl ≤ 7302232) {mc ms : Nat} {uM1 : MS} {z : Unit ⊕ Nat} (hce2 : ce + mc ≤ 600002 ∧ sl + ms ≤ 7302232) (h1 : fm_H_begin N u 0 (xs (6 * k + 1)) = some (u2, z)) (hok : ok_L_begin z = true) (hm : u.1.1 + mc = u2.1.1 + tc z ∧ u.1.2 + ms = u2.1.2 + tsl z) (h2 : fm_M_begin N uM (xs (6 * k + 1)) = some (uM1, ())) (h3 : fm_M_thrown N uM1 = some (uM2, cd_L_begin z)) (kk : LG p l e s m args below meth c Q D cB cI cJ cZ cS cP A b 784 (Int32.ofNat (6 * k)) u2 uM2 (ce + mc) (sl + ms)) : LG p l e s m args below meth c Q D cB cI cJ cZ cS cP A b 330 (Int32.ofNat (6 * k)) u uM ce sl := by
  intro ad adM h0 o f H locs ls hP hD hS hl
  obtain ⟨hx, hb, hr, hml, ht, hown, hK, hA, hlocks, hA0, hO, hbs⟩ := id C0
  obtain ⟨fH, hpos, -⟩ := isO_some hi
  refine lv_aload_n hx hb d_L_law_330 rfl (lv_at hl 1 rfl) ?_
  refine lv_aload_n hx hb d_L_law_331 rfl (lv_at hl 0 rfl) ?_
  refine lv_iload hx hb d_L_law_332 (lv_at hl 4 rfl) ?_
  refine lv_iconst (v := 1) hx hb d_L_law_334 (by decide) ?_
  refine lv_iadd hx hb d_L_law_335 ?_
  refine va_sld hx hb hX hbl hbA hS (ix_1 hk hLm).2 d_L_law_336 ?_
  rw [(ix_1 hk hLm).1]
  refine L_S (As := [.ref (ad 0), .int (xs (6 * k + 1))]) (rest := []) C0 (by rw [List.append_assoc]; exact hP) (by rw [List.append_assoc]; exact hD) hS (c_L_begin N hE hL hNC hi h1 hok hm) k_L_begin (wd_of 1397 (by decide +kernel) rfl) ht_L_begin hini_L rfl rfl hd_L_begin.2 rfl ⟨(Nat.le_of_ble_eq_true rfl), (Nat.le_of_ble_eq_true rfl)⟩ hl.1 (Nat.le_of_ble_eq_true rfl) d_L_law_337 rfl ⟨hce2.1, hce2.2⟩ (fun ad2 H locs hag hP hD hS => ?_)
  rw [List.append_assoc] at hP hD
  have e9 : ad2 0 = ad 0 := hag 0 hpos
  have hl : lv_has ls 7 [(0, .ref b), (1, .ref (ad2 0)), (2, .ref h0), (3, .ref o), (4, .int (Int32.ofNat (6 * k)))] := by rw [e9]; exact hl
  refine lv_istore (lv' := [(5, .int (cd_L_begin z)), (0, .ref b), (1, .ref (ad2 0)), (2, .ref h0), (3, .ref o), (4, .int (Int32.ofNat (6 * k)))]) hx hb d_L_law_340 hl (by decide) (by rfl) (fun ls hl => ?_)
  refine lv_aload_n hx hb d_L_law_342 rfl (lv_at hl 3 rfl) ?_
  refine lv_aload_n hx hb d_L_law_343 rfl (lv_at hl 1 rfl) ?_
  refine lv_iload hx hb d_L_law_344 (lv_at hl 5 rfl) ?_
  refine lv_iconst (v := 1) hx hb d_L_law_346 (by decide) ?_
  refine lv_iadd hx hb d_L_law_347 ?_
  refine va_sld hx hb hX hbl hbA hS (ix_1 hk hLm).2 d_L_law_348 ?_
  rw [(ix_1 hk hLm).1]
  refine L_Mv (As := [.int (xs (6 * k + 1))]) (rest := []) C0 (wP_perm pm_1 hP) (wD_perm pm_1 hD) hS (c_M_begin N rfl h2) k_M_begin (wd_of 3246 (by decide +kernel) rfl) li_M_begin ls_M_begin hini_M rfl rfl ld_M_begin rfl ⟨(Nat.le_of_ble_eq_true rfl), (Nat.le_of_ble_eq_true rfl)⟩ hl.1 (Nat.le_of_ble_eq_true rfl) d_L_law_349 rfl ⟨(by show (ce + mc) + 0 ≤ 600002; omega), (by show (sl + ms) + 0 ≤ 7302232; omega)⟩ (fun H locs hP hD hS => ?_)
  have hP := wP_perm pm_2 hP
  have hD := wD_perm pm_2 hD
  refine lv_aload_n hx hb d_L_law_352 rfl (lv_at hl 3 rfl) ?_
  refine L_Mi (As := []) (rest := []) C0 (wP_perm pm_1 hP) (wD_perm pm_1 hD) hS (c_M_thrown N rfl h3) k_M_thrown (wd_of 2622 (by decide +kernel) rfl) li_M_thrown ls_M_thrown hini_M rfl rfl ld_M_thrown rfl ⟨(Nat.le_of_ble_eq_true rfl), (Nat.le_of_ble_eq_true rfl)⟩ hl.1 (Nat.le_of_ble_eq_true rfl) d_L_law_353 rfl ⟨(by show (ce + mc) + 0 ≤ 600002; omega), (by show (sl + ms) + 0 ≤ 7302232; omega)⟩ (fun H locs hP hD hS => ?_)
  have hP := wP_perm pm_2 hP
  have hD := wD_perm pm_2 hD
  refine lv_iload hx hb d_L_law_356 (lv_at hl 0 rfl) ?_
  refine lv_icmp_eq (tgt := 363) hx hb d_L_law_358 (by decide) (fun hc => ?_) (fun hc => absurd rfl hc)
  refine lv_goto (tgt := 784) hx hb d_L_law_363 (by decide) ?_
  exact kk ad2 adM h0 o f H locs ls hP hD hS (lv_sub hl [1, 2, 3, 4, 5] rfl)
set_option maxRecDepth 100000 in
set_option maxHeartbeats 4000000 in
theorem lc_7 {p : Program} {l : Launch} {e : Env} {s : State} {m : MethodId} {args : Array Value} {below : List Frame} {meth : Method} {c : Code} {Q : State → Prop} {b0 L b k ce sl N : Nat} {xs : Nat → Int32} {D : va_G} {cB cI cJ cZ cS cP : ClassId} {A : Nat → Prop} {sk sv : Nat → Nat} {u u2 : CS} {uM uM2 : MS} (C0 : XCx p s s b0 m args meth c R_L code 7 (some .boolean) D cB cI cJ cZ cS cP A) (hE : ENV s b0 sk sv) (hL : l.stackTraces = false) (hNC : NCs s) (hX : va_X b L xs s s.heap) (hbl : b < s.heap.size) (hbA : ¬ A b) (hk : 6 * k + 6 ≤ L) (hLm : L ≤ 3072) (hi : isO u 0 1 = true) (hce : ce ≤ 600002 ∧ sl ≤ 7302232) {mc ms : Nat} {uM1 : MS} {z : Int32 ⊕ Nat} {r9 : Int32} (hce2 : ce + mc ≤ 600002 ∧ sl + ms ≤ 7302232) (h1 : fm_H_go N u 0 (xs (6 * k + 1)) (xs (6 * k + 2)) = some (u2, z)) (hok : ok_L_go z = true) (hm : u.1.1 + mc = u2.1.1 + tc z ∧ u.1.2 + ms = u2.1.2 + tsl z) (h2 : fm_M_go N uM (xs (6 * k + 1)) (xs (6 * k + 2)) = some (uM1, r9)) (h3 : fm_M_thrown N uM1 = some (uM2, cd_L_go z)) (h4 : ∀ f : Nat → Int64, cd_L_go z = 0 → outF z f 0 = r9.toInt64) (kk : LG p l e s m args below meth c Q D cB cI cJ cZ cS cP A b 784 (Int32.ofNat (6 * k)) u2 uM2 (ce + mc) (sl + ms)) : LG p l e s m args below meth c Q D cB cI cJ cZ cS cP A b 366 (Int32.ofNat (6 * k)) u uM ce sl := by
  intro ad adM h0 o f H locs ls hP hD hS hl
  obtain ⟨hx, hb, hr, hml, ht, hown, hK, hA, hlocks, hA0, hO, hbs⟩ := id C0
  obtain ⟨fH, hpos, -⟩ := isO_some hi
  refine lv_aload_n hx hb d_L_law_366 rfl (lv_at hl 1 rfl) ?_
  refine lv_aload_n hx hb d_L_law_367 rfl (lv_at hl 0 rfl) ?_
  refine lv_iload hx hb d_L_law_368 (lv_at hl 4 rfl) ?_
  refine lv_iconst (v := 1) hx hb d_L_law_370 (by decide) ?_
  refine lv_iadd hx hb d_L_law_371 ?_
  refine va_sld hx hb hX hbl hbA hS (ix_1 hk hLm).2 d_L_law_372 ?_
  rw [(ix_1 hk hLm).1]
  refine lv_aload_n hx hb d_L_law_373 rfl (lv_at hl 0 rfl) ?_
  refine lv_iload hx hb d_L_law_374 (lv_at hl 4 rfl) ?_
  refine lv_iconst (v := 2) hx hb d_L_law_376 (by decide) ?_
  refine lv_iadd hx hb d_L_law_377 ?_
  refine va_sld hx hb hX hbl hbA hS (ix_2 hk hLm).2 d_L_law_378 ?_
  rw [(ix_2 hk hLm).1]
  refine lv_aload_n hx hb d_L_law_379 rfl (lv_at hl 3 rfl) ?_
  refine L_S (As := [.ref (ad 0), .int (xs (6 * k + 1)), .int (xs (6 * k + 2)), .ref o]) (rest := []) C0 (by rw [List.append_assoc]; exact hP) (by rw [List.append_assoc]; exact hD) hS (c_L_go N hE hL hNC hi h1 hok hm) k_L_go (wd_of 1625 (by decide +kernel) rfl) ht_L_go hini_L rfl rfl hd_L_go.2 rfl ⟨(Nat.le_of_ble_eq_true rfl), (Nat.le_of_ble_eq_true rfl)⟩ hl.1 (Nat.le_of_ble_eq_true rfl) d_L_law_380 rfl ⟨hce2.1, hce2.2⟩ (fun ad2 H locs hag hP hD hS => ?_)
  rw [List.append_assoc] at hP hD
  have e9 : ad2 0 = ad 0 := hag 0 hpos
  have hl : lv_has ls 7 [(0, .ref b), (1, .ref (ad2 0)), (2, .ref h0), (3, .ref o), (4, .int (Int32.ofNat (6 * k)))] := by rw [e9]; exact hl
  refine lv_istore (lv' := [(5, .int (cd_L_go z)), (0, .ref b), (1, .ref (ad2 0)), (2, .ref h0), (3, .ref o), (4, .int (Int32.ofNat (6 * k)))]) hx hb d_L_law_383 hl (by decide) (by rfl) (fun ls hl => ?_)
  refine lv_aload_n hx hb d_L_law_385 rfl (lv_at hl 3 rfl) ?_
  refine lv_aload_n hx hb d_L_law_386 rfl (lv_at hl 1 rfl) ?_
  refine lv_iload hx hb d_L_law_387 (lv_at hl 5 rfl) ?_
  refine lv_iconst (v := 1) hx hb d_L_law_389 (by decide) ?_
  refine lv_iadd hx hb d_L_law_390 ?_
  refine va_sld hx hb hX hbl hbA hS (ix_1 hk hLm).2 d_L_law_391 ?_
  rw [(ix_1 hk hLm).1]
  refine lv_aload_n hx hb d_L_law_392 rfl (lv_at hl 1 rfl) ?_
  refine lv_iload hx hb d_L_law_393 (lv_at hl 5 rfl) ?_
  refine lv_iconst (v := 2) hx hb d_L_law_395 (by decide) ?_
  refine lv_iadd hx hb d_L_law_396 ?_
  refine va_sld hx hb hX hbl hbA hS (ix_2 hk hLm).2 d_L_law_397 ?_
  rw [(ix_2 hk hLm).1]
  refine L_Mi (As := [.int (xs (6 * k + 1)), .int (xs (6 * k + 2))]) (rest := []) C0 (wP_perm pm_1 hP) (wD_perm pm_1 hD) hS (c_M_go N rfl h2) k_M_go (wd_of 2900 (by decide +kernel) rfl) li_M_go ls_M_go hini_M rfl rfl ld_M_go rfl ⟨(Nat.le_of_ble_eq_true rfl), (Nat.le_of_ble_eq_true rfl)⟩ hl.1 (Nat.le_of_ble_eq_true rfl) d_L_law_398 rfl ⟨(by show (ce + mc) + 0 ≤ 600002; omega), (by show (sl + ms) + 0 ≤ 7302232; omega)⟩ (fun H locs hP hD hS => ?_)
  have hP := wP_perm pm_2 hP
  have hD := wD_perm pm_2 hD
  refine lv_istore (lv' := [(6, .int r9), (5, .int (cd_L_go z)), (0, .ref b), (1, .ref (ad2 0)), (2, .ref h0), (3, .ref o), (4, .int (Int32.ofNat (6 * k)))]) hx hb d_L_law_401 hl (by decide) (by rfl) (fun ls hl => ?_)
  refine lv_aload_n hx hb d_L_law_403 rfl (lv_at hl 4 rfl) ?_
  refine L_Mi (As := []) (rest := []) C0 (wP_perm pm_1 hP) (wD_perm pm_1 hD) hS (c_M_thrown N rfl h3) k_M_thrown (wd_of 2622 (by decide +kernel) rfl) li_M_thrown ls_M_thrown hini_M rfl rfl ld_M_thrown rfl ⟨(Nat.le_of_ble_eq_true rfl), (Nat.le_of_ble_eq_true rfl)⟩ hl.1 (Nat.le_of_ble_eq_true rfl) d_L_law_404 rfl ⟨(by show (ce + mc) + 0 ≤ 600002; omega), (by show (sl + ms) + 0 ≤ 7302232; omega)⟩ (fun H locs hP hD hS => ?_)
  have hP := wP_perm pm_2 hP
  have hD := wD_perm pm_2 hD
  refine lv_iload hx hb d_L_law_407 (lv_at hl 1 rfl) ?_
  refine lv_icmp_eq (tgt := 414) hx hb d_L_law_409 (by decide) (fun hc => ?_) (fun hc => absurd rfl hc)
  refine lv_iload hx hb d_L_law_414 (lv_at hl 1 rfl) ?_
  refine lv_if_ne (tgt := 431) hx hb d_L_law_416 (by decide) (fun hc9 => ?_) (fun hc9 => ?_)
  · refine lv_goto (tgt := 784) hx hb d_L_law_431 (by decide) ?_
    exact kk ad2 adM h0 o (outF z f) H locs ls hP hD hS (lv_sub hl [2, 3, 4, 5, 6] rfl)
  · refine lv_aload_n hx hb d_L_law_419 rfl (lv_at hl 5 rfl) ?_
    refine lv_iconst (v := 0) hx hb d_L_law_420 (by decide) ?_
    refine va_lald hx hb hK (wP_perm pm_3 hP) 0 2 (f := outF z f) rfl rfl (fun h => by rcases h with h | h <;> revert h <;> decide) d_L_law_421 ?_
    refine lv_iload hx hb d_L_law_422 (lv_at hl 0 rfl) ?_
    refine lv_i2l hx hb d_L_law_424 rfl ?_
    refine W.lcmp hx hb d_L_law_425 ?_
    refine lv_if_eq (tgt := 431) hx hb d_L_law_426 (by decide) (fun hd9 => ?_) (fun hd9 => absurd (show lg_cmp (outF z f 0) r9.toInt64 = 0 by rw [h4 f hc9]; exact lgc _) hd9)
    refine lv_goto (tgt := 784) hx hb d_L_law_431 (by decide) ?_
    exact kk ad2 adM h0 o (outF z f) H locs ls hP hD hS (lv_sub hl [2, 3, 4, 5, 6] rfl)
set_option maxRecDepth 100000 in
set_option maxHeartbeats 4000000 in
theorem lc_8 {p : Program} {l : Launch} {e : Env} {s : State} {m : MethodId} {args : Array Value} {below : List Frame} {meth : Method} {c : Code} {Q : State → Prop} {b0 L b k ce sl N : Nat} {xs : Nat → Int32} {D : va_G} {cB cI cJ cZ cS cP : ClassId} {A : Nat → Prop} {sk sv : Nat → Nat} {u u2 : CS} {uM uM2 : MS} (C0 : XCx p s s b0 m args meth c R_L code 7 (some .boolean) D cB cI cJ cZ cS cP A) (hE : ENV s b0 sk sv) (hL : l.stackTraces = false) (hNC : NCs s) (hX : va_X b L xs s s.heap) (hbl : b < s.heap.size) (hbA : ¬ A b) (hk : 6 * k + 6 ≤ L) (hLm : L ≤ 3072) (hi : isO u 0 1 = true) (hce : ce ≤ 600002 ∧ sl ≤ 7302232) {uM1 : MS} {z : Int32 ⊕ Nat} {r9 : Int32} (hce2 : ce + tc z ≤ 600002 ∧ sl + tsl z ≤ 7302232) (h1 : fm_H_clock N u 0 (xs (6 * k + 1)) = some (u2, z)) (hok : ok_L_clock z = true) (h2 : fm_M_clock N uM (xs (6 * k + 1)) = some (uM1, r9)) (h3 : fm_M_thrown N uM1 = some (uM2, cd_L_clock z)) (h4 : ∀ f : Nat → Int64, cd_L_clock z = 0 → outF z f 0 = r9.toInt64) (kk : LG p l e s m args below meth c Q D cB cI cJ cZ cS cP A b 784 (Int32.ofNat (6 * k)) u2 uM2 (ce + tc z) (sl + tsl z)) : LG p l e s m args below meth c Q D cB cI cJ cZ cS cP A b 434 (Int32.ofNat (6 * k)) u uM ce sl := by
  intro ad adM h0 o f H locs ls hP hD hS hl
  obtain ⟨hx, hb, hr, hml, ht, hown, hK, hA, hlocks, hA0, hO, hbs⟩ := id C0
  obtain ⟨fH, hpos, -⟩ := isO_some hi
  refine lv_aload_n hx hb d_L_law_434 rfl (lv_at hl 1 rfl) ?_
  refine lv_aload_n hx hb d_L_law_435 rfl (lv_at hl 0 rfl) ?_
  refine lv_iload hx hb d_L_law_436 (lv_at hl 4 rfl) ?_
  refine lv_iconst (v := 1) hx hb d_L_law_438 (by decide) ?_
  refine lv_iadd hx hb d_L_law_439 ?_
  refine va_sld hx hb hX hbl hbA hS (ix_1 hk hLm).2 d_L_law_440 ?_
  rw [(ix_1 hk hLm).1]
  refine lv_aload_n hx hb d_L_law_441 rfl (lv_at hl 3 rfl) ?_
  refine L_S (As := [.ref (ad 0), .int (xs (6 * k + 1)), .ref o]) (rest := []) C0 (by rw [List.append_assoc]; exact hP) (by rw [List.append_assoc]; exact hD) hS (c_L_clock N hE hL hNC hi h1 hok) k_L_clock (wd_of 2067 (by decide +kernel) rfl) ht_L_clock hini_L rfl rfl hd_L_clock.2 rfl ⟨(Nat.le_of_ble_eq_true rfl), (Nat.le_of_ble_eq_true rfl)⟩ hl.1 (Nat.le_of_ble_eq_true rfl) d_L_law_442 rfl ⟨hce2.1, hce2.2⟩ (fun ad2 H locs hag hP hD hS => ?_)
  rw [List.append_assoc] at hP hD
  have e9 : ad2 0 = ad 0 := hag 0 hpos
  have hl : lv_has ls 7 [(0, .ref b), (1, .ref (ad2 0)), (2, .ref h0), (3, .ref o), (4, .int (Int32.ofNat (6 * k)))] := by rw [e9]; exact hl
  refine lv_istore (lv' := [(5, .int (cd_L_clock z)), (0, .ref b), (1, .ref (ad2 0)), (2, .ref h0), (3, .ref o), (4, .int (Int32.ofNat (6 * k)))]) hx hb d_L_law_445 hl (by decide) (by rfl) (fun ls hl => ?_)
  refine lv_aload_n hx hb d_L_law_447 rfl (lv_at hl 3 rfl) ?_
  refine lv_aload_n hx hb d_L_law_448 rfl (lv_at hl 1 rfl) ?_
  refine lv_iload hx hb d_L_law_449 (lv_at hl 5 rfl) ?_
  refine lv_iconst (v := 1) hx hb d_L_law_451 (by decide) ?_
  refine lv_iadd hx hb d_L_law_452 ?_
  refine va_sld hx hb hX hbl hbA hS (ix_1 hk hLm).2 d_L_law_453 ?_
  rw [(ix_1 hk hLm).1]
  refine L_Mi (As := [.int (xs (6 * k + 1))]) (rest := []) C0 (wP_perm pm_1 hP) (wD_perm pm_1 hD) hS (c_M_clock N rfl h2) k_M_clock (wd_of 3250 (by decide +kernel) rfl) li_M_clock ls_M_clock hini_M rfl rfl ld_M_clock rfl ⟨(Nat.le_of_ble_eq_true rfl), (Nat.le_of_ble_eq_true rfl)⟩ hl.1 (Nat.le_of_ble_eq_true rfl) d_L_law_454 rfl ⟨(by show (ce + tc z) + 0 ≤ 600002; omega), (by show (sl + tsl z) + 0 ≤ 7302232; omega)⟩ (fun H locs hP hD hS => ?_)
  have hP := wP_perm pm_2 hP
  have hD := wD_perm pm_2 hD
  refine lv_istore (lv' := [(6, .int r9), (5, .int (cd_L_clock z)), (0, .ref b), (1, .ref (ad2 0)), (2, .ref h0), (3, .ref o), (4, .int (Int32.ofNat (6 * k)))]) hx hb d_L_law_457 hl (by decide) (by rfl) (fun ls hl => ?_)
  refine lv_aload_n hx hb d_L_law_459 rfl (lv_at hl 4 rfl) ?_
  refine L_Mi (As := []) (rest := []) C0 (wP_perm pm_1 hP) (wD_perm pm_1 hD) hS (c_M_thrown N rfl h3) k_M_thrown (wd_of 2622 (by decide +kernel) rfl) li_M_thrown ls_M_thrown hini_M rfl rfl ld_M_thrown rfl ⟨(Nat.le_of_ble_eq_true rfl), (Nat.le_of_ble_eq_true rfl)⟩ hl.1 (Nat.le_of_ble_eq_true rfl) d_L_law_460 rfl ⟨(by show (ce + tc z) + 0 ≤ 600002; omega), (by show (sl + tsl z) + 0 ≤ 7302232; omega)⟩ (fun H locs hP hD hS => ?_)
  have hP := wP_perm pm_2 hP
  have hD := wD_perm pm_2 hD
  refine lv_iload hx hb d_L_law_463 (lv_at hl 1 rfl) ?_
  refine lv_icmp_eq (tgt := 470) hx hb d_L_law_465 (by decide) (fun hc => ?_) (fun hc => absurd rfl hc)
  refine lv_iload hx hb d_L_law_470 (lv_at hl 1 rfl) ?_
  refine lv_if_ne (tgt := 487) hx hb d_L_law_472 (by decide) (fun hc9 => ?_) (fun hc9 => ?_)
  · refine lv_goto (tgt := 784) hx hb d_L_law_487 (by decide) ?_
    exact kk ad2 adM h0 o (outF z f) H locs ls hP hD hS (lv_sub hl [2, 3, 4, 5, 6] rfl)
  · refine lv_aload_n hx hb d_L_law_475 rfl (lv_at hl 5 rfl) ?_
    refine lv_iconst (v := 0) hx hb d_L_law_476 (by decide) ?_
    refine va_lald hx hb hK (wP_perm pm_3 hP) 0 2 (f := outF z f) rfl rfl (fun h => by rcases h with h | h <;> revert h <;> decide) d_L_law_477 ?_
    refine lv_iload hx hb d_L_law_478 (lv_at hl 0 rfl) ?_
    refine lv_i2l hx hb d_L_law_480 rfl ?_
    refine W.lcmp hx hb d_L_law_481 ?_
    refine lv_if_eq (tgt := 487) hx hb d_L_law_482 (by decide) (fun hd9 => ?_) (fun hd9 => absurd (show lg_cmp (outF z f 0) r9.toInt64 = 0 by rw [h4 f hc9]; exact lgc _) hd9)
    refine lv_goto (tgt := 784) hx hb d_L_law_487 (by decide) ?_
    exact kk ad2 adM h0 o (outF z f) H locs ls hP hD hS (lv_sub hl [2, 3, 4, 5, 6] rfl)
set_option maxRecDepth 100000 in
set_option maxHeartbeats 4000000 in
theorem lc_9 {p : Program} {l : Launch} {e : Env} {s : State} {m : MethodId} {args : Array Value} {below : List Frame} {meth : Method} {c : Code} {Q : State → Prop} {b0 L b k ce sl N : Nat} {xs : Nat → Int32} {D : va_G} {cB cI cJ cZ cS cP : ClassId} {A : Nat → Prop} {sk sv : Nat → Nat} {u u2 : CS} {uM uM2 : MS} (C0 : XCx p s s b0 m args meth c R_L code 7 (some .boolean) D cB cI cJ cZ cS cP A) (hE : ENV s b0 sk sv) (hL : l.stackTraces = false) (hNC : NCs s) (hX : va_X b L xs s s.heap) (hbl : b < s.heap.size) (hbA : ¬ A b) (hk : 6 * k + 6 ≤ L) (hLm : L ≤ 3072) (hi : isO u 0 1 = true) (hce : ce ≤ 600002 ∧ sl ≤ 7302232) {uM1 : MS} {z : Unit ⊕ Nat} (hce2 : ce + tc z ≤ 600002 ∧ sl + tsl z ≤ 7302232) (h1 : fm_H_send N u 0 (xs (6 * k + 1)) (xs (6 * k + 2)) (xs (6 * k + 3)) = some (u2, z)) (hok : ok_L_send z = true) (h2 : fm_M_send N uM (xs (6 * k + 1)) (xs (6 * k + 2)) (xs (6 * k + 3)) = some (uM1, ())) (h3 : fm_M_thrown N uM1 = some (uM2, cd_L_send z)) (kk : LG p l e s m args below meth c Q D cB cI cJ cZ cS cP A b 784 (Int32.ofNat (6 * k)) u2 uM2 (ce + tc z) (sl + tsl z)) : LG p l e s m args below meth c Q D cB cI cJ cZ cS cP A b 490 (Int32.ofNat (6 * k)) u uM ce sl := by
  intro ad adM h0 o f H locs ls hP hD hS hl
  obtain ⟨hx, hb, hr, hml, ht, hown, hK, hA, hlocks, hA0, hO, hbs⟩ := id C0
  obtain ⟨fH, hpos, -⟩ := isO_some hi
  refine lv_aload_n hx hb d_L_law_490 rfl (lv_at hl 1 rfl) ?_
  refine lv_aload_n hx hb d_L_law_491 rfl (lv_at hl 0 rfl) ?_
  refine lv_iload hx hb d_L_law_492 (lv_at hl 4 rfl) ?_
  refine lv_iconst (v := 1) hx hb d_L_law_494 (by decide) ?_
  refine lv_iadd hx hb d_L_law_495 ?_
  refine va_sld hx hb hX hbl hbA hS (ix_1 hk hLm).2 d_L_law_496 ?_
  rw [(ix_1 hk hLm).1]
  refine lv_aload_n hx hb d_L_law_497 rfl (lv_at hl 0 rfl) ?_
  refine lv_iload hx hb d_L_law_498 (lv_at hl 4 rfl) ?_
  refine lv_iconst (v := 2) hx hb d_L_law_500 (by decide) ?_
  refine lv_iadd hx hb d_L_law_501 ?_
  refine va_sld hx hb hX hbl hbA hS (ix_2 hk hLm).2 d_L_law_502 ?_
  rw [(ix_2 hk hLm).1]
  refine lv_aload_n hx hb d_L_law_503 rfl (lv_at hl 0 rfl) ?_
  refine lv_iload hx hb d_L_law_504 (lv_at hl 4 rfl) ?_
  refine lv_iconst (v := 3) hx hb d_L_law_506 (by decide) ?_
  refine lv_iadd hx hb d_L_law_507 ?_
  refine va_sld hx hb hX hbl hbA hS (ix_3 hk hLm).2 d_L_law_508 ?_
  rw [(ix_3 hk hLm).1]
  refine L_S (As := [.ref (ad 0), .int (xs (6 * k + 1)), .int (xs (6 * k + 2)), .int (xs (6 * k + 3))]) (rest := []) C0 (by rw [List.append_assoc]; exact hP) (by rw [List.append_assoc]; exact hD) hS (c_L_send N hE hL hNC hi h1 hok) k_L_send (wd_of 2077 (by decide +kernel) rfl) ht_L_send hini_L rfl rfl hd_L_send.2 rfl ⟨(Nat.le_of_ble_eq_true rfl), (Nat.le_of_ble_eq_true rfl)⟩ hl.1 (Nat.le_of_ble_eq_true rfl) d_L_law_509 rfl ⟨hce2.1, hce2.2⟩ (fun ad2 H locs hag hP hD hS => ?_)
  rw [List.append_assoc] at hP hD
  have e9 : ad2 0 = ad 0 := hag 0 hpos
  have hl : lv_has ls 7 [(0, .ref b), (1, .ref (ad2 0)), (2, .ref h0), (3, .ref o), (4, .int (Int32.ofNat (6 * k)))] := by rw [e9]; exact hl
  refine lv_istore (lv' := [(5, .int (cd_L_send z)), (0, .ref b), (1, .ref (ad2 0)), (2, .ref h0), (3, .ref o), (4, .int (Int32.ofNat (6 * k)))]) hx hb d_L_law_512 hl (by decide) (by rfl) (fun ls hl => ?_)
  refine lv_aload_n hx hb d_L_law_514 rfl (lv_at hl 3 rfl) ?_
  refine lv_aload_n hx hb d_L_law_515 rfl (lv_at hl 1 rfl) ?_
  refine lv_iload hx hb d_L_law_516 (lv_at hl 5 rfl) ?_
  refine lv_iconst (v := 1) hx hb d_L_law_518 (by decide) ?_
  refine lv_iadd hx hb d_L_law_519 ?_
  refine va_sld hx hb hX hbl hbA hS (ix_1 hk hLm).2 d_L_law_520 ?_
  rw [(ix_1 hk hLm).1]
  refine lv_aload_n hx hb d_L_law_521 rfl (lv_at hl 1 rfl) ?_
  refine lv_iload hx hb d_L_law_522 (lv_at hl 5 rfl) ?_
  refine lv_iconst (v := 2) hx hb d_L_law_524 (by decide) ?_
  refine lv_iadd hx hb d_L_law_525 ?_
  refine va_sld hx hb hX hbl hbA hS (ix_2 hk hLm).2 d_L_law_526 ?_
  rw [(ix_2 hk hLm).1]
  refine lv_aload_n hx hb d_L_law_527 rfl (lv_at hl 1 rfl) ?_
  refine lv_iload hx hb d_L_law_528 (lv_at hl 5 rfl) ?_
  refine lv_iconst (v := 3) hx hb d_L_law_530 (by decide) ?_
  refine lv_iadd hx hb d_L_law_531 ?_
  refine va_sld hx hb hX hbl hbA hS (ix_3 hk hLm).2 d_L_law_532 ?_
  rw [(ix_3 hk hLm).1]
  refine L_Mv (As := [.int (xs (6 * k + 1)), .int (xs (6 * k + 2)), .int (xs (6 * k + 3))]) (rest := []) C0 (wP_perm pm_1 hP) (wD_perm pm_1 hD) hS (c_M_send N rfl h2) k_M_send (wd_of 3256 (by decide +kernel) rfl) li_M_send ls_M_send hini_M rfl rfl ld_M_send rfl ⟨(Nat.le_of_ble_eq_true rfl), (Nat.le_of_ble_eq_true rfl)⟩ hl.1 (Nat.le_of_ble_eq_true rfl) d_L_law_533 rfl ⟨(by show (ce + tc z) + 0 ≤ 600002; omega), (by show (sl + tsl z) + 0 ≤ 7302232; omega)⟩ (fun H locs hP hD hS => ?_)
  have hP := wP_perm pm_2 hP
  have hD := wD_perm pm_2 hD
  refine lv_aload_n hx hb d_L_law_536 rfl (lv_at hl 3 rfl) ?_
  refine L_Mi (As := []) (rest := []) C0 (wP_perm pm_1 hP) (wD_perm pm_1 hD) hS (c_M_thrown N rfl h3) k_M_thrown (wd_of 2622 (by decide +kernel) rfl) li_M_thrown ls_M_thrown hini_M rfl rfl ld_M_thrown rfl ⟨(Nat.le_of_ble_eq_true rfl), (Nat.le_of_ble_eq_true rfl)⟩ hl.1 (Nat.le_of_ble_eq_true rfl) d_L_law_537 rfl ⟨(by show (ce + tc z) + 0 ≤ 600002; omega), (by show (sl + tsl z) + 0 ≤ 7302232; omega)⟩ (fun H locs hP hD hS => ?_)
  have hP := wP_perm pm_2 hP
  have hD := wD_perm pm_2 hD
  refine lv_iload hx hb d_L_law_540 (lv_at hl 0 rfl) ?_
  refine lv_icmp_eq (tgt := 547) hx hb d_L_law_542 (by decide) (fun hc => ?_) (fun hc => absurd rfl hc)
  refine lv_goto (tgt := 784) hx hb d_L_law_547 (by decide) ?_
  exact kk ad2 adM h0 o f H locs ls hP hD hS (lv_sub hl [1, 2, 3, 4, 5] rfl)
set_option maxRecDepth 100000 in
set_option maxHeartbeats 4000000 in
theorem lc_10 {p : Program} {l : Launch} {e : Env} {s : State} {m : MethodId} {args : Array Value} {below : List Frame} {meth : Method} {c : Code} {Q : State → Prop} {b0 L b k ce sl N : Nat} {xs : Nat → Int32} {D : va_G} {cB cI cJ cZ cS cP : ClassId} {A : Nat → Prop} {sk sv : Nat → Nat} {u u2 : CS} {uM uM2 : MS} (C0 : XCx p s s b0 m args meth c R_L code 7 (some .boolean) D cB cI cJ cZ cS cP A) (hE : ENV s b0 sk sv) (hL : l.stackTraces = false) (hNC : NCs s) (hX : va_X b L xs s s.heap) (hbl : b < s.heap.size) (hbA : ¬ A b) (hk : 6 * k + 6 ≤ L) (hLm : L ≤ 3072) (hi : isO u 0 1 = true) (hce : ce ≤ 600002 ∧ sl ≤ 7302232) {r : Int32} (h1 : fm_H_process N u 0 (xs (6 * k + 1)) (xs (6 * k + 2)) = some (u2, r)) (h2 : fm_M_process N uM (xs (6 * k + 1)) (xs (6 * k + 2)) = some (uM2, r)) (kk : LG p l e s m args below meth c Q D cB cI cJ cZ cS cP A b 784 (Int32.ofNat (6 * k)) u2 uM2 ce sl) : LG p l e s m args below meth c Q D cB cI cJ cZ cS cP A b 550 (Int32.ofNat (6 * k)) u uM ce sl := by
  intro ad adM h0 o f H locs ls hP hD hS hl
  obtain ⟨hx, hb, hr, hml, ht, hown, hK, hA, hlocks, hA0, hO, hbs⟩ := id C0
  refine lv_aload_n hx hb d_L_law_550 rfl (lv_at hl 1 rfl) ?_
  refine lv_aload_n hx hb d_L_law_551 rfl (lv_at hl 0 rfl) ?_
  refine lv_iload hx hb d_L_law_552 (lv_at hl 4 rfl) ?_
  refine lv_iconst (v := 1) hx hb d_L_law_554 (by decide) ?_
  refine lv_iadd hx hb d_L_law_555 ?_
  refine va_sld hx hb hX hbl hbA hS (ix_1 hk hLm).2 d_L_law_556 ?_
  rw [(ix_1 hk hLm).1]
  refine lv_aload_n hx hb d_L_law_557 rfl (lv_at hl 0 rfl) ?_
  refine lv_iload hx hb d_L_law_558 (lv_at hl 4 rfl) ?_
  refine lv_iconst (v := 2) hx hb d_L_law_560 (by decide) ?_
  refine lv_iadd hx hb d_L_law_561 ?_
  refine va_sld hx hb hX hbl hbA hS (ix_2 hk hLm).2 d_L_law_562 ?_
  rw [(ix_2 hk hLm).1]
  refine L_V0 (i := 0) (As := [.int (xs (6 * k + 1)), .int (xs (6 * k + 2))]) (rest := []) C0 hP hD hS ck_H hi (c_H_process N hE h1) k_H_process (wd_of 1292 (by decide +kernel) rfl) hi_H_process hs_H_process hini_H rfl rfl hd_H_process rfl ⟨(Nat.le_of_ble_eq_true rfl), (Nat.le_of_ble_eq_true rfl)⟩ hl.1 (Nat.le_of_ble_eq_true rfl) d_L_law_563 rfl ⟨(by show ce + 0 ≤ 600002; omega), (by show sl + 0 ≤ 7302232; omega)⟩ (fun H locs hP hD hS => ?_)
  refine lv_aload_n hx hb d_L_law_566 rfl (lv_at hl 2 rfl) ?_
  refine lv_aload_n hx hb d_L_law_567 rfl (lv_at hl 0 rfl) ?_
  refine lv_iload hx hb d_L_law_568 (lv_at hl 4 rfl) ?_
  refine lv_iconst (v := 1) hx hb d_L_law_570 (by decide) ?_
  refine lv_iadd hx hb d_L_law_571 ?_
  refine va_sld hx hb hX hbl hbA hS (ix_1 hk hLm).2 d_L_law_572 ?_
  rw [(ix_1 hk hLm).1]
  refine lv_aload_n hx hb d_L_law_573 rfl (lv_at hl 0 rfl) ?_
  refine lv_iload hx hb d_L_law_574 (lv_at hl 4 rfl) ?_
  refine lv_iconst (v := 2) hx hb d_L_law_576 (by decide) ?_
  refine lv_iadd hx hb d_L_law_577 ?_
  refine va_sld hx hb hX hbl hbA hS (ix_2 hk hLm).2 d_L_law_578 ?_
  rw [(ix_2 hk hLm).1]
  refine L_Mi (As := [.int (xs (6 * k + 1)), .int (xs (6 * k + 2))]) (rest := [.int r]) C0 (wP_perm pm_1 hP) (wD_perm pm_1 hD) hS (c_M_process N rfl h2) k_M_process (wd_of 3264 (by decide +kernel) rfl) li_M_process ls_M_process hini_M rfl rfl ld_M_process rfl ⟨(Nat.le_of_ble_eq_true rfl), (Nat.le_of_ble_eq_true rfl)⟩ hl.1 (Nat.le_of_ble_eq_true rfl) d_L_law_579 rfl ⟨(by show ce + 0 ≤ 600002; omega), (by show sl + 0 ≤ 7302232; omega)⟩ (fun H locs hP hD hS => ?_)
  have hP := wP_perm pm_2 hP
  have hD := wD_perm pm_2 hD
  refine lv_icmp_eq (tgt := 784) hx hb d_L_law_582 (by decide) (fun hc => ?_) (fun hc => absurd rfl hc)
  exact kk ad adM h0 o f H locs ls hP hD hS hl
set_option maxRecDepth 100000 in
set_option maxHeartbeats 4000000 in
theorem lc_11 {p : Program} {l : Launch} {e : Env} {s : State} {m : MethodId} {args : Array Value} {below : List Frame} {meth : Method} {c : Code} {Q : State → Prop} {b0 L b k ce sl N : Nat} {xs : Nat → Int32} {D : va_G} {cB cI cJ cZ cS cP : ClassId} {A : Nat → Prop} {sk sv : Nat → Nat} {u u2 : CS} {uM uM2 : MS} (C0 : XCx p s s b0 m args meth c R_L code 7 (some .boolean) D cB cI cJ cZ cS cP A) (hE : ENV s b0 sk sv) (hL : l.stackTraces = false) (hNC : NCs s) (hX : va_X b L xs s s.heap) (hbl : b < s.heap.size) (hbA : ¬ A b) (hk : 6 * k + 6 ≤ L) (hLm : L ≤ 3072) (hi : isO u 0 1 = true) (hce : ce ≤ 600002 ∧ sl ≤ 7302232) {r : Int32} (h1 : fm_H_frame N u 0 (xs (6 * k + 1)) (xs (6 * k + 2)) (xs (6 * k + 3)) = some (u2, r)) (h2 : fm_M_frame1 N uM (xs (6 * k + 1)) (xs (6 * k + 2)) (xs (6 * k + 3)) = some (uM2, r)) (kk : LG p l e s m args below meth c Q D cB cI cJ cZ cS cP A b 784 (Int32.ofNat (6 * k)) u2 uM2 ce sl) : LG p l e s m args below meth c Q D cB cI cJ cZ cS cP A b 587 (Int32.ofNat (6 * k)) u uM ce sl := by
  intro ad adM h0 o f H locs ls hP hD hS hl
  obtain ⟨hx, hb, hr, hml, ht, hown, hK, hA, hlocks, hA0, hO, hbs⟩ := id C0
  refine lv_aload_n hx hb d_L_law_587 rfl (lv_at hl 1 rfl) ?_
  refine lv_aload_n hx hb d_L_law_588 rfl (lv_at hl 0 rfl) ?_
  refine lv_iload hx hb d_L_law_589 (lv_at hl 4 rfl) ?_
  refine lv_iconst (v := 1) hx hb d_L_law_591 (by decide) ?_
  refine lv_iadd hx hb d_L_law_592 ?_
  refine va_sld hx hb hX hbl hbA hS (ix_1 hk hLm).2 d_L_law_593 ?_
  rw [(ix_1 hk hLm).1]
  refine lv_aload_n hx hb d_L_law_594 rfl (lv_at hl 0 rfl) ?_
  refine lv_iload hx hb d_L_law_595 (lv_at hl 4 rfl) ?_
  refine lv_iconst (v := 2) hx hb d_L_law_597 (by decide) ?_
  refine lv_iadd hx hb d_L_law_598 ?_
  refine va_sld hx hb hX hbl hbA hS (ix_2 hk hLm).2 d_L_law_599 ?_
  rw [(ix_2 hk hLm).1]
  refine lv_aload_n hx hb d_L_law_600 rfl (lv_at hl 0 rfl) ?_
  refine lv_iload hx hb d_L_law_601 (lv_at hl 4 rfl) ?_
  refine lv_iconst (v := 3) hx hb d_L_law_603 (by decide) ?_
  refine lv_iadd hx hb d_L_law_604 ?_
  refine va_sld hx hb hX hbl hbA hS (ix_3 hk hLm).2 d_L_law_605 ?_
  rw [(ix_3 hk hLm).1]
  refine L_V0 (i := 0) (As := [.int (xs (6 * k + 1)), .int (xs (6 * k + 2)), .int (xs (6 * k + 3))]) (rest := []) C0 hP hD hS ck_H hi (c_H_frame N hE h1) k_H_frame (wd_of 1316 (by decide +kernel) rfl) hi_H_frame hs_H_frame hini_H rfl rfl hd_H_frame rfl ⟨(Nat.le_of_ble_eq_true rfl), (Nat.le_of_ble_eq_true rfl)⟩ hl.1 (Nat.le_of_ble_eq_true rfl) d_L_law_606 rfl ⟨(by show ce + 0 ≤ 600002; omega), (by show sl + 0 ≤ 7302232; omega)⟩ (fun H locs hP hD hS => ?_)
  refine lv_aload_n hx hb d_L_law_609 rfl (lv_at hl 2 rfl) ?_
  refine lv_aload_n hx hb d_L_law_610 rfl (lv_at hl 0 rfl) ?_
  refine lv_iload hx hb d_L_law_611 (lv_at hl 4 rfl) ?_
  refine lv_iconst (v := 1) hx hb d_L_law_613 (by decide) ?_
  refine lv_iadd hx hb d_L_law_614 ?_
  refine va_sld hx hb hX hbl hbA hS (ix_1 hk hLm).2 d_L_law_615 ?_
  rw [(ix_1 hk hLm).1]
  refine lv_aload_n hx hb d_L_law_616 rfl (lv_at hl 0 rfl) ?_
  refine lv_iload hx hb d_L_law_617 (lv_at hl 4 rfl) ?_
  refine lv_iconst (v := 2) hx hb d_L_law_619 (by decide) ?_
  refine lv_iadd hx hb d_L_law_620 ?_
  refine va_sld hx hb hX hbl hbA hS (ix_2 hk hLm).2 d_L_law_621 ?_
  rw [(ix_2 hk hLm).1]
  refine lv_aload_n hx hb d_L_law_622 rfl (lv_at hl 0 rfl) ?_
  refine lv_iload hx hb d_L_law_623 (lv_at hl 4 rfl) ?_
  refine lv_iconst (v := 3) hx hb d_L_law_625 (by decide) ?_
  refine lv_iadd hx hb d_L_law_626 ?_
  refine va_sld hx hb hX hbl hbA hS (ix_3 hk hLm).2 d_L_law_627 ?_
  rw [(ix_3 hk hLm).1]
  refine L_Mi (As := [.int (xs (6 * k + 1)), .int (xs (6 * k + 2)), .int (xs (6 * k + 3))]) (rest := [.int r]) C0 (wP_perm pm_1 hP) (wD_perm pm_1 hD) hS (c_M_frame1 N rfl h2) k_M_frame1 (wd_of 3269 (by decide +kernel) rfl) li_M_frame1 ls_M_frame1 hini_M rfl rfl ld_M_frame1 rfl ⟨(Nat.le_of_ble_eq_true rfl), (Nat.le_of_ble_eq_true rfl)⟩ hl.1 (Nat.le_of_ble_eq_true rfl) d_L_law_628 rfl ⟨(by show ce + 0 ≤ 600002; omega), (by show sl + 0 ≤ 7302232; omega)⟩ (fun H locs hP hD hS => ?_)
  have hP := wP_perm pm_2 hP
  have hD := wD_perm pm_2 hD
  refine lv_icmp_eq (tgt := 784) hx hb d_L_law_631 (by decide) (fun hc => ?_) (fun hc => absurd rfl hc)
  exact kk ad adM h0 o f H locs ls hP hD hS hl
set_option maxRecDepth 100000 in
set_option maxHeartbeats 4000000 in
theorem lc_12 {p : Program} {l : Launch} {e : Env} {s : State} {m : MethodId} {args : Array Value} {below : List Frame} {meth : Method} {c : Code} {Q : State → Prop} {b0 L b k ce sl N : Nat} {xs : Nat → Int32} {D : va_G} {cB cI cJ cZ cS cP : ClassId} {A : Nat → Prop} {sk sv : Nat → Nat} {u u2 : CS} {uM uM2 : MS} (C0 : XCx p s s b0 m args meth c R_L code 7 (some .boolean) D cB cI cJ cZ cS cP A) (hE : ENV s b0 sk sv) (hL : l.stackTraces = false) (hNC : NCs s) (hX : va_X b L xs s s.heap) (hbl : b < s.heap.size) (hbA : ¬ A b) (hk : 6 * k + 6 ≤ L) (hLm : L ≤ 3072) (hi : isO u 0 1 = true) (hce : ce ≤ 600002 ∧ sl ≤ 7302232) {r : Int32} (h1 : fm_H_link N u 0 (xs (6 * k + 1)) (xs (6 * k + 2)) = some (u2, r)) (h2 : fm_M_link N uM (xs (6 * k + 1)) (xs (6 * k + 2)) = some (uM2, r)) (kk : LG p l e s m args below meth c Q D cB cI cJ cZ cS cP A b 784 (Int32.ofNat (6 * k)) u2 uM2 ce sl) : LG p l e s m args below meth c Q D cB cI cJ cZ cS cP A b 636 (Int32.ofNat (6 * k)) u uM ce sl := by
  intro ad adM h0 o f H locs ls hP hD hS hl
  obtain ⟨hx, hb, hr, hml, ht, hown, hK, hA, hlocks, hA0, hO, hbs⟩ := id C0
  refine lv_aload_n hx hb d_L_law_636 rfl (lv_at hl 1 rfl) ?_
  refine lv_aload_n hx hb d_L_law_637 rfl (lv_at hl 0 rfl) ?_
  refine lv_iload hx hb d_L_law_638 (lv_at hl 4 rfl) ?_
  refine lv_iconst (v := 1) hx hb d_L_law_640 (by decide) ?_
  refine lv_iadd hx hb d_L_law_641 ?_
  refine va_sld hx hb hX hbl hbA hS (ix_1 hk hLm).2 d_L_law_642 ?_
  rw [(ix_1 hk hLm).1]
  refine lv_aload_n hx hb d_L_law_643 rfl (lv_at hl 0 rfl) ?_
  refine lv_iload hx hb d_L_law_644 (lv_at hl 4 rfl) ?_
  refine lv_iconst (v := 2) hx hb d_L_law_646 (by decide) ?_
  refine lv_iadd hx hb d_L_law_647 ?_
  refine va_sld hx hb hX hbl hbA hS (ix_2 hk hLm).2 d_L_law_648 ?_
  rw [(ix_2 hk hLm).1]
  refine L_V0 (i := 0) (As := [.int (xs (6 * k + 1)), .int (xs (6 * k + 2))]) (rest := []) C0 hP hD hS ck_H hi (c_H_link N hE h1) k_H_link (wd_of 1333 (by decide +kernel) rfl) hi_H_link hs_H_link hini_H rfl rfl hd_H_link rfl ⟨(Nat.le_of_ble_eq_true rfl), (Nat.le_of_ble_eq_true rfl)⟩ hl.1 (Nat.le_of_ble_eq_true rfl) d_L_law_649 rfl ⟨(by show ce + 0 ≤ 600002; omega), (by show sl + 0 ≤ 7302232; omega)⟩ (fun H locs hP hD hS => ?_)
  refine lv_aload_n hx hb d_L_law_652 rfl (lv_at hl 2 rfl) ?_
  refine lv_aload_n hx hb d_L_law_653 rfl (lv_at hl 0 rfl) ?_
  refine lv_iload hx hb d_L_law_654 (lv_at hl 4 rfl) ?_
  refine lv_iconst (v := 1) hx hb d_L_law_656 (by decide) ?_
  refine lv_iadd hx hb d_L_law_657 ?_
  refine va_sld hx hb hX hbl hbA hS (ix_1 hk hLm).2 d_L_law_658 ?_
  rw [(ix_1 hk hLm).1]
  refine lv_aload_n hx hb d_L_law_659 rfl (lv_at hl 0 rfl) ?_
  refine lv_iload hx hb d_L_law_660 (lv_at hl 4 rfl) ?_
  refine lv_iconst (v := 2) hx hb d_L_law_662 (by decide) ?_
  refine lv_iadd hx hb d_L_law_663 ?_
  refine va_sld hx hb hX hbl hbA hS (ix_2 hk hLm).2 d_L_law_664 ?_
  rw [(ix_2 hk hLm).1]
  refine L_Mi (As := [.int (xs (6 * k + 1)), .int (xs (6 * k + 2))]) (rest := [.int r]) C0 (wP_perm pm_1 hP) (wD_perm pm_1 hD) hS (c_M_link N rfl h2) k_M_link (wd_of 3273 (by decide +kernel) rfl) li_M_link ls_M_link hini_M rfl rfl ld_M_link rfl ⟨(Nat.le_of_ble_eq_true rfl), (Nat.le_of_ble_eq_true rfl)⟩ hl.1 (Nat.le_of_ble_eq_true rfl) d_L_law_665 rfl ⟨(by show ce + 0 ≤ 600002; omega), (by show sl + 0 ≤ 7302232; omega)⟩ (fun H locs hP hD hS => ?_)
  have hP := wP_perm pm_2 hP
  have hD := wD_perm pm_2 hD
  refine lv_icmp_eq (tgt := 784) hx hb d_L_law_668 (by decide) (fun hc => ?_) (fun hc => absurd rfl hc)
  exact kk ad adM h0 o f H locs ls hP hD hS hl
set_option maxRecDepth 100000 in
set_option maxHeartbeats 4000000 in
theorem lc_13 {p : Program} {l : Launch} {e : Env} {s : State} {m : MethodId} {args : Array Value} {below : List Frame} {meth : Method} {c : Code} {Q : State → Prop} {b0 L b k ce sl N : Nat} {xs : Nat → Int32} {D : va_G} {cB cI cJ cZ cS cP : ClassId} {A : Nat → Prop} {sk sv : Nat → Nat} {u u2 : CS} {uM uM2 : MS} (C0 : XCx p s s b0 m args meth c R_L code 7 (some .boolean) D cB cI cJ cZ cS cP A) (hE : ENV s b0 sk sv) (hL : l.stackTraces = false) (hNC : NCs s) (hX : va_X b L xs s s.heap) (hbl : b < s.heap.size) (hbA : ¬ A b) (hk : 6 * k + 6 ≤ L) (hLm : L ≤ 3072) (hi : isO u 0 1 = true) (hce : ce ≤ 600002 ∧ sl ≤ 7302232) {r : Int32} (h1 : fm_H_show N u 0 (xs (6 * k + 1)) (xs (6 * k + 2)) (xs (6 * k + 3)) = some (u2, r)) (h2 : fm_M_show N uM (xs (6 * k + 1)) (xs (6 * k + 2)) (xs (6 * k + 3)) = some (uM2, r)) (kk : LG p l e s m args below meth c Q D cB cI cJ cZ cS cP A b 784 (Int32.ofNat (6 * k)) u2 uM2 ce sl) : LG p l e s m args below meth c Q D cB cI cJ cZ cS cP A b 673 (Int32.ofNat (6 * k)) u uM ce sl := by
  intro ad adM h0 o f H locs ls hP hD hS hl
  obtain ⟨hx, hb, hr, hml, ht, hown, hK, hA, hlocks, hA0, hO, hbs⟩ := id C0
  refine lv_aload_n hx hb d_L_law_673 rfl (lv_at hl 1 rfl) ?_
  refine lv_aload_n hx hb d_L_law_674 rfl (lv_at hl 0 rfl) ?_
  refine lv_iload hx hb d_L_law_675 (lv_at hl 4 rfl) ?_
  refine lv_iconst (v := 1) hx hb d_L_law_677 (by decide) ?_
  refine lv_iadd hx hb d_L_law_678 ?_
  refine va_sld hx hb hX hbl hbA hS (ix_1 hk hLm).2 d_L_law_679 ?_
  rw [(ix_1 hk hLm).1]
  refine lv_aload_n hx hb d_L_law_680 rfl (lv_at hl 0 rfl) ?_
  refine lv_iload hx hb d_L_law_681 (lv_at hl 4 rfl) ?_
  refine lv_iconst (v := 2) hx hb d_L_law_683 (by decide) ?_
  refine lv_iadd hx hb d_L_law_684 ?_
  refine va_sld hx hb hX hbl hbA hS (ix_2 hk hLm).2 d_L_law_685 ?_
  rw [(ix_2 hk hLm).1]
  refine lv_aload_n hx hb d_L_law_686 rfl (lv_at hl 0 rfl) ?_
  refine lv_iload hx hb d_L_law_687 (lv_at hl 4 rfl) ?_
  refine lv_iconst (v := 3) hx hb d_L_law_689 (by decide) ?_
  refine lv_iadd hx hb d_L_law_690 ?_
  refine va_sld hx hb hX hbl hbA hS (ix_3 hk hLm).2 d_L_law_691 ?_
  rw [(ix_3 hk hLm).1]
  refine L_V0 (i := 0) (As := [.int (xs (6 * k + 1)), .int (xs (6 * k + 2)), .int (xs (6 * k + 3))]) (rest := []) C0 hP hD hS ck_H hi (c_H_show N hE h1) k_H_show (wd_of 1337 (by decide +kernel) rfl) hi_H_show hs_H_show hini_H rfl rfl hd_H_show rfl ⟨(Nat.le_of_ble_eq_true rfl), (Nat.le_of_ble_eq_true rfl)⟩ hl.1 (Nat.le_of_ble_eq_true rfl) d_L_law_692 rfl ⟨(by show ce + 0 ≤ 600002; omega), (by show sl + 0 ≤ 7302232; omega)⟩ (fun H locs hP hD hS => ?_)
  refine lv_aload_n hx hb d_L_law_695 rfl (lv_at hl 2 rfl) ?_
  refine lv_aload_n hx hb d_L_law_696 rfl (lv_at hl 0 rfl) ?_
  refine lv_iload hx hb d_L_law_697 (lv_at hl 4 rfl) ?_
  refine lv_iconst (v := 1) hx hb d_L_law_699 (by decide) ?_
  refine lv_iadd hx hb d_L_law_700 ?_
  refine va_sld hx hb hX hbl hbA hS (ix_1 hk hLm).2 d_L_law_701 ?_
  rw [(ix_1 hk hLm).1]
  refine lv_aload_n hx hb d_L_law_702 rfl (lv_at hl 0 rfl) ?_
  refine lv_iload hx hb d_L_law_703 (lv_at hl 4 rfl) ?_
  refine lv_iconst (v := 2) hx hb d_L_law_705 (by decide) ?_
  refine lv_iadd hx hb d_L_law_706 ?_
  refine va_sld hx hb hX hbl hbA hS (ix_2 hk hLm).2 d_L_law_707 ?_
  rw [(ix_2 hk hLm).1]
  refine lv_aload_n hx hb d_L_law_708 rfl (lv_at hl 0 rfl) ?_
  refine lv_iload hx hb d_L_law_709 (lv_at hl 4 rfl) ?_
  refine lv_iconst (v := 3) hx hb d_L_law_711 (by decide) ?_
  refine lv_iadd hx hb d_L_law_712 ?_
  refine va_sld hx hb hX hbl hbA hS (ix_3 hk hLm).2 d_L_law_713 ?_
  rw [(ix_3 hk hLm).1]
  refine L_Mi (As := [.int (xs (6 * k + 1)), .int (xs (6 * k + 2)), .int (xs (6 * k + 3))]) (rest := [.int r]) C0 (wP_perm pm_1 hP) (wD_perm pm_1 hD) hS (c_M_show N rfl h2) k_M_show (wd_of 3277 (by decide +kernel) rfl) li_M_show ls_M_show hini_M rfl rfl ld_M_show rfl ⟨(Nat.le_of_ble_eq_true rfl), (Nat.le_of_ble_eq_true rfl)⟩ hl.1 (Nat.le_of_ble_eq_true rfl) d_L_law_714 rfl ⟨(by show ce + 0 ≤ 600002; omega), (by show sl + 0 ≤ 7302232; omega)⟩ (fun H locs hP hD hS => ?_)
  have hP := wP_perm pm_2 hP
  have hD := wD_perm pm_2 hD
  refine lv_icmp_eq (tgt := 784) hx hb d_L_law_717 (by decide) (fun hc => ?_) (fun hc => absurd rfl hc)
  exact kk ad adM h0 o f H locs ls hP hD hS hl
set_option maxRecDepth 100000 in
set_option maxHeartbeats 4000000 in
theorem lc_14 {p : Program} {l : Launch} {e : Env} {s : State} {m : MethodId} {args : Array Value} {below : List Frame} {meth : Method} {c : Code} {Q : State → Prop} {b0 L b k ce sl N : Nat} {xs : Nat → Int32} {D : va_G} {cB cI cJ cZ cS cP : ClassId} {A : Nat → Prop} {sk sv : Nat → Nat} {u u2 : CS} {uM uM2 : MS} (C0 : XCx p s s b0 m args meth c R_L code 7 (some .boolean) D cB cI cJ cZ cS cP A) (hE : ENV s b0 sk sv) (hL : l.stackTraces = false) (hNC : NCs s) (hX : va_X b L xs s s.heap) (hbl : b < s.heap.size) (hbA : ¬ A b) (hk : 6 * k + 6 ≤ L) (hLm : L ≤ 3072) (hi : isO u 0 1 = true) (hce : ce ≤ 600002 ∧ sl ≤ 7302232) {r : Int32} (h1 : fm_H_shown N u 0 (xs (6 * k + 1)) = some (u2, r)) (h2 : fm_M_shown N uM (xs (6 * k + 1)) = some (uM2, r)) (kk : LG p l e s m args below meth c Q D cB cI cJ cZ cS cP A b 784 (Int32.ofNat (6 * k)) u2 uM2 ce sl) : LG p l e s m args below meth c Q D cB cI cJ cZ cS cP A b 722 (Int32.ofNat (6 * k)) u uM ce sl := by
  intro ad adM h0 o f H locs ls hP hD hS hl
  obtain ⟨hx, hb, hr, hml, ht, hown, hK, hA, hlocks, hA0, hO, hbs⟩ := id C0
  refine lv_aload_n hx hb d_L_law_722 rfl (lv_at hl 1 rfl) ?_
  refine lv_aload_n hx hb d_L_law_723 rfl (lv_at hl 0 rfl) ?_
  refine lv_iload hx hb d_L_law_724 (lv_at hl 4 rfl) ?_
  refine lv_iconst (v := 1) hx hb d_L_law_726 (by decide) ?_
  refine lv_iadd hx hb d_L_law_727 ?_
  refine va_sld hx hb hX hbl hbA hS (ix_1 hk hLm).2 d_L_law_728 ?_
  rw [(ix_1 hk hLm).1]
  refine L_V0 (i := 0) (As := [.int (xs (6 * k + 1))]) (rest := []) C0 hP hD hS ck_H hi (c_H_shown N h1) k_H_shown (wd_of 1389 (by decide +kernel) rfl) hi_H_shown hs_H_shown hini_H rfl rfl hd_H_shown rfl ⟨(Nat.le_of_ble_eq_true rfl), (Nat.le_of_ble_eq_true rfl)⟩ hl.1 (Nat.le_of_ble_eq_true rfl) d_L_law_729 rfl ⟨(by show ce + 0 ≤ 600002; omega), (by show sl + 0 ≤ 7302232; omega)⟩ (fun H locs hP hD hS => ?_)
  refine lv_aload_n hx hb d_L_law_732 rfl (lv_at hl 2 rfl) ?_
  refine lv_aload_n hx hb d_L_law_733 rfl (lv_at hl 0 rfl) ?_
  refine lv_iload hx hb d_L_law_734 (lv_at hl 4 rfl) ?_
  refine lv_iconst (v := 1) hx hb d_L_law_736 (by decide) ?_
  refine lv_iadd hx hb d_L_law_737 ?_
  refine va_sld hx hb hX hbl hbA hS (ix_1 hk hLm).2 d_L_law_738 ?_
  rw [(ix_1 hk hLm).1]
  refine L_Mi (As := [.int (xs (6 * k + 1))]) (rest := [.int r]) C0 (wP_perm pm_1 hP) (wD_perm pm_1 hD) hS (c_M_shown N rfl h2) k_M_shown (wd_of 3281 (by decide +kernel) rfl) li_M_shown ls_M_shown hini_M rfl rfl ld_M_shown rfl ⟨(Nat.le_of_ble_eq_true rfl), (Nat.le_of_ble_eq_true rfl)⟩ hl.1 (Nat.le_of_ble_eq_true rfl) d_L_law_739 rfl ⟨(by show ce + 0 ≤ 600002; omega), (by show sl + 0 ≤ 7302232; omega)⟩ (fun H locs hP hD hS => ?_)
  have hP := wP_perm pm_2 hP
  have hD := wD_perm pm_2 hD
  refine lv_icmp_eq (tgt := 784) hx hb d_L_law_742 (by decide) (fun hc => ?_) (fun hc => absurd rfl hc)
  exact kk ad adM h0 o f H locs ls hP hD hS hl
set_option maxRecDepth 100000 in
set_option maxHeartbeats 4000000 in
theorem lc_15 {p : Program} {l : Launch} {e : Env} {s : State} {m : MethodId} {args : Array Value} {below : List Frame} {meth : Method} {c : Code} {Q : State → Prop} {b0 L b k ce sl N : Nat} {xs : Nat → Int32} {D : va_G} {cB cI cJ cZ cS cP : ClassId} {A : Nat → Prop} {sk sv : Nat → Nat} {u u2 : CS} {uM uM2 : MS} (C0 : XCx p s s b0 m args meth c R_L code 7 (some .boolean) D cB cI cJ cZ cS cP A) (hE : ENV s b0 sk sv) (hL : l.stackTraces = false) (hNC : NCs s) (hX : va_X b L xs s s.heap) (hbl : b < s.heap.size) (hbA : ¬ A b) (hk : 6 * k + 6 ≤ L) (hLm : L ≤ 3072) (hi : isO u 0 1 = true) (hce : ce ≤ 600002 ∧ sl ≤ 7302232) {r : Int32} (h1 : fm_H_printed N u 0 (xs (6 * k + 1)) (xs (6 * k + 2)) = some (u2, r)) (h2 : fm_M_printed N uM (xs (6 * k + 1)) (xs (6 * k + 2)) = some (uM2, r)) (kk : LG p l e s m args below meth c Q D cB cI cJ cZ cS cP A b 784 (Int32.ofNat (6 * k)) u2 uM2 ce sl) : LG p l e s m args below meth c Q D cB cI cJ cZ cS cP A b 747 (Int32.ofNat (6 * k)) u uM ce sl := by
  intro ad adM h0 o f H locs ls hP hD hS hl
  obtain ⟨hx, hb, hr, hml, ht, hown, hK, hA, hlocks, hA0, hO, hbs⟩ := id C0
  refine lv_aload_n hx hb d_L_law_747 rfl (lv_at hl 1 rfl) ?_
  refine lv_aload_n hx hb d_L_law_748 rfl (lv_at hl 0 rfl) ?_
  refine lv_iload hx hb d_L_law_749 (lv_at hl 4 rfl) ?_
  refine lv_iconst (v := 1) hx hb d_L_law_751 (by decide) ?_
  refine lv_iadd hx hb d_L_law_752 ?_
  refine va_sld hx hb hX hbl hbA hS (ix_1 hk hLm).2 d_L_law_753 ?_
  rw [(ix_1 hk hLm).1]
  refine lv_aload_n hx hb d_L_law_754 rfl (lv_at hl 0 rfl) ?_
  refine lv_iload hx hb d_L_law_755 (lv_at hl 4 rfl) ?_
  refine lv_iconst (v := 2) hx hb d_L_law_757 (by decide) ?_
  refine lv_iadd hx hb d_L_law_758 ?_
  refine va_sld hx hb hX hbl hbA hS (ix_2 hk hLm).2 d_L_law_759 ?_
  rw [(ix_2 hk hLm).1]
  refine L_V0 (i := 0) (As := [.int (xs (6 * k + 1)), .int (xs (6 * k + 2))]) (rest := []) C0 hP hD hS ck_H hi (c_H_printed N h1) k_H_printed (wd_of 1393 (by decide +kernel) rfl) hi_H_printed hs_H_printed hini_H rfl rfl hd_H_printed rfl ⟨(Nat.le_of_ble_eq_true rfl), (Nat.le_of_ble_eq_true rfl)⟩ hl.1 (Nat.le_of_ble_eq_true rfl) d_L_law_760 rfl ⟨(by show ce + 0 ≤ 600002; omega), (by show sl + 0 ≤ 7302232; omega)⟩ (fun H locs hP hD hS => ?_)
  refine lv_aload_n hx hb d_L_law_763 rfl (lv_at hl 2 rfl) ?_
  refine lv_aload_n hx hb d_L_law_764 rfl (lv_at hl 0 rfl) ?_
  refine lv_iload hx hb d_L_law_765 (lv_at hl 4 rfl) ?_
  refine lv_iconst (v := 1) hx hb d_L_law_767 (by decide) ?_
  refine lv_iadd hx hb d_L_law_768 ?_
  refine va_sld hx hb hX hbl hbA hS (ix_1 hk hLm).2 d_L_law_769 ?_
  rw [(ix_1 hk hLm).1]
  refine lv_aload_n hx hb d_L_law_770 rfl (lv_at hl 0 rfl) ?_
  refine lv_iload hx hb d_L_law_771 (lv_at hl 4 rfl) ?_
  refine lv_iconst (v := 2) hx hb d_L_law_773 (by decide) ?_
  refine lv_iadd hx hb d_L_law_774 ?_
  refine va_sld hx hb hX hbl hbA hS (ix_2 hk hLm).2 d_L_law_775 ?_
  rw [(ix_2 hk hLm).1]
  refine L_Mi (As := [.int (xs (6 * k + 1)), .int (xs (6 * k + 2))]) (rest := [.int r]) C0 (wP_perm pm_1 hP) (wD_perm pm_1 hD) hS (c_M_printed N rfl h2) k_M_printed (wd_of 3285 (by decide +kernel) rfl) li_M_printed ls_M_printed hini_M rfl rfl ld_M_printed rfl ⟨(Nat.le_of_ble_eq_true rfl), (Nat.le_of_ble_eq_true rfl)⟩ hl.1 (Nat.le_of_ble_eq_true rfl) d_L_law_776 rfl ⟨(by show ce + 0 ≤ 600002; omega), (by show sl + 0 ≤ 7302232; omega)⟩ (fun H locs hP hD hS => ?_)
  have hP := wP_perm pm_2 hP
  have hD := wD_perm pm_2 hD
  refine lv_icmp_eq (tgt := 784) hx hb d_L_law_779 (by decide) (fun hc => ?_) (fun hc => absurd rfl hc)
  exact kk ad adM h0 o f H locs ls hP hD hS hl
